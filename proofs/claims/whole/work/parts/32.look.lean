/-! ===== PURE: the reference's reading place: its object is cell 147 ===== -/
/-- the text that is read: the byte array T from place B on, n bytes -/
def MT (h : Hp) (T B n : Nat) : Prop := hK h 147 = 12 ∧ hR h 147 5 = some T ∧ hK h T = 21 ∧ B + n ≤ hE h T ∧ hE h T ≤ 1000 ∧ hI h 147 8 = nI B ∧ hI h 147 9 = nI n ∧ T ≠ 147
/-- it stands at p, its fault is w -/
def mw (h : Hp) (p : Nat) (w : Int32) : Hp := sI (sI h 147 10 (nI p)) 147 11 w
theorem mw_K (h : Hp) (p : Nat) (w : Int32) (x : Nat) : hK (mw h p w) x = hK h x := rfl
theorem mw_E (h : Hp) (p : Nat) (w : Int32) (x : Nat) : hE (mw h p w) x = hE h x := rfl
theorem mw_R (h : Hp) (p : Nat) (w : Int32) (x y : Nat) : hR (mw h p w) x y = hR h x y := rfl
theorem mw_L (h : Hp) (p : Nat) (w : Int32) (x y : Nat) : hL (mw h p w) x y = hL h x y := rfl
theorem mw_at (h : Hp) (p : Nat) (w : Int32) : hI (mw h p w) 147 10 = nI p := by unfold mw; rw [hI_slot _ _ _ _ (by decide), hI_same]
theorem mw_wr (h : Hp) (p : Nat) (w : Int32) : hI (mw h p w) 147 11 = w := by unfold mw; rw [hI_same]
theorem mw_sl (h : Hp) (p : Nat) (w : Int32) {k : Nat} (h1 : k ≠ 10) (h2 : k ≠ 11) : hI (mw h p w) 147 k = hI h 147 k := by unfold mw; rw [hI_slot _ _ _ _ h2, hI_slot _ _ _ _ h1]
theorem mw_row (h : Hp) (p : Nat) (w : Int32) {x : Nat} (hx : x ≠ 147) : hI (mw h p w) x = hI h x := by unfold mw; rw [hI_row _ _ _ _ hx, hI_row _ _ _ _ hx]
theorem mw_pat (h : Hp) (p q : Nat) (w : Int32) : sI (mw h p w) 147 10 (nI q) = mw h q w := by
  unfold mw
  rw [sI_comm _ (Or.inr (by decide)), sI_sI]
theorem mw_pwr (h : Hp) (p : Nat) (w v : Int32) : sI (mw h p w) 147 11 v = mw h p v := by
  unfold mw
  rw [sI_sI]
theorem mw_mw (h : Hp) (p q : Nat) (w v : Int32) : mw (mw h p w) q v = mw h q v := by
  show sI (sI (mw h p w) 147 10 (nI q)) 147 11 v = mw h q v
  rw [mw_pat, mw_pwr]
theorem mw_self {h : Hp} {p : Nat} {w : Int32} (h1 : hI h 147 10 = nI p) (h2 : hI h 147 11 = w) : mw h p w = h := by
  unfold mw
  rw [sI_self' h h1, sI_self' h h2]
/-- a write elsewhere passes through -/
theorem mw_sI (h : Hp) (p : Nat) (w : Int32) {a k : Nat} (v : Int32) (hne : a ≠ 147 ∨ (k ≠ 10 ∧ k ≠ 11)) : sI (mw h p w) a k v = mw (sI h a k v) p w := by
  unfold mw
  have n1 : (147 : Nat) ≠ a ∨ (11 : Nat) ≠ k := by rcases hne with z | z; exact Or.inl (Ne.symm z); exact Or.inr (Ne.symm z.2)
  have n2 : (147 : Nat) ≠ a ∨ (10 : Nat) ≠ k := by rcases hne with z | z; exact Or.inl (Ne.symm z); exact Or.inr (Ne.symm z.1)
  rw [sI_comm (sI h 147 10 (nI p)) n1 w v, sI_comm h n2 (nI p) v]
theorem MT.mw {h : Hp} {T B n : Nat} (M : MT h T B n) (p : Nat) (w : Int32) : MT (mw h p w) T B n := ⟨M.1, M.2.1, M.2.2.1, M.2.2.2.1, M.2.2.2.2.1, by rw [mw_sl h p w (by decide) (by decide)]; exact M.2.2.2.2.2.1, by rw [mw_sl h p w (by decide) (by decide)]; exact M.2.2.2.2.2.2.1, M.2.2.2.2.2.2.2⟩
/-- what is read: bytes without sign -/
def mt (h : Hp) (T B : Nat) : Nat → Int32 := fun i => hI h T (B + i) &&& 255
theorem mt_mw (h : Hp) {T : Nat} (B p : Nat) (w : Int32) (hT : T ≠ 147) : mt (mw h p w) T B = mt h T B := by
  unfold mt
  rw [mw_row h p w hT]
/-- a byte, and its value without sign -/
def isBy (x : Int32) : Prop := x.toInt8.toInt32 = x
theorem by_and : ∀ z : Int8, (z.toInt32 = 32 ↔ z.toInt32 &&& 255 = 32) ∧ (¬ z.toInt32 < 48 ∧ ¬ 57 < z.toInt32 ↔ ¬ z.toInt32 &&& 255 < 48 ∧ ¬ 57 < z.toInt32 &&& 255) := by
  intro z
  have key : ∀ n : Fin 256, ((Int8.ofNat n.val).toInt32 = 32 ↔ (Int8.ofNat n.val).toInt32 &&& 255 = 32) ∧ (¬ (Int8.ofNat n.val).toInt32 < 48 ∧ ¬ 57 < (Int8.ofNat n.val).toInt32 ↔ ¬ (Int8.ofNat n.val).toInt32 &&& 255 < 48 ∧ ¬ 57 < (Int8.ofNat n.val).toInt32 &&& 255) := by decide +kernel
  have hz : z = Int8.ofNat z.toBitVec.toNat := by
    apply Int8.toBitVec_inj.mp
    show z.toBitVec = BitVec.ofNat 8 z.toBitVec.toNat
    simp
  have := key ⟨z.toBitVec.toNat, z.toBitVec.isLt⟩
  rw [hz]
  exact this
theorem by_32 {x : Int32} (h : isBy x) : (x = 32) = (x &&& 255 = 32) := by
  have := (by_and x.toInt8).1
  unfold isBy at h
  rw [h] at this
  exact propext this
theorem by_dg {x : Int32} (h : isBy x) : dg x ↔ dg (x &&& 255) := by
  have := (by_and x.toInt8).2
  unfold isBy at h
  rw [h] at this
  exact this
theorem beq21 : Nat.beq 21 21 = true := rfl
theorem beq12 : Nat.beq 12 12 = true := rfl
theorem look_run (f : Nat) : ∀ (h : Hp) (T B n p : Nat), n - p ≤ f → MT h T B n → (∀ i, i < n → isBy (hI h T (B + i))) → hI h 147 10 = nI p → p ≤ n →
    Run kX12_look 0 [some (vR (some 147))] [] h = some (rI (chT (mt h T B) n (sk (mt h T B) n p)), sI h 147 10 (nI (sk (mt h T B) n p))) := by
  induction f with
  | zero =>
    intro h T B n p hf M hby hp h2
    obtain ⟨M1, M2, M3, M4, M5, M6, M7, M8⟩ := M
    rw [tX12_look_0]
    have e1 := nI_nle' (a := n) (b := p) (by omega) (by omega)
    have q1 : n ≤ p := by omega
    have q2 : ¬ p < n := by omega
    rw [sk_stay (by omega), sI_self' h hp]
    simp only [M1, M7, hp, e1, q1, if_true, chT, q2, if_false]
  | succ f ih =>
    intro h T B n p hf M hby hp h2
    obtain ⟨M1, M2, M3, M4, M5, M6, M7, M8⟩ := id M
    rw [tX12_look_0]
    have e1 := nI_nle' (a := n) (b := p) (by omega) (by omega)
    by_cases q : p < n
    · have q1 : ¬ n ≤ p := by omega
      have e3 : inb (nI (B + p)) (hE h T) = true := inb_nI (by omega) (by omega)
      have e4 : (nI (B + p)).toNatClampNeg = B + p := nI_clamp (by omega)
      have e5 := by_32 (hby p q)
      simp only [M1, M2, M3, M6, M7, hp, e1, q1, if_true, if_false, dR_some, beq21, cond_true, Bool.true_and, nI_add, e3, e4, oB_some]
      by_cases hb : hI h T (B + p) = 32
      · have hb' : mt h T B p = 32 := by rw [e5] at hb; exact hb
        rw [if_pos hb, sk_go q hb']
        have hh : mt (sI h 147 10 (nI p + 1)) T B = mt h T B := by unfold mt; rw [hI_row h 147 10 _ M8]
        have M' : MT (sI h 147 10 (nI p + 1)) T B n := ⟨M1, M2, M3, M4, M5, by rw [hI_slot h 147 10 _ (by decide)]; exact M6, by rw [hI_slot h 147 10 _ (by decide)]; exact M7, M8⟩
        have := ih (sI h 147 10 (nI p + 1)) T B n (p + 1) (by omega) M' (fun i hi => by rw [hI_row h 147 10 _ M8]; exact hby i hi) (by rw [hI_same]; exact nI_1 p) (by omega)
        rw [this, hh, sI_sI]
      · have hb' : ¬ mt h T B p = 32 := by rw [e5] at hb; exact hb
        rw [if_neg hb, sk_stay (fun z => hb' z.2), sI_self' h hp]
        simp only [chT, q, if_true]
        rfl
    · have q1 : n ≤ p := by omega
      rw [sk_stay (fun z => q z.1), sI_self' h hp]
      simp only [M1, M7, hp, e1, q1, if_true, chT, q, if_false]
/-- the text, its bytes -/
def MB (h : Hp) (T B n : Nat) : Prop := MT h T B n ∧ ∀ i, i < n → isBy (hI h T (B + i))
theorem MB.mw {h : Hp} {T B n : Nat} (M : MB h T B n) (p : Nat) (w : Int32) : MB (mw h p w) T B n := ⟨M.1.mw p w, fun i hi => by rw [mw_row h p w M.1.2.2.2.2.2.2.2]; exact M.2 i hi⟩
theorem md_look {h : Hp} {T B n p : Nat} {w : Int32} (M : MB h T B n) (hp : p ≤ n) : FX12_look [vR (some 147)] (mw h p w) = some (rI (chT (mt h T B) n (sk (mt h T B) n p)), mw h (sk (mt h T B) n p) w) := by
  have hT := M.1.2.2.2.2.2.2.2
  have := look_run (n - p) (mw h p w) T B n p (Nat.le_refl _) (M.mw p w).1 (M.mw p w).2 (mw_at h p w) hp
  rw [mt_mw h B p w hT, mw_pat] at this
  exact this
theorem md_fails {h : Hp} {p : Nat} {w : Int32} (hK147 : hK h 147 = 12) : FX12_fails [vR (some 147)] (mw h p w) = some (rI 0, mw h p (if w = -1 then nI p else w)) := by
  rw [tX12_fails]
  by_cases q : w = -1
  · simp only [mw_K, hK147, mw_wr, mw_at, q, if_true, oB_some, mw_pwr, isZ0, cond_true]
  · simp only [mw_K, hK147, mw_wr, q, if_true, if_false, isZ0, cond_true]
theorem md_takes {h : Hp} {T B n p : Nat} {w s : Int32} (M : MB h T B n) (hp : p ≤ n) : FX12_takes [vR (some 147), vI s] (mw h p w) = if w = -1 then (if chT (mt h T B) n (sk (mt h T B) n p) = s then some (rI 1, mw h (sk (mt h T B) n p + 1) (-1)) else some (rI 0, mw h (sk (mt h T B) n p) (nI (sk (mt h T B) n p)))) else some (rI 0, mw h p w) := by
  have K := M.1.1
  rw [tX12_takes]
  by_cases q : w = -1
  · subst q
    simp only [mw_K, K, mw_wr, if_true, beq12, Bool.true_and, cond_true, md_look M hp, oB_some, mw_at, nI_1, mw_pat, isZ1, isZ0, md_fails K]
  · simp only [mw_K, K, mw_wr, q, if_true, if_false, beq12, Bool.true_and, cond_true, md_fails K, oB_some, isZ0]
theorem md_here {h : Hp} {T B n p : Nat} {w : Int32} (M : MB h T B n) (hp : p ≤ n) : FX12_here [vR (some 147)] (mw h p w) = some (rI (chT (mt h T B) n p), mw h p w) := by
  obtain ⟨⟨M1, M2, M3, M4, M5, M6, M7, M8⟩, hby⟩ := id M
  rw [tX12_here]
  have e1 := nI_nle' (a := n) (b := p) (by omega) (by omega)
  have s8 := mw_sl h p w (k := 8) (by decide) (by decide)
  have s9 := mw_sl h p w (k := 9) (by decide) (by decide)
  by_cases q : p < n
  · have q1 : ¬ n ≤ p := by omega
    have e3 : inb (nI (B + p)) (hE h T) = true := inb_nI (by omega) (by omega)
    have e4 : (nI (B + p)).toNatClampNeg = B + p := nI_clamp (by omega)
    simp only [mw_K, mw_E, mw_R, mw_at, s8, s9, mw_row h p w M8, M1, M2, M3, M6, M7, e1, q1, if_true, if_false, dR_some, beq21, cond_true, Bool.true_and, nI_add, e3, e4, chT, q]
    rfl
  · have q1 : n ≤ p := by omega
    simp only [mw_K, mw_at, s9, M1, M7, e1, q1, if_true, chT, q, if_false]
theorem md_isDigit {h : Hp} {T B n p : Nat} {w : Int32} (M : MB h T B n) (hp : p ≤ n) : (dg (chT (mt h T B) n p) → FX12_isDigit [vR (some 147)] (mw h p w) = some (rI 1, mw h p w)) ∧ (¬ dg (chT (mt h T B) n p) → FX12_isDigit [vR (some 147)] (mw h p w) = some (rI 0, mw h p w)) := by
  obtain ⟨⟨M1, M2, M3, M4, M5, M6, M7, M8⟩, hby⟩ := id M
  rw [tX12_isDigit]
  have e1 := nI_nle' (a := n) (b := p) (by omega) (by omega)
  have s8 := mw_sl h p w (k := 8) (by decide) (by decide)
  have s9 := mw_sl h p w (k := 9) (by decide) (by decide)
  by_cases q : p < n
  · have q1 : ¬ n ≤ p := by omega
    have e3 : inb (nI (B + p)) (hE h T) = true := inb_nI (by omega) (by omega)
    have e4 : (nI (B + p)).toNatClampNeg = B + p := nI_clamp (by omega)
    have e5 := by_dg (hby p q)
    have e6 : chT (mt h T B) n p = hI h T (B + p) &&& 255 := by unfold chT; rw [if_pos q]; rfl
    rw [e6, ← e5]
    simp only [mw_K, mw_E, mw_R, mw_at, s8, s9, mw_row h p w M8, M1, M2, M3, M6, M7, e1, q1, if_true, if_false, dR_some, beq21, cond_true, Bool.true_and, nI_add, e3, e4]
    constructor
    · intro z
      simp only [z.1, z.2, if_false, isZ1, cond_true]
    · intro z
      by_cases z1 : hI h T (B + p) < 48
      · simp only [z1, if_true, isZ0, cond_true]
      · have z2 : 57 < hI h T (B + p) := Classical.byContradiction fun y => z ⟨z1, y⟩
        simp only [z1, z2, if_true, if_false, isZ0, cond_true]
  · have q1 : n ≤ p := by omega
    have nd : ¬ dg (chT (mt h T B) n p) := fun z => q (dg_lt z)
    refine ⟨fun z => absurd z nd, fun _ => ?_⟩
    simp only [mw_K, mw_at, s9, M1, M7, e1, q1, if_true, isZ0, cond_true]
