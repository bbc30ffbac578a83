/-! ===== PURE: a life's acts in the class, over rows of Nats ===== -/
def nR (v : Nat → Nat) : Nat → Int32 := fun k => nI (v k)
theorem nR_at (v : Nat → Nat) (k : Nat) : nR v k = nI (v k) := rfl
theorem nR_up (v : Nat → Nat) (k x : Nat) : up1 (nR v) k (nI x) = nR (up1 v k x) := by
  funext j
  unfold nR up1
  by_cases c : j = k <;> simp only [c, if_true, if_false]
theorem nR_all (f : Nat → Int32) : ∃ v, f = nR v ∧ ∀ k, v k < 2 ^ 32 := by
  refine ⟨fun k => (f k).toBitVec.toNat, ?_, fun k => (f k).toBitVec.isLt⟩
  funext k
  unfold nR nI
  apply Int32.toBitVec_inj.mp
  show (f k).toBitVec = BitVec.ofNat 32 (f k).toBitVec.toNat
  rw [BitVec.ofNat_toNat, BitVec.setWidth_eq]
def LN (h : Hp) (a : Nat) (v u : Nat → Nat) : Hp := wA (wA h a (nR v)) (a + 1) (nR u)
theorem LN_K (h : Hp) (a : Nat) (v u : Nat → Nat) (x : Nat) : hK (LN h a v u) x = hK h x := rfl
theorem LN_E (h : Hp) (a : Nat) (v u : Nat → Nat) (x : Nat) : hE (LN h a v u) x = hE h x := rfl
theorem LN_R (h : Hp) (a : Nat) (v u : Nat → Nat) (x y : Nat) : hR (LN h a v u) x y = hR h x y := rfl
theorem LN_a (h : Hp) (a : Nat) (v u : Nat → Nat) (k : Nat) : hI (LN h a v u) a k = nI (v k) := by unfold LN; rw [wA_O _ _ (by omega), wA_I]; rfl
theorem LN_s (h : Hp) (a : Nat) (v u : Nat → Nat) (k : Nat) : hI (LN h a v u) (a + 1) k = nI (u k) := by unfold LN; rw [wA_I]; rfl
theorem LN_o (h : Hp) {a x : Nat} (v u : Nat → Nat) (h1 : x ≠ a) (h2 : x ≠ a + 1) : hI (LN h a v u) x = hI h x := by unfold LN; rw [wA_O _ _ h2, wA_O _ _ h1]
theorem LN_w (h : Hp) (a : Nat) (v u : Nat → Nat) (k x : Nat) : sI (LN h a v u) a k (nI x) = LN h a (up1 v k x) u := by
  unfold LN; rw [sI_wo _ _ _ _ (by omega), sI_ws, nR_up]
theorem LN_ws (h : Hp) (a : Nat) (v u : Nat → Nat) (k x : Nat) : sI (LN h a v u) (a + 1) k (nI x) = LN h a v (up1 u k x) := by
  unfold LN; rw [sI_ws, nR_up]
/-- the world and its house, as far as acts need them -/
def WH (h : Hp) (s : Nat) (r d b : Nat → Nat) (dc bc : Nat) : Prop :=
  (hK h 3 = 10 ∧ hR h 3 0 = some s) ∧ HL h s ∧ (dc ≤ 6 ∧ bc ≤ 5) ∧ (hI h s 5 = nI dc ∧ hI h s 6 = nI bc) ∧ (∀ k, k < 7 → hI h (s + 1) k = nI (r k)) ∧ (∀ k, k < 3 * dc → hI h (s + 2) k = nI (d k)) ∧ (∀ k, k < 3 * bc → hI h (s + 3) k = nI (b k)) ∧
  (∀ k, r k ≤ 60) ∧ (∀ k, d k ≤ 99) ∧ (∀ k, b k ≤ 60)
/-- a life that stands apart from it -/
def LL (h : Hp) (a s : Nat) : Prop := hK h a = 4 ∧ hR h a 8 = some (a + 1) ∧ hK h (a + 1) = 20 ∧ hE h (a + 1) = 5 ∧ (a ≠ s ∧ a + 1 ≠ s ∧ a ≠ s + 1 ∧ a ≠ s + 2 ∧ a ≠ s + 3 ∧ a ≠ 3 ∧ a ≠ 2 ∧ a ≠ 8 ∧ a ≠ 7 ∧ a ≠ 9)
theorem within11 (x y z : Int32) (h : Hp) : FX11_within [vI x, vI y, vI z] h = some (rI (if x < y then 0 else if z < x then 0 else 1), h) := by
  rw [tX11_within]
  by_cases c : x < y <;> by_cases e : z < x <;> simp only [c, e, if_true, if_false, isZ0, isZ1, cond_true]
theorem nI_s1 {a : Nat} (h : 0 < a) : nI a - 1 = nI (a - 1) := by
  rw [show (1 : Int32) = nI 1 from rfl, pk_sub (by omega)]
theorem nI_0lt {a : Nat} (h : a < 2 ^ 31) : ((0 : Int32) < nI a) = (0 < a) := nI_nlt' (a := 0) (by omega) h
theorem nI_le0 {a : Nat} (h : a < 2 ^ 31) : (nI a ≤ (0 : Int32)) = (a = 0) := by
  have := nI_nle' (a := a) (b := 0) h (by omega)
  rw [show (0 : Int32) = nI 0 from rfl, this]
  exact propext ⟨fun z => by omega, fun z => by omega⟩
theorem mx0 {a b : Nat} (ha : a < 2 ^ 30) (hb : b < 2 ^ 30) : (if (0 : Int32) < nI a - nI b then nI a - nI b else 0) = nI (a - b) := by
  by_cases c : b ≤ a
  · rw [pk_sub c]
    have q := nI_0lt (a := a - b) (by omega)
    by_cases e : 0 < a - b
    · rw [if_pos (by rw [q]; exact e)]
    · rw [if_neg (by rw [q]; exact e), show a - b = 0 by omega, nI_0]
  · have n := pk_sneg (a := a) (b := b) hb (by omega)
    have : ¬ (0 : Int32) < nI a - nI b := by
      intro z
      have z1 := Int32.lt_iff_toInt_lt.mp z
      have z2 := Int32.lt_iff_toInt_lt.mp n
      omega
    rw [if_neg this, show a - b = 0 by omega, nI_0]
theorem mn' {a b : Nat} (ha : a < 2 ^ 31) (hb : b < 2 ^ 31) : (if nI a < nI b then nI a else nI b) = nI (if a < b then a else b) := by
  have q := nI_nlt' ha hb
  by_cases c : a < b
  · rw [if_pos (by rw [q]; exact c), if_pos c]
  · rw [if_neg (by rw [q]; exact c), if_neg c]
theorem cut_c {h : Hp} {a s : Nat} {v u : Nat → Nat} (L : LL h a s) (h5 : v 5 < 2 ^ 30) : FX10_cutBolt [vR (some 3), vR (some a)] (LN h a v u) = if 0 < v 5 then some (rI 1, LN h a (up1 (up1 v 5 (v 5 - 1)) 6 (v 6 + 3)) u) else some (rI 0, LN h a v u) := by
  have L1 := L.1
  have e : nI (v 6) + 3 = nI (v 6 + 3) := nI_add _ 3
  have e6 : ∀ x, hI (LN h a (up1 v 5 x) u) a 6 = nI (v 6) := fun x => by rw [LN_a, up1_o _ _ (by decide)]
  rw [tX10_cutBolt]
  by_cases c : 0 < v 5
  · simp only [oB_some, dR_some, cond_true, cond_false, if_true, if_false, Bool.true_and, Bool.and_true, Nat.beq_refl, hK_sI, LN_K, L1, LN_a, nI_0lt (show v 5 < 2 ^ 31 by omega), c, nI_s1 c, LN_w, up1_o v (v 5 - 1) (show (6 : Nat) ≠ 5 by decide), e, isZ1]
  · simp only [oB_some, dR_some, cond_true, cond_false, if_true, if_false, Bool.true_and, Bool.and_true, Nat.beq_refl, LN_K, L1, LN_a, nI_0lt (show v 5 < 2 ^ 31 by omega), c, isZ0]
def ow (d : Nat → Nat) (i wk : Nat) : Nat := d (3 * i + 1) + (wk - d (3 * i)) * d (3 * i + 2)
theorem ow_le {d : Nat → Nat} (hd : ∀ k, d k ≤ 99) {i wk : Nat} (hw : wk ≤ 5000) : ow d i wk ≤ 500000 := by
  unfold ow
  have h1 := hd (3 * i + 1)
  have h2 := hd (3 * i + 2)
  have h3 : (wk - d (3 * i)) * d (3 * i + 2) ≤ 5000 * 99 := Nat.mul_le_mul (by omega) h2
  omega
theorem owes_c {h : Hp} {s i wk : Nat} {r d b : Nat → Nat} {dc bc : Nat} (W : WH h s r d b dc bc) (hi : i < dc) (hw : wk ≤ 5000) : FX10_owes [vR (some 3), vI (nI i), vI (nI wk)] h = some (rI (nI (ow d i wk)), h) := by
  obtain ⟨⟨w1, w2⟩, ⟨l1, l2, l3, l4, _, ⟨l5, l6⟩, _, l7, l8⟩, ⟨g1, g2⟩, _, _, hd, _, _, bd, _⟩ := W
  have e0 : (3 : Int32) * nI i = nI (3 * i) := pk_mul 3 i
  have e00 : nI (3 * i) + 0 = nI (3 * i) := Int32.add_zero _
  have e1 : nI (3 * i) + 1 = nI (3 * i + 1) := nI_1 _
  have e2 : nI (3 * i) + 2 = nI (3 * i + 2) := nI_add _ 2
  have b0 : inb (nI (3 * i)) 18 = true := inb_nI (by omega) (by omega)
  have b1 : inb (nI (3 * i + 1)) 18 = true := inb_nI (by omega) (by omega)
  have b2 : inb (nI (3 * i + 2)) 18 = true := inb_nI (by omega) (by omega)
  have c0 : (nI (3 * i)).toNatClampNeg = 3 * i := nI_clamp (by omega)
  have c1 : (nI (3 * i + 1)).toNatClampNeg = 3 * i + 1 := nI_clamp (by omega)
  have c2 : (nI (3 * i + 2)).toNatClampNeg = 3 * i + 2 := nI_clamp (by omega)
  have d0 := bd (3 * i)
  rw [tX10_owes]
  simp only [oB_some, dR_some, cond_true, cond_false, if_true, if_false, Bool.true_and, Bool.and_true, Nat.beq_refl, w1, w2, l1, l3, l5, l6, iaK20, e0, e00, e1, e2, b0, b1, b2, c0, c1, c2, hd (3 * i) (show 3 * i < 3 * dc by omega), hd (3 * i + 1) (show 3 * i + 1 < 3 * dc by omega), hd (3 * i + 2) (show 3 * i + 2 < 3 * dc by omega), mx0 (a := wk) (b := d (3 * i)) (by omega) (by omega), pk_mul, nI_add]
  rfl
theorem WH.LN {h : Hp} {s a : Nat} {r d b : Nat → Nat} {dc bc : Nat} (W : WH h s r d b dc bc) (L : LL h a s) (v u : Nat → Nat) : WH (LN h a v u) s r d b dc bc := by
  obtain ⟨w1, w2, w3, w4, w5, w6, w7, w8⟩ := W
  obtain ⟨_, _, _, _, n1, n2, n3, n4, n5, _⟩ := L
  refine ⟨w1, w2, w3, ?_, ?_, ?_, ?_, w8⟩
  · rw [LN_o h v u (Ne.symm n1) (Ne.symm n2)]; exact w4
  · rw [LN_o h v u (Ne.symm n3) (by omega)]; exact w5
  · rw [LN_o h v u (Ne.symm n4) (by omega)]; exact w6
  · rw [LN_o h v u (Ne.symm n5) (by omega)]; exact w7
theorem bt6 : ∀ M, M < 64 → ∀ j, j < 6 → ((nI M >>> (nI j &&& 31)) &&& 1) = nI (M / 2 ^ j % 2) ∧ nI M ||| (1 <<< (nI j &&& 31)) = nI (M ||| 2 ^ j) ∧ (M ||| 2 ^ j) < 64 := by decide +kernel
theorem paid_c {h : Hp} {a s i : Nat} {v u : Nat → Nat} (L : LL h a s) (h7 : v 7 < 64) (hi : i < 6) : FX4_hasPaid [vR (some a), vI (nI i)] (LN h a v u) = some (rI (nI (v 7 / 2 ^ i % 2)), LN h a v u) := by
  have L1 := L.1
  rw [tX4_hasPaid]
  simp only [oB_some, dR_some, cond_true, cond_false, if_true, if_false, Bool.true_and, Bool.and_true, Nat.beq_refl, LN_K, L1, LN_a, (bt6 (v 7) h7 i hi).1]
  rcases (show v 7 / 2 ^ i % 2 = 0 ∨ v 7 / 2 ^ i % 2 = 1 by omega) with e | e <;> rw [e] <;> rfl
/-- may this debt be paid -/
def payOK (d v : Nat → Nat) (dc i : Nat) : Prop := i < dc ∧ v 7 / 2 ^ i % 2 = 0 ∧ ow d i (v 9) ≤ v 4
def payV (d v : Nat → Nat) (i : Nat) : Nat → Nat := up1 (up1 v 4 (v 4 - ow d i (v 9))) 7 (v 7 ||| 2 ^ i)
theorem pay_c {h : Hp} {s a : Nat} {r d b v u : Nat → Nat} {dc bc : Nat} (W : WH h s r d b dc bc) (L : LL h a s) (h7 : v 7 < 64) (h4 : v 4 ≤ 100000) (h9 : v 9 ≤ 5000) (x : Int32) :
    (∃ i, x = nI i ∧ payOK d v dc i ∧ FX10_payDebt [vR (some 3), vR (some a), vI x] (LN h a v u) = some (rI 1, LN h a (payV d v i) u)) ∨
    ((∀ i, x = nI i → i < 2 ^ 31 → ¬ payOK d v dc i) ∧ FX10_payDebt [vR (some 3), vR (some a), vI x] (LN h a v u) = some (rI 0, LN h a v u)) := by
  have W' := W.LN L
  have L1 := L.1
  obtain ⟨_, _, ⟨g1, g2⟩, ⟨f5, f6⟩, _⟩ := W' v u
  have x5 : hI (LN h a v u) s 5 = nI dc := f5
  obtain ⟨w1, w2⟩ := W.1
  have l1 := W.2.1.1
  rw [tX10_payDebt]
  rcases pk_ix x (n := dc) (by omega) with c | c | ⟨i, hi, c⟩
  · right
    refine ⟨fun i e hb _ => nI_pos hb (by rw [← e]; exact c), ?_⟩
    simp only [oB_some, dR_some, cond_true, cond_false, if_true, if_false, Bool.true_and, Bool.and_true, Nat.beq_refl, LN_K, LN_R, w1, w2, l1, x5, within11, c, isZ0]
  · right
    have c1 : ¬ x < 0 := by
      intro z
      have z1 := Int32.lt_iff_toInt_lt.mp z
      have z2 := Int32.le_iff_toInt_le.mp c
      rw [nI_toInt (by omega)] at z2
      have z3 : (0 : Int32).toInt = 0 := by decide
      omega
    have c2 : nI dc - 1 < x := by
      by_cases z0 : dc = 0
      · subst z0
        have : nI 0 - 1 < (0 : Int32) := by decide
        exact Int32.lt_of_lt_of_le this (Int32.not_lt.mp c1)
      · rw [nI_s1 (by omega)]
        refine Int32.lt_of_lt_of_le ?_ c
        rw [nI_nlt' (by omega) (by omega)]; omega
    refine ⟨fun i e hb P => ?_, ?_⟩
    · have := P.1
      rw [e, nI_nle' (by omega) (by omega)] at c
      omega
    · simp only [oB_some, dR_some, cond_true, cond_false, if_true, if_false, Bool.true_and, Bool.and_true, Nat.beq_refl, LN_K, LN_R, w1, w2, l1, x5, within11, c1, c2, isZ0]
  · subst c
    have c1 : ¬ nI i < 0 := nI_pos (by omega)
    have c2 : ¬ nI dc - 1 < nI i := by
      rw [nI_s1 (by omega), nI_nlt' (by omega) (by omega)]; omega
    have i6 : i < 6 := by omega
    have bi := bt6 (v 7) h7 i i6
    have owl := ow_le (i := i) (wk := v 9) W.2.2.2.2.2.2.2.2.1 h9
    have oc := owes_c (i := i) (W' v u) hi h9
    rcases (show v 7 / 2 ^ i % 2 = 0 ∨ v 7 / 2 ^ i % 2 = 1 by omega) with e | e
    · by_cases m : ow d i (v 9) ≤ v 4
      · left
        refine ⟨i, rfl, ⟨hi, e, m⟩, ?_⟩
        have q1 : (nI (ow d i (v 9)) ≤ nI (v 4)) = (ow d i (v 9) ≤ v 4) := nI_nle' (by omega) (by omega)
        have q2 : nI (v 4) - nI (ow d i (v 9)) = nI (v 4 - ow d i (v 9)) := pk_sub m
        simp only [oB_some, dR_some, cond_true, cond_false, if_true, if_false, Bool.true_and, Bool.and_true, Nat.beq_refl, hK_sI, LN_K, LN_R, w1, w2, l1, x5, within11, c1, c2, L1, show ¬ (1 : Int32) = 0 by decide, paid_c L h7 i6, e, nI_0, LN_a, oc, q1, m, q2, LN_w, up1_o v (v 4 - ow d i (v 9)) (show (7 : Nat) ≠ 4 by decide), bi.2.1, isZ1]
        rfl
      · right
        refine ⟨fun j e' hb P => ?_, ?_⟩
        · have : i = j := (nI_eq (by omega) hb).mp e'
          subst this
          exact m P.2.2
        · have q1 : (nI (ow d i (v 9)) ≤ nI (v 4)) = (ow d i (v 9) ≤ v 4) := nI_nle' (by omega) (by omega)
          simp only [oB_some, dR_some, cond_true, cond_false, if_true, if_false, Bool.true_and, Bool.and_true, Nat.beq_refl, LN_K, LN_R, w1, w2, l1, x5, within11, c1, c2, L1, show ¬ (1 : Int32) = 0 by decide, paid_c L h7 i6, e, nI_0, LN_a, oc, q1, m, isZ0]
    · right
      refine ⟨fun j e' hb P => ?_, ?_⟩
      · have : i = j := (nI_eq (by omega) hb).mp e'
        subst this
        have := P.2.1
        omega
      · simp only [oB_some, dR_some, cond_true, cond_false, if_true, if_false, Bool.true_and, Bool.and_true, Nat.beq_refl, LN_K, LN_R, w1, w2, l1, x5, within11, c1, c2, L1, show ¬ (1 : Int32) = 0 by decide, paid_c L h7 i6, e, show ¬ nI 1 = 0 by decide, isZ0]
