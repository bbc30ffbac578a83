/-! ===== PURE: numbers and the heap ===== -/
theorem iaK20 : iaK 20 = true := rfl
theorem iaK25 : iaK 25 = true := rfl
theorem alK20 : alK 20 = true := rfl
theorem alK25 : alK 25 = true := rfl
theorem isZ0 : isZ 0 = true := by decide
theorem isZ1 : isZ 1 = true := by decide
theorem inb_nI {p N : Nat} (h : p < N) (hN : N < 2 ^ 31) : inb (nI p) N = true := by
  unfold inb
  have h1 : ¬ nI p < 0 := nI_pos (by omega)
  have h2 : ¬ N ≤ (nI p).toNatClampNeg := by rw [nI_clamp (by omega)]; omega
  simp [h1, h2]
theorem up2_self {α : Type} (f : Nat → Nat → α) (a k : Nat) : up2 f a k (f a k) = f := by
  funext x y
  unfold up2
  by_cases e : x = a
  · subst e
    by_cases e2 : y = k
    · subst e2; simp
    · simp [e2]
  · simp [e]
theorem up2_up2 {α : Type} (f : Nat → Nat → α) (a k : Nat) (v w : α) : up2 (up2 f a k v) a k w = up2 f a k w := by
  funext x y
  unfold up2
  by_cases e : x = a
  · subst e
    by_cases e2 : y = k
    · subst e2; simp
    · simp [e2]
  · simp [e]
theorem up2_comm {α : Type} (f : Nat → Nat → α) {a k b j : Nat} (hne : a ≠ b ∨ k ≠ j) (v w : α) : up2 (up2 f a k v) b j w = up2 (up2 f b j w) a k v := by
  funext x y
  unfold up2
  by_cases e : x = a
  · subst e
    by_cases e3 : x = b
    · subst e3
      by_cases e2 : y = k
      · subst e2
        by_cases e4 : y = j
        · subst e4
          rcases hne with z | z <;> exact absurd rfl z
        · simp [e4]
      · simp [e2]
    · simp [e3]
  · simp [e]
theorem sI_self (h : Hp) (a k : Nat) : sI h a k (hI h a k) = h := by
  unfold sI hI
  rw [up2_self]
theorem sI_self' (h : Hp) {a k : Nat} {v : Int32} (e : hI h a k = v) : sI h a k v = h := by rw [← e]; exact sI_self h a k
theorem sI_sI (h : Hp) (a k : Nat) (v w : Int32) : sI (sI h a k v) a k w = sI h a k w := by
  unfold sI
  dsimp only
  rw [up2_up2]
theorem sI_comm (h : Hp) {a k b j : Nat} (hne : a ≠ b ∨ k ≠ j) (v w : Int32) : sI (sI h a k v) b j w = sI (sI h b j w) a k v := by
  unfold sI
  dsimp only
  rw [up2_comm _ hne]
theorem hI_same (h : Hp) (a k : Nat) (v : Int32) : hI (sI h a k v) a k = v := by rw [hI_sI, if_pos rfl, if_pos rfl]
theorem hI_slot (h : Hp) (a k : Nat) (v : Int32) {y : Nat} (hy : y ≠ k) : hI (sI h a k v) a y = hI h a y := by rw [hI_sI, if_pos rfl, if_neg hy]
theorem hI_oth (h : Hp) (a k : Nat) (v : Int32) {x : Nat} (y : Nat) (hx : x ≠ a) : hI (sI h a k v) x y = hI h x y := by rw [hI_sI, if_neg hx]
theorem hI_row (h : Hp) (a k : Nat) (v : Int32) {x : Nat} (hx : x ≠ a) : hI (sI h a k v) x = hI h x := funext fun y => hI_oth h a k v y hx
theorem nI_nle' {a b : Nat} (ha : a < 2 ^ 31) (hb : b < 2 ^ 31) : (nI a ≤ nI b) = (a ≤ b) := propext (nI_leI ha hb)
theorem nI_nlt' {a b : Nat} (ha : a < 2 ^ 31) (hb : b < 2 ^ 31) : (nI a < nI b) = (a < b) := propext (nI_ltI ha hb)
theorem nI_neq' {a b : Nat} (ha : a < 2 ^ 31) (hb : b < 2 ^ 31) : (nI a = nI b) = (a = b) := propext (nI_eq ha hb)
/-! blanks -/
def skF (t : Nat → Int32) (n : Nat) : Nat → Nat → Nat
  | 0, p => p
  | f + 1, p => if p < n ∧ t p = 32 then skF t n f (p + 1) else p
/-- the next place that isn't blank -/
def sk (t : Nat → Int32) (n p : Nat) : Nat := skF t n (n - p) p
theorem sk_go {t : Nat → Int32} {n p : Nat} (h : p < n) (hb : t p = 32) : sk t n p = sk t n (p + 1) := by
  unfold sk
  obtain ⟨f, hf⟩ : ∃ f, n - p = f + 1 := ⟨n - p - 1, by omega⟩
  rw [hf, show n - (p + 1) = f by omega]
  show (if p < n ∧ t p = 32 then skF t n f (p + 1) else p) = _
  rw [if_pos ⟨h, hb⟩]
theorem sk_stay {t : Nat → Int32} {n p : Nat} (h : ¬ (p < n ∧ t p = 32)) : sk t n p = p := by
  unfold sk
  cases n - p with
  | zero => rfl
  | succ f =>
    show (if p < n ∧ t p = 32 then skF t n f (p + 1) else p) = p
    rw [if_neg h]
theorem sk_ind {t : Nat → Int32} {n : Nat} {P : Nat → Prop} (hs : ∀ p, ¬ (p < n ∧ t p = 32) → P p) (hg : ∀ p, p < n → t p = 32 → P (p + 1) → P p) : ∀ (f p : Nat), n - p ≤ f → P p := by
  intro f
  induction f with
  | zero => intro p hp; exact hs p (fun z => by omega)
  | succ f ih =>
    intro p hp
    by_cases z : p < n ∧ t p = 32
    · exact hg p z.1 z.2 (ih (p + 1) (by omega))
    · exact hs p z
theorem sk_le {t : Nat → Int32} {n : Nat} (p : Nat) : p ≤ sk t n p ∧ (p ≤ n → sk t n p ≤ n) := by
  refine sk_ind (t := t) (n := n) (P := fun p => p ≤ sk t n p ∧ (p ≤ n → sk t n p ≤ n)) (fun p h => ?_) (fun p h1 h2 ih => ?_) (n - p) p (Nat.le_refl _)
  · rw [sk_stay h]; exact ⟨Nat.le_refl _, id⟩
  · rw [sk_go h1 h2]; exact ⟨by omega, fun _ => ih.2 (by omega)⟩
theorem sk_sk {t : Nat → Int32} {n : Nat} (p : Nat) : sk t n (sk t n p) = sk t n p := by
  refine sk_ind (t := t) (n := n) (P := fun p => sk t n (sk t n p) = sk t n p) (fun p h => ?_) (fun p h1 h2 ih => ?_) (n - p) p (Nat.le_refl _)
  · rw [sk_stay h, sk_stay h]
  · rw [sk_go h1 h2]; exact ih
/-- what stands at a place, or -1 -/
def chT (t : Nat → Int32) (n p : Nat) : Int32 := if p < n then t p else -1
/-! the class's tape: cells 1 and 2 -/
def TapeL (h : Hp) : Prop := hK h 1 = 9 ∧ hR h 1 0 = some 2 ∧ hK h 2 = 20 ∧ hE h 2 = 240
theorem TapeL.sI {h : Hp} (T : TapeL h) (a k : Nat) (v : Int32) : TapeL (sI h a k v) := T
theorem peek_run (f : Nat) : ∀ (h : Hp) (n p : Nat), n - p ≤ f → TapeL h → hI h 1 1 = nI n → hI h 1 2 = nI p → n ≤ 240 → p ≤ 240 →
    Run kX9_peek 0 [some (vR (some 1))] [] h = some (rI (chT (hI h 2) n (sk (hI h 2) n p)), sI h 1 2 (nI (sk (hI h 2) n p))) := by
  induction f with
  | zero =>
    intro h n p hf T hn hp h1 h2
    rw [tX9_peek_0]
    have e1 := nI_nle' (a := n) (b := p) (by omega) (by omega)
    have q1 : n ≤ p := by omega
    have q2 : ¬ p < n := by omega
    rw [sk_stay (by omega), sI_self' h hp]
    simp only [T.1, hn, hp, e1, q1, if_true, chT, q2, if_false]
  | succ f ih =>
    intro h n p hf T hn hp h1 h2
    rw [tX9_peek_0]
    have e1 := nI_nle' (a := n) (b := p) (by omega) (by omega)
    have e2 : (Int32.ofNat 240 ≤ nI p) = (240 ≤ p) := nI_nle' (a := 240) (b := p) (by omega) (by omega)
    by_cases q : p < n
    · have q1 : ¬ n ≤ p := by omega
      have q3 : ¬ 240 ≤ p := by omega
      have e3 := inb_nI (p := p) (N := 240) (by omega) (by omega)
      have e4 : (nI p).toNatClampNeg = p := nI_clamp (by omega)
      simp only [T.1, T.2.1, T.2.2.1, T.2.2.2, hn, hp, e1, e2, q1, q3, if_true, if_false, dR_some, alK20, iaK20, cond_true, Bool.true_and, e3, e4, oB_some]
      by_cases hb : hI h 2 p = 32
      · rw [if_pos hb, sk_go q hb]
        have hh : hI (sI h 1 2 (nI p + 1)) 2 = hI h 2 := hI_row h 1 2 _ (by decide)
        have := ih (sI h 1 2 (nI p + 1)) n (p + 1) (by omega) (T.sI _ _ _) (by rw [hI_slot h 1 2 _ (by decide)]; exact hn) (by rw [hI_same]; exact nI_1 p) h1 (by omega)
        rw [this, hh, sI_sI]
      · rw [if_neg hb, sk_stay (fun z => hb z.2), sI_self' h hp]
        simp only [chT, q, if_true]
    · have q1 : n ≤ p := by omega
      rw [sk_stay (fun z => q z.1), sI_self' h hp]
      simp only [T.1, hn, hp, e1, q1, if_true, chT, q, if_false]
theorem peek_sp {h : Hp} {n p : Nat} (T : TapeL h) (hn : hI h 1 1 = nI n) (hp : hI h 1 2 = nI p) (h1 : n ≤ 240) (h2 : p ≤ 240) :
    FX9_peek [vR (some 1)] h = some (rI (chT (hI h 2) n (sk (hI h 2) n p)), sI h 1 2 (nI (sk (hI h 2) n p))) := peek_run (n - p) h n p (Nat.le_refl _) T hn hp h1 h2
