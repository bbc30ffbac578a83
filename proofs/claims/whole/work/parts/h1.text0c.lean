/-! ===== text of a house: both ===== -/
theorem rg_nat {x : Int32} {lo hi : Nat} (h1 : ¬ x < nI lo) (h2 : x ≤ nI hi) (hl : lo < 2 ^ 31) (hh : hi < 2 ^ 31) : x = nI x.toNatClampNeg ∧ lo ≤ x.toNatClampNeg ∧ x.toNatClampNeg ≤ hi := by
  have c1 : ¬ x < 0 := fun z => h1 (Int32.lt_of_lt_of_le z (Int32.not_lt.mp (nI_pos hl)))
  obtain ⟨j, hj, ej⟩ := nI_of2 (x := x) (M := nI hi) (n := hi) (by rw [nI_toInt hh]) c1 h2
  subst ej
  rw [nI_clamp (by omega)]
  rw [nI_nlt' (by omega) hl] at h1
  exact ⟨rfl, by omega, hj⟩
def rwN (f : Nat → Int32) (m : Nat) : Nat → Nat := fun k => if k < m then (f k).toNatClampNeg else 0
theorem rwN_in {f : Nat → Int32} {m k : Nat} (h : k < m) : rwN f m k = (f k).toNatClampNeg := by unfold rwN; rw [if_pos h]
theorem rwN_out {f : Nat → Int32} {m k : Nat} (h : ¬ k < m) : rwN f m k = 0 := by unfold rwN; rw [if_neg h]
theorem rit_b : ∀ j, j < 7 → bT RIt (4 * j + 1) ≤ 60 ∧ bT RIt (4 * j + 2) ≤ 60 := by decide +kernel
theorem dit_b : ∀ j, j < 3 → bT DIt (4 * j + 1) ≤ 60 ∧ bT DIt (4 * j + 2) ≤ 99 ∧ (j = 0 → bT DIt (4 * j + 2) ≤ 60) := by decide +kernel
theorem bit_b : ∀ j, j < 3 → bT BIt (4 * j + 1) ≤ 60 ∧ bT BIt (4 * j + 2) ≤ 60 ∧ (j = 2 → bT BIt (4 * j + 2) ≤ 9) := by decide +kernel
/-- the numbers of a house that was read -/
theorem hs_nums {h : Hp} {s dc bc : Nat} (R : RgH h s dc bc) (hd : dc ≤ 6) (hb : bc ≤ 5) : (∀ k, k < 7 → hI h (s + 1) k = nI (rwN (hI h (s + 1)) 7 k)) ∧ (∀ k, k < 3 * dc → hI h (s + 2) k = nI (rwN (hI h (s + 2)) (3 * dc) k)) ∧ (∀ k, k < 3 * bc → hI h (s + 3) k = nI (rwN (hI h (s + 3)) (3 * bc) k)) ∧ (∀ k, rwN (hI h (s + 1)) 7 k ≤ 60) ∧ BH (rwN (hI h (s + 1)) 7) (rwN (hI h (s + 2)) (3 * dc)) (rwN (hI h (s + 3)) (3 * bc)) := by
  obtain ⟨R1, R2, R3⟩ := R
  have a1 : ∀ j, j < 7 → hI h (s + 1) j = nI (rwN (hI h (s + 1)) 7 j) ∧ bT RIt (4 * j + 1) ≤ rwN (hI h (s + 1)) 7 j ∧ rwN (hI h (s + 1)) 7 j ≤ bT RIt (4 * j + 2) := fun j hj => by
    have := R1 j hj
    have b := rit_b j hj
    rw [Nat.zero_add] at this
    rw [rwN_in hj]
    exact rg_nat this.1 this.2 (by omega) (by omega)
  have a2 : ∀ k, k < 3 * dc → hI h (s + 2) k = nI (rwN (hI h (s + 2)) (3 * dc) k) ∧ rwN (hI h (s + 2)) (3 * dc) k ≤ 99 ∧ (k % 3 = 0 → rwN (hI h (s + 2)) (3 * dc) k ≤ 60) := fun k hk => by
    have := R2 (k / 3) (by omega) (k % 3) (by omega)
    have b := dit_b (k % 3) (by omega)
    rw [Nat.div_add_mod] at this
    rw [rwN_in hk]
    obtain ⟨z1, z2, z3⟩ := rg_nat this.1 this.2 (by omega) (by omega)
    exact ⟨z1, by omega, fun q => by have := b.2.2 q; omega⟩
  have a3 : ∀ k, k < 3 * bc → hI h (s + 3) k = nI (rwN (hI h (s + 3)) (3 * bc) k) ∧ rwN (hI h (s + 3)) (3 * bc) k ≤ 60 ∧ (k % 3 = 2 → rwN (hI h (s + 3)) (3 * bc) k ≤ 9) := fun k hk => by
    have := R3 (k / 3) (by omega) (k % 3) (by omega)
    have b := bit_b (k % 3) (by omega)
    rw [Nat.div_add_mod] at this
    rw [rwN_in hk]
    obtain ⟨z1, z2, z3⟩ := rg_nat this.1 this.2 (by omega) (by omega)
    exact ⟨z1, by omega, fun q => by have := b.2.2 q; omega⟩
  have c2 : ∀ k, rwN (hI h (s + 2)) (3 * dc) k ≤ 99 := fun k => by
    by_cases c : k < 3 * dc
    · exact (a2 k c).2.1
    · rw [rwN_out c]; omega
  have c3 : ∀ k, rwN (hI h (s + 3)) (3 * bc) k ≤ 60 := fun k => by
    by_cases c : k < 3 * bc
    · exact (a3 k c).2.1
    · rw [rwN_out c]; omega
  have c1 : ∀ k, rwN (hI h (s + 1)) 7 k ≤ 60 := fun k => by
    by_cases c : k < 7
    · have := (a1 k c).2.2; have := rit_b k c; omega
    · rw [rwN_out c]; omega
  have b0 := a1 0 (by omega)
  have b1 := a1 1 (by omega)
  have b2 := a1 2 (by omega)
  have b3 := a1 3 (by omega)
  have b4 := a1 4 (by omega)
  have b5 := a1 5 (by omega)
  have b6 := a1 6 (by omega)
  refine ⟨fun k hk => (a1 k hk).1, fun k hk => (a2 k hk).1, fun k hk => (a3 k hk).1, c1, c1 0, b1.2.1, b1.2.2, b2.2.2, b3.2.1, b3.2.2, b4.2.2, b5.2.2, b6.2.1, b6.2.2, c3, c2, fun i hi => ?_, fun i hi => ?_⟩
  · by_cases c : 3 * i + 2 < 3 * bc
    · exact (a3 _ c).2.2 (by omega)
    · rw [rwN_out c]; omega
  · by_cases c : 3 * i < 3 * dc
    · exact (a2 _ c).2.2 (by omega)
    · rw [rwN_out c]; omega
def t0P (s a k : Nat) : Prop := (a = 0 ∧ k = 10) ∨ a = 1 ∨ (s ≤ a ∧ a ≤ s + 3) ∨ a = 10 ∨ a = 11 ∨ (a = 14 ∧ k = 2) ∨ (a = 101 ∧ k ≤ 3) ∨ (a = 147 ∧ (k = 0 ∨ k = 5 ∨ k = 6 ∨ (8 ≤ k ∧ k ≤ 11) ∨ (26 ≤ k ∧ k ≤ 29) ∨ k = 31 ∨ k = 37 ∨ k = 50 ∨ k = 51 ∨ k = 53)) ∨ (152 ≤ a ∧ a ≤ 157) ∨ a = 160
def t0R (a k : Nat) : Prop := (a = 147 ∧ k = 5) ∨ (a = 3 ∧ k = 0) ∨ (a = 0 ∧ k = 11)
theorem TH_R {h1 : Hp} {s s' : Nat} {v' u' : Nat → Nat} {a k : Nat} (z1 : a ≠ 3 ∨ k ≠ 0) (z2 : a ≠ 0 ∨ k ≠ 11) : hR (TH h1 s s' v' u') a k = hR h1 a k := by
  show hR (sR (sR h1 3 0 (some s')) 0 11 (some s)) a k = hR h1 a k
  rw [hR_sR]
  have q : hR (sR h1 3 0 (some s')) a k = hR h1 a k := by
    rw [hR_sR]
    by_cases c : a = 3
    · rw [if_pos c, if_neg (by omega)]
    · rw [if_neg c]
  by_cases c : a = 0
  · rw [if_pos c, if_neg (by omega), q]
  · rw [if_neg c, q]
theorem TH_I {h1 : Hp} {s s' : Nat} {v' u' : Nat → Nat} {a k : Nat} (z0 : a ≠ 0 ∨ k ≠ 10) (z1 : a ≠ 1 ∨ k ≠ 1) (z2 : a ≠ s' ∨ k ≠ 0) (z3 : a ≠ 10) (z4 : a ≠ 11) (z5 : a ≠ 14 ∨ k ≠ 2) (z6 : a ≠ 101 ∨ (k ≠ 0 ∧ k ≠ 3)) : hI (TH h1 s s' v' u') a k = hI h1 a k := by
  have st : ∀ (g : Hp) (b j : Nat) (x : Int32), (a ≠ b ∨ k ≠ j) → hI (sI g b j x) a k = hI g a k := fun g b j x z => by
    rw [hI_sI]
    by_cases c : a = b
    · rw [if_pos c, if_neg (by omega)]
    · rw [if_neg c]
  unfold TH
  rw [st _ _ _ _ z1, st _ _ _ _ z0, st _ _ _ _ (by omega), hI_sL, hI_sL, st _ _ _ _ (by omega), st _ _ _ _ z5, LN_o _ _ _ z3 z4, st _ _ _ _ z2]
  rfl
theorem TH_v {h1 : Hp} {s s' : Nat} {v' u' : Nat → Nat} (hs : s' = 4 ∨ s' = 131) : hI (TH h1 s s' v' u') 10 = nR v' ∧ hI (TH h1 s s' v' u') 11 = nR u' ∧ hI (TH h1 s s' v' u') s' 0 = 1 ∧ hI (TH h1 s s' v' u') 14 2 = 0 ∧ hI (TH h1 s s' v' u') 101 0 = 0 ∧ hI (TH h1 s s' v' u') 101 3 = 0 ∧ hI (TH h1 s s' v' u') 0 10 = 0 ∧ hI (TH h1 s s' v' u') 1 1 = 0 ∧ hL (TH h1 s s' v' u') 101 1 = 1 ∧ hL (TH h1 s s' v' u') 101 2 = 1 := by
  unfold TH
  refine ⟨?_, ?_, ?_, ?_, ?_, ?_, ?_, ?_, ?_, ?_⟩
  · rw [hI_row _ _ _ _ (by decide), hI_row _ _ _ _ (by decide), hI_row _ _ _ _ (by decide)]
    funext k
    rw [hI_sL, hI_sL, hI_row _ _ _ _ (by decide), hI_row _ _ _ _ (by decide), LN_ra]
  · rw [hI_row _ _ _ _ (by decide), hI_row _ _ _ _ (by decide), hI_row _ _ _ _ (by decide)]
    funext k
    rw [hI_sL, hI_sL, hI_row _ _ _ _ (by decide), hI_row _ _ _ _ (by decide), LN_rs _ 10]
  · rw [hI_oth _ _ _ _ _ (by omega), hI_oth _ _ _ _ _ (by omega), hI_oth _ _ _ _ _ (by omega), hI_sL, hI_sL, hI_oth _ _ _ _ _ (by omega), hI_oth _ _ _ _ _ (by omega), LN_o _ _ _ (by omega) (by omega), hI_same]
  · rw [hI_oth _ _ _ _ _ (by decide), hI_oth _ _ _ _ _ (by decide), hI_oth _ _ _ _ _ (by decide), hI_sL, hI_sL, hI_oth _ _ _ _ _ (by decide), hI_same]
  · rw [hI_oth _ _ _ _ _ (by decide), hI_oth _ _ _ _ _ (by decide), hI_slot _ _ _ _ (by decide), hI_sL, hI_sL, hI_same]
  · rw [hI_oth _ _ _ _ _ (by decide), hI_oth _ _ _ _ _ (by decide), hI_same]
  · rw [hI_oth _ _ _ _ _ (by decide), hI_same]
  · rw [hI_same]
  · rw [hL_sI, hL_sI, hL_sI, hL_sL, if_pos rfl, if_neg (by decide), hL_sL, if_pos rfl, if_pos rfl]
  · rw [hL_sI, hL_sI, hL_sI, hL_sL, if_pos rfl, if_pos rfl]
