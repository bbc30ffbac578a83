/-! ===== PURE: fault and text of no kind ===== -/
theorem fault_out {h : Hp} (k1 : hK h 147 = 12) {y : Int32} (c : y < 0 ∨ (2 : Int32) < y) : QRY h (FX11_fault [vR (some 0), vI y]) (FX12_fault [vR (some 147), vI y]) := by
  have n0 : ¬ y = 0 := fun e => by subst e; rcases c with z | z <;> exact absurd z (by decide)
  have n1 : ¬ y = 1 := fun e => by subst e; rcases c with z | z <;> exact absurd z (by decide)
  have n2 : ¬ y = 2 := fun e => by subst e; rcases c with z | z <;> exact absurd z (by decide)
  refine QRY.id (res := -2) ?_ ?_
  · rw [tX11_fault]; simp only [oB_some, dR_some, cond_true, cond_false, if_true, if_false, Bool.true_and, Bool.and_true, Nat.beq_refl, n0, n1, n2]
  · rw [tX12_fault]
    rcases c with c | c
    · simp only [oB_some, dR_some, cond_true, cond_false, if_true, if_false, Bool.true_and, Bool.and_true, Nat.beq_refl, k1, isIn_02, c]
    · by_cases c1 : y < 0
      · simp only [oB_some, dR_some, cond_true, cond_false, if_true, if_false, Bool.true_and, Bool.and_true, Nat.beq_refl, k1, isIn_02, c1]
      · simp only [oB_some, dR_some, cond_true, cond_false, if_true, if_false, Bool.true_and, Bool.and_true, Nat.beq_refl, k1, isIn_02, c1, c]
theorem text_out {h : Hp} (k1 : hK h 147 = 12) {y : Int32} (c : y < 0 ∨ (2 : Int32) < y) : QRY h (FX11_text [vR (some 0), vI y]) (FX12_text [vR (some 147), vI y]) := by
  have n0 : ¬ y = 0 := fun e => by subst e; rcases c with z | z <;> exact absurd z (by decide)
  have n1 : ¬ y = 1 := fun e => by subst e; rcases c with z | z <;> exact absurd z (by decide)
  have n2 : ¬ y = 2 := fun e => by subst e; rcases c with z | z <;> exact absurd z (by decide)
  refine QRY.id (res := -1) ?_ ?_
  · rw [tX11_text]; simp only [oB_some, dR_some, cond_true, cond_false, if_true, if_false, Bool.true_and, Bool.and_true, Nat.beq_refl, n0, n1, n2]
  · rw [tX12_text]
    rcases c with c | c
    · simp only [oB_some, dR_some, cond_true, cond_false, if_true, if_false, Bool.true_and, Bool.and_true, Nat.beq_refl, k1, isIn_02, c]
    · by_cases c1 : y < 0
      · simp only [oB_some, dR_some, cond_true, cond_false, if_true, if_false, Bool.true_and, Bool.and_true, Nat.beq_refl, k1, isIn_02, c1]
      · simp only [oB_some, dR_some, cond_true, cond_false, if_true, if_false, Bool.true_and, Bool.and_true, Nat.beq_refl, k1, isIn_02, c1, c]
