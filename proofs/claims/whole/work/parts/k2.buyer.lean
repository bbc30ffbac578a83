/-! ===== buyer by both ===== -/
theorem hasB_a {h : Hp} {s : Nat} {r d b : Nat → Nat} {dc bc : Nat} {lw : Option ((Nat → Int32) × Nat)} {v u w lg bk z : Nat → Nat} {A x : Nat} (I : AINV h s r d b dc bc lw v u w lg bk z A x) (y : Int32) : FX11_hasBuyer [vR (some 0), vI y] h = some (rI (if y < 0 then 0 else if nI bc - 1 < y then 0 else 1), h) := by
  obtain ⟨K0, R01, R02, R04, R05, K3, R30, Ks, Rs2, Rs3, Rs4, Ks1, Es1, Ks2, Es2, Ks3, Es3, K10, R108, K11, E11, K14, K98, td, dcC, bcC, Ev, Eu⟩ := cfa I
  have tdN : ¬ hI h s 0 = 0 := by rw [I.2.1.2.1]; decide
  rw [tX11_hasBuyer]
  simp only [oB_some, dR_some, cond_true, cond_false, if_true, if_false, Bool.true_and, Bool.and_true, Nat.beq_refl, K0, R01, K3, R30, Ks, tdN, bcC, within11]
  by_cases c1 : y < 0
  · simp only [oB_some, dR_some, cond_true, cond_false, if_true, if_false, Bool.true_and, Bool.and_true, Nat.beq_refl, c1, isZ0]
  · by_cases c2 : nI bc - 1 < y
    · simp only [oB_some, dR_some, cond_true, cond_false, if_true, if_false, Bool.true_and, Bool.and_true, Nat.beq_refl, c1, c2, isZ0]
    · simp only [oB_some, dR_some, cond_true, cond_false, if_true, if_false, Bool.true_and, Bool.and_true, Nat.beq_refl, c1, c2, isZ1, ne10]
theorem hasB_h {h : Hp} {s : Nat} (S : HOS h s) (k0 : hK h 0 = 11) (y : Int32) : FX11_hasBuyer [vR (some 0), vI y] h = some (rI 0, h) := by
  obtain ⟨s1, s2, s3, s4, s5, s6⟩ := S
  rw [tX11_hasBuyer]; simp only [oB_some, dR_some, cond_true, cond_false, if_true, if_false, Bool.true_and, Bool.and_true, Nat.beq_refl, k0, s1, s2, s3, s4, s5, isZ0]
theorem buyer_mt {g : Hp} (k : hK g 147 = 12) {y y2 : Int32} (c : y < 0 ∨ hI g 147 27 ≤ y ∨ y2 < 0 ∨ (3 : Int32) < y2) : FX12_buyer [vR (some 147), vI y, vI y2] g = some (rI 0, sI g 147 0 1) := by
  have e : hI (sI g 147 0 1) 147 0 = 1 := hI_same _ _ _ _
  have n : ¬ (1 : Int32) ≤ 0 := by decide
  have ib : FX12_isBuyer [vR (some 147), vI y] g = some (rI (if y < 0 then 0 else if hI g 147 27 ≤ y then 0 else 1), g) := by
    rw [tX12_isBuyer]
    by_cases c1 : y < 0
    · simp only [oB_some, dR_some, cond_true, cond_false, if_true, if_false, Bool.true_and, Bool.and_true, Nat.beq_refl, c1, isZ0]
    · by_cases c2 : hI g 147 27 ≤ y
      · simp only [oB_some, dR_some, cond_true, cond_false, if_true, if_false, Bool.true_and, Bool.and_true, Nat.beq_refl, k, c1, c2, isZ0]
      · simp only [oB_some, dR_some, cond_true, cond_false, if_true, if_false, Bool.true_and, Bool.and_true, Nat.beq_refl, k, c1, c2, isZ1]
  rw [tX12_buyer]
  by_cases c1 : y < 0
  · simp only [oB_some, dR_some, cond_true, cond_false, if_true, if_false, Bool.true_and, Bool.and_true, Nat.beq_refl, k, ib, c1, hK_sI, e, n]
  by_cases c2 : hI g 147 27 ≤ y
  · simp only [oB_some, dR_some, cond_true, cond_false, if_true, if_false, Bool.true_and, Bool.and_true, Nat.beq_refl, k, ib, c1, c2, hK_sI, e, n]
  by_cases c3 : y2 < 0
  · simp only [oB_some, dR_some, cond_true, cond_false, if_true, if_false, Bool.true_and, Bool.and_true, Nat.beq_refl, k, ib, c1, c2, ne10, isIn_03', c3, hK_sI, e, n]
  have c4 : (3 : Int32) < y2 := by
    rcases c with z | z | z | z
    · exact absurd z c1
    · exact absurd z c2
    · exact absurd z c3
    · exact z
  simp only [oB_some, dR_some, cond_true, cond_false, if_true, if_false, Bool.true_and, Bool.and_true, Nat.beq_refl, k, ib, c1, c2, ne10, isIn_03', c3, c4, hK_sI, e, n]
