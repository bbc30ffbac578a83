/-! ===== PURE: before a house was told: debt, best, weaves ===== -/
def HOS (h : Hp) (s : Nat) : Prop := hR h 0 1 = some 3 ∧ hK h 3 = 10 ∧ hR h 3 0 = some s ∧ hK h s = 0 ∧ hI h s 0 = 0 ∧ hI h 147 26 = 0
theorem debt_hom {h : Hp} {s : Nat} (H : HOM h) (S : HOS h s) (y y2 : Int32) : QRY h (FX11_debt [vR (some 0), vI y, vI y2]) (FX12_debt [vR (some 147), vI y, vI y2]) := by
  obtain ⟨k0, k1, k2, k3⟩ := H
  obtain ⟨s1, s2, s3, s4, s5, s6⟩ := S
  have e : hI (sI h 147 0 0) 147 26 = 0 := by rw [hI_slot _ _ _ _ (by decide)]; exact s6
  have d : FX12_isDebt [vR (some 147), vI y] (sI h 147 0 0) = some (rI 0, sI h 147 0 0) := by
    rw [tX12_isDebt]
    by_cases c : y < 0
    · rw [if_pos c]; rfl
    · rw [if_neg c]
      simp only [oB_some, dR_some, cond_true, cond_false, if_true, if_false, Bool.true_and, Bool.and_true, Nat.beq_refl, hK_sI, k1, e, Int32.not_lt.mp c, isZ0]
  have d2 : FX11_hasDebt [vR (some 0), vI y] h = some (rI 0, h) := by
    rw [tX11_hasDebt]; simp only [oB_some, dR_some, cond_true, cond_false, if_true, if_false, Bool.true_and, Bool.and_true, Nat.beq_refl, k0, s1, s2, s3, s4, s5, isZ0]
  refine QRY.id (res := -1) ?_ ?_
  · rw [tX11_debt]; simp only [oB_some, dR_some, cond_true, cond_false, if_true, if_false, Bool.true_and, Bool.and_true, Nat.beq_refl, k0, d2]
  · rw [tX12_debt]; simp only [oB_some, dR_some, cond_true, cond_false, if_true, if_false, Bool.true_and, Bool.and_true, Nat.beq_refl, k1, hK_sI, d]
theorem bestB_hom {h : Hp} (k1 : hK h 147 = 12) (k2 : hI h 147 27 = 0) : FX12_bestBuyer [vR (some 147)] (sI h 147 0 0) = some (rI (-1), sI h 147 0 0) := by
  have e : hI (sI h 147 0 0) 147 27 = 0 := by rw [hI_slot _ _ _ _ (by decide)]; exact k2
  rw [tX12_bestBuyer, tX12_bestBuyer_4]
  simp only [oB_some, dR_some, cond_true, cond_false, if_true, if_false, Bool.true_and, Bool.and_true, Nat.beq_refl, hK_sI, k1, e, le00]
theorem best_hom {h : Hp} (H : HOM h) : QRY h (FX11_best [vR (some 0)]) (FX12_best [vR (some 147)]) := by
  obtain ⟨k0, k1, k2, k3⟩ := H
  refine QRY.id (res := -1) ?_ ?_
  · rw [tX11_best]; simp only [oB_some, dR_some, cond_true, cond_false, if_true, if_false, Bool.true_and, Bool.and_true, Nat.beq_refl, k0, k3, ne10]
  · rw [tX12_best]; simp only [oB_some, dR_some, cond_true, cond_false, if_true, if_false, Bool.true_and, Bool.and_true, Nat.beq_refl, k1, hK_sI, bestB_hom k1 k2]
theorem weaves_hom {h : Hp} (H : HOM h) : QRY h (FX11_weaves [vR (some 0)]) (FX12_weaves [vR (some 147)]) := by
  obtain ⟨k0, k1, k2, k3⟩ := H
  have b : FX11_best [vR (some 0)] h = some (rI (-1), h) := by rw [tX11_best]; simp only [oB_some, dR_some, cond_true, cond_false, if_true, if_false, Bool.true_and, Bool.and_true, Nat.beq_refl, k0, k3, ne10]
  refine QRY.id (res := -1) ?_ ?_
  · rw [tX11_weaves]; simp only [oB_some, dR_some, cond_true, cond_false, if_true, if_false, Bool.true_and, Bool.and_true, Nat.beq_refl, k0, b]
  · rw [tX12_weaves]; simp only [oB_some, dR_some, cond_true, cond_false, if_true, if_false, Bool.true_and, Bool.and_true, Nat.beq_refl, k1, hK_sI, bestB_hom k1 k2]
