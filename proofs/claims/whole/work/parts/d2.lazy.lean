/-! ===== PURE: lazy, by both ===== -/
theorem lazy_both {h : Hp} (K0 : hK h 0 = 11) (M0 : hK h 147 = 12) (e : hI h 0 18 = hI h 147 35) (y : Int32) : ∃ res h1 h2, FX11_lazy [vR (some 0), vI y] h = some (rI res, h1) ∧ FX12_lazy [vR (some 147), vI y] h1 = some (rI res, h2) ∧ hI h2 0 18 = hI h2 147 35 ∧ Only h h1 [0] ∧ (∀ k, k ≠ 18 → hI h1 0 k = hI h 0 k) ∧ Mq h1 h2 [] [0, 35] := by
  have t0 : ∀ g : Hp, Mq g (sI g 147 0 0) [] [0, 35] := fun g => mq_sI _ _ _ (by simp)
  have id' : FX11_lazy [vR (some 0), vI y] h = some (rI 0, h) → FX12_lazy [vR (some 147), vI y] h = some (rI 0, sI h 147 0 0) → ∃ res h1 h2, FX11_lazy [vR (some 0), vI y] h = some (rI res, h1) ∧ FX12_lazy [vR (some 147), vI y] h1 = some (rI res, h2) ∧ hI h2 0 18 = hI h2 147 35 ∧ Only h h1 [0] ∧ (∀ k, k ≠ 18 → hI h1 0 k = hI h 0 k) ∧ Mq h1 h2 [] [0, 35] := fun x1 x2 => ⟨0, h, _, x1, x2, by rw [hI_row _ _ _ _ (by decide), hI_slot _ _ _ _ (by decide)]; exact e, Only.refl _ _, fun _ _ => rfl, t0 h⟩
  by_cases c1 : y < 0
  · refine id' ?_ ?_
    · rw [tX11_lazy]; simp only [oB_some, dR_some, cond_true, cond_false, if_true, if_false, Bool.true_and, Bool.and_true, Nat.beq_refl, within11, c1, isZ0]
    · rw [tX12_lazy]; simp only [oB_some, dR_some, cond_true, cond_false, if_true, if_false, Bool.true_and, Bool.and_true, Nat.beq_refl, M0, isIn_09, c1, isZ0]
  by_cases c2 : (9 : Int32) < y
  · refine id' ?_ ?_
    · rw [tX11_lazy]; simp only [oB_some, dR_some, cond_true, cond_false, if_true, if_false, Bool.true_and, Bool.and_true, Nat.beq_refl, within11, c1, c2, isZ0]
    · rw [tX12_lazy]; simp only [oB_some, dR_some, cond_true, cond_false, if_true, if_false, Bool.true_and, Bool.and_true, Nat.beq_refl, M0, isIn_09, c1, c2, isZ0]
  by_cases c3 : y = hI h 0 18
  · refine id' ?_ ?_
    · rw [tX11_lazy]; simp only [oB_some, dR_some, cond_true, cond_false, if_true, if_false, Bool.true_and, Bool.and_true, Nat.beq_refl, within11, c1, c2, ne10, K0]; rw [if_pos c3]; rfl
    · have c4 : y = hI (sI h 147 0 0) 147 35 := by rw [hI_slot _ _ _ _ (by decide), ← e]; exact c3
      rw [tX12_lazy]; simp only [oB_some, dR_some, cond_true, cond_false, if_true, if_false, Bool.true_and, Bool.and_true, Nat.beq_refl, M0, hK_sI, isIn_09, c1, c2, ne10]; rw [if_pos c4]; rfl
  · have c4 : ¬ y = hI (sI (sI h 0 18 y) 147 0 0) 147 35 := by rw [hI_slot _ _ _ _ (by decide), hI_row _ _ _ _ (by decide), ← e]; exact c3
    refine ⟨1, sI h 0 18 y, sI (sI (sI h 0 18 y) 147 0 0) 147 35 y, ?_, ?_, ?_, only_sI _ _ _ (by simp), fun k hk => hI_slot _ _ _ _ hk, (t0 _).trans (mq_sI _ _ _ (by simp))⟩
    · rw [tX11_lazy]; simp only [oB_some, dR_some, cond_true, cond_false, if_true, if_false, Bool.true_and, Bool.and_true, Nat.beq_refl, within11, c1, c2, ne10, K0]; rw [if_neg c3]; rfl
    · rw [tX12_lazy]; simp only [oB_some, dR_some, cond_true, cond_false, if_true, if_false, Bool.true_and, Bool.and_true, Nat.beq_refl, M0, hK_sI, isIn_09, c1, c2, ne10]; rw [if_neg c4]; rfl
    · rw [hI_same, hI_row _ _ _ _ (by decide), hI_row _ _ _ _ (by decide), hI_same]
