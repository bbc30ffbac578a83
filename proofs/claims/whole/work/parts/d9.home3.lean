/-! ===== PURE: before a house was told: run, perform, week, lives ===== -/
theorem isPlan_any {g : Hp} (k : hK g 147 = 12) (y : Int32) : ∃ i, (i = 0 ∨ i = 1) ∧ FX12_isPlan [vR (some 147), vI y] g = some (rI i, g) := by
  rw [tX12_isPlan]
  by_cases c : y < 0
  · exact ⟨0, Or.inl rfl, by rw [if_pos c]; rfl⟩
  · by_cases c2 : hI g 147 30 ≤ y
    · exact ⟨0, Or.inl rfl, by rw [if_neg c, if_pos k, if_pos c2]; rfl⟩
    · exact ⟨1, Or.inr rfl, by rw [if_neg c, if_pos k, if_neg c2]; rfl⟩
theorem run_hom {h : Hp} (H : HOM h) (y y2 : Int32) : QRY h (FX11_run [vR (some 0), vI y, vI y2]) (FX12_run [vR (some 147), vI y, vI y2]) := by
  obtain ⟨k0, k1, k2, k3⟩ := H
  have e : hI (sI h 147 0 0) 147 27 = 0 := by rw [hI_slot _ _ _ _ (by decide)]; exact k2
  obtain ⟨i, hi, p⟩ := isPlan_any (g := sI h 147 0 0) k1 y
  refine QRY.id (res := -1000000) ?_ ?_
  · rw [tX11_run]; simp only [oB_some, dR_some, cond_true, cond_false, if_true, if_false, Bool.true_and, Bool.and_true, Nat.beq_refl, k0, k3, ne10]
  · rw [tX12_run]
    rcases hi with rfl | rfl
    · simp only [oB_some, dR_some, cond_true, cond_false, if_true, if_false, Bool.true_and, Bool.and_true, Nat.beq_refl, k1, hK_sI, p]
    · simp only [oB_some, dR_some, cond_true, cond_false, if_true, if_false, Bool.true_and, Bool.and_true, Nat.beq_refl, k1, hK_sI, p, ne10, e]
theorem perform_hom {h : Hp} (H : HOM h) (y : Int32) : QRY h (FX11_perform [vR (some 0), vI y]) (FX12_perform [vR (some 147), vI y]) := by
  obtain ⟨k0, k1, k2, k3⟩ := H
  have e : hI (sI h 147 0 0) 147 27 = 0 := by rw [hI_slot _ _ _ _ (by decide)]; exact k2
  obtain ⟨i, hi, p⟩ := isPlan_any (g := sI h 147 0 0) k1 y
  refine QRY.id (res := -1) ?_ ?_
  · rw [tX11_perform]; simp only [oB_some, dR_some, cond_true, cond_false, if_true, if_false, Bool.true_and, Bool.and_true, Nat.beq_refl, k0, k3, ne10]
  · rw [tX12_perform]
    rcases hi with rfl | rfl
    · simp only [oB_some, dR_some, cond_true, cond_false, if_true, if_false, Bool.true_and, Bool.and_true, Nat.beq_refl, k1, hK_sI, p]
    · simp only [oB_some, dR_some, cond_true, cond_false, if_true, if_false, Bool.true_and, Bool.and_true, Nat.beq_refl, k1, hK_sI, p, ne10, e]
theorem mayPass_hom {h : Hp} (k1 : hK h 147 = 12) (k2 : hI h 147 27 = 0) (q : Option Nat) (y : Int32) : FX12_mayPass [vR (some 147), vR q, vI y] (sI h 147 0 0) = some (rI 0, sI h 147 0 0) := by
  have e : hI (sI h 147 0 0) 147 27 = 0 := by rw [hI_slot _ _ _ _ (by decide)]; exact k2
  rw [tX12_mayPass]; simp only [oB_some, dR_some, cond_true, cond_false, if_true, if_false, Bool.true_and, Bool.and_true, Nat.beq_refl, hK_sI, k1, e, le00, isZ0]
theorem isIn_03' (y : Int32) (h : Hp) : FX12_isIn [vL y.toInt64, vL 0, vL 3] h = some (rI (if y < 0 then 0 else if 3 < y then 0 else 1), h) := isIn_sp y 0 3 h
theorem week_hom {h : Hp} (H : HOM h) (y : Int32) : QRY h (FX11_week [vR (some 0), vI y]) (FX12_week [vR (some 147), vI y]) := by
  obtain ⟨k0, k1, k2, k3⟩ := H
  refine QRY.id (res := -1) ?_ ?_
  · rw [tX11_week]; simp only [oB_some, dR_some, cond_true, cond_false, if_true, if_false, Bool.true_and, Bool.and_true, Nat.beq_refl, k0, k3, ne10]
  · rw [tX12_week]
    by_cases c1 : y < 0
    · simp only [oB_some, dR_some, cond_true, cond_false, if_true, if_false, Bool.true_and, Bool.and_true, Nat.beq_refl, k1, hK_sI, isIn_03', c1]
    · by_cases c2 : (3 : Int32) < y
      · simp only [oB_some, dR_some, cond_true, cond_false, if_true, if_false, Bool.true_and, Bool.and_true, Nat.beq_refl, k1, hK_sI, isIn_03', c1, c2]
      · simp only [oB_some, dR_some, cond_true, cond_false, if_true, if_false, Bool.true_and, Bool.and_true, Nat.beq_refl, k1, hK_sI, isIn_03', c1, c2, ne10, mayPass_hom k1 k2]
theorem lives_hom {h : Hp} (H : HOM h) (y : Int32) (t : Int64) : QRY h (FX11_lives [vR (some 0), vI y, vL t]) (FX12_lives [vR (some 147), vI y, vL t]) := by
  obtain ⟨k0, k1, k2, k3⟩ := H
  refine QRY.id (res := -1) ?_ ?_
  · rw [tX11_lives]; simp only [oB_some, dR_some, cond_true, cond_false, if_true, if_false, Bool.true_and, Bool.and_true, Nat.beq_refl, k0, k3, ne10]
  · rw [tX12_lives]
    by_cases c1 : y < 1
    · simp only [oB_some, dR_some, cond_true, cond_false, if_true, if_false, Bool.true_and, Bool.and_true, Nat.beq_refl, k1, hK_sI, isIn_160, c1]
    · by_cases c2 : (60 : Int32) < y
      · simp only [oB_some, dR_some, cond_true, cond_false, if_true, if_false, Bool.true_and, Bool.and_true, Nat.beq_refl, k1, hK_sI, isIn_160, c1, c2]
      · simp only [oB_some, dR_some, cond_true, cond_false, if_true, if_false, Bool.true_and, Bool.and_true, Nat.beq_refl, k1, hK_sI, isIn_160, c1, c2, ne10, mayPass_hom k1 k2]
