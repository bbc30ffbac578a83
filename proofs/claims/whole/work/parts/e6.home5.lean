/-! ===== PURE: before a house was told: image, proofs ===== -/
theorem image_hom {h : Hp} (H : HOM h) : QRY h (FX11_image [vR (some 0)]) (FX12_image [vR (some 147)]) := by
  obtain ⟨k0, k1, k2, k3⟩ := H
  have e : hI (sI h 147 0 0) 147 27 = 0 := by rw [hI_slot _ _ _ _ (by decide)]; exact k2
  refine QRY.id (res := -1) ?_ ?_
  · rw [tX11_image]; simp only [oB_some, dR_some, cond_true, cond_false, if_true, if_false, Bool.true_and, Bool.and_true, Nat.beq_refl, k0, k3, ne10]
  · rw [tX12_image]; simp only [oB_some, dR_some, cond_true, cond_false, if_true, if_false, Bool.true_and, Bool.and_true, Nat.beq_refl, k1, hK_sI, e]
theorem back_hom {h : Hp} (H : HOM h) (k5 : hI h 147 53 = 0) : QRY h (FX11_back [vR (some 0)]) (FX12_back [vR (some 147)]) := by
  obtain ⟨k0, k1, k2, k3⟩ := H
  have e : hI (sI h 147 0 0) 147 53 = 0 := by rw [hI_slot _ _ _ _ (by decide)]; exact k5
  refine QRY.id (res := -1) ?_ ?_
  · rw [tX11_back]; simp only [oB_some, dR_some, cond_true, cond_false, if_true, if_false, Bool.true_and, Bool.and_true, Nat.beq_refl, k0, k3, ne10]
  · rw [tX12_back]; simp only [oB_some, dR_some, cond_true, cond_false, if_true, if_false, Bool.true_and, Bool.and_true, Nat.beq_refl, k1, hK_sI, e]
theorem crane_hom {h : Hp} (H : HOM h) : QRY h (FX11_crane [vR (some 0)]) (FX12_crane [vR (some 147)]) := by
  obtain ⟨k0, k1, k2, k3⟩ := H
  have e : hI (sI h 147 0 0) 147 27 = 0 := by rw [hI_slot _ _ _ _ (by decide)]; exact k2
  refine QRY.id (res := -1) ?_ ?_
  · rw [tX11_crane]; simp only [oB_some, dR_some, cond_true, cond_false, if_true, if_false, Bool.true_and, Bool.and_true, Nat.beq_refl, k0, k3, ne10]
  · rw [tX12_crane]; simp only [oB_some, dR_some, cond_true, cond_false, if_true, if_false, Bool.true_and, Bool.and_true, Nat.beq_refl, k1, hK_sI, e]
theorem from_hom {h : Hp} (H : HOM h) (y0 : Int32) : QRY h (FX11_from [vR (some 0), vI y0]) (FX12_from [vR (some 147), vI y0]) := by
  obtain ⟨k0, k1, k2, k3⟩ := H
  have e : hI (sI h 147 0 0) 147 27 = 0 := by rw [hI_slot _ _ _ _ (by decide)]; exact k2
  refine QRY.id (res := -1) ?_ ?_
  · rw [tX11_from]; simp only [oB_some, dR_some, cond_true, cond_false, if_true, if_false, Bool.true_and, Bool.and_true, Nat.beq_refl, k0, k3, ne10]
  · rw [tX12_from]; simp only [oB_some, dR_some, cond_true, cond_false, if_true, if_false, Bool.true_and, Bool.and_true, Nat.beq_refl, k1, hK_sI, e]
theorem ask_hom {h : Hp} (H : HOM h) : QRY h (FX11_ask [vR (some 0)]) (FX12_ask [vR (some 147)]) := by
  obtain ⟨k0, k1, k2, k3⟩ := H
  have e : hI (sI h 147 0 0) 147 27 = 0 := by rw [hI_slot _ _ _ _ (by decide)]; exact k2
  refine QRY.id (res := -1) ?_ ?_
  · rw [tX11_ask]; simp only [oB_some, dR_some, cond_true, cond_false, if_true, if_false, Bool.true_and, Bool.and_true, Nat.beq_refl, k0, k3, ne10]
  · rw [tX12_ask]; simp only [oB_some, dR_some, cond_true, cond_false, if_true, if_false, Bool.true_and, Bool.and_true, Nat.beq_refl, k1, hK_sI, e]
theorem test_hom {h : Hp} (H : HOM h) (y0 y1 : Int32) : QRY h (FX11_test [vR (some 0), vI y0, vI y1]) (FX12_test [vR (some 147), vI y0, vI y1]) := by
  obtain ⟨k0, k1, k2, k3⟩ := H
  have e : hI (sI h 147 0 0) 147 27 = 0 := by rw [hI_slot _ _ _ _ (by decide)]; exact k2
  refine QRY.id (res := -1) ?_ ?_
  · rw [tX11_test]; simp only [oB_some, dR_some, cond_true, cond_false, if_true, if_false, Bool.true_and, Bool.and_true, Nat.beq_refl, k0, k3, ne10]
  · rw [tX12_test]; simp only [oB_some, dR_some, cond_true, cond_false, if_true, if_false, Bool.true_and, Bool.and_true, Nat.beq_refl, k1, hK_sI, e]
theorem sign_hom {h : Hp} (H : HOM h) (y0 y1 y2 : Int32) : QRY h (FX11_sign [vR (some 0), vI y0, vI y1, vI y2]) (FX12_sign [vR (some 147), vI y0, vI y1, vI y2]) := by
  obtain ⟨k0, k1, k2, k3⟩ := H
  have e : hI (sI h 147 0 0) 147 27 = 0 := by rw [hI_slot _ _ _ _ (by decide)]; exact k2
  refine QRY.id (res := -1) ?_ ?_
  · rw [tX11_sign]; simp only [oB_some, dR_some, cond_true, cond_false, if_true, if_false, Bool.true_and, Bool.and_true, Nat.beq_refl, k0, k3, ne10]
  · rw [tX12_sign]; simp only [oB_some, dR_some, cond_true, cond_false, if_true, if_false, Bool.true_and, Bool.and_true, Nat.beq_refl, k1, hK_sI, e]
