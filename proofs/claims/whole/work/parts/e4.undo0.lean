/-! ===== PURE: undo where nothing is past ===== -/
theorem undo_none {h : Hp} (k0 : hK h 0 = 11) (r4 : hR h 0 4 = some 14) (r2 : hR h 0 2 = some 10) (k14 : hK h 14 = 5) (k1 : hK h 147 = 12) (e1 : hI h 14 2 = 0) (e2 : hI h 147 37 = 0) : QRY h (FX11_undo [vR (some 0)]) (FX12_undo [vR (some 147)]) := by
  have e : hI (sI h 147 0 0) 147 37 = 0 := by rw [hI_slot _ _ _ _ (by decide)]; exact e2
  have b : FX5_takeBack [vR (some 14), vR (some 10)] h = some (rI (-1), h) := by
    rw [tX5_takeBack]; simp only [oB_some, dR_some, cond_true, cond_false, if_true, if_false, Bool.true_and, Bool.and_true, Nat.beq_refl, k14, e1, show ¬ (0 : Int32) < 0 from by decide]
  refine QRY.id (res := -1) ?_ ?_
  · rw [tX11_undo]; simp only [oB_some, dR_some, cond_true, cond_false, if_true, if_false, Bool.true_and, Bool.and_true, Nat.beq_refl, k0, r4, r2, k14, b]
  · rw [tX12_undo]; simp only [oB_some, dR_some, cond_true, cond_false, if_true, if_false, Bool.true_and, Bool.and_true, Nat.beq_refl, k1, hK_sI, e]
