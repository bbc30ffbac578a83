/-! ===== PURE: before a house was told: questions by both ===== -/
/-- no house was told -/
def HOM (h : Hp) : Prop := hK h 0 = 11 ∧ hK h 147 = 12 ∧ hI h 147 27 = 0 ∧ FX11_homeless [vR (some 0)] h = some (rI 1, h)
theorem le00 : (0 : Int32) ≤ 0 := by decide
theorem rule_hom {h : Hp} (H : HOM h) (y0 : Int32) : QRY h (FX11_rule [vR (some 0), vI y0]) (FX12_rule [vR (some 147), vI y0]) := by
  obtain ⟨k0, k1, k2, k3⟩ := H
  have e : hI (sI h 147 0 0) 147 27 = 0 := by rw [hI_slot _ _ _ _ (by decide)]; exact k2
  refine QRY.id (res := -1) ?_ ?_
  · rw [tX11_rule]; simp only [oB_some, dR_some, cond_true, cond_false, if_true, if_false, Bool.true_and, Bool.and_true, Nat.beq_refl, k0, k3, ne10, isZ0]
  · rw [tX12_rule]; simp only [oB_some, dR_some, cond_true, cond_false, if_true, if_false, Bool.true_and, Bool.and_true, Nat.beq_refl, k1, hK_sI, e, le00, isZ0]
theorem odds_hom {h : Hp} (H : HOM h) (y0 y1 : Int32) : QRY h (FX11_odds [vR (some 0), vI y0, vI y1]) (FX12_odds [vR (some 147), vI y0, vI y1]) := by
  obtain ⟨k0, k1, k2, k3⟩ := H
  have e : hI (sI h 147 0 0) 147 27 = 0 := by rw [hI_slot _ _ _ _ (by decide)]; exact k2
  refine QRY.id (res := -1) ?_ ?_
  · rw [tX11_odds]; simp only [oB_some, dR_some, cond_true, cond_false, if_true, if_false, Bool.true_and, Bool.and_true, Nat.beq_refl, k0, k3, ne10, isZ0]
  · rw [tX12_odds]; simp only [oB_some, dR_some, cond_true, cond_false, if_true, if_false, Bool.true_and, Bool.and_true, Nat.beq_refl, k1, hK_sI, e, le00, isZ0]
theorem game_hom {h : Hp} (H : HOM h) (y0 y1 y2 : Int32) : QRY h (FX11_game [vR (some 0), vI y0, vI y1, vI y2]) (FX12_game [vR (some 147), vI y0, vI y1, vI y2]) := by
  obtain ⟨k0, k1, k2, k3⟩ := H
  have e : hI (sI h 147 0 0) 147 27 = 0 := by rw [hI_slot _ _ _ _ (by decide)]; exact k2
  refine QRY.id (res := -1000000) ?_ ?_
  · rw [tX11_game]; simp only [oB_some, dR_some, cond_true, cond_false, if_true, if_false, Bool.true_and, Bool.and_true, Nat.beq_refl, k0, k3, ne10, isZ0]
  · rw [tX12_game]; simp only [oB_some, dR_some, cond_true, cond_false, if_true, if_false, Bool.true_and, Bool.and_true, Nat.beq_refl, k1, hK_sI, e, le00, isZ0]
theorem rests_hom {h : Hp} (H : HOM h) (y0 : Int32) : QRY h (FX11_rests [vR (some 0), vI y0]) (FX12_rests [vR (some 147), vI y0]) := by
  obtain ⟨k0, k1, k2, k3⟩ := H
  have e : hI (sI h 147 0 0) 147 27 = 0 := by rw [hI_slot _ _ _ _ (by decide)]; exact k2
  refine QRY.id (res := -1) ?_ ?_
  · rw [tX11_rests]; simp only [oB_some, dR_some, cond_true, cond_false, if_true, if_false, Bool.true_and, Bool.and_true, Nat.beq_refl, k0, k3, ne10, isZ0]
  · rw [tX12_rests]; simp only [oB_some, dR_some, cond_true, cond_false, if_true, if_false, Bool.true_and, Bool.and_true, Nat.beq_refl, k1, hK_sI, e, le00, isZ0]
theorem pieces_hom {h : Hp} (H : HOM h) (y0 : Int32) : QRY h (FX11_pieces [vR (some 0), vI y0]) (FX12_pieces [vR (some 147), vI y0]) := by
  obtain ⟨k0, k1, k2, k3⟩ := H
  have e : hI (sI h 147 0 0) 147 27 = 0 := by rw [hI_slot _ _ _ _ (by decide)]; exact k2
  refine QRY.id (res := -1000000) ?_ ?_
  · rw [tX11_pieces]; simp only [oB_some, dR_some, cond_true, cond_false, if_true, if_false, Bool.true_and, Bool.and_true, Nat.beq_refl, k0, k3, ne10, isZ0]
  · rw [tX12_pieces]; simp only [oB_some, dR_some, cond_true, cond_false, if_true, if_false, Bool.true_and, Bool.and_true, Nat.beq_refl, k1, hK_sI, e, le00, isZ0]
theorem moon_hom {h : Hp} (H : HOM h) : QRY h (FX11_moon [vR (some 0)]) (FX12_moon [vR (some 147)]) := by
  obtain ⟨k0, k1, k2, k3⟩ := H
  have e : hI (sI h 147 0 0) 147 27 = 0 := by rw [hI_slot _ _ _ _ (by decide)]; exact k2
  refine QRY.id (res := -1) ?_ ?_
  · rw [tX11_moon]; simp only [oB_some, dR_some, cond_true, cond_false, if_true, if_false, Bool.true_and, Bool.and_true, Nat.beq_refl, k0, k3, ne10, isZ0]
  · rw [tX12_moon]; simp only [oB_some, dR_some, cond_true, cond_false, if_true, if_false, Bool.true_and, Bool.and_true, Nat.beq_refl, k1, hK_sI, e, le00, isZ0]
theorem owed_hom {h : Hp} (H : HOM h) (y0 : Int32) : QRY h (FX11_owed [vR (some 0), vI y0]) (FX12_owed [vR (some 147), vI y0]) := by
  obtain ⟨k0, k1, k2, k3⟩ := H
  have e : hI (sI h 147 0 0) 147 27 = 0 := by rw [hI_slot _ _ _ _ (by decide)]; exact k2
  refine QRY.id (res := -1000000) ?_ ?_
  · rw [tX11_owed]; simp only [oB_some, dR_some, cond_true, cond_false, if_true, if_false, Bool.true_and, Bool.and_true, Nat.beq_refl, k0, k3, ne10, isZ0]
  · rw [tX12_owed]; simp only [oB_some, dR_some, cond_true, cond_false, if_true, if_false, Bool.true_and, Bool.and_true, Nat.beq_refl, k1, hK_sI, e, le00, isZ0]
theorem paying_hom {h : Hp} (H : HOM h) (y0 : Int32) : QRY h (FX11_paying [vR (some 0), vI y0]) (FX12_paying [vR (some 147), vI y0]) := by
  obtain ⟨k0, k1, k2, k3⟩ := H
  have e : hI (sI h 147 0 0) 147 27 = 0 := by rw [hI_slot _ _ _ _ (by decide)]; exact k2
  refine QRY.id (res := -1) ?_ ?_
  · rw [tX11_paying]; simp only [oB_some, dR_some, cond_true, cond_false, if_true, if_false, Bool.true_and, Bool.and_true, Nat.beq_refl, k0, k3, ne10, isZ0]
  · rw [tX12_paying]; simp only [oB_some, dR_some, cond_true, cond_false, if_true, if_false, Bool.true_and, Bool.and_true, Nat.beq_refl, k1, hK_sI, e, le00, isZ0]
theorem stands_hom {h : Hp} (H : HOM h) : QRY h (FX11_stands [vR (some 0)]) (FX12_stands [vR (some 147)]) := by
  obtain ⟨k0, k1, k2, k3⟩ := H
  have e : hI (sI h 147 0 0) 147 27 = 0 := by rw [hI_slot _ _ _ _ (by decide)]; exact k2
  refine QRY.id (res := -1) ?_ ?_
  · rw [tX11_stands]; simp only [oB_some, dR_some, cond_true, cond_false, if_true, if_false, Bool.true_and, Bool.and_true, Nat.beq_refl, k0, k3, ne10, isZ0]
  · rw [tX12_stands]; simp only [oB_some, dR_some, cond_true, cond_false, if_true, if_false, Bool.true_and, Bool.and_true, Nat.beq_refl, k1, hK_sI, e, le00, isZ0]
theorem bears_hom {h : Hp} (H : HOM h) (y0 : Int32) : QRY h (FX11_bears [vR (some 0), vI y0]) (FX12_bears [vR (some 147), vI y0]) := by
  obtain ⟨k0, k1, k2, k3⟩ := H
  have e : hI (sI h 147 0 0) 147 27 = 0 := by rw [hI_slot _ _ _ _ (by decide)]; exact k2
  refine QRY.id (res := -1) ?_ ?_
  · rw [tX11_bears]; simp only [oB_some, dR_some, cond_true, cond_false, if_true, if_false, Bool.true_and, Bool.and_true, Nat.beq_refl, k0, k3, ne10, isZ0]
  · rw [tX12_bears]; simp only [oB_some, dR_some, cond_true, cond_false, if_true, if_false, Bool.true_and, Bool.and_true, Nat.beq_refl, k1, hK_sI, e, le00, isZ0]
theorem weaving_hom {h : Hp} (H : HOM h) (y0 y1 y2 : Int32) : QRY h (FX11_weaving [vR (some 0), vI y0, vI y1, vI y2]) (FX12_weaving [vR (some 147), vI y0, vI y1, vI y2]) := by
  obtain ⟨k0, k1, k2, k3⟩ := H
  have e : hI (sI h 147 0 0) 147 27 = 0 := by rw [hI_slot _ _ _ _ (by decide)]; exact k2
  refine QRY.id (res := -1) ?_ ?_
  · rw [tX11_weaving]; simp only [oB_some, dR_some, cond_true, cond_false, if_true, if_false, Bool.true_and, Bool.and_true, Nat.beq_refl, k0, k3, ne10, isZ0]
  · rw [tX12_weaving]; simp only [oB_some, dR_some, cond_true, cond_false, if_true, if_false, Bool.true_and, Bool.and_true, Nat.beq_refl, k1, hK_sI, e, le00, isZ0]
theorem market_hom {h : Hp} (H : HOM h) (y0 : Int32) : QRY h (FX11_market [vR (some 0), vI y0]) (FX12_market [vR (some 147), vI y0]) := by
  obtain ⟨k0, k1, k2, k3⟩ := H
  have e : hI (sI h 147 0 0) 147 27 = 0 := by rw [hI_slot _ _ _ _ (by decide)]; exact k2
  refine QRY.id (res := -1) ?_ ?_
  · rw [tX11_market]; simp only [oB_some, dR_some, cond_true, cond_false, if_true, if_false, Bool.true_and, Bool.and_true, Nat.beq_refl, k0, k3, ne10, isZ0]
  · rw [tX12_market]; simp only [oB_some, dR_some, cond_true, cond_false, if_true, if_false, Bool.true_and, Bool.and_true, Nat.beq_refl, k1, hK_sI, e, le00, isZ0]
theorem ring_hom {h : Hp} (H : HOM h) (y0 : Int32) : QRY h (FX11_ring [vR (some 0), vI y0]) (FX12_ring [vR (some 147), vI y0]) := by
  obtain ⟨k0, k1, k2, k3⟩ := H
  have e : hI (sI h 147 0 0) 147 27 = 0 := by rw [hI_slot _ _ _ _ (by decide)]; exact k2
  refine QRY.id (res := -1) ?_ ?_
  · rw [tX11_ring]; simp only [oB_some, dR_some, cond_true, cond_false, if_true, if_false, Bool.true_and, Bool.and_true, Nat.beq_refl, k0, k3, ne10, isZ0]
  · rw [tX12_ring]; simp only [oB_some, dR_some, cond_true, cond_false, if_true, if_false, Bool.true_and, Bool.and_true, Nat.beq_refl, k1, hK_sI, e, le00, isZ0]
theorem soonest_hom {h : Hp} (H : HOM h) (y0 : Int32) : QRY h (FX11_soonest [vR (some 0), vI y0]) (FX12_soonest [vR (some 147), vI y0]) := by
  obtain ⟨k0, k1, k2, k3⟩ := H
  have e : hI (sI h 147 0 0) 147 27 = 0 := by rw [hI_slot _ _ _ _ (by decide)]; exact k2
  refine QRY.id (res := -1) ?_ ?_
  · rw [tX11_soonest]; simp only [oB_some, dR_some, cond_true, cond_false, if_true, if_false, Bool.true_and, Bool.and_true, Nat.beq_refl, k0, k3, ne10, isZ0]
  · rw [tX12_soonest]; simp only [oB_some, dR_some, cond_true, cond_false, if_true, if_false, Bool.true_and, Bool.and_true, Nat.beq_refl, k1, hK_sI, e, le00, isZ0]
theorem give_hom {h : Hp} (H : HOM h) (y0 : Int32) : QRY h (FX11_give [vR (some 0), vI y0]) (FX12_give [vR (some 147), vI y0]) := by
  obtain ⟨k0, k1, k2, k3⟩ := H
  have e : hI (sI h 147 0 0) 147 27 = 0 := by rw [hI_slot _ _ _ _ (by decide)]; exact k2
  refine QRY.id (res := -1) ?_ ?_
  · rw [tX11_give]; simp only [oB_some, dR_some, cond_true, cond_false, if_true, if_false, Bool.true_and, Bool.and_true, Nat.beq_refl, k0, k3, ne10, isZ0]
  · rw [tX12_give]; simp only [oB_some, dR_some, cond_true, cond_false, if_true, if_false, Bool.true_and, Bool.and_true, Nat.beq_refl, k1, hK_sI, e, le00, isZ0]
theorem iron_hom {h : Hp} (H : HOM h) (y0 : Int32) : QRY h (FX11_iron [vR (some 0), vI y0]) (FX12_iron [vR (some 147), vI y0]) := by
  obtain ⟨k0, k1, k2, k3⟩ := H
  have e : hI (sI h 147 0 0) 147 27 = 0 := by rw [hI_slot _ _ _ _ (by decide)]; exact k2
  refine QRY.id (res := 0) ?_ ?_
  · rw [tX11_iron]; simp only [oB_some, dR_some, cond_true, cond_false, if_true, if_false, Bool.true_and, Bool.and_true, Nat.beq_refl, k0, k3, ne10, isZ0]
  · rw [tX12_iron]; simp only [oB_some, dR_some, cond_true, cond_false, if_true, if_false, Bool.true_and, Bool.and_true, Nat.beq_refl, k1, hK_sI, e, le00, isZ0]
