/-! ===== PURE: text of a plan, the call in one heap ===== -/
theorem tx_137e {g : Hp} {pc : Nat} {o1 o2 : Option EV} (hp : pc < 4) (M1 : hK g 147 = 12) (R1 : hR g 147 25 = some 159) (R2 : hK g 159 = 20) (R3 : hE g 159 = 5) (e30 : hI g 147 30 = nI pc) : Run kX12_text 137 [some (vR (some 147)), o1, o2, some (vI (nI 48))] [] g = some (rI (nI pc), sI (sI g 159 pc (hI g 159 4)) 147 30 (nI (pc + 1))) := by
  have b1 : inb 4 5 = true := by decide
  have b2 : inb (nI pc) 5 = true := inb_nI (by omega) (by omega)
  have l1 : Int32.toNatClampNeg 4 = 4 := by decide
  have l2 : (nI pc).toNatClampNeg = pc := nI_clamp (by omega)
  have e3 : hI (sI g 159 pc (hI g 159 4)) 147 30 = nI pc := by rw [hI_oth _ _ _ _ _ (by decide)]; exact e30
  have e4 : nI (pc + 1) - 1 = nI pc := nI_p1 pc
  rw [tX12_text_137, if_pos (by decide)]
  simp only [oB_some, dR_some, cond_true, cond_false, if_true, if_false, Bool.true_and, Bool.and_true, Nat.beq_refl, hK_sI, M1, R1, R2, R3, iaK20, b1, b2, l1, l2, e30, e3, nI_1, hI_same, e4]
theorem tx_137 {g : Hp} {pc : Nat} {u : Nat → Int32} (hp : pc < 4) (M1 : hK g 147 = 12) (R1 : hR g 147 24 = some 158) (R2 : hK g 158 = 20) (R3 : hE g 158 = 240) (S1 : hR g 147 25 = some 159) (S2 : hK g 159 = 20) (S3 : hE g 159 = 5) (e30 : hI g 147 30 = nI pc) : ∀ k i r o1 o2, i + k = 48 → (∀ j, j < 48 → r (192 + j) = u j) → Run kX12_text 137 [some (vR (some 147)), o1, o2, some (vI (nI i))] [] (wA g 158 r) = some (rI (nI pc), sI (sI (wA g 158 (fil u (48 * pc) k i r)) 159 pc (hI g 159 4)) 147 30 (nI (pc + 1))) := by
  intro k
  induction k with
  | zero =>
    intro i r o1 o2 hi e
    have : i = 48 := by omega
    subst this
    have := tx_137e (g := wA g 158 r) (o1 := o1) (o2 := o2) hp M1 S1 S2 S3 (by rw [wA_O _ _ (by decide)]; exact e30)
    rw [wA_O _ _ (show 159 ≠ 158 by decide)] at this
    exact this
  | succ k ih =>
    intro i r o1 o2 hi e
    have c0 : ¬ (48 : Int32) ≤ nI i := by rw [show (48 : Int32) = nI 48 from rfl, nI_nle' (by omega) (by omega)]; omega
    have e1 : (192 : Int32) + nI i = nI (192 + i) := nI_add 192 i
    have e2 : (48 : Int32) * nI pc + nI i = nI (48 * pc + i) := by rw [show (48 : Int32) = nI 48 from rfl, nI_mulN, nI_add]
    have b1 : inb (nI (192 + i)) 240 = true := inb_nI (by omega) (by omega)
    have b2 : inb (nI (48 * pc + i)) 240 = true := inb_nI (by omega) (by omega)
    have l1 : (nI (192 + i)).toNatClampNeg = 192 + i := nI_clamp (by omega)
    have l2 : (nI (48 * pc + i)).toNatClampNeg = 48 * pc + i := nI_clamp (by omega)
    have w30 : hI (wA g 158 r) 147 30 = nI pc := by rw [wA_O _ _ (by decide)]; exact e30
    have ih' := ih (i + 1) (up1 r (48 * pc + i) (u i)) none none (by omega) (fun j hj => by rw [up1_o _ _ (by omega)]; exact e j hj)
    rw [tX12_text_137, if_neg c0]
    simp only [oB_some, dR_some, cond_true, cond_false, if_true, if_false, Bool.true_and, Bool.and_true, Nat.beq_refl, wA_K, wA_E, wA_R, M1, R1, R2, R3, iaK20, e1, e2, b1, b2, l1, l2, w30, wA_I, e i (by omega), sI_ws, nI_1]
    exact ih'
theorem text_c2 {h h1 : Hp} {pc : Nat} {w : Int32} (K0 : hK h 0 = 11) (R00 : hR h 0 0 = some 1) (L : PLl h) (N : hI h 0 17 = nI pc) (hp : pc < 4) (e : FX6_readFrom [vR (some 1), vR (some (139 + 2 * pc))] h = some (rI w, h1)) (k0 : hK h1 0 = 11) (k1 : hK h1 1 = 9) (r00 : hR h1 0 0 = some 1) (e17 : hI h1 0 17 = nI pc) :
    FX11_text [vR (some 0), vI 2] h = if w = -1 then some (rI (nI pc), sI (sI h1 0 17 (nI (pc + 1))) 1 1 0) else some (rI (-1), h1) := by
  obtain ⟨⟨a1, a2, a3⟩, a4, _⟩ := L
  have c4 : ¬ Int32.ofNat 4 ≤ nI pc := by
    show ¬ nI 4 ≤ nI pc
    rw [nI_nle' (by omega) (by omega)]; omega
  have b2 : inb (nI pc) 4 = true := inb_nI (by omega) (by omega)
  have l2 : (nI pc).toNatClampNeg = pc := nI_clamp (by omega)
  have q1 := (a4 pc (by omega)).1
  have e3 : nI (pc + 1) - 1 = nI pc := nI_p1 pc
  have t : FX11_tellPlan [vR (some 0)] h = if w = -1 then some (rI (nI pc), sI (sI h1 0 17 (nI (pc + 1))) 1 1 0) else some (rI (-1), h1) := by
    rw [tX11_tellPlan]
    simp only [oB_some, dR_some, cond_true, cond_false, if_true, if_false, Bool.true_and, Bool.and_true, Nat.beq_refl, K0, a1, a2, a3, show alK 36 = true from rfl, N, c4, b2, l2, R00, q1, e]
    by_cases c : w = -1
    · rw [if_pos c, if_pos c]
      simp only [oB_some, dR_some, cond_true, cond_false, if_true, if_false, Bool.true_and, Bool.and_true, Nat.beq_refl, hK_sI, hR_sI, k0, k1, r00, e17, nI_1, hI_same, hI_oth _ _ _ _ _ (show (0 : Nat) ≠ 1 by decide), e3]
    · rw [if_neg c, if_neg c]
  rw [tX11_text]
  simp only [oB_some, dR_some, cond_true, cond_false, if_true, if_false, Bool.true_and, Bool.and_true, Nat.beq_refl, K0, show ¬ (2 : Int32) = 0 by decide, show ¬ (2 : Int32) = 1 by decide, t]
  by_cases c : w = -1
  · rw [if_pos c]; rfl
  · rw [if_neg c]; rfl
theorem text_full2 {h : Hp} (K0 : hK h 0 = 11) (M0 : hK h 147 = 12) (L : PLl h) (N : hI h 0 17 = nI 4) (N2 : hI h 147 30 = nI 4) : QRY h (FX11_text [vR (some 0), vI 2]) (FX12_text [vR (some 147), vI 2]) := by
  obtain ⟨⟨a1, a2, a3⟩, a4, _⟩ := L
  have e : hI (sI h 147 0 0) 147 30 = 4 := by rw [hI_slot _ _ _ _ (by decide)]; exact N2
  refine QRY.id (res := -1) ?_ ?_
  · rw [tX11_text, tX11_tellPlan]
    simp only [oB_some, dR_some, cond_true, cond_false, if_true, if_false, Bool.true_and, Bool.and_true, Nat.beq_refl, K0, a1, a2, a3, show alK 36 = true from rfl, N, show Int32.ofNat 4 ≤ nI 4 by decide, show ¬ (2 : Int32) = 0 by decide, show ¬ (2 : Int32) = 1 by decide]
  · rw [tX12_text]
    simp only [oB_some, dR_some, cond_true, cond_false, if_true, if_false, Bool.true_and, Bool.and_true, Nat.beq_refl, M0, hK_sI, isIn_02, show ¬ (2 : Int32) < 0 by decide, show ¬ (2 : Int32) < 2 by decide, show ¬ (1 : Int32) = 0 by decide, show ¬ (2 : Int32) = 1 by decide, e]
theorem text_m2 {g h5 : Hp} {pc : Nat} {w : Int32} (hp : pc < 4) (M0 : hK g 147 = 12) (e30 : hI g 147 30 = nI pc) (k5 : hK h5 147 = 12) (e : FX12_fault [vR (some 147), vI 2] (sI g 147 0 0) = some (rI w, h5)) :
    FX12_text [vR (some 147), vI 2] g = if w = -1 then Run kX12_text 137 [some (vR (some 147)), some (vI 2), some (vI (hI h5 147 6)), some (vI 0)] [] (sI h5 147 6 0) else some (rI (-1), h5) := by
  have e1 : ¬ hI (sI g 147 0 0) 147 30 = 4 := by
    rw [hI_slot _ _ _ _ (by decide), e30, show (4 : Int32) = nI 4 from rfl, nI_neq' (by omega) (by omega)]; omega
  rw [tX12_text]
  simp only [oB_some, dR_some, cond_true, cond_false, if_true, if_false, Bool.true_and, Bool.and_true, Nat.beq_refl, M0, hK_sI, isIn_02, show ¬ (2 : Int32) < 0 by decide, show ¬ (2 : Int32) < 2 by decide, show ¬ (1 : Int32) = 0 by decide, show ¬ (2 : Int32) = 1 by decide, e1, e, k5]
