/-! ===== PURE: a week in the reference ===== -/
noncomputable def lgY (q1 : Option Nat) (x2 : Int32) (h : Hp) : Option (RV × Hp) := dR (q1) (fun a8 => bif iaK (hK h a8) && inb 200 (hE h a8) then dR (q1) (fun a9 => bif Nat.beq (hK h a9) 20 && inb (201 + (3 * (hI h a8 (Int32.toNatClampNeg 200)))) (hE h a9) then oB (some (rV, sI h a9 (Int32.toNatClampNeg (201 + (3 * (hI h a8 (Int32.toNatClampNeg 200))))) x2)) (fun _ h10 => dR (q1) (fun a11 => bif iaK (hK h10 a11) && inb 4 (hE h10 a11) then dR (q1) (fun a12 => bif Nat.beq (hK h10 a12) 20 && inb ((201 + (3 * (hI h a8 (Int32.toNatClampNeg 200)))) + 1) (hE h10 a12) then oB (some (rV, sI h10 a12 (Int32.toNatClampNeg ((201 + (3 * (hI h a8 (Int32.toNatClampNeg 200)))) + 1)) (hI h10 a11 (Int32.toNatClampNeg 4)))) (fun _ h13 => dR (q1) (fun a14 => bif iaK (hK h13 a14) && inb 0 (hE h13 a14) then dR (q1) (fun a15 => bif Nat.beq (hK h13 a15) 20 && inb ((201 + (3 * (hI h a8 (Int32.toNatClampNeg 200)))) + 2) (hE h13 a15) then oB (some (rV, sI h13 a15 (Int32.toNatClampNeg ((201 + (3 * (hI h a8 (Int32.toNatClampNeg 200)))) + 2)) (hI h13 a14 (Int32.toNatClampNeg 0)))) (fun _ h16 => dR (q1) (fun a17 => bif iaK (hK h16 a17) && inb 200 (hE h16 a17) then dR (q1) (fun a18 => bif Nat.beq (hK h16 a18) 20 && inb 200 (hE h16 a18) then oB (some (rV, sI h16 a18 (Int32.toNatClampNeg 200) ((hI h16 a17 (Int32.toNatClampNeg 200)) + 1))) (fun _ h19 => some (rV, h19)) else none) else none)) else none) else none)) else none) else none)) else none) else none)
noncomputable def lgX (a : Nat) (q1 : Option Nat) (x2 : Int32) (h : Hp) : Option (RV × Hp) := dR (q1) (fun a7 => bif iaK (hK h a7) && inb 200 (hE h a7) then if (hI h a7 (Int32.toNatClampNeg 200)) = 60 then Run kX12_goWeek 123 [some (vR (some a)), some (vR (q1)), some (vI (x2)), some (vI (1))] [] h else lgY q1 x2 h else none)
theorem gw50 (a : Nat) (q1 : Option Nat) (x2 : Int32) (o3 : Option EV) (h : Hp) : Run kX12_goWeek 50 [some (vR (some a)), some (vR (q1)), some (vI (x2)), o3] [] h = dR (q1) (fun a1 => bif iaK (hK h a1) && inb 1 (hE h a1) then if (hI h a1 (Int32.toNatClampNeg 1)) = 0 then if x2 = 3 then dR (q1) (fun a2 => bif Nat.beq (hK h a2) 20 && inb 1 (hE h a2) then oB (some (rV, sI h a2 (Int32.toNatClampNeg 1) 1)) (fun _ h3 => dR (q1) (fun a4 => bif iaK (hK h3 a4) && inb 7 (hE h3 a4) then dR (q1) (fun a5 => bif Nat.beq (hK h3 a5) 20 && inb 7 (hE h3 a5) then oB (some (rV, sI h3 a5 (Int32.toNatClampNeg 7) ((hI h3 a4 (Int32.toNatClampNeg 7)) + 1))) (fun _ h6 => lgX a q1 x2 h6) else none) else none)) else none) else dR (q1) (fun a20 => bif iaK (hK h a20) && inb 2 (hE h a20) then if hK h a = 12 then dR (hR h a 18) (fun a21 => bif iaK (hK h a21) && inb 6 (hE h a21) then if (hI h a20 (Int32.toNatClampNeg 2)) < (hI h a21 (Int32.toNatClampNeg 6)) then if hK h a = 12 then dR (hR h a 18) (fun a22 => bif iaK (hK h a22) && inb 1 (hE h a22) then dR (q1) (fun a23 => bif iaK (hK h a23) && inb 0 (hE h a23) then if hK h a = 12 then dR (hR h a 18) (fun a24 => bif iaK (hK h a24) && inb 2 (hE h a24) then dR (q1) (fun a25 => bif Nat.beq (hK h a25) 20 && inb 0 (hE h a25) then oB (some (rV, sI h a25 (Int32.toNatClampNeg 0) (if ((hI h a23 (Int32.toNatClampNeg 0)) + (hI h a24 (Int32.toNatClampNeg 2))) < (hI h a22 (Int32.toNatClampNeg 1)) then ((hI h a23 (Int32.toNatClampNeg 0)) + (hI h a24 (Int32.toNatClampNeg 2))) else (hI h a22 (Int32.toNatClampNeg 1))))) (fun _ h26 => dR (q1) (fun a27 => bif iaK (hK h26 a27) && inb 7 (hE h26 a27) then dR (q1) (fun a28 => bif Nat.beq (hK h26 a28) 20 && inb 7 (hE h26 a28) then oB (some (rV, sI h26 a28 (Int32.toNatClampNeg 7) ((hI h26 a27 (Int32.toNatClampNeg 7)) + 1))) (fun _ h29 => lgX a q1 x2 h29) else none) else none)) else none) else none) else none else none) else none) else none else dR (q1) (fun a43 => bif Nat.beq (hK h a43) 20 && inb 1 (hE h a43) then oB (some (rV, sI h a43 (Int32.toNatClampNeg 1) 1)) (fun _ h44 => dR (q1) (fun a45 => bif iaK (hK h44 a45) && inb 7 (hE h44 a45) then dR (q1) (fun a46 => bif Nat.beq (hK h44 a46) 20 && inb 7 (hE h44 a46) then oB (some (rV, sI h44 a46 (Int32.toNatClampNeg 7) ((hI h44 a45 (Int32.toNatClampNeg 7)) + 1))) (fun _ h47 => lgX a q1 x2 h47) else none) else none)) else none) else none) else none else none) else dR (q1) (fun a61 => bif iaK (hK h a61) && inb 7 (hE h a61) then dR (q1) (fun a62 => bif Nat.beq (hK h a62) 20 && inb 7 (hE h a62) then oB (some (rV, sI h a62 (Int32.toNatClampNeg 7) ((hI h a61 (Int32.toNatClampNeg 7)) + 1))) (fun _ h63 => lgX a q1 x2 h63) else none) else none) else none) := tX12_goWeek_50 a q1 x2 o3 h
theorem gw123 (o0 : Option EV) (q1 : Option Nat) (x2 : Int32) (x3 : Int32) (h : Hp) : Run kX12_goWeek 123 [o0, some (vR (q1)), some (vI (x2)), some (vI (x3))] [] h = if (177 : Int32) < x3 then dR (q1) (fun a1 => bif iaK (hK h a1) && inb 200 (hE h a1) then dR (q1) (fun a2 => bif Nat.beq (hK h a2) 20 && inb 200 (hE h a2) then oB (some (rV, sI h a2 (Int32.toNatClampNeg 200) ((hI h a1 (Int32.toNatClampNeg 200)) - 1))) (fun _ h3 => lgY q1 x2 h3) else none) else none) else dR (q1) (fun a16 => bif iaK (hK h a16) && inb ((200 + x3) + 3) (hE h a16) then dR (q1) (fun a17 => bif Nat.beq (hK h a17) 20 && inb (200 + x3) (hE h a17) then oB (some (rV, sI h a17 (Int32.toNatClampNeg (200 + x3)) (hI h a16 (Int32.toNatClampNeg ((200 + x3) + 3))))) (fun _ h18 => Run kX12_goWeek 123 [none, some (vR (q1)), some (vI (x2)), some (vI ((x3 + 1)))] [] h18) else none) else none) := tX12_goWeek_123 o0 q1 x2 x3 h
/-- a page of the log -/
def lgP (w : Nat → Nat) (dd : Nat) : Nat → Nat := up1 (up1 (up1 (up1 w (201 + 3 * w 200) dd) (201 + 3 * w 200 + 1) (w 4)) (201 + 3 * w 200 + 2) (w 0)) 200 (w 200 + 1)
theorem lgY_sp {h : Hp} {o dd : Nat} {w : Nat → Nat} (L : RLo h o) (h2 : w 200 < 60) : lgY (some o) (nI dd) (RN h o w) = some (rV, RN h o (lgP w dd)) := by
  obtain ⟨L1, L2, _⟩ := L
  have e0 : (3 : Int32) * nI (w 200) = nI (3 * w 200) := pk_mul 3 _
  have e1 : (201 : Int32) + nI (3 * w 200) = nI (201 + 3 * w 200) := nI_add 201 _
  have e2 : nI (201 + 3 * w 200) + 1 = nI (201 + 3 * w 200 + 1) := nI_1 _
  have e3 : nI (201 + 3 * w 200) + 2 = nI (201 + 3 * w 200 + 2) := nI_add _ 2
  have b1 : inb (nI (201 + 3 * w 200)) 381 = true := inb_nI (by omega) (by omega)
  have b2 : inb (nI (201 + 3 * w 200 + 1)) 381 = true := inb_nI (by omega) (by omega)
  have b3 : inb (nI (201 + 3 * w 200 + 2)) 381 = true := inb_nI (by omega) (by omega)
  have k1 : (nI (201 + 3 * w 200)).toNatClampNeg = 201 + 3 * w 200 := nI_clamp (by omega)
  have k2 : (nI (201 + 3 * w 200 + 1)).toNatClampNeg = 201 + 3 * w 200 + 1 := nI_clamp (by omega)
  have k3 : (nI (201 + 3 * w 200 + 2)).toNatClampNeg = 201 + 3 * w 200 + 2 := nI_clamp (by omega)
  have a4 : up1 w (201 + 3 * w 200) dd 4 = w 4 := up1_o _ _ (by omega)
  have a0 : up1 (up1 w (201 + 3 * w 200) dd) (201 + 3 * w 200 + 1) (w 4) 0 = w 0 := by rw [up1_o _ _ (by omega), up1_o _ _ (by omega)]
  have a2 : up1 (up1 (up1 w (201 + 3 * w 200) dd) (201 + 3 * w 200 + 1) (w 4)) (201 + 3 * w 200 + 2) (w 0) 200 = w 200 := by rw [up1_o _ _ (by omega), up1_o _ _ (by omega), up1_o _ _ (by omega)]
  unfold lgY
  simp only [oB_some, dR_some, cond_true, cond_false, if_true, if_false, Bool.true_and, Bool.and_true, Nat.beq_refl, RN_K, RN_E, L1, L2, iaK20, ib200, tc200, ib4, tc4, ib0, tc0, RN_a, e0, e1, e2, e3, b1, b2, b3, k1, k2, k3, RN_w, a4, a0, a2, nI_1]
  rfl
/-- the log with its eldest page gone -/
def sh (w : Nat → Nat) (i : Nat) : Nat → Nat := fun k => if 201 ≤ k ∧ k < 200 + i then w (k + 3) else w k
def shF (w : Nat → Nat) : Nat → Nat := up1 (sh w 178) 200 59
theorem sh_step (w : Nat → Nat) {i : Nat} (hi : 1 ≤ i) : up1 (sh w i) (200 + i) (sh w i (200 + i + 3)) = sh w (i + 1) := by
  funext k
  unfold up1 sh
  by_cases c : k = 200 + i
  · subst c
    rw [if_pos rfl, if_neg (by omega), if_pos (by omega)]
  · rw [if_neg c]
    by_cases c1 : 201 ≤ k ∧ k < 200 + i
    · rw [if_pos c1, if_pos (by omega)]
    · rw [if_neg c1, if_neg (by omega)]
theorem sh_1 (w : Nat → Nat) : sh w 1 = w := by
  funext k
  unfold sh
  rw [if_neg (by omega)]
theorem sh_run {h : Hp} {o dd : Nat} {w : Nat → Nat} (L : RLo h o) (h2 : w 200 = 60) : ∀ k i o0, i + k = 178 → 1 ≤ i → Run kX12_goWeek 123 [o0, some (vR (some o)), some (vI (nI dd)), some (vI (nI i))] [] (RN h o (sh w i)) = some (rV, RN h o (lgP (shF w) dd)) := by
  have L0 := L
  obtain ⟨L1, L2, _⟩ := L
  intro k
  induction k with
  | zero =>
    intro i o0 hi _
    have : i = 178 := by omega
    subst this
    have z : sh w 178 200 = 60 := by unfold sh; rw [if_neg (by omega)]; exact h2
    have y := lgY_sp (dd := dd) (w := shF w) L0 (by unfold shF; rw [up1_s]; omega)
    have e : nI 60 - 1 = nI 59 := by decide
    rw [gw123, if_pos (show (177 : Int32) < nI 178 by decide)]
    simp only [oB_some, dR_some, cond_true, cond_false, if_true, if_false, Bool.true_and, Bool.and_true, Nat.beq_refl, RN_K, RN_E, L1, L2, iaK20, ib200, tc200, RN_a, z, e, RN_w]
    exact y
  | succ k ih =>
    intro i o0 hi h1
    have c : ¬ (177 : Int32) < nI i := by rw [show (177 : Int32) = nI 177 from rfl, nI_nlt' (by omega) (by omega)]; omega
    have e1 : (200 : Int32) + nI i = nI (200 + i) := nI_add 200 _
    have e2 : nI (200 + i) + 3 = nI (200 + i + 3) := nI_add _ 3
    have b1 : inb (nI (200 + i)) 381 = true := inb_nI (by omega) (by omega)
    have b2 : inb (nI (200 + i + 3)) 381 = true := inb_nI (by omega) (by omega)
    have k1 : (nI (200 + i)).toNatClampNeg = 200 + i := nI_clamp (by omega)
    have k2 : (nI (200 + i + 3)).toNatClampNeg = 200 + i + 3 := nI_clamp (by omega)
    rw [gw123, if_neg c]
    simp only [oB_some, dR_some, cond_true, cond_false, if_true, if_false, Bool.true_and, Bool.and_true, Nat.beq_refl, RN_K, RN_E, L1, L2, iaK20, e1, e2, b1, b2, k1, k2, RN_a, RN_w, sh_step w h1, nI_1]
    exact ih (i + 1) none (by omega) (by omega)
def lgW (w : Nat → Nat) (dd : Nat) : Nat → Nat := if w 200 = 60 then lgP (shF w) dd else lgP w dd
theorem lgX_sp {h : Hp} {o dd : Nat} {w : Nat → Nat} (L : RLo h o) (h2 : w 200 ≤ 60) : lgX 147 (some o) (nI dd) (RN h o w) = some (rV, RN h o (lgW w dd)) := by
  have L0 := L
  obtain ⟨L1, L2, _⟩ := L
  have e : (nI (w 200) = (60 : Int32)) = (w 200 = 60) := nI_neq' (b := 60) (by omega) (by omega)
  unfold lgX lgW
  by_cases c : w 200 = 60
  · have := sh_run (dd := dd) L0 c 177 1 (some (vR (some 147))) (by omega) (by omega)
    rw [sh_1] at this
    simp only [oB_some, dR_some, cond_true, cond_false, if_true, if_false, Bool.true_and, Bool.and_true, Nat.beq_refl, RN_K, RN_E, L1, L2, iaK20, ib200, tc200, RN_a, c, show nI 60 = (60 : Int32) from rfl]
    exact this
  · simp only [oB_some, dR_some, cond_true, cond_false, if_true, if_false, Bool.true_and, Bool.and_true, Nat.beq_refl, RN_K, RN_E, L1, L2, iaK20, ib200, tc200, RN_a, e, c]
    exact lgY_sp L0 (by omega)
/-- a week's end in the reference's row -/
def wkM (w r : Nat → Nat) (dd : Nat) : Nat → Nat := lgW (up1 (growV w r dd) 7 (w 7 + 1)) dd
theorem growV_o {w r : Nat → Nat} {dd k : Nat} (h0 : k ≠ 0) (h1 : k ≠ 1) : growV w r dd k = w k := by
  unfold growV
  by_cases c : w 1 = 0 <;> by_cases e : dd = 3 <;> by_cases f : w 2 < r 6 <;> simp only [c, e, f, if_true, if_false, up1_o _ _ h0, up1_o _ _ h1]
theorem gw_e {h : Hp} {o dd : Nat} {r d b w : Nat → Nat} {dc bc : Nat} {o3 : Option EV} (W : MW h r d b dc bc) (L : RLo h o) (hd : dd ≤ 3) (h0 : w 0 < 2 ^ 30) (h1 : w 1 < 2 ^ 31) (h2 : w 2 < 2 ^ 31) (h200 : w 200 ≤ 60) :
    Run kX12_goWeek 50 [some (vR (some 147)), some (vR (some o)), some (vI (nI dd)), o3] [] (RN h o w) = some (rV, RN h o (wkM w r dd)) := by
  obtain ⟨_, _, _, _, _, _, hr, _, _, br, _⟩ := W.RN L w
  obtain ⟨w1, ⟨w2, w3, w4⟩, _⟩ := W
  have L0 := L
  obtain ⟨L1, L2, _⟩ := L
  have i6 : inb 6 7 = true := by decide
  have i1 : inb 1 7 = true := by decide
  have i2 : inb 2 7 = true := by decide
  have r6 := hr 6 (by omega)
  have r1 := hr 1 (by omega)
  have r2 := hr 2 (by omega)
  have b6 := br 6
  have b1 := br 1
  have b2 := br 2
  have lx := lgX_sp (dd := dd) (w := up1 (growV w r dd) 7 (w 7 + 1)) L0 (by rw [up1_o _ _ (by decide), growV_o (by decide) (by decide)]; exact h200)
  rw [gw50]
  unfold wkM
  unfold growV at lx ⊢
  by_cases c1 : w 1 = 0
  · by_cases e3 : dd = 3
    · subst e3
      simp only [c1, if_true] at lx
      simp only [oB_some, dR_some, cond_true, cond_false, if_true, if_false, Bool.true_and, Bool.and_true, Nat.beq_refl, hK_sI, hE_sI, RN_K, RN_E, L1, L2, iaK20, ib1, tc1, ib7, tc7, RN_a, c1, nI_0, show nI 3 = 3 from rfl, show sI (RN h o w) o 1 1 = RN h o (up1 w 1 1) from RN_w h o w 1 1, up1_o w 1 (show (7 : Nat) ≠ 1 by decide), nI_1, RN_w]
      exact lx
    · have n3 : ¬ nI dd = 3 := by rw [show (3 : Int32) = nI 3 from rfl, nI_neq' (by omega) (by omega)]; exact e3
      by_cases c2 : w 2 < r 6
      · have q : nI (w 2) < nI (r 6) := by rw [nI_nlt' (by omega) (by omega)]; exact c2
        have ad : nI (w 0) + nI (r 2) = nI (w 0 + r 2) := nI_add _ _
        have mm := mn' (a := w 0 + r 2) (b := r 1) (by omega) (by omega)
        simp only [c1, e3, c2, if_true, if_false] at lx
        simp only [oB_some, dR_some, cond_true, cond_false, if_true, if_false, Bool.true_and, Bool.and_true, Nat.beq_refl, hK_sI, hE_sI, RN_K, RN_E, RN_R, L1, L2, w1, w2, w3, w4, iaK20, ib1, tc1, ib7, tc7, ib2, tc2, ib0, tc0, i6, i1, i2, tc6, RN_a, c1, nI_0, n3, e3, r6, r1, r2, c2, q, ad, mm, RN_w, up1_o w (if w 0 + r 2 < r 1 then w 0 + r 2 else r 1) (show (7 : Nat) ≠ 0 by decide), nI_1]
        exact lx
      · have q : ¬ nI (w 2) < nI (r 6) := by rw [nI_nlt' (by omega) (by omega)]; exact c2
        simp only [c1, e3, c2, if_true, if_false] at lx
        simp only [oB_some, dR_some, cond_true, cond_false, if_true, if_false, Bool.true_and, Bool.and_true, Nat.beq_refl, hK_sI, hE_sI, RN_K, RN_E, RN_R, L1, L2, w1, w2, w3, w4, iaK20, ib1, tc1, ib7, tc7, ib2, tc2, i6, tc6, RN_a, c1, nI_0, n3, e3, r6, c2, q, show sI (RN h o w) o 1 1 = RN h o (up1 w 1 1) from RN_w h o w 1 1, up1_o w 1 (show (7 : Nat) ≠ 1 by decide), nI_1, RN_w]
        exact lx
  · have q1 : ¬ nI (w 1) = 0 := nI_nz (by omega) (by omega)
    simp only [c1, if_false] at lx
    simp only [oB_some, dR_some, cond_true, cond_false, if_true, if_false, Bool.true_and, Bool.and_true, Nat.beq_refl, RN_K, RN_E, L1, L2, iaK20, ib1, tc1, ib7, tc7, RN_a, c1, q1, nI_1, RN_w]
    exact lx
/-- the deed in the reference's row, but for weaving -/
theorem goWeek_m {h : Hp} {o dd : Nat} {r d b w : Nat → Nat} {dc bc : Nat} (W : MW h r d b dc bc) (L : RLo h o) (hd : dd ≤ 3) (h1 : dd ≠ 1) (h0 : ∀ k, k ≤ 4 → w k < 2 ^ 29) (h200 : w 200 ≤ 60) :
    FX12_goWeek [vR (some 147), vR (some o), vI (nI dd)] (RN h o w) = some (rV, RN h o (wkM (deedV w r dd) r dd)) := by
  have h00 := h0 0 (by omega)
  have h01 := h0 1 (by omega)
  have h02 := h0 2 (by omega)
  have h04 := h0 4 (by omega)
  have hr4 := W.2.2.2.2.2.2.2.2.2.1 4
  have W0 := W
  have L0 := L
  obtain ⟨_, _, _, _, _, _, hr, _⟩ := W.RN L w
  obtain ⟨w1, ⟨w2, w3, w4⟩, _⟩ := W
  obtain ⟨L1, L2, _⟩ := L
  rw [tX12_goWeek]
  rcases (show dd = 0 ∨ dd = 2 ∨ dd = 3 by omega) with e | e | e <;> subst e
  · have dv : deedV w r 0 = up1 w 2 (w 2 - 1) := by unfold deedV; rw [if_neg (by decide), if_pos rfl]
    have := gw_e (w := deedV w r 0) (dd := 0) (o3 := none) W0 L0 (by omega) (by rw [dv, up1_o _ _ (by decide)]; omega) (by rw [dv, up1_o _ _ (by decide)]; omega) (by rw [dv, up1_s]; omega) (by rw [dv, up1_o _ _ (by decide)]; exact h200)
    have m := mx0 (a := w 2) (b := 1) (by omega) (by omega)
    rw [show nI 1 = 1 from rfl] at m
    rw [nI_0] at this ⊢
    rw [dv] at this ⊢
    simp only [oB_some, dR_some, cond_true, cond_false, if_true, if_false, Bool.true_and, Bool.and_true, Nat.beq_refl, show ¬ (0 : Int32) = 1 by decide, show ¬ (0 : Int32) = 2 by decide, RN_K, RN_E, L1, L2, iaK20, ib2, tc2, RN_a, m, RN_w]
    exact this
  · have dv : deedV w r 2 = up1 w 4 (mnN (w 4 + r 4) 9999) := by unfold deedV; rw [if_pos rfl]
    have := gw_e (w := deedV w r 2) (dd := 2) (o3 := none) W0 L0 (by omega) (by rw [dv, up1_o _ _ (by decide)]; omega) (by rw [dv, up1_o _ _ (by decide)]; omega) (by rw [dv, up1_o _ _ (by decide)]; omega) (by rw [dv, up1_o _ _ (by decide)]; exact h200)
    have ad : nI (w 4) + nI (r 4) = nI (w 4 + r 4) := nI_add _ _
    have mm := mn' (a := w 4 + r 4) (b := 9999) (by omega) (by omega)
    rw [show nI 9999 = 9999 from rfl] at mm
    have r4 := hr 4 (by omega)
    rw [show nI 2 = 2 from rfl] at this ⊢
    rw [dv] at this ⊢
    simp only [oB_some, dR_some, cond_true, cond_false, if_true, if_false, Bool.true_and, Bool.and_true, Nat.beq_refl, show ¬ (2 : Int32) = 0 by decide, show ¬ (2 : Int32) = 1 by decide, RN_K, RN_E, RN_R, L1, L2, w1, w2, w3, w4, iaK20, ib4, tc4, show inb 4 7 = true by decide, RN_a, r4, ad, mm, RN_w]
    exact this
  · have dv : deedV w r 3 = w := by unfold deedV; rw [if_neg (by decide), if_neg (by decide)]
    have := gw_e (w := w) (dd := 3) (o3 := none) W0 L0 (by omega) (by omega) (by omega) (by omega) h200
    rw [show nI 3 = 3 from rfl] at this ⊢
    rw [dv]
    simp only [oB_some, dR_some, cond_true, cond_false, if_true, if_false, Bool.true_and, Bool.and_true, Nat.beq_refl, show ¬ (3 : Int32) = 0 by decide, show ¬ (3 : Int32) = 1 by decide, show ¬ (3 : Int32) = 2 by decide]
    exact this
