/-! ===== the law's cases ===== -/
def SCR (h : Hp) (L : Nat) : Prop := hK h (PRE + 30) = 25 ∧ hE h (PRE + 30) = L
def BX (x : Int32) (L : Nat) : Prop := inb (x + 1) L = true ∧ inb (x + 2) L = true ∧ inb (x + 3) L = true ∧ inb (x + 4) L = true ∧ inb (x + 5) L = true
def NX (h h2 : Hp) : Prop := INV h2 ∧ hN h2 ≤ hN h + 2 ∧ hS h2 ≤ hS h + 300 ∧ KP h h2
def LSx (x : Int32) : List (Option EV) := [some (vR (some (PRE + 30))), some (vR (some 0)), some (vR (some 147)), some (vR (some 172)), some (vI x), none, none]
theorem ia25 : iaK 25 = true := rfl
theorem rI_1 (x : Int32) : (rI x).1 = x := rfl
theorem lw_ci {h : Hp} (hb : hN h + 2 < PRE) {Fc Fr : List EV → Hp → Option (RV × Hp)} {a1 a2 : List EV} (C : CI h (Fc a1) (Fr a2)) (Hc : Kp Fc) (Hm : Kp Fr) {L : Nat} (S : SCR h L) (I : INV h) : ∃ res h1 h2, Fc a1 h = some (rI res, h1) ∧ Fr a2 h1 = some (rI res, h2) ∧ NX h h2 ∧ hK h1 (PRE + 30) = 25 ∧ hE h1 (PRE + 30) = L ∧ hI h1 (PRE + 30) = hI h (PRE + 30) ∧ hK h1 147 = 12 := by
  obtain ⟨res, h1, h2, y1, y2, J, n1, n2⟩ := C
  have k1 := Hc _ _ _ _ y1
  have k2 := Hm _ _ _ _ y2
  have b1 : hN h1 < PRE := by have := k2.1; omega
  have f := I.2.1.1
  have q := k1.2 b1 (PRE + 30) (Or.inr (by omega))
  have q' := k1.2 b1 147 (Or.inl (by omega))
  exact ⟨res, h1, h2, y1, y2, ⟨J, n1, n2, kp_trans k1 k2⟩, q.1.trans S.1, q.2.1.trans S.2, q.2.2 S.1, q'.1.trans (ly_UL I.1).1⟩

theorem lc_240 {h : Hp} {x : Int32} {L : Nat} (I : INV h) (S : SCR h L) (B : BX x L) (hb : hN h + 2 < PRE) : ∃ h2, NX h h2 ∧ Run kL_law 240 (LSx x) [] h = Run kL_law 1621 (LSx x) [] h2 := by
  obtain ⟨res, h1, h2, y1, y2, n, s1, s2, s3, s4⟩ := lw_ci hb (ci_feed I (hI h (PRE + 30) (Int32.toNatClampNeg (x + 1))) (hI h (PRE + 30) (Int32.toNatClampNeg (x + 2))) (hI h (PRE + 30) (Int32.toNatClampNeg (x + 3))) (hI h (PRE + 30) (Int32.toNatClampNeg (x + 4))) (hI h (PRE + 30) (Int32.toNatClampNeg (x + 5)))) HX11_feed HX12_feed S I
  refine ⟨h2, n, (tL_law_240 _ _ _ _ _ _ _ _).trans ?_⟩
  simp only [oB_some, dR_some, cond_true, cond_false, if_true, if_false, Bool.true_and, Bool.and_true, Nat.beq_refl, rI_1, eq_self, S.1, S.2, ia25, B.1, B.2.1, B.2.2.1, B.2.2.2.1, B.2.2.2.2, (ly_CF I.1).1, y1, s1, s2, s3, s4, y2, LSx]
theorem lc_313 {h : Hp} {x : Int32} {L : Nat} (I : INV h) (S : SCR h L) (B : BX x L) (hb : hN h + 2 < PRE) : ∃ h2, NX h h2 ∧ Run kL_law 313 (LSx x) [] h = Run kL_law 1621 (LSx x) [] h2 := by
  obtain ⟨res, h1, h2, y1, y2, n, s1, s2, s3, s4⟩ := lw_ci hb (ci_end I (hI h (PRE + 30) (Int32.toNatClampNeg (x + 1)))) HX11_end HX12_end S I
  refine ⟨h2, n, (tL_law_313 _ _ _ _ _ _ _ _).trans ?_⟩
  simp only [oB_some, dR_some, cond_true, cond_false, if_true, if_false, Bool.true_and, Bool.and_true, Nat.beq_refl, rI_1, eq_self, S.1, S.2, ia25, B.1, B.2.1, B.2.2.1, B.2.2.2.1, B.2.2.2.2, (ly_CF I.1).1, y1, s1, s2, s3, s4, y2, LSx]
theorem lc_338 {h : Hp} {x : Int32} {L : Nat} (I : INV h) (S : SCR h L) (B : BX x L) (hb : hN h + 2 < PRE) : ∃ h2, NX h h2 ∧ Run kL_law 338 (LSx x) [] h = Run kL_law 1621 (LSx x) [] h2 := by
  obtain ⟨res, h1, h2, y1, y2, n, s1, s2, s3, s4⟩ := lw_ci hb (ci_fault I (hI h (PRE + 30) (Int32.toNatClampNeg (x + 1)))) HX11_fault HX12_fault S I
  refine ⟨h2, n, (tL_law_338 _ _ _ _ _ _ _ _).trans ?_⟩
  simp only [oB_some, dR_some, cond_true, cond_false, if_true, if_false, Bool.true_and, Bool.and_true, Nat.beq_refl, rI_1, eq_self, S.1, S.2, ia25, B.1, B.2.1, B.2.2.1, B.2.2.2.1, B.2.2.2.2, (ly_CF I.1).1, y1, s1, s2, s3, s4, y2, LSx]
theorem lc_363 {h : Hp} {x : Int32} {L : Nat} (I : INV h) (S : SCR h L) (B : BX x L) (hb : hN h + 2 < PRE) : ∃ h2, NX h h2 ∧ Run kL_law 363 (LSx x) [] h = Run kL_law 1621 (LSx x) [] h2 := by
  obtain ⟨res, h1, h2, y1, y2, n, s1, s2, s3, s4⟩ := lw_ci hb (ci_text I hb (hI h (PRE + 30) (Int32.toNatClampNeg (x + 1)))) HX11_text HX12_text S I
  refine ⟨h2, n, (tL_law_363 _ _ _ _ _ _ _ _).trans ?_⟩
  simp only [oB_some, dR_some, cond_true, cond_false, if_true, if_false, Bool.true_and, Bool.and_true, Nat.beq_refl, rI_1, eq_self, S.1, S.2, ia25, B.1, B.2.1, B.2.2.1, B.2.2.2.1, B.2.2.2.2, (ly_CF I.1).1, y1, s1, s2, s3, s4, y2, LSx]
theorem lc_388 {h : Hp} {x : Int32} {L : Nat} (I : INV h) (S : SCR h L) (B : BX x L) (hb : hN h + 2 < PRE) : ∃ h2, NX h h2 ∧ Run kL_law 388 (LSx x) [] h = Run kL_law 1621 (LSx x) [] h2 := by
  obtain ⟨res, h1, h2, y1, y2, n, s1, s2, s3, s4⟩ := lw_ci hb (ci_rule I (hI h (PRE + 30) (Int32.toNatClampNeg (x + 1)))) HX11_rule HX12_rule S I
  refine ⟨h2, n, (tL_law_388 _ _ _ _ _ _ _ _).trans ?_⟩
  simp only [oB_some, dR_some, cond_true, cond_false, if_true, if_false, Bool.true_and, Bool.and_true, Nat.beq_refl, rI_1, eq_self, S.1, S.2, ia25, B.1, B.2.1, B.2.2.1, B.2.2.2.1, B.2.2.2.2, (ly_CF I.1).1, y1, s1, s2, s3, s4, y2, LSx]
theorem lc_413 {h : Hp} {x : Int32} {L : Nat} (I : INV h) (S : SCR h L) (B : BX x L) (hb : hN h + 2 < PRE) : ∃ h2, NX h h2 ∧ Run kL_law 413 (LSx x) [] h = Run kL_law 1621 (LSx x) [] h2 := by
  obtain ⟨res, h1, h2, y1, y2, n, s1, s2, s3, s4⟩ := lw_ci hb (ci_debt I (hI h (PRE + 30) (Int32.toNatClampNeg (x + 1))) (hI h (PRE + 30) (Int32.toNatClampNeg (x + 2)))) HX11_debt HX12_debt S I
  refine ⟨h2, n, (tL_law_413 _ _ _ _ _ _ _ _).trans ?_⟩
  simp only [oB_some, dR_some, cond_true, cond_false, if_true, if_false, Bool.true_and, Bool.and_true, Nat.beq_refl, rI_1, eq_self, S.1, S.2, ia25, B.1, B.2.1, B.2.2.1, B.2.2.2.1, B.2.2.2.2, (ly_CF I.1).1, y1, s1, s2, s3, s4, y2, LSx]
theorem lc_518 {h : Hp} {x : Int32} {L : Nat} (I : INV h) (S : SCR h L) (B : BX x L) (hb : hN h + 2 < PRE) : ∃ h2, NX h h2 ∧ Run kL_law 518 (LSx x) [] h = Run kL_law 1621 (LSx x) [] h2 := by
  obtain ⟨res, h1, h2, y1, y2, n, s1, s2, s3, s4⟩ := lw_ci hb (ci_law I (hI h (PRE + 30) (Int32.toNatClampNeg (x + 1)))) HX11_law HX12_law S I
  refine ⟨h2, n, (tL_law_518 _ _ _ _ _ _ _ _).trans ?_⟩
  simp only [oB_some, dR_some, cond_true, cond_false, if_true, if_false, Bool.true_and, Bool.and_true, Nat.beq_refl, rI_1, eq_self, S.1, S.2, ia25, B.1, B.2.1, B.2.2.1, B.2.2.2.1, B.2.2.2.2, (ly_CF I.1).1, y1, s1, s2, s3, s4, y2, LSx]
theorem lc_543 {h : Hp} {x : Int32} {L : Nat} (I : INV h) (S : SCR h L) (B : BX x L) (hb : hN h + 2 < PRE) : ∃ h2, NX h h2 ∧ Run kL_law 543 (LSx x) [] h = Run kL_law 1621 (LSx x) [] h2 := by
  obtain ⟨res, h1, h2, y1, y2, n, s1, s2, s3, s4⟩ := lw_ci hb (ci_lazy I (hI h (PRE + 30) (Int32.toNatClampNeg (x + 1)))) HX11_lazy HX12_lazy S I
  refine ⟨h2, n, (tL_law_543 _ _ _ _ _ _ _ _).trans ?_⟩
  simp only [oB_some, dR_some, cond_true, cond_false, if_true, if_false, Bool.true_and, Bool.and_true, Nat.beq_refl, rI_1, eq_self, S.1, S.2, ia25, B.1, B.2.1, B.2.2.1, B.2.2.2.1, B.2.2.2.2, (ly_CF I.1).1, y1, s1, s2, s3, s4, y2, LSx]
theorem lc_568 {h : Hp} {x : Int32} {L : Nat} (I : INV h) (S : SCR h L) (B : BX x L) (hb : hN h + 2 < PRE) : ∃ h2, NX h h2 ∧ Run kL_law 568 (LSx x) [] h = Run kL_law 1621 (LSx x) [] h2 := by
  obtain ⟨res, h1, h2, y1, y2, n, s1, s2, s3, s4⟩ := lw_ci hb (ci_week I (hI h (PRE + 30) (Int32.toNatClampNeg (x + 1)))) HX11_week HX12_week S I
  refine ⟨h2, n, (tL_law_568 _ _ _ _ _ _ _ _).trans ?_⟩
  simp only [oB_some, dR_some, cond_true, cond_false, if_true, if_false, Bool.true_and, Bool.and_true, Nat.beq_refl, rI_1, eq_self, S.1, S.2, ia25, B.1, B.2.1, B.2.2.1, B.2.2.2.1, B.2.2.2.2, (ly_CF I.1).1, y1, s1, s2, s3, s4, y2, LSx]
theorem lc_593 {h : Hp} {x : Int32} {L : Nat} (I : INV h) (S : SCR h L) (B : BX x L) (hb : hN h + 2 < PRE) : ∃ h2, NX h h2 ∧ Run kL_law 593 (LSx x) [] h = Run kL_law 1621 (LSx x) [] h2 := by
  obtain ⟨res, h1, h2, y1, y2, n, s1, s2, s3, s4⟩ := lw_ci hb (ci_cut I ) HX11_cut HX12_cut S I
  refine ⟨h2, n, (tL_law_593 _ _ _ _ _ _ _ _).trans ?_⟩
  simp only [oB_some, dR_some, cond_true, cond_false, if_true, if_false, Bool.true_and, Bool.and_true, Nat.beq_refl, rI_1, eq_self, S.1, S.2, ia25, B.1, B.2.1, B.2.2.1, B.2.2.2.1, B.2.2.2.2, (ly_CF I.1).1, y1, s1, s2, s3, s4, y2, LSx]
theorem lc_606 {h : Hp} {x : Int32} {L : Nat} (I : INV h) (S : SCR h L) (B : BX x L) (hb : hN h + 2 < PRE) : ∃ h2, NX h h2 ∧ Run kL_law 606 (LSx x) [] h = Run kL_law 1621 (LSx x) [] h2 := by
  obtain ⟨res, h1, h2, y1, y2, n, s1, s2, s3, s4⟩ := lw_ci hb (ci_sell I (hI h (PRE + 30) (Int32.toNatClampNeg (x + 1))) (hI h (PRE + 30) (Int32.toNatClampNeg (x + 2)))) HX11_sell HX12_sell S I
  refine ⟨h2, n, (tL_law_606 _ _ _ _ _ _ _ _).trans ?_⟩
  simp only [oB_some, dR_some, cond_true, cond_false, if_true, if_false, Bool.true_and, Bool.and_true, Nat.beq_refl, rI_1, eq_self, S.1, S.2, ia25, B.1, B.2.1, B.2.2.1, B.2.2.2.1, B.2.2.2.2, (ly_CF I.1).1, y1, s1, s2, s3, s4, y2, LSx]
theorem lc_643 {h : Hp} {x : Int32} {L : Nat} (I : INV h) (S : SCR h L) (B : BX x L) (hb : hN h + 2 < PRE) : ∃ h2, NX h h2 ∧ Run kL_law 643 (LSx x) [] h = Run kL_law 1621 (LSx x) [] h2 := by
  obtain ⟨res, h1, h2, y1, y2, n, s1, s2, s3, s4⟩ := lw_ci hb (ci_pay I (hI h (PRE + 30) (Int32.toNatClampNeg (x + 1)))) HX11_pay HX12_pay S I
  refine ⟨h2, n, (tL_law_643 _ _ _ _ _ _ _ _).trans ?_⟩
  simp only [oB_some, dR_some, cond_true, cond_false, if_true, if_false, Bool.true_and, Bool.and_true, Nat.beq_refl, rI_1, eq_self, S.1, S.2, ia25, B.1, B.2.1, B.2.2.1, B.2.2.2.1, B.2.2.2.2, (ly_CF I.1).1, y1, s1, s2, s3, s4, y2, LSx]
theorem lc_668 {h : Hp} {x : Int32} {L : Nat} (I : INV h) (S : SCR h L) (B : BX x L) (hb : hN h + 2 < PRE) : ∃ h2, NX h h2 ∧ Run kL_law 668 (LSx x) [] h = Run kL_law 1621 (LSx x) [] h2 := by
  by_cases c : (hI h (PRE + 30) (Int32.toNatClampNeg (x + 1))) = 0
  · have C : CI h (FX11_iron [vR (some 0), vI 0]) (FX12_iron [vR (some 147), vI 0]) := ci_iron I  (i := 0) (by omega)
    obtain ⟨res, h1, h2, y1, y2, n, s1, s2, s3, s4⟩ := lw_ci hb C HX11_iron HX12_iron S I
    refine ⟨h2, n, (tL_law_668 _ _ _ _ _ _ _ _).trans ?_⟩
    simp only [oB_some, dR_some, cond_true, cond_false, if_true, if_false, Bool.true_and, Bool.and_true, Nat.beq_refl, rI_1, eq_self, S.1, S.2, ia25, B.1, B.2.1, B.2.2.1, B.2.2.2.1, B.2.2.2.2, (ly_CF I.1).1, y1, s1, s2, s3, s4, y2, LSx, c]
  · have C : CI h (FX11_iron [vR (some 0), vI 1]) (FX12_iron [vR (some 147), vI 1]) := ci_iron I  (i := 1) (by omega)
    obtain ⟨res, h1, h2, y1, y2, n, s1, s2, s3, s4⟩ := lw_ci hb C HX11_iron HX12_iron S I
    refine ⟨h2, n, (tL_law_668 _ _ _ _ _ _ _ _).trans ?_⟩
    simp only [oB_some, dR_some, cond_true, cond_false, if_true, if_false, Bool.true_and, Bool.and_true, Nat.beq_refl, rI_1, eq_self, S.1, S.2, ia25, B.1, B.2.1, B.2.2.1, B.2.2.2.1, B.2.2.2.2, (ly_CF I.1).1, y1, s1, s2, s3, s4, y2, LSx, c]
theorem lc_709 {h : Hp} {x : Int32} {L : Nat} (I : INV h) (S : SCR h L) (B : BX x L) (hb : hN h + 2 < PRE) : ∃ h2, NX h h2 ∧ Run kL_law 709 (LSx x) [] h = Run kL_law 1621 (LSx x) [] h2 := by
  obtain ⟨res, h1, h2, y1, y2, n, s1, s2, s3, s4⟩ := lw_ci hb (ci_give I (hI h (PRE + 30) (Int32.toNatClampNeg (x + 1)))) HX11_give HX12_give S I
  refine ⟨h2, n, (tL_law_709 _ _ _ _ _ _ _ _).trans ?_⟩
  simp only [oB_some, dR_some, cond_true, cond_false, if_true, if_false, Bool.true_and, Bool.and_true, Nat.beq_refl, rI_1, eq_self, S.1, S.2, ia25, B.1, B.2.1, B.2.2.1, B.2.2.2.1, B.2.2.2.2, (ly_CF I.1).1, y1, s1, s2, s3, s4, y2, LSx]
theorem lc_734 {h : Hp} {x : Int32} {L : Nat} (I : INV h) (S : SCR h L) (B : BX x L) (hb : hN h + 2 < PRE) : ∃ h2, NX h h2 ∧ Run kL_law 734 (LSx x) [] h = Run kL_law 1621 (LSx x) [] h2 := by
  obtain ⟨res, h1, h2, y1, y2, n, s1, s2, s3, s4⟩ := lw_ci hb (ci_lives I (hI h (PRE + 30) (Int32.toNatClampNeg (x + 1))) ((Int32.toInt64 (hI h (PRE + 30) (Int32.toNatClampNeg (x + 2))) <<< (Int32.toInt64 32 &&& 63)) ||| (Int32.toInt64 (hI h (PRE + 30) (Int32.toNatClampNeg (x + 3))) &&& 4294967295))) HX11_lives HX12_lives S I
  refine ⟨h2, n, (tL_law_734 _ _ _ _ _ _ _ _).trans ?_⟩
  simp only [oB_some, dR_some, cond_true, cond_false, if_true, if_false, Bool.true_and, Bool.and_true, Nat.beq_refl, rI_1, eq_self, S.1, S.2, ia25, B.1, B.2.1, B.2.2.1, B.2.2.2.1, B.2.2.2.2, (ly_CF I.1).1, y1, s1, s2, s3, s4, y2, LSx]
theorem lc_803 {h : Hp} {x : Int32} {L : Nat} (I : INV h) (S : SCR h L) (B : BX x L) (hb : hN h + 2 < PRE) : ∃ h2, NX h h2 ∧ Run kL_law 803 (LSx x) [] h = Run kL_law 1621 (LSx x) [] h2 := by
  obtain ⟨res, h1, h2, y1, y2, n, s1, s2, s3, s4⟩ := lw_ci hb (ci_undo I ) HX11_undo HX12_undo S I
  refine ⟨h2, n, (tL_law_803 _ _ _ _ _ _ _ _).trans ?_⟩
  simp only [oB_some, dR_some, cond_true, cond_false, if_true, if_false, Bool.true_and, Bool.and_true, Nat.beq_refl, rI_1, eq_self, S.1, S.2, ia25, B.1, B.2.1, B.2.2.1, B.2.2.2.1, B.2.2.2.2, (ly_CF I.1).1, y1, s1, s2, s3, s4, y2, LSx]
theorem lc_816 {h : Hp} {x : Int32} {L : Nat} (I : INV h) (S : SCR h L) (B : BX x L) (hb : hN h + 2 < PRE) : ∃ h2, NX h h2 ∧ Run kL_law 816 (LSx x) [] h = Run kL_law 1621 (LSx x) [] h2 := by
  obtain ⟨res, h1, h2, y1, y2, n, s1, s2, s3, s4⟩ := lw_ci hb (ci_log I (hI h (PRE + 30) (Int32.toNatClampNeg (x + 1))) (hI h (PRE + 30) (Int32.toNatClampNeg (x + 2)))) HX11_log HX12_log S I
  refine ⟨h2, n, (tL_law_816 _ _ _ _ _ _ _ _).trans ?_⟩
  simp only [oB_some, dR_some, cond_true, cond_false, if_true, if_false, Bool.true_and, Bool.and_true, Nat.beq_refl, rI_1, eq_self, S.1, S.2, ia25, B.1, B.2.1, B.2.2.1, B.2.2.2.1, B.2.2.2.2, (ly_CF I.1).1, y1, s1, s2, s3, s4, y2, LSx]
theorem lc_853 {h : Hp} {x : Int32} {L : Nat} (I : INV h) (S : SCR h L) (B : BX x L) (hb : hN h + 2 < PRE) : ∃ h2, NX h h2 ∧ Run kL_law 853 (LSx x) [] h = Run kL_law 1621 (LSx x) [] h2 := by
  obtain ⟨res, h1, h2, y1, y2, n, s1, s2, s3, s4⟩ := lw_ci hb (ci_book I (hI h (PRE + 30) (Int32.toNatClampNeg (x + 1))) (hI h (PRE + 30) (Int32.toNatClampNeg (x + 2)))) HX11_book HX12_book S I
  refine ⟨h2, n, (tL_law_853 _ _ _ _ _ _ _ _).trans ?_⟩
  simp only [oB_some, dR_some, cond_true, cond_false, if_true, if_false, Bool.true_and, Bool.and_true, Nat.beq_refl, rI_1, eq_self, S.1, S.2, ia25, B.1, B.2.1, B.2.2.1, B.2.2.2.1, B.2.2.2.2, (ly_CF I.1).1, y1, s1, s2, s3, s4, y2, LSx]
theorem lc_890 {h : Hp} {x : Int32} {L : Nat} (I : INV h) (S : SCR h L) (B : BX x L) (hb : hN h + 2 < PRE) : ∃ h2, NX h h2 ∧ Run kL_law 890 (LSx x) [] h = Run kL_law 1621 (LSx x) [] h2 := by
  obtain ⟨res, h1, h2, y1, y2, n, s1, s2, s3, s4⟩ := lw_ci hb (ci_step I (hI h (PRE + 30) (Int32.toNatClampNeg (x + 1))) (hI h (PRE + 30) (Int32.toNatClampNeg (x + 2))) (hI h (PRE + 30) (Int32.toNatClampNeg (x + 3)))) HX11_step HX12_step S I
  refine ⟨h2, n, (tL_law_890 _ _ _ _ _ _ _ _).trans ?_⟩
  simp only [oB_some, dR_some, cond_true, cond_false, if_true, if_false, Bool.true_and, Bool.and_true, Nat.beq_refl, rI_1, eq_self, S.1, S.2, ia25, B.1, B.2.1, B.2.2.1, B.2.2.2.1, B.2.2.2.2, (ly_CF I.1).1, y1, s1, s2, s3, s4, y2, LSx]
theorem lc_939 {h : Hp} {x : Int32} {L : Nat} (I : INV h) (S : SCR h L) (B : BX x L) (hb : hN h + 2 < PRE) : ∃ h2, NX h h2 ∧ Run kL_law 939 (LSx x) [] h = Run kL_law 1621 (LSx x) [] h2 := by
  obtain ⟨res, h1, h2, y1, y2, n, s1, s2, s3, s4⟩ := lw_ci hb (ci_run I (hI h (PRE + 30) (Int32.toNatClampNeg (x + 1))) (hI h (PRE + 30) (Int32.toNatClampNeg (x + 2)))) HX11_run HX12_run S I
  refine ⟨h2, n, (tL_law_939 _ _ _ _ _ _ _ _).trans ?_⟩
  simp only [oB_some, dR_some, cond_true, cond_false, if_true, if_false, Bool.true_and, Bool.and_true, Nat.beq_refl, rI_1, eq_self, S.1, S.2, ia25, B.1, B.2.1, B.2.2.1, B.2.2.2.1, B.2.2.2.2, (ly_CF I.1).1, y1, s1, s2, s3, s4, y2, LSx]
theorem lc_976 {h : Hp} {x : Int32} {L : Nat} (I : INV h) (S : SCR h L) (B : BX x L) (hb : hN h + 2 < PRE) : ∃ h2, NX h h2 ∧ Run kL_law 976 (LSx x) [] h = Run kL_law 1621 (LSx x) [] h2 := by
  obtain ⟨res, h1, h2, y1, y2, n, s1, s2, s3, s4⟩ := lw_ci hb (ci_perform I (hI h (PRE + 30) (Int32.toNatClampNeg (x + 1)))) HX11_perform HX12_perform S I
  refine ⟨h2, n, (tL_law_976 _ _ _ _ _ _ _ _).trans ?_⟩
  simp only [oB_some, dR_some, cond_true, cond_false, if_true, if_false, Bool.true_and, Bool.and_true, Nat.beq_refl, rI_1, eq_self, S.1, S.2, ia25, B.1, B.2.1, B.2.2.1, B.2.2.2.1, B.2.2.2.2, (ly_CF I.1).1, y1, s1, s2, s3, s4, y2, LSx]
theorem lc_1001 {h : Hp} {x : Int32} {L : Nat} (I : INV h) (S : SCR h L) (B : BX x L) (hb : hN h + 2 < PRE) : ∃ h2, NX h h2 ∧ Run kL_law 1001 (LSx x) [] h = Run kL_law 1621 (LSx x) [] h2 := by
  obtain ⟨res, h1, h2, y1, y2, n, s1, s2, s3, s4⟩ := lw_ci hb (ci_weaving I (hI h (PRE + 30) (Int32.toNatClampNeg (x + 1))) (hI h (PRE + 30) (Int32.toNatClampNeg (x + 2))) (hI h (PRE + 30) (Int32.toNatClampNeg (x + 3)))) HX11_weaving HX12_weaving S I
  refine ⟨h2, n, (tL_law_1001 _ _ _ _ _ _ _ _).trans ?_⟩
  simp only [oB_some, dR_some, cond_true, cond_false, if_true, if_false, Bool.true_and, Bool.and_true, Nat.beq_refl, rI_1, eq_self, S.1, S.2, ia25, B.1, B.2.1, B.2.2.1, B.2.2.2.1, B.2.2.2.2, (ly_CF I.1).1, y1, s1, s2, s3, s4, y2, LSx]
theorem lc_1050 {h : Hp} {x : Int32} {L : Nat} (I : INV h) (S : SCR h L) (B : BX x L) (hb : hN h + 2 < PRE) : ∃ h2, NX h h2 ∧ Run kL_law 1050 (LSx x) [] h = Run kL_law 1621 (LSx x) [] h2 := by
  obtain ⟨res, h1, h2, y1, y2, n, s1, s2, s3, s4⟩ := lw_ci hb (ci_stands I ) HX11_stands HX12_stands S I
  refine ⟨h2, n, (tL_law_1050 _ _ _ _ _ _ _ _).trans ?_⟩
  simp only [oB_some, dR_some, cond_true, cond_false, if_true, if_false, Bool.true_and, Bool.and_true, Nat.beq_refl, rI_1, eq_self, S.1, S.2, ia25, B.1, B.2.1, B.2.2.1, B.2.2.2.1, B.2.2.2.2, (ly_CF I.1).1, y1, s1, s2, s3, s4, y2, LSx]
theorem lc_1063 {h : Hp} {x : Int32} {L : Nat} (I : INV h) (S : SCR h L) (B : BX x L) (hb : hN h + 2 < PRE) : ∃ h2, NX h h2 ∧ Run kL_law 1063 (LSx x) [] h = Run kL_law 1621 (LSx x) [] h2 := by
  obtain ⟨res, h1, h2, y1, y2, n, s1, s2, s3, s4⟩ := lw_ci hb (ci_soonest I (hI h (PRE + 30) (Int32.toNatClampNeg (x + 1)))) HX11_soonest HX12_soonest S I
  refine ⟨h2, n, (tL_law_1063 _ _ _ _ _ _ _ _).trans ?_⟩
  simp only [oB_some, dR_some, cond_true, cond_false, if_true, if_false, Bool.true_and, Bool.and_true, Nat.beq_refl, rI_1, eq_self, S.1, S.2, ia25, B.1, B.2.1, B.2.2.1, B.2.2.2.1, B.2.2.2.2, (ly_CF I.1).1, y1, s1, s2, s3, s4, y2, LSx]
theorem lc_1088 {h : Hp} {x : Int32} {L : Nat} (I : INV h) (S : SCR h L) (B : BX x L) (hb : hN h + 2 < PRE) : ∃ h2, NX h h2 ∧ Run kL_law 1088 (LSx x) [] h = Run kL_law 1621 (LSx x) [] h2 := by
  obtain ⟨res, h1, h2, y1, y2, n, s1, s2, s3, s4⟩ := lw_ci hb (ci_paying I (hI h (PRE + 30) (Int32.toNatClampNeg (x + 1)))) HX11_paying HX12_paying S I
  refine ⟨h2, n, (tL_law_1088 _ _ _ _ _ _ _ _).trans ?_⟩
  simp only [oB_some, dR_some, cond_true, cond_false, if_true, if_false, Bool.true_and, Bool.and_true, Nat.beq_refl, rI_1, eq_self, S.1, S.2, ia25, B.1, B.2.1, B.2.2.1, B.2.2.2.1, B.2.2.2.2, (ly_CF I.1).1, y1, s1, s2, s3, s4, y2, LSx]
theorem lc_1113 {h : Hp} {x : Int32} {L : Nat} (I : INV h) (S : SCR h L) (B : BX x L) (hb : hN h + 2 < PRE) : ∃ h2, NX h h2 ∧ Run kL_law 1113 (LSx x) [] h = Run kL_law 1621 (LSx x) [] h2 := by
  obtain ⟨res, h1, h2, y1, y2, n, s1, s2, s3, s4⟩ := lw_ci hb (ci_moon I ) HX11_moon HX12_moon S I
  refine ⟨h2, n, (tL_law_1113 _ _ _ _ _ _ _ _).trans ?_⟩
  simp only [oB_some, dR_some, cond_true, cond_false, if_true, if_false, Bool.true_and, Bool.and_true, Nat.beq_refl, rI_1, eq_self, S.1, S.2, ia25, B.1, B.2.1, B.2.2.1, B.2.2.2.1, B.2.2.2.2, (ly_CF I.1).1, y1, s1, s2, s3, s4, y2, LSx]
theorem lc_1126 {h : Hp} {x : Int32} {L : Nat} (I : INV h) (S : SCR h L) (B : BX x L) (hb : hN h + 2 < PRE) : ∃ h2, NX h h2 ∧ Run kL_law 1126 (LSx x) [] h = Run kL_law 1621 (LSx x) [] h2 := by
  obtain ⟨res, h1, h2, y1, y2, n, s1, s2, s3, s4⟩ := lw_ci hb (ci_market I (hI h (PRE + 30) (Int32.toNatClampNeg (x + 1)))) HX11_market HX12_market S I
  refine ⟨h2, n, (tL_law_1126 _ _ _ _ _ _ _ _).trans ?_⟩
  simp only [oB_some, dR_some, cond_true, cond_false, if_true, if_false, Bool.true_and, Bool.and_true, Nat.beq_refl, rI_1, eq_self, S.1, S.2, ia25, B.1, B.2.1, B.2.2.1, B.2.2.2.1, B.2.2.2.2, (ly_CF I.1).1, y1, s1, s2, s3, s4, y2, LSx]
theorem lc_1151 {h : Hp} {x : Int32} {L : Nat} (I : INV h) (S : SCR h L) (B : BX x L) (hb : hN h + 2 < PRE) : ∃ h2, NX h h2 ∧ Run kL_law 1151 (LSx x) [] h = Run kL_law 1621 (LSx x) [] h2 := by
  obtain ⟨res, h1, h2, y1, y2, n, s1, s2, s3, s4⟩ := lw_ci hb (ci_ring I (hI h (PRE + 30) (Int32.toNatClampNeg (x + 1)))) HX11_ring HX12_ring S I
  refine ⟨h2, n, (tL_law_1151 _ _ _ _ _ _ _ _).trans ?_⟩
  simp only [oB_some, dR_some, cond_true, cond_false, if_true, if_false, Bool.true_and, Bool.and_true, Nat.beq_refl, rI_1, eq_self, S.1, S.2, ia25, B.1, B.2.1, B.2.2.1, B.2.2.2.1, B.2.2.2.2, (ly_CF I.1).1, y1, s1, s2, s3, s4, y2, LSx]
theorem lc_1176 {h : Hp} {x : Int32} {L : Nat} (I : INV h) (S : SCR h L) (B : BX x L) (hb : hN h + 2 < PRE) : ∃ h2, NX h h2 ∧ Run kL_law 1176 (LSx x) [] h = Run kL_law 1621 (LSx x) [] h2 := by
  obtain ⟨res, h1, h2, y1, y2, n, s1, s2, s3, s4⟩ := lw_ci hb (ci_pieces I (hI h (PRE + 30) (Int32.toNatClampNeg (x + 1)))) HX11_pieces HX12_pieces S I
  refine ⟨h2, n, (tL_law_1176 _ _ _ _ _ _ _ _).trans ?_⟩
  simp only [oB_some, dR_some, cond_true, cond_false, if_true, if_false, Bool.true_and, Bool.and_true, Nat.beq_refl, rI_1, eq_self, S.1, S.2, ia25, B.1, B.2.1, B.2.2.1, B.2.2.2.1, B.2.2.2.2, (ly_CF I.1).1, y1, s1, s2, s3, s4, y2, LSx]
theorem lc_1201 {h : Hp} {x : Int32} {L : Nat} (I : INV h) (S : SCR h L) (B : BX x L) (hb : hN h + 2 < PRE) : ∃ h2, NX h h2 ∧ Run kL_law 1201 (LSx x) [] h = Run kL_law 1621 (LSx x) [] h2 := by
  obtain ⟨res, h1, h2, y1, y2, n, s1, s2, s3, s4⟩ := lw_ci hb (ci_game I (hI h (PRE + 30) (Int32.toNatClampNeg (x + 1))) (hI h (PRE + 30) (Int32.toNatClampNeg (x + 2))) (hI h (PRE + 30) (Int32.toNatClampNeg (x + 3)))) HX11_game HX12_game S I
  refine ⟨h2, n, (tL_law_1201 _ _ _ _ _ _ _ _).trans ?_⟩
  simp only [oB_some, dR_some, cond_true, cond_false, if_true, if_false, Bool.true_and, Bool.and_true, Nat.beq_refl, rI_1, eq_self, S.1, S.2, ia25, B.1, B.2.1, B.2.2.1, B.2.2.2.1, B.2.2.2.2, (ly_CF I.1).1, y1, s1, s2, s3, s4, y2, LSx]
theorem lc_1250 {h : Hp} {x : Int32} {L : Nat} (I : INV h) (S : SCR h L) (B : BX x L) (hb : hN h + 2 < PRE) : ∃ h2, NX h h2 ∧ Run kL_law 1250 (LSx x) [] h = Run kL_law 1621 (LSx x) [] h2 := by
  obtain ⟨res, h1, h2, y1, y2, n, s1, s2, s3, s4⟩ := lw_ci hb (ci_rests I (hI h (PRE + 30) (Int32.toNatClampNeg (x + 1)))) HX11_rests HX12_rests S I
  refine ⟨h2, n, (tL_law_1250 _ _ _ _ _ _ _ _).trans ?_⟩
  simp only [oB_some, dR_some, cond_true, cond_false, if_true, if_false, Bool.true_and, Bool.and_true, Nat.beq_refl, rI_1, eq_self, S.1, S.2, ia25, B.1, B.2.1, B.2.2.1, B.2.2.2.1, B.2.2.2.2, (ly_CF I.1).1, y1, s1, s2, s3, s4, y2, LSx]
theorem lc_1275 {h : Hp} {x : Int32} {L : Nat} (I : INV h) (S : SCR h L) (B : BX x L) (hb : hN h + 2 < PRE) : ∃ h2, NX h h2 ∧ Run kL_law 1275 (LSx x) [] h = Run kL_law 1621 (LSx x) [] h2 := by
  by_cases c : (hI h (PRE + 30) (Int32.toNatClampNeg (x + 2))) = 0
  · have C : CI h (FX11_test [vR (some 0), vI (hI h (PRE + 30) (Int32.toNatClampNeg (x + 1))), vI 0]) (FX12_test [vR (some 147), vI (hI h (PRE + 30) (Int32.toNatClampNeg (x + 1))), vI 0]) := ci_test I (hI h (PRE + 30) (Int32.toNatClampNeg (x + 1))) (i := 0) (by omega)
    obtain ⟨res, h1, h2, y1, y2, n, s1, s2, s3, s4⟩ := lw_ci hb C HX11_test HX12_test S I
    refine ⟨h2, n, (tL_law_1275 _ _ _ _ _ _ _ _).trans ?_⟩
    simp only [oB_some, dR_some, cond_true, cond_false, if_true, if_false, Bool.true_and, Bool.and_true, Nat.beq_refl, rI_1, eq_self, S.1, S.2, ia25, B.1, B.2.1, B.2.2.1, B.2.2.2.1, B.2.2.2.2, (ly_CF I.1).1, y1, s1, s2, s3, s4, y2, LSx, c]
  · have C : CI h (FX11_test [vR (some 0), vI (hI h (PRE + 30) (Int32.toNatClampNeg (x + 1))), vI 1]) (FX12_test [vR (some 147), vI (hI h (PRE + 30) (Int32.toNatClampNeg (x + 1))), vI 1]) := ci_test I (hI h (PRE + 30) (Int32.toNatClampNeg (x + 1))) (i := 1) (by omega)
    obtain ⟨res, h1, h2, y1, y2, n, s1, s2, s3, s4⟩ := lw_ci hb C HX11_test HX12_test S I
    refine ⟨h2, n, (tL_law_1275 _ _ _ _ _ _ _ _).trans ?_⟩
    simp only [oB_some, dR_some, cond_true, cond_false, if_true, if_false, Bool.true_and, Bool.and_true, Nat.beq_refl, rI_1, eq_self, S.1, S.2, ia25, B.1, B.2.1, B.2.2.1, B.2.2.2.1, B.2.2.2.2, (ly_CF I.1).1, y1, s1, s2, s3, s4, y2, LSx, c]
theorem lc_1328 {h : Hp} {x : Int32} {L : Nat} (I : INV h) (S : SCR h L) (B : BX x L) (hb : hN h + 2 < PRE) : ∃ h2, NX h h2 ∧ Run kL_law 1328 (LSx x) [] h = Run kL_law 1621 (LSx x) [] h2 := by
  obtain ⟨res, h1, h2, y1, y2, n, s1, s2, s3, s4⟩ := lw_ci hb (ci_crane I ) HX11_crane HX12_crane S I
  refine ⟨h2, n, (tL_law_1328 _ _ _ _ _ _ _ _).trans ?_⟩
  simp only [oB_some, dR_some, cond_true, cond_false, if_true, if_false, Bool.true_and, Bool.and_true, Nat.beq_refl, rI_1, eq_self, S.1, S.2, ia25, B.1, B.2.1, B.2.2.1, B.2.2.2.1, B.2.2.2.2, (ly_CF I.1).1, y1, s1, s2, s3, s4, y2, LSx]
theorem lc_1341 {h : Hp} {x : Int32} {L : Nat} (I : INV h) (S : SCR h L) (B : BX x L) (hb : hN h + 2 < PRE) : ∃ h2, NX h h2 ∧ Run kL_law 1341 (LSx x) [] h = Run kL_law 1621 (LSx x) [] h2 := by
  by_cases c : (hI h (PRE + 30) (Int32.toNatClampNeg (x + 3))) = 0
  · have C : CI h (FX11_sign [vR (some 0), vI (hI h (PRE + 30) (Int32.toNatClampNeg (x + 1))), vI (hI h (PRE + 30) (Int32.toNatClampNeg (x + 2))), vI 0]) (FX12_sign [vR (some 147), vI (hI h (PRE + 30) (Int32.toNatClampNeg (x + 1))), vI (hI h (PRE + 30) (Int32.toNatClampNeg (x + 2))), vI 0]) := ci_sign I (hI h (PRE + 30) (Int32.toNatClampNeg (x + 1))) (hI h (PRE + 30) (Int32.toNatClampNeg (x + 2))) (i := 0) (by omega)
    obtain ⟨res, h1, h2, y1, y2, n, s1, s2, s3, s4⟩ := lw_ci hb C HX11_sign HX12_sign S I
    refine ⟨h2, n, (tL_law_1341 _ _ _ _ _ _ _ _).trans ?_⟩
    simp only [oB_some, dR_some, cond_true, cond_false, if_true, if_false, Bool.true_and, Bool.and_true, Nat.beq_refl, rI_1, eq_self, S.1, S.2, ia25, B.1, B.2.1, B.2.2.1, B.2.2.2.1, B.2.2.2.2, (ly_CF I.1).1, y1, s1, s2, s3, s4, y2, LSx, c]
  · have C : CI h (FX11_sign [vR (some 0), vI (hI h (PRE + 30) (Int32.toNatClampNeg (x + 1))), vI (hI h (PRE + 30) (Int32.toNatClampNeg (x + 2))), vI 1]) (FX12_sign [vR (some 147), vI (hI h (PRE + 30) (Int32.toNatClampNeg (x + 1))), vI (hI h (PRE + 30) (Int32.toNatClampNeg (x + 2))), vI 1]) := ci_sign I (hI h (PRE + 30) (Int32.toNatClampNeg (x + 1))) (hI h (PRE + 30) (Int32.toNatClampNeg (x + 2))) (i := 1) (by omega)
    obtain ⟨res, h1, h2, y1, y2, n, s1, s2, s3, s4⟩ := lw_ci hb C HX11_sign HX12_sign S I
    refine ⟨h2, n, (tL_law_1341 _ _ _ _ _ _ _ _).trans ?_⟩
    simp only [oB_some, dR_some, cond_true, cond_false, if_true, if_false, Bool.true_and, Bool.and_true, Nat.beq_refl, rI_1, eq_self, S.1, S.2, ia25, B.1, B.2.1, B.2.2.1, B.2.2.2.1, B.2.2.2.2, (ly_CF I.1).1, y1, s1, s2, s3, s4, y2, LSx, c]
theorem lc_1406 {h : Hp} {x : Int32} {L : Nat} (I : INV h) (S : SCR h L) (B : BX x L) (hb : hN h + 2 < PRE) : ∃ h2, NX h h2 ∧ Run kL_law 1406 (LSx x) [] h = Run kL_law 1621 (LSx x) [] h2 := by
  obtain ⟨res, h1, h2, y1, y2, n, s1, s2, s3, s4⟩ := lw_ci hb (ci_from I (hI h (PRE + 30) (Int32.toNatClampNeg (x + 1)))) HX11_from HX12_from S I
  refine ⟨h2, n, (tL_law_1406 _ _ _ _ _ _ _ _).trans ?_⟩
  simp only [oB_some, dR_some, cond_true, cond_false, if_true, if_false, Bool.true_and, Bool.and_true, Nat.beq_refl, rI_1, eq_self, S.1, S.2, ia25, B.1, B.2.1, B.2.2.1, B.2.2.2.1, B.2.2.2.2, (ly_CF I.1).1, y1, s1, s2, s3, s4, y2, LSx]
theorem lc_1431 {h : Hp} {x : Int32} {L : Nat} (I : INV h) (S : SCR h L) (B : BX x L) (hb : hN h + 2 < PRE) : ∃ h2, NX h h2 ∧ Run kL_law 1431 (LSx x) [] h = Run kL_law 1621 (LSx x) [] h2 := by
  obtain ⟨res, h1, h2, y1, y2, n, s1, s2, s3, s4⟩ := lw_ci hb (ci_ask I ) HX11_ask HX12_ask S I
  refine ⟨h2, n, (tL_law_1431 _ _ _ _ _ _ _ _).trans ?_⟩
  simp only [oB_some, dR_some, cond_true, cond_false, if_true, if_false, Bool.true_and, Bool.and_true, Nat.beq_refl, rI_1, eq_self, S.1, S.2, ia25, B.1, B.2.1, B.2.2.1, B.2.2.2.1, B.2.2.2.2, (ly_CF I.1).1, y1, s1, s2, s3, s4, y2, LSx]
theorem lc_1444 {h : Hp} {x : Int32} {L : Nat} (I : INV h) (S : SCR h L) (B : BX x L) (hb : hN h + 2 < PRE) : ∃ h2, NX h h2 ∧ Run kL_law 1444 (LSx x) [] h = Run kL_law 1621 (LSx x) [] h2 := by
  obtain ⟨res, h1, h2, y1, y2, n, s1, s2, s3, s4⟩ := lw_ci hb (ci_odds I (hI h (PRE + 30) (Int32.toNatClampNeg (x + 1))) (hI h (PRE + 30) (Int32.toNatClampNeg (x + 2)))) HX11_odds HX12_odds S I
  refine ⟨h2, n, (tL_law_1444 _ _ _ _ _ _ _ _).trans ?_⟩
  simp only [oB_some, dR_some, cond_true, cond_false, if_true, if_false, Bool.true_and, Bool.and_true, Nat.beq_refl, rI_1, eq_self, S.1, S.2, ia25, B.1, B.2.1, B.2.2.1, B.2.2.2.1, B.2.2.2.2, (ly_CF I.1).1, y1, s1, s2, s3, s4, y2, LSx]
theorem lc_1481 {h : Hp} {x : Int32} {L : Nat} (I : INV h) (S : SCR h L) (B : BX x L) (hb : hN h + 2 < PRE) : ∃ h2, NX h h2 ∧ Run kL_law 1481 (LSx x) [] h = Run kL_law 1621 (LSx x) [] h2 := by
  obtain ⟨res, h1, h2, y1, y2, n, s1, s2, s3, s4⟩ := lw_ci hb (ci_owed I (hI h (PRE + 30) (Int32.toNatClampNeg (x + 1)))) HX11_owed HX12_owed S I
  refine ⟨h2, n, (tL_law_1481 _ _ _ _ _ _ _ _).trans ?_⟩
  simp only [oB_some, dR_some, cond_true, cond_false, if_true, if_false, Bool.true_and, Bool.and_true, Nat.beq_refl, rI_1, eq_self, S.1, S.2, ia25, B.1, B.2.1, B.2.2.1, B.2.2.2.1, B.2.2.2.2, (ly_CF I.1).1, y1, s1, s2, s3, s4, y2, LSx]
theorem lc_1506 {h : Hp} {x : Int32} {L : Nat} (I : INV h) (S : SCR h L) (B : BX x L) (hb : hN h + 2 < PRE) : ∃ h2, NX h h2 ∧ Run kL_law 1506 (LSx x) [] h = Run kL_law 1621 (LSx x) [] h2 := by
  obtain ⟨res, h1, h2, y1, y2, n, s1, s2, s3, s4⟩ := lw_ci hb (ci_bears I (hI h (PRE + 30) (Int32.toNatClampNeg (x + 1)))) HX11_bears HX12_bears S I
  refine ⟨h2, n, (tL_law_1506 _ _ _ _ _ _ _ _).trans ?_⟩
  simp only [oB_some, dR_some, cond_true, cond_false, if_true, if_false, Bool.true_and, Bool.and_true, Nat.beq_refl, rI_1, eq_self, S.1, S.2, ia25, B.1, B.2.1, B.2.2.1, B.2.2.2.1, B.2.2.2.2, (ly_CF I.1).1, y1, s1, s2, s3, s4, y2, LSx]
theorem lc_1531 {h : Hp} {x : Int32} {L : Nat} (I : INV h) (S : SCR h L) (B : BX x L) (hb : hN h + 2 < PRE) : ∃ h2, NX h h2 ∧ Run kL_law 1531 (LSx x) [] h = Run kL_law 1621 (LSx x) [] h2 := by
  obtain ⟨res, h1, h2, y1, y2, n, s1, s2, s3, s4⟩ := lw_ci hb (ci_best I ) HX11_best HX12_best S I
  refine ⟨h2, n, (tL_law_1531 _ _ _ _ _ _ _ _).trans ?_⟩
  simp only [oB_some, dR_some, cond_true, cond_false, if_true, if_false, Bool.true_and, Bool.and_true, Nat.beq_refl, rI_1, eq_self, S.1, S.2, ia25, B.1, B.2.1, B.2.2.1, B.2.2.2.1, B.2.2.2.2, (ly_CF I.1).1, y1, s1, s2, s3, s4, y2, LSx]
theorem lc_1544 {h : Hp} {x : Int32} {L : Nat} (I : INV h) (S : SCR h L) (B : BX x L) (hb : hN h + 2 < PRE) : ∃ h2, NX h h2 ∧ Run kL_law 1544 (LSx x) [] h = Run kL_law 1621 (LSx x) [] h2 := by
  obtain ⟨res, h1, h2, y1, y2, n, s1, s2, s3, s4⟩ := lw_ci hb (ci_thin I ) HX11_thin HX12_thin S I
  refine ⟨h2, n, (tL_law_1544 _ _ _ _ _ _ _ _).trans ?_⟩
  simp only [oB_some, dR_some, cond_true, cond_false, if_true, if_false, Bool.true_and, Bool.and_true, Nat.beq_refl, rI_1, eq_self, S.1, S.2, ia25, B.1, B.2.1, B.2.2.1, B.2.2.2.1, B.2.2.2.2, (ly_CF I.1).1, y1, s1, s2, s3, s4, y2, LSx]
theorem lc_1557 {h : Hp} {x : Int32} {L : Nat} (I : INV h) (S : SCR h L) (B : BX x L) (hb : hN h + 2 < PRE) : ∃ h2, NX h h2 ∧ Run kL_law 1557 (LSx x) [] h = Run kL_law 1621 (LSx x) [] h2 := by
  obtain ⟨res, h1, h2, y1, y2, n, s1, s2, s3, s4⟩ := lw_ci hb (ci_weaves I ) HX11_weaves HX12_weaves S I
  refine ⟨h2, n, (tL_law_1557 _ _ _ _ _ _ _ _).trans ?_⟩
  simp only [oB_some, dR_some, cond_true, cond_false, if_true, if_false, Bool.true_and, Bool.and_true, Nat.beq_refl, rI_1, eq_self, S.1, S.2, ia25, B.1, B.2.1, B.2.2.1, B.2.2.2.1, B.2.2.2.2, (ly_CF I.1).1, y1, s1, s2, s3, s4, y2, LSx]
theorem lc_1570 {h : Hp} {x : Int32} {L : Nat} (I : INV h) (S : SCR h L) (B : BX x L) (hb : hN h + 2 < PRE) : ∃ h2, NX h h2 ∧ Run kL_law 1570 (LSx x) [] h = Run kL_law 1621 (LSx x) [] h2 := by
  obtain ⟨res, h1, h2, y1, y2, n, s1, s2, s3, s4⟩ := lw_ci hb (ci_image I ) HX11_image HX12_image S I
  refine ⟨h2, n, (tL_law_1570 _ _ _ _ _ _ _ _).trans ?_⟩
  simp only [oB_some, dR_some, cond_true, cond_false, if_true, if_false, Bool.true_and, Bool.and_true, Nat.beq_refl, rI_1, eq_self, S.1, S.2, ia25, B.1, B.2.1, B.2.2.1, B.2.2.2.1, B.2.2.2.2, (ly_CF I.1).1, y1, s1, s2, s3, s4, y2, LSx]
theorem lc_1583 {h : Hp} {x : Int32} {L : Nat} (I : INV h) (S : SCR h L) (B : BX x L) (hb : hN h + 2 < PRE) : ∃ h2, NX h h2 ∧ Run kL_law 1583 (LSx x) [] h = Run kL_law 1621 (LSx x) [] h2 := by
  obtain ⟨res, h1, h2, y1, y2, n, s1, s2, s3, s4⟩ := lw_ci hb (ci_back I ) HX11_back HX12_back S I
  refine ⟨h2, n, (tL_law_1583 _ _ _ _ _ _ _ _).trans ?_⟩
  simp only [oB_some, dR_some, cond_true, cond_false, if_true, if_false, Bool.true_and, Bool.and_true, Nat.beq_refl, rI_1, eq_self, S.1, S.2, ia25, B.1, B.2.1, B.2.2.1, B.2.2.2.1, B.2.2.2.2, (ly_CF I.1).1, y1, s1, s2, s3, s4, y2, LSx]
theorem lc_1596 {h : Hp} {x : Int32} {L : Nat} (I : INV h) (S : SCR h L) (B : BX x L) (hb : hN h + 2 < PRE) : ∃ h2, NX h h2 ∧ Run kL_law 1596 (LSx x) [] h = Run kL_law 1621 (LSx x) [] h2 := by
  obtain ⟨res, h1, h2, y1, y2, n, s1, s2, s3, s4⟩ := lw_ci hb (ci_count I (hI h (PRE + 30) (Int32.toNatClampNeg (x + 1)))) HX11_count HX12_count S I
  refine ⟨h2, n, (tL_law_1596 _ _ _ _ _ _ _ _).trans ?_⟩
  simp only [oB_some, dR_some, cond_true, cond_false, if_true, if_false, Bool.true_and, Bool.and_true, Nat.beq_refl, rI_1, eq_self, S.1, S.2, ia25, B.1, B.2.1, B.2.2.1, B.2.2.2.1, B.2.2.2.2, (ly_CF I.1).1, y1, s1, s2, s3, s4, y2, LSx]
