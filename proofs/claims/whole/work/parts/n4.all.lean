/-! ===== the law's method, from the start to its answer ===== -/
theorem law_true {h0 : Hp} {L : Nat} (b : BASE h0) (S : SCR h0 L) (hL : L ≤ 3072) : ∃ h2, FL_law [vR (some (PRE + 30))] h0 = some (rI 1, h2) ∧ hN h2 ≤ 1197 ∧ hS h2 ≤ hS (zz 354) + 153600 := by
  have B := b.1
  have I := inv0 b
  have pb := PRE_big
  have n : hN (ZF h0) = 173 := zNn B (by decide +kernel)
  have S' : SCR (ZF h0) L := ⟨(uK B _ (pE _)).trans S.1, (uE B _ (pE _)).trans S.2⟩
  have O : OUT (ZF h0) := ⟨(ly_LXb I.1).2.2.2.2.2.1.1, (ly_LXb I.1).2.2.2.2.2.1.2⟩
  have hs : hS (ZF h0) = hS (zz 354) := zSs B rfl
  obtain ⟨h2, r, m1, m2⟩ := lw_loop (L := L) (N0 := 173) (S0 := hS (zz 354)) hL 512 0 (ZF h0) I S' O (by omega) (by omega) (by omega) (by rw [hs]; exact Nat.le_add_right _ _) (by omega)
  refine ⟨h2, ?_, by omega, m2⟩
  have z0 : Zb h0 0 = h0 := rfl
  have e0 : nw h0 11 0 (nF 11) = Zb h0 1 := z_nw (h0 := h0) (k := 0) (by decide +kernel)
  have N0 : hN h0 = 0 := congrArg Prod.fst B
  have K1 : hK (Zb h0 1) 0 = 11 := zK B (by decide +kernel)
  have c11 := b11_0 B
  have e1 : nw (Zb h0 299) 12 0 (nF 12) = Zb h0 300 := z_nw (by decide +kernel)
  have N1 : hN (Zb h0 299) = 147 := zNn B (by decide +kernel)
  have K2 : hK (Zb h0 300) 147 = 12 := zK B (by decide +kernel)
  have c12 := b12_0 B
  have e2 : nw (Zb h0 353) 23 (Int32.toNatClampNeg 1) (Int32.toNatClampNeg 1) = Zb h0 354 := z_nw (by decide +kernel)
  have N2 : hN (Zb h0 353) = 172 := zNn B (by decide +kernel)
  have g1 : (decide ((1 : Int32) < 0) || decide (1000000 < (Int32.toNatClampNeg 1))) = false := by decide +kernel
  rw [tL_law]
  simp only [oB_some, dR_some, cond_true, cond_false, if_true, if_false, Bool.true_and, Bool.and_true, Nat.beq_refl, e0, N0, K1, c11, e1, N1, K2, c12, g1, e2, N2]
  exact r
theorem slots0 : hS (zz 354) = 64699 := by decide +kernel
