/-! ===== PURE: rule, debt, odds, game, rests, pieces: by both ===== -/
theorem rule_both {h : Hp} {s : Nat} {r d b : Nat → Nat} {dc bc : Nat} {lw : Option ((Nat → Int32) × Nat)} {v u w lg bk z : Nat → Nat} {A x : Nat} (I : AINV h s r d b dc bc lw v u w lg bk z A x) (y : Int32) : QRY h (FX11_rule [vR (some 0), vI y]) (FX12_rule [vR (some 147), vI y]) := by
  obtain ⟨K0, R01, R02, R04, R05, K3, R30, Ks, Rs2, Rs3, Rs4, Ks1, Es1, Ks2, Es2, Ks3, Es3, K10, R108, K11, E11, K14, K98, td, dcC, bcC, Ev, Eu⟩ := cfa I
  have hm := hom I
  obtain ⟨M147, R18, K152, E152, R20, K154, E154, R22, K156, E156, R32, K160, E160, dcM, bcM, Ew⟩ := mfa (ainv_t I)
  have M0 := (mfa I).1
  have b5 : bc ≤ 5 := I.2.1.2.2.2.1.2.2.2.2.1.2
  have nz : ¬ nI bc = 0 := nI_nz I.2.1.2.2.2.2.1 (by omega)
  have rC := I.2.1.2.2.1.2.2.2.2.1
  have rM := (ainv_t I).2.1.2.2.2.1.2.2.2.2.2.2.1
  have k4 := I.2.2.1.2.2.2.1
  rcases ix_cases y (n := 7) (by omega) with c | ⟨c1, c2, _⟩ | ⟨i, hi, c, c1, c2⟩
  · refine QRY.id (res := -1) ?_ ?_
    · rw [tX11_rule]; simp only [oB_some, dR_some, cond_true, cond_false, if_true, if_false, Bool.true_and, Bool.and_true, Nat.beq_refl, K0, hm, within11, c]
    · rw [tX12_rule]; simp only [oB_some, dR_some, cond_true, cond_false, if_true, if_false, Bool.true_and, Bool.and_true, Nat.beq_refl, M0, M147, bcM, nz, isIn_06, c]
  · have c2' : (6 : Int32) < y := c2
    refine QRY.id (res := -1) ?_ ?_
    · rw [tX11_rule]; simp only [oB_some, dR_some, cond_true, cond_false, if_true, if_false, Bool.true_and, Bool.and_true, Nat.beq_refl, K0, hm, within11, c1, c2']
    · rw [tX12_rule]; simp only [oB_some, dR_some, cond_true, cond_false, if_true, if_false, Bool.true_and, Bool.and_true, Nat.beq_refl, M0, M147, bcM, nz, isIn_06, c1, c2']
  · have c2' : ¬ (6 : Int32) < y := c2
    subst c
    have q0 : (nI i = (0 : Int32)) = (i = 0) := nI_neq' (b := 0) (by omega) (by omega)
    have q3 : (nI i = (3 : Int32)) = (i = 3) := nI_neq' (b := 3) (by omega) (by omega)
    have q5 : (nI i = (5 : Int32)) = (i = 5) := nI_neq' (b := 5) (by omega) (by omega)
    have w0 : w 0 = v 0 := k4.1 0 (by omega)
    have w2 : w 2 = v 2 := k4.1 2 (by omega)
    by_cases z0 : i = 0
    · refine QRY.id (res := nI (v 0)) ?_ ?_
      · rw [tX11_rule]; simp only [oB_some, dR_some, cond_true, cond_false, if_true, if_false, Bool.true_and, Bool.and_true, Nat.beq_refl, K0, hm, within11, c1, c2', ne10, q0.trans (eq_true z0), R02, K10, Ev]
      · rw [tX12_rule]; simp only [oB_some, dR_some, cond_true, cond_false, if_true, if_false, Bool.true_and, Bool.and_true, Nat.beq_refl, M0, M147, bcM, nz, isIn_06, c1, c2', ne10, q0.trans (eq_true z0), R32, K160, E160, iaK20, ib0, tc0, Ew, w0]
    by_cases z3 : i = 3
    · obtain ⟨h2, e2, O2⟩ := takes_now I
      have I2 := ainv_ag I (ag_only O2 (fun a ha => by unfold frC; simp at ha; omega) (by simp))
      obtain ⟨h4, e4, O4⟩ := takes_nowM (ainv_t I2)
      have M2 := mfa (ainv_t I2)
      refine ⟨nI (TK lw r (v 0) (v 2) (v 10) (v 9) (v 4)), h2, h4, ?_, ?_, O2.mono (by decide), (mq_t h2).trans (O4.mq _ _)⟩
      · rw [tX11_rule]; simp only [oB_some, dR_some, cond_true, cond_false, if_true, if_false, Bool.true_and, Bool.and_true, Nat.beq_refl, K0, hm, within11, c1, c2', ne10, q0, z0, q3.trans (eq_true z3), R02, R01, K3, e2]
      · rw [tX12_rule]; simp only [oB_some, dR_some, cond_true, cond_false, if_true, if_false, Bool.true_and, Bool.and_true, Nat.beq_refl, (mfa I2).1, M2.1, M2.2.2.2.2.2.2.2.2.2.2.2.2.2.2.1, nz, isIn_06, c1, c2', ne10, q0, z0, q3.trans (eq_true z3), M2.2.2.2.2.2.2.2.2.2.2.1, e4]
    by_cases z5 : i = 5
    · refine QRY.id (res := nI (v 2)) ?_ ?_
      · rw [tX11_rule]; simp only [oB_some, dR_some, cond_true, cond_false, if_true, if_false, Bool.true_and, Bool.and_true, Nat.beq_refl, K0, hm, within11, c1, c2', ne10, q0, z0, q3, z3, q5.trans (eq_true z5), R02, K10, Ev]
      · rw [tX12_rule]; simp only [oB_some, dR_some, cond_true, cond_false, if_true, if_false, Bool.true_and, Bool.and_true, Nat.beq_refl, M0, M147, bcM, nz, isIn_06, c1, c2', ne10, q0, z0, q3, z3, q5.trans (eq_true z5), R32, K160, E160, iaK20, ib2, tc2, Ew, w2]
    · have ib : inb (nI i) 7 = true := inb_nI hi (by omega)
      have cl : (nI i).toNatClampNeg = i := nI_clamp (by omega)
      refine QRY.id (res := nI (r i)) ?_ ?_
      · rw [tX11_rule]; simp only [oB_some, dR_some, cond_true, cond_false, if_true, if_false, Bool.true_and, Bool.and_true, Nat.beq_refl, K0, hm, within11, c1, c2', ne10, q0, z0, q3, z3, q5, z5, R01, K3, R30, Ks, Rs2, Ks1, Es1, iaK20, ib, cl, rC i hi]
      · rw [tX12_rule]; simp only [oB_some, dR_some, cond_true, cond_false, if_true, if_false, Bool.true_and, Bool.and_true, Nat.beq_refl, M0, M147, bcM, nz, isIn_06, c1, c2', ne10, q0, z0, q3, z3, q5, z5, R18, K152, E152, iaK20, ib, cl, rM i hi]
theorem hasDebt_c {h : Hp} {s : Nat} {r d b : Nat → Nat} {dc bc : Nat} {lw : Option ((Nat → Int32) × Nat)} {v u w lg bk z : Nat → Nat} {A x : Nat} (I : AINV h s r d b dc bc lw v u w lg bk z A x) (y : Int32) : FX11_hasDebt [vR (some 0), vI y] h = some (rI (if y < 0 then 0 else if nI dc - 1 < y then 0 else 1), h) := by
  obtain ⟨K0, R01, R02, R04, R05, K3, R30, Ks, Rs2, Rs3, Rs4, Ks1, Es1, Ks2, Es2, Ks3, Es3, K10, R108, K11, E11, K14, K98, td, dcC, bcC, Ev, Eu⟩ := cfa I
  rw [tX11_hasDebt]
  by_cases c : y < 0
  · simp only [oB_some, dR_some, cond_true, cond_false, if_true, if_false, Bool.true_and, Bool.and_true, Nat.beq_refl, K0, R01, K3, R30, Ks, td, ne10, within11, dcC, c, isZ0]
  · by_cases c2 : nI dc - 1 < y
    · simp only [oB_some, dR_some, cond_true, cond_false, if_true, if_false, Bool.true_and, Bool.and_true, Nat.beq_refl, K0, R01, K3, R30, Ks, td, ne10, within11, dcC, c, c2, isZ0]
    · simp only [oB_some, dR_some, cond_true, cond_false, if_true, if_false, Bool.true_and, Bool.and_true, Nat.beq_refl, K0, R01, K3, R30, Ks, td, ne10, within11, dcC, c, c2, isZ1]
theorem paid_now {h : Hp} {s : Nat} {r d b : Nat → Nat} {dc bc : Nat} {lw : Option ((Nat → Int32) × Nat)} {v u w lg bk z : Nat → Nat} {A x : Nat} (I : AINV h s r d b dc bc lw v u w lg bk z A x) {i : Nat} (hi : i < 6) : FX4_hasPaid [vR (some 10), vI (nI i)] h = some (rI (nI (v 7 / 2 ^ i % 2)), h) := by
  obtain ⟨⟨C, P, D, L, U, RL⟩, _, ⟨⟨n1, n2, _⟩, k2, _⟩, _⟩ := I
  have := paid_c (v := v) (u := u) L k2.2.2.2.2.2.2.1 hi
  rw [LN_self n1 n2] at this
  exact this
theorem debt_both {h : Hp} {s : Nat} {r d b : Nat → Nat} {dc bc : Nat} {lw : Option ((Nat → Int32) × Nat)} {v u w lg bk z : Nat → Nat} {A x : Nat} (I : AINV h s r d b dc bc lw v u w lg bk z A x) (y y2 : Int32) : QRY h (FX11_debt [vR (some 0), vI y, vI y2]) (FX12_debt [vR (some 147), vI y, vI y2]) := by
  obtain ⟨K0, R01, R02, R04, R05, K3, R30, Ks, Rs2, Rs3, Rs4, Ks1, Es1, Ks2, Es2, Ks3, Es3, K10, R108, K11, E11, K14, K98, td, dcC, bcC, Ev, Eu⟩ := cfa I
  have J := ainv_t I
  obtain ⟨M147, R18, K152, E152, R20, K154, E154, R22, K156, E156, R32, K160, E160, dcM, bcM, Ew⟩ := mfa J
  have M0 := (mfa I).1
  have d6 : dc ≤ 6 := I.2.1.2.2.2.1.2.2.2.2.1.1
  have dC := I.2.1.2.2.1.2.2.2.2.2.1
  have dM := J.2.1.2.2.2.1.2.2.2.2.2.2.2.1
  have k4 := I.2.2.1.2.2.2.1
  have k2 := I.2.2.1.2.1
  have RL := J.1.2.2.2.2.2
  have hD := hasDebt_c I y
  rcases ix_cases y (n := dc) (by omega) with c | ⟨c1, c2, c3⟩ | ⟨i, hi, c, c1, c2⟩
  · refine QRY.id (res := -1) ?_ ?_
    · rw [tX11_debt]; simp only [oB_some, dR_some, cond_true, cond_false, if_true, if_false, Bool.true_and, Bool.and_true, Nat.beq_refl, K0, hD, c]
    · rw [tX12_debt]; simp only [oB_some, dR_some, cond_true, cond_false, if_true, if_false, Bool.true_and, Bool.and_true, Nat.beq_refl, M0, M147, tX12_isDebt, c, isZ0]
  · have c5 : nI dc ≤ y := by
      obtain ⟨j, hj, ej⟩ := nI_of c1
      rw [ej]
      exact nI_le (c3 j ej hj) (by omega)
    refine QRY.id (res := -1) ?_ ?_
    · rw [tX11_debt]; simp only [oB_some, dR_some, cond_true, cond_false, if_true, if_false, Bool.true_and, Bool.and_true, Nat.beq_refl, K0, hD, c1, c2]
    · rw [tX12_debt]; simp only [oB_some, dR_some, cond_true, cond_false, if_true, if_false, Bool.true_and, Bool.and_true, Nat.beq_refl, M0, M147, tX12_isDebt, c1, dcM, c5, isZ0]
  · subst c
    have c5 : ¬ nI dc ≤ nI i := nI_ge hi (by omega)
    obtain ⟨i30, i300, i31, i32, ia0, ia1, ia2, ic0, ic1, ic2⟩ := ix3 (i := i) (N := 18) (by omega) (by omega)
    have pd := paid_now I (i := i) (by omega)
    have owC := owes_c I.2.1.2.2.1 hi (wk := v 9) (by have := k2.2.2.2.2.2.2.2.1; omega)
    have own := debtNow_m (w := w) J.2.1.2.2.2.1 RL hi (by have := k2.2.2.2.2.2.2.2.1; have := k4.2.1; omega)
    rw [RN_self J.2.2.1.2.2.1, k4.2.1] at own
    have i8 : (8 : Int32) + nI i = nI (8 + i) := nI_add 8 i
    have ib8 : inb (nI (8 + i)) 381 = true := inb_nI (by omega) (by omega)
    have cl8 : (nI (8 + i)).toNatClampNeg = 8 + i := nI_clamp (by omega)
    have w8 := k4.2.2.1 i (by omega)
    rcases ix_cases y2 (n := 5) (by omega) with k | ⟨q1, q2, _⟩ | ⟨j, hj, k, q1, q2⟩
    · have t0 : ¬ y2 = 0 := fun e => by rw [e] at k; revert k; decide
      have t1 : ¬ y2 = 1 := fun e => by rw [e] at k; revert k; decide
      have t2 : ¬ y2 = 2 := fun e => by rw [e] at k; revert k; decide
      have t3 : ¬ y2 = 3 := fun e => by rw [e] at k; revert k; decide
      have t4 : ¬ y2 = 4 := fun e => by rw [e] at k; revert k; decide
      refine QRY.id (res := -1) ?_ ?_
      · rw [tX11_debt]; simp only [oB_some, dR_some, cond_true, cond_false, if_true, if_false, Bool.true_and, Bool.and_true, Nat.beq_refl, K0, hD, c1, c2, ne10, t0, t1, t2, t3, t4]
      · rw [tX12_debt]; simp only [oB_some, dR_some, cond_true, cond_false, if_true, if_false, Bool.true_and, Bool.and_true, Nat.beq_refl, M0, M147, tX12_isDebt, c1, dcM, c5, isZ1, ne10, isIn_04, k]
    · have q2' : (4 : Int32) < y2 := q2
      have t0 : ¬ y2 = 0 := fun e => by rw [e] at q2'; revert q2'; decide
      have t1 : ¬ y2 = 1 := fun e => by rw [e] at q2'; revert q2'; decide
      have t2 : ¬ y2 = 2 := fun e => by rw [e] at q2'; revert q2'; decide
      have t3 : ¬ y2 = 3 := fun e => by rw [e] at q2'; revert q2'; decide
      have t4 : ¬ y2 = 4 := fun e => by rw [e] at q2'; revert q2'; decide
      refine QRY.id (res := -1) ?_ ?_
      · rw [tX11_debt]; simp only [oB_some, dR_some, cond_true, cond_false, if_true, if_false, Bool.true_and, Bool.and_true, Nat.beq_refl, K0, hD, c1, c2, ne10, t0, t1, t2, t3, t4]
      · rw [tX12_debt]; simp only [oB_some, dR_some, cond_true, cond_false, if_true, if_false, Bool.true_and, Bool.and_true, Nat.beq_refl, M0, M147, tX12_isDebt, c1, dcM, c5, isZ1, ne10, isIn_04, q1, q2']
    · have q2' : ¬ (4 : Int32) < y2 := q2
      subst k
      have t0 : (nI j = (0 : Int32)) = (j = 0) := nI_neq' (b := 0) (by omega) (by omega)
      have t1 : (nI j = (1 : Int32)) = (j = 1) := nI_neq' (b := 1) (by omega) (by omega)
      have t2 : (nI j = (2 : Int32)) = (j = 2) := nI_neq' (b := 2) (by omega) (by omega)
      have t3 : (nI j = (3 : Int32)) = (j = 3) := nI_neq' (b := 3) (by omega) (by omega)
      have t4 : (nI j = (4 : Int32)) = (j = 4) := nI_neq' (b := 4) (by omega) (by omega)
      by_cases z3 : j = 3
      · refine QRY.id (res := nI (ow d i (v 9))) ?_ ?_
        · subst z3
          rw [tX11_debt]; simp only [oB_some, dR_some, cond_true, cond_false, if_true, if_false, Bool.true_and, Bool.and_true, Nat.beq_refl, K0, hD, c1, c2, ne10, t0, t1, t2, t3, show ¬ (3 = 0) by decide, show ¬ (3 = 1) by decide, show ¬ (3 = 2) by decide, R02, R01, K10, K3, Ev, owC]
        · rw [tX12_debt]; simp only [oB_some, dR_some, cond_true, cond_false, if_true, if_false, Bool.true_and, Bool.and_true, Nat.beq_refl, M0, M147, tX12_isDebt, c1, dcM, c5, isZ1, ne10, isIn_04, q1, q2', t3.trans (eq_true z3), R32, own]
      by_cases z4 : j = 4
      · refine QRY.id (res := nI (v 7 / 2 ^ i % 2)) ?_ ?_
        · subst z4
          rcases (show v 7 / 2 ^ i % 2 = 0 ∨ v 7 / 2 ^ i % 2 = 1 by omega) with p | p
          · rw [tX11_debt]; simp only [oB_some, dR_some, cond_true, cond_false, if_true, if_false, Bool.true_and, Bool.and_true, Nat.beq_refl, K0, hD, c1, c2, ne10, t0, t1, t2, t3, t4, show ¬ (4 = 0) by decide, show ¬ (4 = 1) by decide, show ¬ (4 = 2) by decide, show ¬ (4 = 3) by decide, R02, K10, pd, p, nI_0]
          · rw [tX11_debt]; simp only [oB_some, dR_some, cond_true, cond_false, if_true, if_false, Bool.true_and, Bool.and_true, Nat.beq_refl, K0, hD, c1, c2, ne10, t0, t1, t2, t3, t4, show ¬ (4 = 0) by decide, show ¬ (4 = 1) by decide, show ¬ (4 = 2) by decide, show ¬ (4 = 3) by decide, R02, K10, pd, p, show ¬ nI 1 = 0 by decide]; rfl
        · rw [tX12_debt]; simp only [oB_some, dR_some, cond_true, cond_false, if_true, if_false, Bool.true_and, Bool.and_true, Nat.beq_refl, M0, M147, tX12_isDebt, c1, dcM, c5, isZ1, ne10, isIn_04, q1, q2', t3, z3, t4.trans (eq_true z4), R32, K160, E160, iaK20, i8, ib8, cl8, Ew, w8]
      · have ea : nI (3 * i) + nI j = nI (3 * i + j) := nI_add _ _
        have eb : inb (nI (3 * i + j)) 18 = true := inb_nI (by omega) (by omega)
        have ec : (nI (3 * i + j)).toNatClampNeg = 3 * i + j := nI_clamp (by omega)
        have dCi := dC (3 * i + j) (by omega)
        have dMi := dM (3 * i + j) (by omega)
        refine QRY.id (res := nI (d (3 * i + j))) ?_ ?_
        · rw [tX11_debt]
          rcases (show j = 0 ∨ j = 1 ∨ j = 2 by omega) with z | z | z
          · simp only [oB_some, dR_some, cond_true, cond_false, if_true, if_false, Bool.true_and, Bool.and_true, Nat.beq_refl, K0, hD, c1, c2, ne10, t0.trans (eq_true z), R01, K3, R30, Ks, Rs3, Ks2, Es2, iaK20, i30, ea, eb, ec, dCi]
          · simp only [oB_some, dR_some, cond_true, cond_false, if_true, if_false, Bool.true_and, Bool.and_true, Nat.beq_refl, K0, hD, c1, c2, ne10, t0.trans (eq_false (show ¬ j = 0 by omega)), t1.trans (eq_true z), R01, K3, R30, Ks, Rs3, Ks2, Es2, iaK20, i30, ea, eb, ec, dCi]
          · simp only [oB_some, dR_some, cond_true, cond_false, if_true, if_false, Bool.true_and, Bool.and_true, Nat.beq_refl, K0, hD, c1, c2, ne10, t0.trans (eq_false (show ¬ j = 0 by omega)), t1.trans (eq_false (show ¬ j = 1 by omega)), t2.trans (eq_true z), R01, K3, R30, Ks, Rs3, Ks2, Es2, iaK20, i30, ea, eb, ec, dCi]
        · rw [tX12_debt]; simp only [oB_some, dR_some, cond_true, cond_false, if_true, if_false, Bool.true_and, Bool.and_true, Nat.beq_refl, M0, M147, tX12_isDebt, c1, dcM, c5, isZ1, ne10, isIn_04, q1, q2', t3, z3, t4, z4, R20, K154, E154, iaK20, i30, ea, eb, ec, dMi]
theorem odds_loop (h g : Hp) (n : Nat) (x2 : Int32) (hn : n ≤ 30) : ∀ k i (x3 : Int64) (o0 o4 p0 p4 : Option EV), i + k = n → ∃ res, Run kX11_odds 48 [o0, some (vI (nI n)), some (vI x2), some (vL x3), o4, some (vI (nI i))] [] h = some (rI res, h) ∧ Run kX12_odds 57 [p0, some (vI (nI n)), some (vI x2), some (vL x3), p4, some (vI (nI i))] [] g = some (rI res, g) := by
  intro k
  induction k with
  | zero =>
    intro i x3 o0 o4 p0 p4 e
    have c : nI n ≤ nI i := nI_le (by omega) (by omega)
    refine ⟨Int64.toInt32 x3, ?_, ?_⟩
    · rw [tX11_odds_48]; simp only [c, if_true]
    · rw [tX12_odds_57]; simp only [c, if_true]
  | succ k ih =>
    intro i x3 o0 o4 p0 p4 e
    have c : ¬ nI n ≤ nI i := nI_ge (by omega) (by omega)
    obtain ⟨res, e1, e2⟩ := ih (i + 1) (x3 - ((x3 * (Int32.toInt64 x2)) / (100))) none none none none (by omega)
    refine ⟨res, ?_, ?_⟩
    · rw [tX11_odds_48]; simp only [c, ne100, if_false, nI_1]; exact e1
    · rw [tX12_odds_57]; simp only [c, ne100, if_false, nI_1]; exact e2
theorem odds_both {h : Hp} {s : Nat} {r d b : Nat → Nat} {dc bc : Nat} {lw : Option ((Nat → Int32) × Nat)} {v u w lg bk z : Nat → Nat} {A x : Nat} (I : AINV h s r d b dc bc lw v u w lg bk z A x) (y y2 : Int32) : QRY h (FX11_odds [vR (some 0), vI y, vI y2]) (FX12_odds [vR (some 147), vI y, vI y2]) := by
  obtain ⟨K0, R01, R02, R04, R05, K3, R30, Ks, Rs2, Rs3, Rs4, Ks1, Es1, Ks2, Es2, Ks3, Es3, K10, R108, K11, E11, K14, K98, td, dcC, bcC, Ev, Eu⟩ := cfa I
  have hm := hom I
  obtain ⟨M147, R18, K152, E152, R20, K154, E154, R22, K156, E156, R32, K160, E160, dcM, bcM, Ew⟩ := mfa (ainv_t I)
  have M0 := (mfa I).1
  have b5 : bc ≤ 5 := I.2.1.2.2.2.1.2.2.2.2.1.2
  have nz : ¬ nI bc = 0 := nI_nz I.2.1.2.2.2.2.1 (by omega)
  have k4 := I.2.2.1.2.2.2.1
  have v1 := I.2.2.1.2.1.2.1
  have w1 : w 1 = v 1 := k4.1 1 (by omega)
  rcases ix_cases y (n := 31) (by omega) with c | ⟨c1, c2, _⟩ | ⟨i, hi, c, c1, c2⟩
  · refine QRY.id (res := -1) ?_ ?_
    · rw [tX11_odds]; simp only [oB_some, dR_some, cond_true, cond_false, if_true, if_false, Bool.true_and, Bool.and_true, Nat.beq_refl, K0, hm, within11, c]
    · rw [tX12_odds]; simp only [oB_some, dR_some, cond_true, cond_false, if_true, if_false, Bool.true_and, Bool.and_true, Nat.beq_refl, M0, M147, bcM, nz, isIn_030, c]
  · have c2' : (30 : Int32) < y := c2
    refine QRY.id (res := -1) ?_ ?_
    · rw [tX11_odds]; simp only [oB_some, dR_some, cond_true, cond_false, if_true, if_false, Bool.true_and, Bool.and_true, Nat.beq_refl, K0, hm, within11, c1, c2']
    · rw [tX12_odds]; simp only [oB_some, dR_some, cond_true, cond_false, if_true, if_false, Bool.true_and, Bool.and_true, Nat.beq_refl, M0, M147, bcM, nz, isIn_030, c1, c2']
  · have c2' : ¬ (30 : Int32) < y := c2
    by_cases k : y2 < 0
    · refine QRY.id (res := -1) ?_ ?_
      · rw [tX11_odds]; simp only [oB_some, dR_some, cond_true, cond_false, if_true, if_false, Bool.true_and, Bool.and_true, Nat.beq_refl, K0, hm, within11, c1, c2', ne10, k]
      · rw [tX12_odds]; simp only [oB_some, dR_some, cond_true, cond_false, if_true, if_false, Bool.true_and, Bool.and_true, Nat.beq_refl, M0, M147, bcM, nz, isIn_030, c1, c2', ne10, isIn_0100, k]
    by_cases k2 : (100 : Int32) < y2
    · refine QRY.id (res := -1) ?_ ?_
      · rw [tX11_odds]; simp only [oB_some, dR_some, cond_true, cond_false, if_true, if_false, Bool.true_and, Bool.and_true, Nat.beq_refl, K0, hm, within11, c1, c2', ne10, k, k2]
      · rw [tX12_odds]; simp only [oB_some, dR_some, cond_true, cond_false, if_true, if_false, Bool.true_and, Bool.and_true, Nat.beq_refl, M0, M147, bcM, nz, isIn_030, c1, c2', ne10, isIn_0100, k, k2]
    · subst c
      rcases (show v 1 = 0 ∨ v 1 = 1 by omega) with p | p
      · obtain ⟨res, e1, e2⟩ := odds_loop h (sI h 147 0 0) i y2 (by omega) i 0 1000000000 (some (vR (some 0))) none (some (vR (some 147))) none (by omega)
        refine QRY.id (res := res) ?_ ?_
        · rw [tX11_odds]; simp only [oB_some, dR_some, cond_true, cond_false, if_true, if_false, Bool.true_and, Bool.and_true, Nat.beq_refl, K0, hm, within11, c1, c2', ne10, k, k2, R02, K10, Ev, p, nI_0]; exact e1
        · rw [tX12_odds]; simp only [oB_some, dR_some, cond_true, cond_false, if_true, if_false, Bool.true_and, Bool.and_true, Nat.beq_refl, M0, M147, bcM, nz, isIn_030, c1, c2', ne10, isIn_0100, k, k2, R32, K160, E160, iaK20, ib1, tc1, Ew, w1, p, nI_0, ne01]; exact e2
      · refine QRY.id (res := 0) ?_ ?_
        · rw [tX11_odds]; simp only [oB_some, dR_some, cond_true, cond_false, if_true, if_false, Bool.true_and, Bool.and_true, Nat.beq_refl, K0, hm, within11, c1, c2', ne10, k, k2, R02, K10, Ev, p, show ¬ nI 1 = 0 by decide]
        · rw [tX12_odds]; simp only [oB_some, dR_some, cond_true, cond_false, if_true, if_false, Bool.true_and, Bool.and_true, Nat.beq_refl, M0, M147, bcM, nz, isIn_030, c1, c2', ne10, isIn_0100, k, k2, R32, K160, E160, iaK20, ib1, tc1, Ew, w1, p, show nI 1 = 1 by decide]
/-! he looks, she shows -/
def hisF (k : Nat) (x y : Int32) : Int32 := if y = 1 then 3 else if x = 1 then 6 else 2 - nI k / 3
def herF (k : Nat) (x y : Int32) : Int32 := if x = 1 then y else if y = 1 then 5 else 4 - nI k / 3
theorem his_c {h : Hp} {s : Nat} {r d b : Nat → Nat} {dc bc : Nat} {lw : Option ((Nat → Int32) × Nat)} {v u w lg bk z : Nat → Nat} {A x : Nat} (I : AINV h s r d b dc bc lw v u w lg bk z A x) (p q : Int32) : FX11_hisShare [vR (some 0), vI p, vI q] h = some (rI (hisF (v 2) p q), h) := by
  obtain ⟨K0, R01, R02, R04, R05, K3, R30, Ks, Rs2, Rs3, Rs4, Ks1, Es1, Ks2, Es2, Ks3, Es3, K10, R108, K11, E11, K14, K98, td, dcC, bcC, Ev, Eu⟩ := cfa I
  rw [tX11_hisShare]
  unfold hisF
  by_cases c : q = 1
  · simp only [c, if_true]
  · by_cases c2 : p = 1
    · simp only [c, c2, if_true, if_false]
    · simp only [oB_some, dR_some, cond_true, cond_false, if_true, if_false, Bool.true_and, Bool.and_true, Nat.beq_refl, c, c2, K0, R02, K10, ne30, Ev]
theorem her_c {h : Hp} {s : Nat} {r d b : Nat → Nat} {dc bc : Nat} {lw : Option ((Nat → Int32) × Nat)} {v u w lg bk z : Nat → Nat} {A x : Nat} (I : AINV h s r d b dc bc lw v u w lg bk z A x) (p q : Int32) : FX11_herShare [vR (some 0), vI p, vI q] h = some (rI (herF (v 2) p q), h) := by
  obtain ⟨K0, R01, R02, R04, R05, K3, R30, Ks, Rs2, Rs3, Rs4, Ks1, Es1, Ks2, Es2, Ks3, Es3, K10, R108, K11, E11, K14, K98, td, dcC, bcC, Ev, Eu⟩ := cfa I
  rw [tX11_herShare]
  unfold herF
  by_cases c : p = 1
  · simp only [c, if_true]
  · by_cases c2 : q = 1
    · simp only [c, c2, if_true, if_false]
    · simp only [oB_some, dR_some, cond_true, cond_false, if_true, if_false, Bool.true_and, Bool.and_true, Nat.beq_refl, c, c2, K0, R02, K10, ne30, Ev]
theorem gam_m {h : Hp} {s : Nat} {r d b : Nat → Nat} {dc bc : Nat} {lw : Option ((Nat → Int32) × Nat)} {v u w lg bk z : Nat → Nat} {A x : Nat} (I : AINV h s r d b dc bc lw v u w lg bk z A x) (p q : Int32) (hq : q = 0 ∨ q = 1) : FX12_gameOf [vR (some 147), vI p, vI q, vI 0] h = some (rI (hisF (v 2) p q), h) ∧ FX12_gameOf [vR (some 147), vI p, vI q, vI 1] h = some (rI (herF (v 2) p q), h) := by
  obtain ⟨M147, R18, K152, E152, R20, K154, E154, R22, K156, E156, R32, K160, E160, dcM, bcM, Ew⟩ := mfa I
  have w2 : w 2 = v 2 := I.2.2.1.2.2.2.1.1 2 (by omega)
  rw [tX12_gameOf, tX12_gameOf]
  unfold hisF herF
  rcases hq with e | e
  · subst e
    by_cases c : p = 1
    · simp only [c, ne10, ne01, if_true, if_false, and_self]
    · simp only [oB_some, dR_some, cond_true, cond_false, if_true, if_false, Bool.true_and, Bool.and_true, Nat.beq_refl, c, ne10, ne01, M147, R32, K160, E160, iaK20, ib2, tc2, Ew, w2, ne30, and_self]
  · subst e
    by_cases c : p = 1
    · simp only [c, ne10, ne01, if_true, if_false, and_self]
    · simp only [c, ne10, ne01, if_true, if_false, and_self]
theorem in01 {y : Int32} (c1 : ¬ y < 0) (c2 : ¬ (1 : Int32) < y) : y = 0 ∨ y = 1 := by
  obtain ⟨j, hj, e⟩ := nI_of2 (M := 1) (n := 1) (by decide) c1 (Int32.not_lt.mp c2)
  rcases (show j = 0 ∨ j = 1 by omega) with z | z
  · subst z; exact Or.inl e
  · subst z; exact Or.inr e
theorem game_both {h : Hp} {s : Nat} {r d b : Nat → Nat} {dc bc : Nat} {lw : Option ((Nat → Int32) × Nat)} {v u w lg bk z : Nat → Nat} {A x : Nat} (I : AINV h s r d b dc bc lw v u w lg bk z A x) (y y2 y3 : Int32) : QRY h (FX11_game [vR (some 0), vI y, vI y2, vI y3]) (FX12_game [vR (some 147), vI y, vI y2, vI y3]) := by
  obtain ⟨K0, R01, R02, R04, R05, K3, R30, Ks, Rs2, Rs3, Rs4, Ks1, Es1, Ks2, Es2, Ks3, Es3, K10, R108, K11, E11, K14, K98, td, dcC, bcC, Ev, Eu⟩ := cfa I
  have hm := hom I
  have J := ainv_t I
  obtain ⟨M147, R18, K152, E152, R20, K154, E154, R22, K156, E156, R32, K160, E160, dcM, bcM, Ew⟩ := mfa J
  have M0 := (mfa I).1
  have b5 : bc ≤ 5 := I.2.1.2.2.2.1.2.2.2.2.1.2
  have nz : ¬ nI bc ≤ 0 := nI_nle I.2.1.2.2.2.2.1 (by omega)
  by_cases c1 : y < 0
  · refine QRY.id (res := -1000000) ?_ ?_
    · rw [tX11_game]; simp only [oB_some, dR_some, cond_true, cond_false, if_true, if_false, Bool.true_and, Bool.and_true, Nat.beq_refl, K0, hm, within11, c1]
    · rw [tX12_game]; simp only [oB_some, dR_some, cond_true, cond_false, if_true, if_false, Bool.true_and, Bool.and_true, Nat.beq_refl, M0, M147, bcM, nz, isIn_01, c1]
  by_cases c2 : (1 : Int32) < y
  · refine QRY.id (res := -1000000) ?_ ?_
    · rw [tX11_game]; simp only [oB_some, dR_some, cond_true, cond_false, if_true, if_false, Bool.true_and, Bool.and_true, Nat.beq_refl, K0, hm, within11, c1, c2]
    · rw [tX12_game]; simp only [oB_some, dR_some, cond_true, cond_false, if_true, if_false, Bool.true_and, Bool.and_true, Nat.beq_refl, M0, M147, bcM, nz, isIn_01, c1, c2]
  by_cases c3 : y2 < 0
  · refine QRY.id (res := -1000000) ?_ ?_
    · rw [tX11_game]; simp only [oB_some, dR_some, cond_true, cond_false, if_true, if_false, Bool.true_and, Bool.and_true, Nat.beq_refl, K0, hm, within11, c1, c2, ne10, c3]
    · rw [tX12_game]; simp only [oB_some, dR_some, cond_true, cond_false, if_true, if_false, Bool.true_and, Bool.and_true, Nat.beq_refl, M0, M147, bcM, nz, isIn_01, c1, c2, ne10, c3]
  by_cases c4 : (1 : Int32) < y2
  · refine QRY.id (res := -1000000) ?_ ?_
    · rw [tX11_game]; simp only [oB_some, dR_some, cond_true, cond_false, if_true, if_false, Bool.true_and, Bool.and_true, Nat.beq_refl, K0, hm, within11, c1, c2, ne10, c3, c4]
    · rw [tX12_game]; simp only [oB_some, dR_some, cond_true, cond_false, if_true, if_false, Bool.true_and, Bool.and_true, Nat.beq_refl, M0, M147, bcM, nz, isIn_01, c1, c2, ne10, c3, c4]
  by_cases c5 : y3 < 0
  · refine QRY.id (res := -1000000) ?_ ?_
    · rw [tX11_game]; simp only [oB_some, dR_some, cond_true, cond_false, if_true, if_false, Bool.true_and, Bool.and_true, Nat.beq_refl, K0, hm, within11, c1, c2, ne10, c3, c4, c5]
    · rw [tX12_game]; simp only [oB_some, dR_some, cond_true, cond_false, if_true, if_false, Bool.true_and, Bool.and_true, Nat.beq_refl, M0, M147, bcM, nz, isIn_01, c1, c2, ne10, c3, c4, c5]
  by_cases c6 : (1 : Int32) < y3
  · refine QRY.id (res := -1000000) ?_ ?_
    · rw [tX11_game]; simp only [oB_some, dR_some, cond_true, cond_false, if_true, if_false, Bool.true_and, Bool.and_true, Nat.beq_refl, K0, hm, within11, c1, c2, ne10, c3, c4, c5, c6]
    · rw [tX12_game]; simp only [oB_some, dR_some, cond_true, cond_false, if_true, if_false, Bool.true_and, Bool.and_true, Nat.beq_refl, M0, M147, bcM, nz, isIn_01, c1, c2, ne10, c3, c4, c5, c6]
  have gm := gam_m J y y2 (in01 c3 c4)
  rcases in01 c5 c6 with e | e
  · refine QRY.id (res := hisF (v 2) y y2) ?_ ?_
    · rw [tX11_game, e]; rw [e] at c5 c6; simp only [oB_some, dR_some, cond_true, cond_false, if_true, if_false, Bool.true_and, Bool.and_true, Nat.beq_refl, K0, hm, within11, c1, c2, ne10, c3, c4, c5, c6, his_c I]
    · rw [tX12_game, e]; rw [e] at c5 c6; simp only [oB_some, dR_some, cond_true, cond_false, if_true, if_false, Bool.true_and, Bool.and_true, Nat.beq_refl, M0, M147, bcM, nz, isIn_01, c1, c2, ne10, c3, c4, c5, c6, gm.1]
  · refine QRY.id (res := herF (v 2) y y2) ?_ ?_
    · rw [tX11_game, e]; rw [e] at c5 c6; simp only [oB_some, dR_some, cond_true, cond_false, if_true, if_false, Bool.true_and, Bool.and_true, Nat.beq_refl, K0, hm, within11, c1, c2, ne10, c3, c4, c5, c6, her_c I]
    · rw [tX12_game, e]; rw [e] at c5 c6; simp only [oB_some, dR_some, cond_true, cond_false, if_true, if_false, Bool.true_and, Bool.and_true, Nat.beq_refl, M0, M147, bcM, nz, isIn_01, c1, c2, ne10, c3, c4, c5, c6, gm.2]
theorem pr4 : ∀ i, i < 4 → (nI i / 2 = 0 ∨ nI i / 2 = 1) ∧ (nI i - nI i / 2 * 2 = 0 ∨ nI i - nI i / 2 * 2 = 1) ∧ (1 - (nI i - nI i / 2 * 2) = 0 ∨ 1 - (nI i - nI i / 2 * 2) = 1) := by decide
theorem rest_loop {h : Hp} {s : Nat} {r d b : Nat → Nat} {dc bc : Nat} {lw : Option ((Nat → Int32) × Nat)} {v u w lg bk z : Nat → Nat} {A x : Nat} {g : Hp} (I : AINV h s r d b dc bc lw v u w lg bk z A x) (J : AINV g s r d b dc bc lw v u w lg bk z A x) (y : Int32) : ∀ k i (m : Int32) (o4 o5 p4 p5 : Option EV), i + k = 4 → ∃ res, Run kX11_rests 18 [some (vR (some 0)), some (vI y), some (vI m), some (vI (nI i)), o4, o5] [] h = some (rI res, h) ∧ Run kX12_rests 23 [some (vR (some 147)), some (vI y), some (vI m), some (vI (nI i)), p4, p5] [] g = some (rI res, g) := by
  obtain ⟨K0, R01, R02, R04, R05, K3, R30, Ks, Rs2, Rs3, Rs4, Ks1, Es1, Ks2, Es2, Ks3, Es3, K10, R108, K11, E11, K14, K98, td, dcC, bcC, Ev, Eu⟩ := cfa I
  have M147 := (mfa J).1
  intro k
  induction k with
  | zero =>
    intro i m o4 o5 p4 p5 e
    have c : (4 : Int32) ≤ nI i := nI_le (a := 4) (by omega) (by omega)
    by_cases q : y = -1
    · refine ⟨m, ?_, ?_⟩
      · rw [tX11_rests_18]; simp only [c, q, if_true]
      · rw [tX12_rests_23]; simp only [c, q, if_true]
    · refine ⟨-1, ?_, ?_⟩
      · rw [tX11_rests_18]; simp only [c, q, if_true, if_false]
      · rw [tX12_rests_23]; simp only [c, q, if_true, if_false]
  | succ k ih =>
    intro i m o4 o5 p4 p5 e
    have c : ¬ (4 : Int32) ≤ nI i := nI_ge (b := 4) (by omega) (by omega)
    obtain ⟨-, y1, y2⟩ := pr4 i (by omega)
    have g1 := (gam_m J (1 - nI i / 2) _ y1).1
    have g2 := (gam_m J (nI i / 2) _ y1).1
    have g3 := (gam_m J (nI i / 2) _ y2).2
    have g4 := (gam_m J (nI i / 2) _ y1).2
    rw [tX11_rests_18, tX12_rests_23, tX11_isRest]
    simp only [oB_some, dR_some, cond_true, cond_false, if_true, if_false, Bool.true_and, Bool.and_true, Nat.beq_refl, c, ne20, K0, his_c I, her_c I, M147, g1, g2, g3, g4, nI_1]
    by_cases a1 : hisF (v 2) (nI i / 2) (nI i - nI i / 2 * 2) < hisF (v 2) (1 - nI i / 2) (nI i - nI i / 2 * 2)
    · simp only [oB_some, dR_some, cond_true, cond_false, if_true, if_false, Bool.true_and, Bool.and_true, Nat.beq_refl, a1, isZ0]
      exact ih (i + 1) m _ _ _ _ (by omega)
    · by_cases a2 : herF (v 2) (nI i / 2) (nI i - nI i / 2 * 2) < herF (v 2) (nI i / 2) (1 - (nI i - nI i / 2 * 2))
      · have a3 := Int32.not_le.mpr a2
        simp only [oB_some, dR_some, cond_true, cond_false, if_true, if_false, Bool.true_and, Bool.and_true, Nat.beq_refl, a1, a2, a3, isZ0]
        exact ih (i + 1) m _ _ _ _ (by omega)
      · have a3 := Int32.not_lt.mp a2
        simp only [oB_some, dR_some, cond_true, cond_false, if_true, if_false, Bool.true_and, Bool.and_true, Nat.beq_refl, a1, a2, a3, isZ1, ne10]
        by_cases q : m = y
        · exact ⟨10 * (nI i / 2) + (nI i - nI i / 2 * 2), by simp only [q, if_true], by simp only [q, if_true]⟩
        · simp only [q, if_false]
          exact ih (i + 1) (m + 1) _ _ _ _ (by omega)
theorem rests_both {h : Hp} {s : Nat} {r d b : Nat → Nat} {dc bc : Nat} {lw : Option ((Nat → Int32) × Nat)} {v u w lg bk z : Nat → Nat} {A x : Nat} (I : AINV h s r d b dc bc lw v u w lg bk z A x) (y : Int32) : QRY h (FX11_rests [vR (some 0), vI y]) (FX12_rests [vR (some 147), vI y]) := by
  obtain ⟨K0, R01, R02, R04, R05, K3, R30, Ks, Rs2, Rs3, Rs4, Ks1, Es1, Ks2, Es2, Ks3, Es3, K10, R108, K11, E11, K14, K98, td, dcC, bcC, Ev, Eu⟩ := cfa I
  have hm := hom I
  have J := ainv_t I
  obtain ⟨M147, R18, K152, E152, R20, K154, E154, R22, K156, E156, R32, K160, E160, dcM, bcM, Ew⟩ := mfa J
  have M0 := (mfa I).1
  have b5 : bc ≤ 5 := I.2.1.2.2.2.1.2.2.2.2.1.2
  have nz : ¬ nI bc = 0 := nI_nz I.2.1.2.2.2.2.1 (by omega)
  by_cases c : (-1 : Int32) ≤ y
  · obtain ⟨res, e1, e2⟩ := rest_loop I J y 4 0 0 none none none none (by omega)
    refine QRY.id (res := res) ?_ ?_
    · rw [tX11_rests]; simp only [oB_some, dR_some, cond_true, cond_false, if_true, if_false, Bool.true_and, Bool.and_true, Nat.beq_refl, K0, hm, c]; exact e1
    · rw [tX12_rests]; simp only [oB_some, dR_some, cond_true, cond_false, if_true, if_false, Bool.true_and, Bool.and_true, Nat.beq_refl, M0, M147, bcM, nz, c]; exact e2
  · refine QRY.id (res := -1) ?_ ?_
    · rw [tX11_rests]; simp only [oB_some, dR_some, cond_true, cond_false, if_true, if_false, Bool.true_and, Bool.and_true, Nat.beq_refl, K0, hm, c]
    · rw [tX12_rests]; simp only [oB_some, dR_some, cond_true, cond_false, if_true, if_false, Bool.true_and, Bool.and_true, Nat.beq_refl, M0, M147, bcM, nz, c]
