/-! ===== PURE: market and ring, the calls ===== -/
theorem scr_107 {h h' : Hp} (O : Only h h' [103, 107]) : Only h h' scrC := O.mono (by decide)
theorem ainv_107 {h : Hp} {s : Nat} {r d b : Nat → Nat} {dc bc : Nat} {lw : Option ((Nat → Int32) × Nat)} {v u w lg bk z : Nat → Nat} {A x : Nat} (I : AINV h s r d b dc bc lw v u w lg bk z A x) {h' : Hp} (O : Only h h' [103, 107]) : AINV h' s r d b dc bc lw v u w lg bk z A x := ainv_ag I (ag_only O (fun a ha => by simp at ha; unfold frC; omega) (by decide))
theorem mq_165 {h h' : Hp} (Q : Mq h h' [165] [44]) : Mq h h' scrM scrS := Q.mono (by decide) (by decide)
theorem t5_mq {h h' : Hp} {l ks : List Nat} (P : T5 h) (Q : Mq h h' l ks) : T5 h' := by
  obtain ⟨_, _, a3, a4, _, a6, _, _⟩ := Q
  unfold T5; rw [a3, a4, a6 147 43 (Or.inr (by decide)), a6 147 22 (Or.inr (by decide))]; exact P
theorem market_both {h : Hp} {s : Nat} {r d b : Nat → Nat} {dc bc : Nat} {lw : Option ((Nat → Int32) × Nat)} {v u w lg bk z : Nat → Nat} {A x : Nat} (I : AINV h s r d b dc bc lw v u w lg bk z A x) (L : SRl h) (F : T5 h) (y : Int32) : QRY h (FX11_market [vR (some 0), vI y]) (FX12_market [vR (some 147), vI y]) := by
  obtain ⟨K0, R01, R02, R04, R05, K3, R30, Ks, Rs2, Rs3, Rs4, Ks1, Es1, Ks2, Es2, Ks3, Es3, K10, R108, K11, E11, K14, K98, td, dcC, bcC, Ev, Eu⟩ := cfa I
  have hm := hom I
  have M0 := (mfa I).1
  have b5 : bc ≤ 5 := I.2.1.2.2.2.1.2.2.2.2.1.2
  have nz : ¬ nI bc = 0 := nI_nz I.2.1.2.2.2.2.1 (by omega)
  by_cases c1 : y < 0
  · obtain ⟨M147, R18, K152, E152, R20, K154, E154, R22, K156, E156, R32, K160, E160, dcM, bcM, Ew⟩ := mfa (ainv_t I)
    refine QRY.id (res := -1) ?_ ?_
    · rw [tX11_market]; simp only [oB_some, dR_some, cond_true, cond_false, if_true, if_false, Bool.true_and, Bool.and_true, Nat.beq_refl, K0, hm, within11, c1]
    · rw [tX12_market]; simp only [oB_some, dR_some, cond_true, cond_false, if_true, if_false, Bool.true_and, Bool.and_true, Nat.beq_refl, M0, M147, bcM, nz, isIn_01, c1]
  by_cases c2 : (1 : Int32) < y
  · obtain ⟨M147, R18, K152, E152, R20, K154, E154, R22, K156, E156, R32, K160, E160, dcM, bcM, Ew⟩ := mfa (ainv_t I)
    refine QRY.id (res := -1) ?_ ?_
    · rw [tX11_market]; simp only [oB_some, dR_some, cond_true, cond_false, if_true, if_false, Bool.true_and, Bool.and_true, Nat.beq_refl, K0, hm, within11, c1, c2]
    · rw [tX12_market]; simp only [oB_some, dR_some, cond_true, cond_false, if_true, if_false, Bool.true_and, Bool.and_true, Nat.beq_refl, M0, M147, bcM, nz, isIn_01, c1, c2]
  obtain ⟨h1, m, c, e1, O1, s9, s10, P1, _⟩ := find_c I L (wo := 0) (by omega)
  have I1 := ainv_107 I O1
  have I1t := ainv_t I1
  have F1 : T5 (sI h1 147 0 0) := t5_only F (O1.mono (l' := [103, 107, 147]) (by simp) |>.trans (only_sI _ _ _ (by simp)))
  obtain ⟨h2, m', c', e2, Q2, s44, P2⟩ := marketBy_m I1t F1 (wo := 0) (by omega)
  obtain ⟨rfl, rfl⟩ := opt_uniq P1 P2
  rw [nI_0] at e1 e2
  obtain ⟨M147, R18, K152, E152, R20, K154, E154, R22, K156, E156, R32, K160, E160, dcM, bcM, Ew⟩ := mfa I1t
  have M1 := (mfa I1).1
  have L1 := srl_only L O1
  obtain ⟨K0', R01', R02', R04', R05', K3', R30', Ks', Rs2', Rs3', Rs4', Ks1', Es1', Ks2', Es2', Ks3', Es3', K10', R108', K11', E11', K14', K98', td', dcC', bcC', Ev', Eu'⟩ := cfa I1
  have k2 : hK h2 147 = 12 := by rw [Q2.2.2.1]; exact M147
  refine ⟨if y = 0 then nI m else nI c, h1, h2, ?_, ?_, scr_107 O1, (mq_t h1).trans (mq_165 Q2)⟩
  · rw [tX11_market]
    simp only [oB_some, dR_some, cond_true, cond_false, if_true, if_false, Bool.true_and, Bool.and_true, Nat.beq_refl, K0, hm, within11, c1, c2, ne10, L.1.1, L.1.2.1, R02, e1, K0', L1.1.1, L1.1.2.1, s9, s10]
    by_cases z : y = 0
    · rw [if_pos z, if_pos z]
    · rw [if_neg z, if_neg z]
  · rw [tX12_market]
    simp only [oB_some, dR_some, cond_true, cond_false, if_true, if_false, Bool.true_and, Bool.and_true, Nat.beq_refl, M1, M147, bcM, nz, isIn_01, c1, c2, ne10, e2, k2, s44]
    by_cases z : y = 0
    · rw [if_pos z, if_pos z]
    · rw [if_neg z, if_neg z]
theorem shl_nI : ∀ bc, bc < 6 → (1 : Int32) <<< (nI bc &&& 31) = nI (2 ^ bc) ∧ nI (2 ^ bc) - 1 = nI (2 ^ bc - 1) ∧ 2 ^ bc ≤ 32 ∧ 1 ≤ 2 ^ bc := by decide +kernel
theorem ring_both {h : Hp} {s : Nat} {r d b : Nat → Nat} {dc bc : Nat} {lw : Option ((Nat → Int32) × Nat)} {v u w lg bk z : Nat → Nat} {A x : Nat} (I : AINV h s r d b dc bc lw v u w lg bk z A x) (L : SRl h) (F : T5 h) (y : Int32) : QRY h (FX11_ring [vR (some 0), vI y]) (FX12_ring [vR (some 147), vI y]) := by
  obtain ⟨K0, R01, R02, R04, R05, K3, R30, Ks, Rs2, Rs3, Rs4, Ks1, Es1, Ks2, Es2, Ks3, Es3, K10, R108, K11, E11, K14, K98, td, dcC, bcC, Ev, Eu⟩ := cfa I
  have hm := hom I
  have M0 := (mfa I).1
  have b5 : bc ≤ 5 := I.2.1.2.2.2.1.2.2.2.2.1.2
  have nz : ¬ nI bc = 0 := nI_nz I.2.1.2.2.2.2.1 (by omega)
  obtain ⟨z1, z2, z3, z4⟩ := shl_nI bc (by omega)
  by_cases c1 : y < 0
  · obtain ⟨M147, R18, K152, E152, R20, K154, E154, R22, K156, E156, R32, K160, E160, dcM, bcM, Ew⟩ := mfa (ainv_t I)
    refine QRY.id (res := -1) ?_ ?_
    · rw [tX11_ring]; simp only [oB_some, dR_some, cond_true, cond_false, if_true, if_false, Bool.true_and, Bool.and_true, Nat.beq_refl, K0, hm, R01, K3, R30, Ks, bcC, z1, z2, within11, c1]
    · rw [tX12_ring]; simp only [oB_some, dR_some, cond_true, cond_false, if_true, if_false, Bool.true_and, Bool.and_true, Nat.beq_refl, M0, M147, bcM, nz, c1]
  by_cases c2 : nI (2 ^ bc - 1) < y
  · obtain ⟨M147, R18, K152, E152, R20, K154, E154, R22, K156, E156, R32, K160, E160, dcM, bcM, Ew⟩ := mfa (ainv_t I)
    have c3 : ¬ y < nI (2 ^ bc) := fun z => by
      rw [Int32.lt_iff_toInt_lt, nI_toInt (by omega)] at c2 z; omega
    refine QRY.id (res := -1) ?_ ?_
    · rw [tX11_ring]; simp only [oB_some, dR_some, cond_true, cond_false, if_true, if_false, Bool.true_and, Bool.and_true, Nat.beq_refl, K0, hm, R01, K3, R30, Ks, bcC, z1, z2, within11, c1, c2]
    · rw [tX12_ring]; simp only [oB_some, dR_some, cond_true, cond_false, if_true, if_false, Bool.true_and, Bool.and_true, Nat.beq_refl, M0, M147, bcM, nz, z1, c1, c3]
  obtain ⟨wo, hw, ew⟩ := nI_of2 (x := y) (M := nI (2 ^ bc - 1)) (n := 2 ^ bc - 1) (by rw [nI_toInt (by omega)]) c1 (Int32.not_lt.mp c2)
  subst ew
  have c3 : nI wo < nI (2 ^ bc) := by rw [nI_nlt' (by omega) (by omega)]; omega
  obtain ⟨h1, m, c, e1, O1, s9, s10, P1, _⟩ := find_c I L (wo := 0) (by omega)
  have I1 := ainv_107 I O1
  have L1 := srl_only L O1
  obtain ⟨h2, m2, cc2, e2, O2, t9, t10, P2, _⟩ := find_c I1 L1 (wo := wo) (by omega)
  have I2 := ainv_107 I1 O2
  have L2 := srl_only L1 O2
  have I2t := ainv_t I2
  have F2 : T5 (sI h2 147 0 0) := t5_only F ((O1.trans O2).mono (l' := [103, 107, 147]) (by simp) |>.trans (only_sI _ _ _ (by simp)))
  obtain ⟨h3, m3, c3', e3, Q3, s44, P3⟩ := marketBy_m I2t F2 (wo := 0) (by omega)
  have I3 := ainv_ag I2t (ag_mq Q3 (fun a ha => by simp at ha; unfold frM; omega) (fun k hk => by simp at hk; omega))
  obtain ⟨h4, m4, c4, e4, Q4, s44', P4⟩ := marketBy_m I3 (t5_mq F2 Q3) (wo := wo) (by omega)
  obtain ⟨rfl, rfl⟩ := opt_uniq P1 P3
  obtain ⟨rfl, rfl⟩ := opt_uniq P2 P4
  rw [nI_0] at e1 e3
  obtain ⟨M147, R18, K152, E152, R20, K154, E154, R22, K156, E156, R32, K160, E160, dcM, bcM, Ew⟩ := mfa I2t
  have M2 := (mfa I2).1
  have M3 := (mfa I3).1
  obtain ⟨K0', R01', R02', R04', R05', K3', R30', Ks', Rs2', Rs3', Rs4', Ks1', Es1', Ks2', Es2', Ks3', Es3', K10', R108', K11', E11', K14', K98', td', dcC', bcC', Ev', Eu'⟩ := cfa I1
  obtain ⟨K02, R012, R022, R042, R052, K32, R302, Ks2, Rs22, Rs32, Rs42, Ks12, Es12, Ks22, Es22, Ks32, Es32, K102, R1082, K112, E112, K142, K982, td2, dcC2, bcC2, Ev2, Eu2⟩ := cfa I2
  refine ⟨nI m - nI m2, h2, h4, ?_, ?_, scr_107 (O1.trans O2), ((mq_t h2).trans (mq_165 Q3)).trans (mq_165 Q4)⟩
  · rw [tX11_ring]
    simp only [oB_some, dR_some, cond_true, cond_false, if_true, if_false, Bool.true_and, Bool.and_true, Nat.beq_refl, K0, hm, R01, K3, R30, Ks, bcC, z1, z2, within11, c1, c2, ne10, L.1.1, L.1.2.1, R02, e1, K0', L1.1.1, L1.1.2.1, R02', e2, K02, L2.1.1, L2.1.2.1, s9, t9]
  · rw [tX12_ring]
    simp only [oB_some, dR_some, cond_true, cond_false, if_true, if_false, Bool.true_and, Bool.and_true, Nat.beq_refl, M2, M147, bcM, nz, z1, c1, c3, e3, M3, e4]
