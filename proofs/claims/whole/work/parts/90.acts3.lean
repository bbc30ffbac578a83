/-! ===== PURE: iron, give, undo: by both ===== -/
theorem bv_set {v u : Nat → Nat} {k q : Nat} (B : BV v u) (hk : (k = 3 ∧ q ≤ 1) ∨ (k = 4 ∧ q ≤ 9999)) : BV (up1 v k q) u := by
  obtain ⟨b0, b1, b2, b3, b4, b5, b7, b9, b10, b11, b12, bu⟩ := B
  have o : ∀ j, j ≠ k → up1 v k q j = v j := fun j a => up1_o _ _ a
  refine ⟨?_, ?_, ?_, ?_, ?_, ?_, ?_, ?_, ?_, ?_, ?_, bu⟩
  · rw [o 0 (by omega)]; exact b0
  · rw [o 1 (by omega)]; exact b1
  · rw [o 2 (by omega), o 10 (by omega), o 1 (by omega)]; exact b2
  · rcases hk with ⟨e, h⟩ | ⟨e, h⟩
    · rw [e, up1_s]; exact h
    · rw [o 3 (by omega)]; exact b3
  · rcases hk with ⟨e, h⟩ | ⟨e, h⟩
    · rw [o 4 (by omega)]; exact b4
    · rw [e, up1_s]; exact h
  · rw [o 5 (by omega), o 6 (by omega), o 10 (by omega)]; exact b5
  · rw [o 7 (by omega)]; exact b7
  · rw [o 9 (by omega)]; exact b9
  · rw [o 10 (by omega)]; exact b10
  · rw [o 11 (by omega), o 9 (by omega)]; exact b11
  · rw [o 12 (by omega)]; exact b12
theorem mr_set {v u w : Nat → Nat} {k q : Nat} (M : MR v u w) (hk : k = 3 ∨ k = 4) : MR (up1 v k q) u (up1 w k q) := by
  obtain ⟨m1, m2, m3, m4, m5⟩ := M
  refine ⟨fun j hj => ?_, ?_, fun i hi => ?_, fun i hi => ?_, ?_⟩
  · by_cases c : j = k
    · rw [c, up1_s, up1_s]
    · rw [up1_o _ _ c, up1_o _ _ c]; exact m1 j hj
  · rw [up1_o _ _ (by omega), up1_o _ _ (by omega)]; exact m2
  · rw [up1_o _ _ (by omega), up1_o _ _ (by omega)]; exact m3 i hi
  · rw [up1_o _ _ (by omega)]; exact m4 i hi
  · rw [up1_o _ _ (by omega), up1_o _ _ (by omega)]; exact m5
theorem lb_set {v w lg bk : Nat → Nat} {k q : Nat} (B : LB v w lg bk) (h10 : v 10 ≤ 60) (hk : k = 3 ∨ k = 4) : LB (up1 v k q) (up1 w k q) lg bk :=
  lb_same B (up1_o _ _ (by omega)) (up1_o _ _ (by omega)) h10 (fun j hj => up1_o _ _ (by omega))
/-- what a slot set, marked and kept, comes to -/
theorem set_fin {h : Hp} {s : Nat} {r d b : Nat → Nat} {dc bc : Nat} {lw : Option ((Nat → Int32) × Nat)} {v u w lg bk z : Nat → Nat} {A x : Nat} {k q : Nat} (I : AINV h s r d b dc bc lw v u w lg bk z A x) (hk : (k = 3 ∧ q ≤ 1) ∨ (k = 4 ∧ q ≤ 9999)) : ∃ h8, FX5_mark [vR (some 14), vR (some 10)] h = some (rV, h8) ∧ Only h h8 [16 + 2 * x, 16 + 2 * x + 1] ∧ STc h8 s r d b dc bc lw ∧ hI h8 10 = nR v ∧ FX5_commit [vR (some 14)] (sI h8 10 k (nI q)) = some (rV, cmH (sI h8 10 k (nI q)) A x) ∧ Only h (cmH (sI h8 10 k (nI q)) A x) (actL x) ∧ STc (cmH (sI h8 10 k (nI q)) A x) s r d b dc bc lw ∧ hI (cmH (sI h8 10 k (nI q)) A x) 10 = nR (up1 v k q) ∧
    ∃ hr, FX12_remember [vR (some 147)] (sI (cmH (sI h8 10 k (nI q)) A x) 147 0 0) = some (rV, hr) ∧ STc hr s r d b dc bc lw ∧ hI hr 160 = nR w ∧ Mq (cmH (sI h8 10 k (nI q)) A x) (sI hr 160 k (nI q)) [160, 162] [0, 37] ∧ ∃ v' u' w' lg' bk' z' A' x', AINV (sI hr 160 k (nI q)) s r d b dc bc lw v' u' w' lg' bk' z' A' x' := by
  obtain ⟨S, V, U, C, M, P⟩ := ainv_split I
  have B := P.1
  have hx := C.2.2.2.1
  have hA := C.2.2.2.2.1
  have hk' : k = 3 ∨ k = 4 := by omega
  obtain ⟨h8, e8, O8, S8, C8, K8⟩ := mark_s S C B.2.1 B.2.2.2.1
  have O9 : Only h8 (sI h8 10 k (nI q)) [8, 9, 10, 11, 99, 100] := only_sI _ _ _ (by simp)
  have N9 : NowC (sI h8 10 k (nI q)) (up1 v k q) u lg bk := ⟨by rw [hI_upr, C8.1.1, nR_up], by rw [hI_row _ _ _ _ (by decide)]; exact C8.1.2.1, by rw [hI_row _ _ _ _ (by decide)]; exact C8.1.2.2.1, by rw [hI_row _ _ _ _ (by decide)]; exact C8.1.2.2.2⟩
  have S9 := st_now S8 O9
  obtain ⟨cm, O10, S10, C10⟩ := com_s S9 (cst_now C8 O9 N9) (cla_fr K8 (O9.I (by simp; omega)) (O9.I (by simp; omega)))
  have O13 := actL_of O8 O9 O10
  refine ⟨h8, e8, O8, S8, C8.1.1, cm, O13, S10, C10.1.1, ?_⟩
  generalize eh : cmH (sI h8 10 k (nI q)) A x = h13 at *
  have q3 : Mq h13 (sI h13 147 0 0) [] [0] := mq_sI _ _ _ (by simp)
  have M13 := mst_only M O13 (fun a ha => by unfold actL at ha; simp at ha; omega)
  have S3 := st_sg S10 (sg_mq q3 (by simp) (fun k hk => by simp at hk; omega))
  obtain ⟨hr, er, Mr, qr, Sr⟩ := remember_s S3 (mst_mq M13 q3 (by simp) (by simp) (by simp)) hA
  have q4 : Mq hr (sI hr 160 k (nI q)) [160] [] := by rw [sI_wA]; exact mq_wA _ _ _ (by simp) (by decide)
  have Q : Mq h13 (sI hr 160 k (nI q)) [160, 162] [0, 37] := (q3.mono (by simp) (by simp)).trans ((qr.mono (by simp) (by simp)).trans (q4.mono (by simp) (by simp)))
  refine ⟨hr, er, Sr, Mr.1, Q, up1 v k q, u, up1 w k q, lg, bk, remZ z w A, remA A, (x + 1) % 41, ainv_join (V := sh1 v V) (U := sh1 u U) (st_sg Sr (sg_mq q4 (fun a ha => by simp at ha; omega) (by simp))) (cst_mq C10 Q (fun a ha => by simp at ha; omega)) ⟨by rw [hI_upr, Mr.1, nR_up], by rw [hI_row _ _ _ _ (by decide)]; exact Mr.2.1, by rw [hI_row _ _ _ _ (by decide)]; exact Mr.2.2⟩ (pst_act P hA (bv_set B hk) (mr_set P.2.1 hk') (lb_set P.2.2.1 B.2.2.2.2.2.2.2.2.1 hk') ⟨Or.inl rfl, fun i hi => rfl⟩ ?_ ?_ ?_)⟩
  · rw [up1_o _ _ (by omega)]; omega
  · rw [up1_o _ _ (by omega)]; omega
  · rw [up1_o _ _ (by omega)]; omega
theorem call_no {h : Hp} {s : Nat} {r d b : Nat → Nat} {dc bc : Nat} {lw : Option ((Nat → Int32) × Nat)} {v u w lg bk z : Nat → Nat} {A x : Nat} {X Y : Hp → Option (RV × Hp)} {res : Int32} (I : AINV h s r d b dc bc lw v u w lg bk z A x) (e1 : X h = some (rI res, h)) (e2 : Y h = some (rI res, sI h 147 0 0)) : CALL h s r d b dc bc lw x X Y :=
  ⟨res, h, _, e1, e2, Only.refl _ _, mq_sI h _ _ (by simp), _, _, _, _, _, _, _, _, ainv_t I⟩
theorem give_both {h : Hp} {s : Nat} {r d b : Nat → Nat} {dc bc : Nat} {lw : Option ((Nat → Int32) × Nat)} {v u w lg bk z : Nat → Nat} {A x : Nat} (I : AINV h s r d b dc bc lw v u w lg bk z A x) (y : Int32) : CALL h s r d b dc bc lw x (FX11_give [vR (some 0), vI y]) (FX12_give [vR (some 147), vI y]) := by
  obtain ⟨K0, R01, R02, R04, R05, K3, R30, Ks, Rs2, Rs3, Rs4, Ks1, Es1, Ks2, Es2, Ks3, Es3, K10, R108, K11, E11, K14, K98, td, dcC, bcC, Ev, Eu⟩ := cfa I
  have hm := hom I
  have M0 := (mfa I).1
  obtain ⟨M147, R18, K152, E152, R20, K154, E154, R22, K156, E156, R32, K160, E160, dcM, bcM, Ew⟩ := mfa (ainv_t I)
  have b5 : bc ≤ 5 := I.2.1.2.2.2.1.2.2.2.2.1.2
  have nz : ¬ nI bc = 0 := nI_nz I.2.1.2.2.2.2.1 (by omega)
  have v4 := I.2.2.1.2.1.2.2.2.2.1
  have w4 : w 4 = v 4 := I.2.2.1.2.2.2.1.1 4 (by omega)
  by_cases c1 : y < 1
  · refine call_no (res := -1) I ?_ ?_
    · rw [tX11_give]; simp only [oB_some, dR_some, cond_true, cond_false, if_true, if_false, Bool.true_and, Bool.and_true, Nat.beq_refl, K0, hm, within11, c1]
    · rw [tX12_give]; simp only [oB_some, dR_some, cond_true, cond_false, if_true, if_false, Bool.true_and, Bool.and_true, Nat.beq_refl, M0, M147, bcM, nz, isIn_199, c1]
  by_cases c2 : (99 : Int32) < y
  · refine call_no (res := -1) I ?_ ?_
    · rw [tX11_give]; simp only [oB_some, dR_some, cond_true, cond_false, if_true, if_false, Bool.true_and, Bool.and_true, Nat.beq_refl, K0, hm, within11, c1, c2]
    · rw [tX12_give]; simp only [oB_some, dR_some, cond_true, cond_false, if_true, if_false, Bool.true_and, Bool.and_true, Nat.beq_refl, M0, M147, bcM, nz, isIn_199, c1, c2]
  obtain ⟨n, hn, en⟩ := nI_of2 (x := y) (M := 99) (n := 99) (by decide) (fun q => c1 (Int32.lt_trans q (by decide))) (Int32.not_lt.mp c2)
  subst en
  have ea : nI (v 4) + nI n = nI (v 4 + n) := nI_add _ _
  have q : (nI (v 4 + n) ≤ (9999 : Int32)) = (v 4 + n ≤ 9999) := nI_nle' (b := 9999) (by omega) (by omega)
  by_cases c3 : v 4 + n ≤ 9999
  · obtain ⟨h8, e8, O8, S8, n8, cm, O13, S13, n13, hr, er, Sr, wr, Q, J⟩ := set_fin (k := 4) (q := v 4 + n) I (Or.inr ⟨rfl, c3⟩)
    obtain ⟨K0p, R01p, R02p, R04p, R05p, K3p, R30p, Ksp, Rs2p, Rs3p, Rs4p, Ks1p, Es1p, Ks2p, Es2p, Ks3p, Es3p, K10p, R108p, K11p, E11p, K14p, K98p, tdp, dcCp, bcCp⟩ := sfa S8
    obtain ⟨K0t, R01t, R02t, R04t, R05t, K3t, R30t, Kst, Rs2t, Rs3t, Rs4t, Ks1t, Es1t, Ks2t, Es2t, Ks3t, Es3t, K10t, R108t, K11t, E11t, K14t, K98t, tdt, dcCt, bcCt⟩ := sfa S13
    obtain ⟨M147t, R18t, K152t, E152t, R20t, K154t, E154t, R22t, K156t, E156t, R32t, K160t, E160t, dcMt, bcMt⟩ := smf S13
    obtain ⟨M147r, R18r, K152r, E152r, R20r, K154r, E154r, R22r, K156r, E156r, R32r, K160r, E160r, dcMr, bcMr⟩ := smf Sr
    have f4 : hI h8 10 4 = nI (v 4) := by rw [n8]; rfl
    have f5 : hI (cmH (sI h8 10 4 (nI (v 4 + n))) A x) 10 4 = nI (v 4 + n) := by rw [n13]; show nI (up1 v 4 (v 4 + n) 4) = _; rw [up1_s]
    have g4 : hI (cmH (sI h8 10 4 (nI (v 4 + n))) A x) 160 4 = nI (v 4) := by
      rw [O13.I (by unfold actL; simp; have := I.2.2.2.2.2.2.2.1; omega), I.2.2.1.2.2.1]; show nI (w 4) = _; rw [w4]
    have g5 : hI hr 160 4 = nI (v 4) := by rw [wr]; show nI (w 4) = _; rw [w4]
    refine ⟨nI (v 4 + n), _, _, ?_, ?_, O13, Q, J⟩
    · rw [tX11_give]; simp only [oB_some, dR_some, cond_true, cond_false, if_true, if_false, Bool.true_and, Bool.and_true, Nat.beq_refl, K0, hm, within11, c1, c2, ne10, R02, K10, Ev, ea, q, c3, R04, K14, e8, K0p, R02p, K10p, f4, hK_sI, hR_sI, R04p, K14p, cm, K0t, R02t, K10t, f5]
    · rw [tX12_give]; simp only [oB_some, dR_some, cond_true, cond_false, if_true, if_false, Bool.true_and, Bool.and_true, Nat.beq_refl, M147t, hK_sI, hR_sI, hE_sI, show hI (sI (cmH (sI h8 10 4 (nI (v 4 + n))) A x) 147 0 0) 147 27 = nI bc by rw [hI_slot _ _ _ _ (by decide)]; exact bcMt, nz, isIn_199, c1, c2, ne10, R32t, K160t, E160t, iaK20, ib4, tc4, show hI (sI (cmH (sI h8 10 4 (nI (v 4 + n))) A x) 147 0 0) 160 4 = nI (v 4) by rw [hI_oth _ _ _ _ _ (by decide)]; exact g4, ea, q, c3, er, M147r, R32r, K160r, E160r, g5, hI_same]
  · refine call_no (res := -1) I ?_ ?_
    · rw [tX11_give]; simp only [oB_some, dR_some, cond_true, cond_false, if_true, if_false, Bool.true_and, Bool.and_true, Nat.beq_refl, K0, hm, within11, c1, c2, ne10, R02, K10, Ev, ea, q, c3]
    · rw [tX12_give]; simp only [oB_some, dR_some, cond_true, cond_false, if_true, if_false, Bool.true_and, Bool.and_true, Nat.beq_refl, M0, M147, bcM, nz, isIn_199, c1, c2, ne10, R32, K160, E160, iaK20, ib4, tc4, Ew, w4, ea, q, c3]
theorem iron_both {h : Hp} {s : Nat} {r d b : Nat → Nat} {dc bc : Nat} {lw : Option ((Nat → Int32) × Nat)} {v u w lg bk z : Nat → Nat} {A x : Nat} (I : AINV h s r d b dc bc lw v u w lg bk z A x) {i : Nat} (hi : i ≤ 1) : CALL h s r d b dc bc lw x (FX11_iron [vR (some 0), vI (nI i)]) (FX12_iron [vR (some 147), vI (nI i)]) := by
  obtain ⟨K0, R01, R02, R04, R05, K3, R30, Ks, Rs2, Rs3, Rs4, Ks1, Es1, Ks2, Es2, Ks3, Es3, K10, R108, K11, E11, K14, K98, td, dcC, bcC, Ev, Eu⟩ := cfa I
  have hm := hom I
  have M0 := (mfa I).1
  obtain ⟨M147, R18, K152, E152, R20, K154, E154, R22, K156, E156, R32, K160, E160, dcM, bcM, Ew⟩ := mfa (ainv_t I)
  have b5 : bc ≤ 5 := I.2.1.2.2.2.1.2.2.2.2.1.2
  have nz : ¬ nI bc = 0 := nI_nz I.2.1.2.2.2.2.1 (by omega)
  have v3 := I.2.2.1.2.1.2.2.2.1
  have w3 : w 3 = v 3 := I.2.2.1.2.2.2.1.1 3 (by omega)
  have q : (nI (v 3) = nI i) = (v 3 = i) := nI_neq' (by omega) (by omega)
  by_cases c : v 3 = i
  · refine call_no (res := 0) I ?_ ?_
    · rw [tX11_iron]; simp only [oB_some, dR_some, cond_true, cond_false, if_true, if_false, Bool.true_and, Bool.and_true, Nat.beq_refl, K0, hm, R02, K10, Ev, q, eq_true c, isZ0]
    · rw [tX12_iron]
      rcases (show v 3 = 0 ∨ v 3 = 1 by omega) with e | e
      · rw [e] at c w3; subst c
        simp only [oB_some, dR_some, cond_true, cond_false, if_true, if_false, Bool.true_and, Bool.and_true, Nat.beq_refl, M0, M147, bcM, nz, R32, K160, E160, iaK20, ib3, tc3, Ew, w3, nI_0, ne01, isZ0]
      · rw [e] at c w3; subst c
        simp only [oB_some, dR_some, cond_true, cond_false, if_true, if_false, Bool.true_and, Bool.and_true, Nat.beq_refl, M0, M147, bcM, nz, R32, K160, E160, iaK20, ib3, tc3, Ew, w3, show nI 1 = (1 : Int32) from rfl, isZ0]
  · obtain ⟨h8, e8, O8, S8, n8, cm, O13, S13, n13, hr, er, Sr, wr, Q, J⟩ := set_fin (k := 3) (q := i) I (Or.inl ⟨rfl, hi⟩)
    obtain ⟨K0p, R01p, R02p, R04p, R05p, K3p, R30p, Ksp, Rs2p, Rs3p, Rs4p, Ks1p, Es1p, Ks2p, Es2p, Ks3p, Es3p, K10p, R108p, K11p, E11p, K14p, K98p, tdp, dcCp, bcCp⟩ := sfa S8
    obtain ⟨K0t, R01t, R02t, R04t, R05t, K3t, R30t, Kst, Rs2t, Rs3t, Rs4t, Ks1t, Es1t, Ks2t, Es2t, Ks3t, Es3t, K10t, R108t, K11t, E11t, K14t, K98t, tdt, dcCt, bcCt⟩ := sfa S13
    obtain ⟨M147t, R18t, K152t, E152t, R20t, K154t, E154t, R22t, K156t, E156t, R32t, K160t, E160t, dcMt, bcMt⟩ := smf S13
    obtain ⟨M147r, R18r, K152r, E152r, R20r, K154r, E154r, R22r, K156r, E156r, R32r, K160r, E160r, dcMr, bcMr⟩ := smf Sr
    have g4 : hI (sI (cmH (sI h8 10 3 (nI i)) A x) 147 0 0) 160 3 = nI (v 3) := by
      rw [hI_oth _ _ _ _ _ (by decide), O13.I (by unfold actL; simp; have := I.2.2.2.2.2.2.2.1; omega), I.2.2.1.2.2.1]; show nI (w 3) = _; rw [w3]
    have z27 : hI (sI (cmH (sI h8 10 3 (nI i)) A x) 147 0 0) 147 27 = nI bc := by rw [hI_slot _ _ _ _ (by decide)]; exact bcMt
    refine ⟨1, _, _, ?_, ?_, O13, Q, J⟩
    · rw [tX11_iron]; simp only [oB_some, dR_some, cond_true, cond_false, if_true, if_false, Bool.true_and, Bool.and_true, Nat.beq_refl, K0, hm, R02, K10, Ev, q, c, R04, K14, e8, K0p, R02p, K10p, isZ_n hi, hK_sI, hR_sI, R04p, K14p, cm, isZ1]
    · rw [tX12_iron]
      rcases (show (v 3 = 0 ∧ i = 1) ∨ (v 3 = 1 ∧ i = 0) by omega) with ⟨e, ei⟩ | ⟨e, ei⟩
      · rw [e] at g4; subst ei
        simp only [show nI 1 = (1 : Int32) from rfl] at g4 z27 er M147t R32t K160t E160t ⊢
        simp only [oB_some, dR_some, cond_true, cond_false, if_true, if_false, Bool.true_and, Bool.and_true, Nat.beq_refl, M147t, hK_sI, hR_sI, hE_sI, z27, nz, R32t, K160t, E160t, iaK20, ib3, tc3, g4, nI_0, ne01, ne10, er, M147r, R32r, K160r, E160r, isZ1]
      · rw [e] at g4; subst ei
        simp only [show nI 0 = (0 : Int32) from rfl] at g4 z27 er M147t R32t K160t E160t ⊢
        simp only [oB_some, dR_some, cond_true, cond_false, if_true, if_false, Bool.true_and, Bool.and_true, Nat.beq_refl, M147t, hK_sI, hR_sI, hE_sI, z27, nz, R32t, K160t, E160t, iaK20, ib3, tc3, g4, show nI 1 = (1 : Int32) from rfl, ne01, ne10, er, M147r, R32r, K160r, E160r, isZ1]
