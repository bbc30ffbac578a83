/-! ===== PURE: image, back: by both ===== -/
def IMl (h : Hp) : Prop := hR h 0 8 = some 126 ∧ LPl h 126 ∧ hR h 0 9 = some 128 ∧ DP h 128 ∧ hR h 147 52 = some 171 ∧ RLo h 171
def IMv (h : Hp) : Prop := ∃ iv iu ilg ibk iw : Nat → Nat, CLa h 126 iv iu ∧ (∀ k, k < 300 → hI h 129 k = nI (ilg k)) ∧ (∀ k, k < 180 → hI h 130 k = nI (ibk k)) ∧ hI h 171 = nR iw ∧ BV iv iu ∧ MR iv iu iw ∧ LB iv iw ilg ibk
/-- an image, or none, by both -/
def IMG (h : Hp) : Prop := (hI h 0 10 = 0 ∧ hI h 147 53 = 0) ∨ (hI h 0 10 = 1 ∧ hI h 147 53 = 1 ∧ IMv h)
theorem row_repN {f : Nat → Int32} {v : Nat → Nat} {n : Nat} (e : ∀ k, k < n → f k = nI (v k)) : ∃ v1, f = nR v1 ∧ ∀ k, k < n → v1 k = v k := by
  obtain ⟨g, hg, _⟩ := nR_all f
  refine ⟨fun k => if k < n then v k else g k, ?_, fun k hk => if_pos hk⟩
  funext k
  by_cases c : k < n
  · rw [e k c]; show _ = nI (if k < n then v k else g k); rw [if_pos c]
  · rw [hg]; show nI (g k) = nI (if k < n then v k else g k); rw [if_neg c]
theorem lb_cp {v w w' lg bk lg' bk' : Nat → Nat} (B : LB v w lg bk) (h10 : v 10 ≤ 60) (ew : ∀ k, k < 201 + 3 * w 200 → w' k = w k) (e1 : ∀ k, k < 300 → lg' k = lg k) (e2 : ∀ k, k < 180 → bk' k = bk k) : LB v w' lg' bk' := by
  obtain ⟨l1, l2, l3⟩ := B
  have e200 : w' 200 = w 200 := ew 200 (by omega)
  refine ⟨by rw [e200]; exact l1, fun i hi j hj => ?_, fun i hi j hj => ?_⟩
  · rw [ew _ (by omega), e2 _ (by omega)]; exact l2 i hi j hj
  · rw [e200] at hi ⊢
    have := Nat.mod_lt (v 11 - w 200 + i) (show 0 < 100 by decide)
    rw [ew _ (by omega), e1 _ (by omega)]; exact l3 i hi j hj
theorem ledger_cp {h : Hp} {g g' : Nat} (D : DP h g) (D' : DP h g') (n : g + 2 < g' ∨ g' + 2 < g) : ∃ h', FX3_copyFrom [vR (some g'), vR (some g)] h = some (rV, h') ∧ Only h h' [g' + 1, g' + 2] ∧ (∀ k, k < 300 → hI h' (g' + 1) k = hI h (g + 1) k) ∧ (∀ k, k < 180 → hI h' (g' + 2) k = hI h (g + 2) k) := by
  obtain ⟨d1, d2, d3, d4, d5, d6, d7⟩ := D
  obtain ⟨f1, f2, f3, f4, f5, f6, f7⟩ := D'
  have k1 : cpOK 0 0 (Int32.ofNat 300) 300 300 = true := by decide
  have k2 : cpOK 0 0 (Int32.ofNat 180) 180 180 = true := by decide
  have t1 : Int32.toNatClampNeg (Int32.ofNat 300) = 300 := by decide
  have t2 : Int32.toNatClampNeg (Int32.ofNat 180) = 180 := by decide
  refine ⟨cpI (cpI h (g + 1) (g' + 1) 0 0 300) (g + 2) (g' + 2) 0 0 180, ?_, ?_, fun k hk => ?_, fun k hk => ?_⟩
  · rw [tX3_copyFrom]
    simp only [oB_some, dR_some, cond_true, cond_false, if_true, if_false, Bool.true_and, Bool.and_true, Nat.beq_refl, hK_cpI, hE_cpI, hR_cpI, d1, d2, d3, d4, d5, d6, d7, f1, f2, f3, f4, f5, f6, f7, alK20, k1, k2, t1, t2, tc0]
  · rw [cpI_wA, cpI_wA]
    exact (only_wA h _ (by simp)).trans (only_wA _ _ (by simp))
  · rw [hI_cpI, if_neg (by omega), hI_cpI, if_pos rfl, if_pos ⟨by omega, by omega⟩]
    congr 1; omega
  · rw [hI_cpI, if_pos rfl, if_pos ⟨by omega, by omega⟩, hI_cpI, if_neg (by omega)]
    congr 1; omega
theorem image_both {h : Hp} {s : Nat} {r d b : Nat → Nat} {dc bc : Nat} {lw : Option ((Nat → Int32) × Nat)} {v u w lg bk z : Nat → Nat} {A x : Nat} (I : AINV h s r d b dc bc lw v u w lg bk z A x) (L : IMl h) : ∃ res h1 h2, FX11_image [vR (some 0)] h = some (rI res, sI h1 0 10 1) ∧ Only h h1 [126, 127, 129, 130] ∧ FX12_image [vR (some 147)] (sI h1 0 10 1) = some (rI res, h2) ∧ Mq (sI h1 0 10 1) h2 [171] [0, 53] ∧ hI h2 147 53 = 1 ∧ IMv h2 := by
  obtain ⟨K0, R01, R02, R04, R05, K3, R30, Ks, Rs2, Rs3, Rs4, Ks1, Es1, Ks2, Es2, Ks3, Es3, K10, R108, K11, E11, K14, K98, td, dcC, bcC, Ev, Eu⟩ := cfa I
  have hm := hom I
  obtain ⟨i1, i2, i3, i4, i5, i6⟩ := L
  have n0 := I.2.2.1.1
  have B := I.2.2.1.2.1
  have k4 := I.2.2.1.2.2.2.1
  have LBh := I.2.2.1.2.2.2.2
  have b5 : bc ≤ 5 := I.2.1.2.2.2.1.2.2.2.2.1.2
  have nz : ¬ nI bc = 0 := nI_nz I.2.1.2.2.2.2.1 (by omega)
  obtain ⟨h3, e3, O3, C1, C2⟩ := copy_g I.1.2.1.2.2 i2 (by decide) (by decide) (by decide) (now_cla n0) B.2.1 B.2.2.2.1
  have D98 := dp_fr I.1.2.2.1 O3
  have D128 := dp_fr i4 O3
  obtain ⟨h4, e4, O4, l1, l2⟩ := ledger_cp D98 D128 (by omega)
  have O : Only h h4 [126, 127, 129, 130] := (O3.mono (by simp)).trans (O4.mono (by simp))
  have G5 : AG x h (sI h4 0 10 1) := (ag_only O (fun a ha => by unfold frC; simp at ha; omega) (by simp)).trans (ag_only (l := [0]) (only_sI _ _ _ (by simp)) (fun a ha => by unfold frC; simp at ha; omega) (by simp))
  have I5 := ainv_ag I G5
  have J := ainv_t I5
  have i6' : RLo (sI (sI h4 0 10 1) 147 0 0) 171 := (rlo_only i6 O : RLo h4 171)
  have r52 : hR (sI (sI h4 0 10 1) 147 0 0) 147 52 = some 171 := by show hR h4 147 52 = _; rw [O.R]; exact i5
  obtain ⟨iw, e6, ew⟩ := copy_m J.1.2.2.2.2.2 i6' (by decide) J.2.2.1.2.2.1 (lb_200 LBh)
  obtain ⟨M147, R18, K152, E152, R20, K154, E154, R22, K156, E156, R32, K160, E160, dcM, bcM, Ew⟩ := mfa J
  have M147h := (mfa I5).1
  obtain ⟨K0p, R01p, R02p, R04p, R05p, K3p, R30p, Ksp, Rs2p, Rs3p, Rs4p, Ks1p, Es1p, Ks2p, Es2p, Ks3p, Es3p, K10p, R108p, K11p, E11p, K14p, K98p, tdp, dcCp, bcCp, Evp, Eup⟩ := cfa I5
  have q1 : Mq (sI h4 0 10 1) (sI (sI h4 0 10 1) 147 0 0) [171] [0, 53] := mq_sI _ _ _ (by simp)
  have q2 : Mq (sI (sI h4 0 10 1) 147 0 0) (RN (sI (sI h4 0 10 1) 147 0 0) 171 iw) [171] [0, 53] := mq_wA _ _ _ (by simp) (by decide)
  have q3 : Mq (RN (sI (sI h4 0 10 1) 147 0 0) 171 iw) (sI (RN (sI (sI h4 0 10 1) 147 0 0) 171 iw) 147 53 1) [171] [0, 53] := mq_sI _ _ _ (by simp)
  have Q := (q1.trans q2).trans q3
  have row : ∀ a, a < 147 → a ≠ 0 → hI (sI (RN (sI (sI h4 0 10 1) 147 0 0) 171 iw) 147 53 1) a = hI h4 a := fun a ha h0 => by rw [Q.2.2.2.2.2.2.1 a (by omega) (by omega) (by simp; omega), hI_row _ _ _ _ h0]
  have J2 := ainv_ag J (ag_mq (x := x) q2 (fun a ha => by unfold frM; simp at ha; omega) (fun k hk => by simp at hk; omega))
  have w7 : hI (sI (RN (sI (sI h4 0 10 1) 147 0 0) 171 iw) 147 53 1) 160 7 = nI (v 9) := by
    rw [hI_oth _ _ _ _ _ (by decide), J2.2.2.1.2.2.1]; show nI (w 7) = _; rw [k4.2.1]
  have M2 := (mfa J2).1
  have R2 := (mfa J2).2.2.2.2.2.2.2.2.2.2.1
  refine ⟨nI (v 9), h4, sI (RN (sI (sI h4 0 10 1) 147 0 0) 171 iw) 147 53 1, ?_, O, ?_, Q, hI_same _ _ _ _, v, u, lg, bk, iw, ?_, fun k hk => ?_, fun k hk => ?_, ?_, B, mr_ext k4 (fun _ _ _ => rfl) (fun _ _ => rfl) (fun k hk => ew k (by omega)), lb_cp LBh B.2.2.2.2.2.2.2.2.1 ew (fun _ _ => rfl) (fun _ _ => rfl)⟩
  · have a1 : hK h3 0 = 11 := by rw [O3.K]; exact K0
    have a2 : hR h3 0 9 = some 128 := by rw [O3.R]; exact i3
    have a3 : hK h3 128 = 3 := D128.1
    have a4 : hR h3 0 5 = some 98 := by rw [O3.R]; exact R05
    have a5 : hK h4 0 = 11 := K0p
    rw [tX11_image]; simp only [oB_some, dR_some, cond_true, cond_false, if_true, if_false, Bool.true_and, Bool.and_true, Nat.beq_refl, K0, hm, i1, i2.1, R02, e3, a1, a2, a3, a4, e4, a5, isZ1, K0p, R02p, K10p, Evp]
  · rw [tX12_image]; simp only [oB_some, dR_some, cond_true, cond_false, if_true, if_false, Bool.true_and, Bool.and_true, Nat.beq_refl, M147h, M147, bcM, nz, R32, r52, e6, M2, isZ1, hK_sI, hR_sI, hE_sI, R2, RN_K, RN_E, RN_R, w7, K160, E160, iaK20, ib7, tc7]
    simp only [hK_sI, hR_sI, hE_sI] at M147 R32 K160 E160
    simp only [oB_some, dR_some, cond_true, cond_false, if_true, if_false, Bool.true_and, Bool.and_true, Nat.beq_refl, M147, R32, K160, E160, iaK20, ib7, tc7, w7]
  · exact cla_fr (cla_fr ⟨C1, C2⟩ (O4.I (by simp)) (O4.I (by simp))) (row _ (by omega) (by omega)) (row _ (by omega) (by omega))
  · rw [row 129 (by omega) (by omega), l1 k hk, O3.I (by simp), n0.2.2.1]; rfl
  · rw [row 130 (by omega) (by omega), l2 k hk, O3.I (by simp), n0.2.2.2]; rfl
  · rw [hI_row _ _ _ _ (by decide)]; unfold RN; rw [wA_I]
theorem back_both {h : Hp} {s : Nat} {r d b : Nat → Nat} {dc bc : Nat} {lw : Option ((Nat → Int32) × Nat)} {v u w lg bk z : Nat → Nat} {A x : Nat} (I : AINV h s r d b dc bc lw v u w lg bk z A x) (L : IMl h) (G : IMG h) : CALL h s r d b dc bc lw x (FX11_back [vR (some 0)]) (FX12_back [vR (some 147)]) := by
  obtain ⟨K0, R01, R02, R04, R05, K3, R30, Ks, Rs2, Rs3, Rs4, Ks1, Es1, Ks2, Es2, Ks3, Es3, K10, R108, K11, E11, K14, K98, td, dcC, bcC, Ev, Eu⟩ := cfa I
  have hm := hom I
  have M0 := (mfa I).1
  obtain ⟨i1, i2, i3, i4, i5, i6⟩ := L
  rcases G with ⟨g1, g2⟩ | ⟨g1, g2, iv, iu, ilg, ibk, iw, C, l1, l2, ew, Bi, Mi, LBi⟩
  · have M147 := (mfa (ainv_t I)).1
    have g2' : hI (sI h 147 0 0) 147 53 = 0 := by rw [hI_slot _ _ _ _ (by decide)]; exact g2
    refine call_no (res := -1) I ?_ ?_
    · rw [tX11_back]; simp only [oB_some, dR_some, cond_true, cond_false, if_true, if_false, Bool.true_and, Bool.and_true, Nat.beq_refl, K0, hm, g1]
    · rw [tX12_back]; simp only [oB_some, dR_some, cond_true, cond_false, if_true, if_false, Bool.true_and, Bool.and_true, Nat.beq_refl, M0, M147, g2']
  · obtain ⟨S, V, U, Cs, M, P⟩ := ainv_split I
    have hx := Cs.2.2.2.1
    obtain ⟨h3, e3, O3, C1, C2⟩ := copy_g i2 I.1.2.1.2.2 (by decide) (by decide) (by decide) C Bi.2.1 Bi.2.2.2.1
    have D98 := dp_fr I.1.2.2.1 O3
    have D128 := dp_fr i4 O3
    obtain ⟨h4, e4, O4, m1, m2⟩ := ledger_cp D128 D98 (by omega)
    obtain ⟨v1, hv, ev⟩ := row_rep C1
    obtain ⟨u1, hu, eu⟩ := row_rep5 C2
    obtain ⟨lg1, hlg, elg⟩ := row_repN (n := 300) (v := ilg) (f := hI h4 99) (fun k hk => by rw [m1 k hk, O3.I (by simp)]; exact l1 k hk)
    obtain ⟨bk1, hbk, ebk⟩ := row_repN (n := 180) (v := ibk) (f := hI h4 100) (fun k hk => by rw [m2 k hk, O3.I (by simp)]; exact l2 k hk)
    have O : Only h (sI h4 14 2 0) [10, 11, 14, 99, 100] := ((O3.mono (by simp)).trans (O4.mono (by simp))).trans (only_sI _ _ _ (by simp))
    have S5 := st_sg S (sg_only O (fun a ha => by simp at ha; omega))
    have C5 : CST (sI h4 14 2 0) v1 u1 lg1 bk1 V U 0 x := ⟨⟨by rw [hI_row _ _ _ _ (by decide), O4.I (by simp)]; exact hv, by rw [hI_row _ _ _ _ (by decide), O4.I (by simp)]; exact hu, by rw [hI_row _ _ _ _ (by decide)]; exact hlg, by rw [hI_row _ _ _ _ (by decide)]; exact hbk⟩, hI_same _ _ _ _, by rw [hI_slot _ _ _ _ (by decide), O4.I (by simp), O3.I (by simp)]; exact Cs.2.2.1, hx, by omega, fun j hj => absurd hj (by omega)⟩
    have f9 : hI (sI h4 14 2 0) 10 9 = nI (iv 9) := by rw [C5.1.1]; show nI (v1 9) = _; rw [ev 9 (by omega) (by omega)]
    have eS : FX11_back [vR (some 0)] h = some (rI (nI (iv 9)), sI h4 14 2 0) := by
      have a1 : hK h3 0 = 11 := by rw [O3.K]; exact K0
      have a2 : hR h3 0 9 = some 128 := by rw [O3.R]; exact i3
      have a3 : hK h3 98 = 3 := D98.1
      have a4 : hR h3 0 5 = some 98 := by rw [O3.R]; exact R05
      have a5 : hK h4 0 = 11 := by rw [O4.K]; exact a1
      have a6 : hR h4 0 4 = some 14 := by rw [O4.R, O3.R]; exact R04
      have a7 : hK h4 14 = 5 := by rw [O4.K, O3.K]; exact K14
      have a8 : hR h4 0 2 = some 10 := by rw [O4.R, O3.R]; exact R02
      have a9 : hK h4 10 = 4 := by rw [O4.K, O3.K]; exact K10
      rw [tX11_back]; simp only [oB_some, dR_some, cond_true, cond_false, if_true, if_false, Bool.true_and, Bool.and_true, Nat.beq_refl, K0, hm, g1, ne10, R02, K10, i1, e3, a1, a2, a3, a4, e4, a5, a6, a7, tX5_forget, hK_sI, hR_sI, a8, a9, f9]
    generalize eh : sI h4 14 2 0 = h5 at *
    have ol : ∀ a, 147 ≤ a → a ∉ [10, 11, 14, 99, 100] := fun a ha => by simp; omega
    have q1 : Mq h5 (sI h5 147 0 0) [160, 162] [0, 37] := mq_sI _ _ _ (by simp)
    have S6 := st_sg S5 (sg_mq (mq_sI (k := 0) h5 0 [] (ks := [0]) (by simp)) (by simp) (fun k hk => by simp at hk; omega))
    have ew6 : hI (sI h5 147 0 0) 171 = nR iw := by rw [hI_row _ _ _ _ (by decide), O.I (ol _ (by omega))]; exact ew
    have i6' : RLo (sI h5 147 0 0) 171 := (rlo_only i6 O : RLo h5 171)
    obtain ⟨wn, e6, en⟩ := copy_m i6' S6.1.2.2.2.2.2 (by decide) ew6 (lb_200 LBi)
    have q2 : Mq (sI h5 147 0 0) (RN (sI h5 147 0 0) 160 wn) [160] [] := mq_wA _ _ _ (by simp) (by decide)
    have S7 := st_sg S6 (sg_mq q2 (fun a ha => by simp at ha; omega) (by simp))
    have q3 : Mq (RN (sI h5 147 0 0) 160 wn) (sI (RN (sI h5 147 0 0) 160 wn) 147 37 0) [] [37] := mq_sI _ _ _ (by simp)
    have S8 := st_sg S7 (sg_mq q3 (by simp) (fun k hk => by simp at hk; omega))
    have Q : Mq h5 (sI (RN (sI h5 147 0 0) 160 wn) 147 37 0) [160, 162] [0, 37] := (q1.trans (q2.mono (by simp) (by simp))).trans (q3.mono (by simp) (by simp))
    have w8 : hI (sI (RN (sI h5 147 0 0) 160 wn) 147 37 0) 160 = nR wn := by rw [hI_row _ _ _ _ (by decide)]; unfold RN; rw [wA_I]
    have w7 : hI (sI (RN (sI h5 147 0 0) 160 wn) 147 37 0) 160 7 = nI (iv 9) := by rw [w8]; show nI (wn 7) = _; rw [en 7 (by omega), Mi.2.1]
    have g2' : hI (sI h5 147 0 0) 147 53 = 1 := by rw [hI_slot _ _ _ _ (by decide), O.I (ol _ (by omega))]; exact g2
    have r52 : hR (sI h5 147 0 0) 147 52 = some 171 := by show hR h5 147 52 = _; rw [O.R]; exact i5
    obtain ⟨M147, R18, K152, E152, R20, K154, E154, R22, K156, E156, R32, K160, E160, dcM, bcM⟩ := smf S6
    obtain ⟨M147p, R18p, K152p, E152p, R20p, K154p, E154p, R22p, K156p, E156p, R32p, K160p, E160p, dcMp, bcMp⟩ := smf S7
    obtain ⟨M147q, R18q, K152q, E152q, R20q, K154q, E154q, R22q, K156q, E156q, R32q, K160q, E160q, dcMq, bcMq⟩ := smf S8
    have M147h := (smf S5).1
    refine ⟨nI (iv 9), h5, _, eS, ?_, O.mono (fun a ha => by unfold actL; simp at ha ⊢; omega), Q, v1, u1, wn, lg1, bk1, z, 0, x, ainv_join S8 (cst_mq C5 Q (fun a ha => by simp at ha; omega)) ⟨w8, by rw [hI_row _ _ _ _ (by decide), RN_o _ _ (by decide), hI_row _ _ _ _ (by decide), O.I (ol _ (by omega))]; exact M.2.1, hI_same _ _ _ _⟩ ⟨bv_ext Bi ev eu, mr_ext Mi ev eu (fun k hk => en k (by omega)), lb_cp (lb_ext LBi (ev 10 (by omega) (by omega)) (ev 11 (by omega) (by omega))) (by rw [ev 10 (by omega) (by omega)]; exact Bi.2.2.2.2.2.2.2.2.1) en elg ebk, fun j hj => absurd hj (by omega), fun j hj => absurd hj (by omega)⟩⟩
    rw [tX12_back]; simp only [oB_some, dR_some, cond_true, cond_false, if_true, if_false, Bool.true_and, Bool.and_true, Nat.beq_refl, M147h, M147, g2', ne10, R32, r52, e6, M147p, M147q, R32q, K160q, E160q, iaK20, ib7, tc7, w7]
