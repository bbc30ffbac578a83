/-! ===== PURE: weaving, by both ===== -/
theorem weaving_both {h : Hp} {s : Nat} {r d b : Nat → Nat} {dc bc : Nat} {lw : Option ((Nat → Int32) × Nat)} {v u w lg bk z : Nat → Nat} {A x : Nat} (I : AINV h s r d b dc bc lw v u w lg bk z A x) (L : SRl h) (y y2 y3 : Int32) : QRY h (FX11_weaving [vR (some 0), vI y, vI y2, vI y3]) (FX12_weaving [vR (some 147), vI y, vI y2, vI y3]) := by
  obtain ⟨K0, R01, R02, R04, R05, K3, R30, Ks, Rs2, Rs3, Rs4, Ks1, Es1, Ks2, Es2, Ks3, Es3, K10, R108, K11, E11, K14, K98, td, dcC, bcC, Ev, Eu⟩ := cfa I
  have hm := hom I
  have M0 := (mfa I).1
  have b5 : bc ≤ 5 := I.2.1.2.2.2.1.2.2.2.2.1.2
  have nz : ¬ nI bc = 0 := nI_nz I.2.1.2.2.2.2.1 (by omega)
  have J0 := mfa (ainv_t I)
  by_cases c1 : y < 1
  · obtain ⟨M147, R18, K152, E152, R20, K154, E154, R22, K156, E156, R32, K160, E160, dcM, bcM, Ew⟩ := J0
    refine QRY.id (res := -1) ?_ ?_
    · rw [tX11_weaving]; simp only [oB_some, dR_some, cond_true, cond_false, if_true, if_false, Bool.true_and, Bool.and_true, Nat.beq_refl, K0, hm, within11, c1]
    · rw [tX12_weaving]; simp only [oB_some, dR_some, cond_true, cond_false, if_true, if_false, Bool.true_and, Bool.and_true, Nat.beq_refl, M0, M147, bcM, nz, isIn_18, c1]
  by_cases c2 : (8 : Int32) < y
  · obtain ⟨M147, R18, K152, E152, R20, K154, E154, R22, K156, E156, R32, K160, E160, dcM, bcM, Ew⟩ := J0
    refine QRY.id (res := -1) ?_ ?_
    · rw [tX11_weaving]; simp only [oB_some, dR_some, cond_true, cond_false, if_true, if_false, Bool.true_and, Bool.and_true, Nat.beq_refl, K0, hm, within11, c1, c2]
    · rw [tX12_weaving]; simp only [oB_some, dR_some, cond_true, cond_false, if_true, if_false, Bool.true_and, Bool.and_true, Nat.beq_refl, M0, M147, bcM, nz, isIn_18, c1, c2]
  by_cases c3 : y2 < 0
  · obtain ⟨M147, R18, K152, E152, R20, K154, E154, R22, K156, E156, R32, K160, E160, dcM, bcM, Ew⟩ := J0
    refine QRY.id (res := -1) ?_ ?_
    · rw [tX11_weaving]; simp only [oB_some, dR_some, cond_true, cond_false, if_true, if_false, Bool.true_and, Bool.and_true, Nat.beq_refl, K0, hm, within11, c1, c2, ne10, c3]
    · rw [tX12_weaving]; simp only [oB_some, dR_some, cond_true, cond_false, if_true, if_false, Bool.true_and, Bool.and_true, Nat.beq_refl, M0, M147, bcM, nz, isIn_18, c1, c2, ne10, isIn_060, c3]
  by_cases c4 : (60 : Int32) < y2
  · obtain ⟨M147, R18, K152, E152, R20, K154, E154, R22, K156, E156, R32, K160, E160, dcM, bcM, Ew⟩ := J0
    refine QRY.id (res := -1) ?_ ?_
    · rw [tX11_weaving]; simp only [oB_some, dR_some, cond_true, cond_false, if_true, if_false, Bool.true_and, Bool.and_true, Nat.beq_refl, K0, hm, within11, c1, c2, ne10, c3, c4]
    · rw [tX12_weaving]; simp only [oB_some, dR_some, cond_true, cond_false, if_true, if_false, Bool.true_and, Bool.and_true, Nat.beq_refl, M0, M147, bcM, nz, isIn_18, c1, c2, ne10, isIn_060, c3, c4]
  by_cases c5 : y3 < 0
  · obtain ⟨M147, R18, K152, E152, R20, K154, E154, R22, K156, E156, R32, K160, E160, dcM, bcM, Ew⟩ := J0
    refine QRY.id (res := -1) ?_ ?_
    · rw [tX11_weaving]; simp only [oB_some, dR_some, cond_true, cond_false, if_true, if_false, Bool.true_and, Bool.and_true, Nat.beq_refl, K0, hm, within11, c1, c2, ne10, c3, c4, c5]
    · rw [tX12_weaving]; simp only [oB_some, dR_some, cond_true, cond_false, if_true, if_false, Bool.true_and, Bool.and_true, Nat.beq_refl, M0, M147, bcM, nz, isIn_18, c1, c2, ne10, isIn_060, c3, c4, isIn_01, c5]
  by_cases c6 : (1 : Int32) < y3
  · obtain ⟨M147, R18, K152, E152, R20, K154, E154, R22, K156, E156, R32, K160, E160, dcM, bcM, Ew⟩ := J0
    refine QRY.id (res := -1) ?_ ?_
    · rw [tX11_weaving]; simp only [oB_some, dR_some, cond_true, cond_false, if_true, if_false, Bool.true_and, Bool.and_true, Nat.beq_refl, K0, hm, within11, c1, c2, ne10, c3, c4, c5, c6]
    · rw [tX12_weaving]; simp only [oB_some, dR_some, cond_true, cond_false, if_true, if_false, Bool.true_and, Bool.and_true, Nat.beq_refl, M0, M147, bcM, nz, isIn_18, c1, c2, ne10, isIn_060, c3, c4, isIn_01, c5, c6]
  obtain ⟨n, hn, en⟩ := nI_of2 (x := y) (M := 8) (n := 8) (by decide) (fun q => c1 (Int32.lt_trans q (by decide))) (Int32.not_lt.mp c2)
  obtain ⟨p, hp, ep⟩ := nI_of2 (x := y2) (M := 60) (n := 60) (by decide) c3 (Int32.not_lt.mp c4)
  subst en ep
  have q8 : (if (8 : Int32) < nI n then 8 else nI n) = nI n := if_neg (show ¬ (8 : Int32) < nI n from nI_nlt (a := 8) (by omega) (by omega))
  -- the class
  let ha : Hp := sI (sI (sI (sI h 103 2 (nI n)) 103 3 (nI p)) 103 4 (-1)) 103 5 (-1)
  have Oa : Only h ha wvL := (((only_sI _ _ _ (wvL_of.mpr (by omega))).trans (only_sI _ _ _ (wvL_of.mpr (by omega)))).trans (only_sI _ _ _ (wvL_of.mpr (by omega)))).trans (only_sI _ _ _ (wvL_of.mpr (by omega)))
  have g2 : hI ha 103 2 = nI n := by show hI (sI (sI (sI (sI h 103 2 (nI n)) 103 3 (nI p)) 103 4 (-1)) 103 5 (-1)) 103 2 = _; rw [hI_slot _ _ _ _ (by decide), hI_slot _ _ _ _ (by decide), hI_slot _ _ _ _ (by decide), hI_same]
  have g3 : hI ha 103 3 = nI p := by show hI (sI (sI (sI (sI h 103 2 (nI n)) 103 3 (nI p)) 103 4 (-1)) 103 5 (-1)) 103 3 = _; rw [hI_slot _ _ _ _ (by decide), hI_slot _ _ _ _ (by decide), hI_same]
  have g5 : hI ha 103 5 = -1 := hI_same _ _ _ _
  have r10 : ∀ a, a ≠ 103 → hI ha a = hI h a := fun a e => by show hI (sI (sI (sI (sI h 103 2 (nI n)) 103 3 (nI p)) 103 4 (-1)) 103 5 (-1)) a = _; rw [hI_row _ _ _ _ e, hI_row _ _ _ _ e, hI_row _ _ _ _ e, hI_row _ _ _ _ e]
  have B := I.2.2.1.2.1
  have n0 := I.2.2.1.1
  have PT : LPl ha 10 := I.1.2.1.2.2
  have La : SRl ha := srl_only L Oa
  obtain ⟨hb, cp, Ob, C1, C2⟩ := copy_g PT (La.2.1 0 (by omega)).2 (by decide) (by decide) (by decide) (show CLa ha 10 v u from cla_fr (now_cla n0) (r10 10 (by decide)) (r10 11 (by decide))) B.2.1 B.2.2.2.1
  obtain ⟨V, hV, eV⟩ := row_rep C1
  obtain ⟨U, hU, eU⟩ := row_rep5 C2
  have Ob' : Only ha hb wvL := Ob.mono (fun a ha => wvL_of.mpr (by simp at ha; omega))
  have Oab := Oa.trans Ob'
  have Sb : STc hb s r d b dc bc lw := st_wv (stI I) Oab
  have Lb := srl_only L Oab
  have b103 : hI hb 103 = hI ha 103 := Ob.I (by simp)
  have Bv := sv_ext (sv_bv B) eV eU
  obtain ⟨hc, tr, Oc, _, m2, m3, Ec⟩ := tryRows_c hp hn n 11 999 0 0 hb none V U (by omega) (by omega) (by omega) Sb Lb (by rw [b103]; exact g2) (by rw [b103]; exact g3) hV hU Bv (show hI hb 103 5 = -1 by rw [b103]; exact g5)
  have O1 := Oab.trans Oc
  obtain ⟨w0, r0, ws⟩ := wvF_some (lw := lw) (r := r) (p := p) n V 0 none
  rw [ws] at Ec
  obtain ⟨x5, x4, _⟩ := Ec
  have fr : FX8_findRow [vR (some 103), vR (some 10), vI (nI n), vI (nI p)] h = some (rV, hc) := by
    obtain ⟨⟨s1, s2, s3, s4, s5, s6⟩, s7, _⟩ := L
    obtain ⟨u1, u2⟩ := s7 0 (by omega)
    have ib : inb 0 9 = true := by decide
    have kb : hK hb 103 = 8 := Lb.1.2.1
    have u1' : hR h 104 0 = some 108 := u1
    have u2' : hK h 108 = 4 := u2.1
    have tr' : FX8_tryRows [vR (some 103), vI 0, vI 0] hb = some (rV, hc) := tr
    have cp' : FX4_copyFrom [vR (some 108), vR (some 10)] (sI (sI (sI (sI h 103 2 (nI n)) 103 3 (nI p)) 103 4 (-1)) 103 5 (-1)) = some (rV, hb) := cp
    rw [tX8_findRow]
    simp only [oB_some, dR_some, cond_true, cond_false, if_true, if_false, Bool.true_and, Bool.and_true, Nat.beq_refl, s2, q8, hK_sI, hR_sI, hE_sI, s4, s5, s6, ib, tc0, u1', u2', cp', kb, tr']
  -- the reference
  have Ic := ainv_ag I (ag_only (x := x) O1 (fun a ha => by have := wvL_of.mp ha; unfold frC; omega) (fun z => by have := wvL_of.mp z; omega))
  have J := ainv_t Ic
  obtain ⟨M147, R18, K152, E152, R20, K154, E154, R22, K156, E156, R32, K160, E160, dcM, bcM, Ew⟩ := mfa J
  have M147h := (mfa Ic).1
  have k4 := I.2.2.1.2.2.2.1
  have q1 : Mq (sI hc 147 0 0) (sI (sI (sI hc 147 0 0) 147 39 (-1)) 147 40 0) [] [39, 40] := (mq_sI _ _ _ (by simp)).trans (mq_sI _ _ _ (by simp))
  have Sm := st_sg (stI J) (sg_mq q1 (by simp) (fun k hk => by simp at hk; omega))
  have wm : hI (sI (sI (sI hc 147 0 0) 147 39 (-1)) 147 40 0) 160 = nR w := by rw [hI_row _ _ _ _ (by decide), hI_row _ _ _ _ (by decide)]; exact J.2.2.1.2.2.1
  have Em : encM (sI (sI (sI hc 147 0 0) 147 39 (-1)) 147 40 0) none := by show hI _ 147 39 = -1; rw [hI_slot _ _ _ _ (by decide), hI_same]
  obtain ⟨hz, gw, qz, Ez⟩ := goWv_m (w := w) hp n 11 999 0 (sI (sI (sI hc 147 0 0) 147 39 (-1)) 147 40 0) none v u (by omega) (by omega) Sm wm (k4.1 3 (by omega)) (sv_bv B) Em
  rw [← eqv_wv n 0 none (show eqv v V from eV), ws] at Ez
  obtain ⟨z39, z40, _⟩ := Ez
  have ek : ∀ k, hI (sI (sI (sI hc 147 0 0) 147 39 (-1)) 147 40 0) 160 k = nI (w k) := fun k => by rw [wm]; rfl
  have kz : hK hz 147 = 12 := by rw [qz.2.2.1]; exact M147
  have Q : Mq hc hz scrM scrS := ((mq_t hc).trans (q1.mono (by simp) (by decide))).trans (qz.mono (by simp) (by decide))
  have gw' : FX12_goWeaving [vR (some 147), vI (nI n), vI (nI p), vI (nI (v 0)), vI (nI (v 1)), vI (nI (v 2)), vI (nI (v 4)), vI (nI (v 5)), vI (nI (v 10)), vI (nI (v 9)), vI 0] (sI (sI (sI hc 147 0 0) 147 39 (-1)) 147 40 0) = some (rV, hz) := gw
  have kc : hK hc 0 = 11 := (cfa Ic).1
  have rc : hR hc 0 7 = some 103 := (srl_only L O1).1.1
  have k103 : hK hc 103 = 8 := (srl_only L O1).1.2.1
  obtain ⟨e0, e1, e2, e4, e5⟩ : w 0 = v 0 ∧ w 1 = v 1 ∧ w 2 = v 2 ∧ w 4 = v 4 ∧ w 5 = v 5 := ⟨k4.1 0 (by omega), k4.1 1 (by omega), k4.1 2 (by omega), k4.1 4 (by omega), k4.1 5 (by omega)⟩
  have e19 : w 19 = v 10 := k4.2.2.2.2
  have e7 : w 7 = v 9 := k4.2.1
  have s1 := L.1.1
  have s2 := L.1.2.1
  rcases in01 c5 c6 with q | q
  · refine ⟨nI r0, hc, hz, ?_, ?_, O1.mono (fun a ha => by have := wvL_of.mp ha; unfold scrC; simp; omega), Q⟩
    · rw [tX11_weaving, q]; rw [q] at c5 c6
      simp only [oB_some, dR_some, cond_true, cond_false, if_true, if_false, Bool.true_and, Bool.and_true, Nat.beq_refl, K0, hm, within11, c1, c2, ne10, c3, c4, c5, c6, s1, s2, R02, fr, kc, rc, k103, x4]
    · rw [tX12_weaving, q]; rw [q] at c5 c6
      simp only [oB_some, dR_some, cond_true, cond_false, if_true, if_false, Bool.true_and, Bool.and_true, Nat.beq_refl, M147h, M147, bcM, nz, isIn_18, c1, c2, ne10, isIn_060, c3, c4, isIn_01, c5, c6, hK_sI, hR_sI, hE_sI]
      simp only [hK_sI, hR_sI, hE_sI] at M147 R32 K160 E160
      simp only [oB_some, dR_some, cond_true, cond_false, if_true, if_false, Bool.true_and, Bool.and_true, Nat.beq_refl, M147, R32, K160, E160, iaK20, ib0, ib1, ib2, ib4, ib5, ib19, ib7, tc0, tc1, tc2, tc4, tc5, tc19, tc7, ek, e0, e1, e2, e4, e5, e19, e7, gw', kz, z40]
  · refine ⟨nI w0, hc, hz, ?_, ?_, O1.mono (fun a ha => by have := wvL_of.mp ha; unfold scrC; simp; omega), Q⟩
    · rw [tX11_weaving, q]; rw [q] at c5 c6
      simp only [oB_some, dR_some, cond_true, cond_false, if_true, if_false, Bool.true_and, Bool.and_true, Nat.beq_refl, K0, hm, within11, c1, c2, ne10, c3, c4, c5, c6, s1, s2, R02, fr, kc, rc, k103, x5]
    · rw [tX12_weaving, q]; rw [q] at c5 c6
      simp only [oB_some, dR_some, cond_true, cond_false, if_true, if_false, Bool.true_and, Bool.and_true, Nat.beq_refl, M147h, M147, bcM, nz, isIn_18, c1, c2, ne10, isIn_060, c3, c4, isIn_01, c5, c6, hK_sI, hR_sI, hE_sI]
      simp only [hK_sI, hR_sI, hE_sI] at M147 R32 K160 E160
      simp only [oB_some, dR_some, cond_true, cond_false, if_true, if_false, Bool.true_and, Bool.and_true, Nat.beq_refl, M147, R32, K160, E160, iaK20, ib0, ib1, ib2, ib4, ib5, ib19, ib7, tc0, tc1, tc2, tc4, tc5, tc19, tc7, ek, e0, e1, e2, e4, e5, e19, e7, gw', kz, z39]
