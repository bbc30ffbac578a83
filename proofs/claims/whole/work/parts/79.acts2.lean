/-! ===== PURE: acts that leave the ledger: what mark, commit and remember come to ===== -/
/-- the heap behind the class's commit -/
def cmH (h : Hp) (A x : Nat) : Hp := sI (sI h 14 1 (nI ((x + 1) % 41))) 14 2 (nI (remA A))
theorem act_fin {h h8 h9 : Hp} {s : Nat} {r d b : Nat → Nat} {dc bc : Nat} {lw : Option ((Nat → Int32) × Nat)} {v u w lg bk z v' u' w' : Nat → Nat} {A x : Nat} (I : AINV h s r d b dc bc lw v u w lg bk z A x) (O8 : Only h h8 [16 + 2 * x, 16 + 2 * x + 1]) (C8 : CLa h8 (16 + 2 * x) v u) (O9 : Only h8 h9 [10, 11]) (N9 : NowC h9 v' u' lg bk) (B' : BV v' u') (M' : MR v' u' w') (E' : LB v' w' lg bk) (h10 : v' 10 = v 10) (h11 : v' 11 = v 11) :
    FX5_commit [vR (some 14)] h9 = some (rV, cmH h9 A x) ∧ Only h (cmH h9 A x) (actL x) ∧ (∀ a, a ≠ 14 → hI (cmH h9 A x) a = hI h9 a) ∧ MW (cmH h9 A x) r d b dc bc ∧ RLo (cmH h9 A x) 160 ∧ UL (cmH h9 A x) ∧ hI (cmH h9 A x) 160 = nR w ∧
    ∀ h3, Mq (cmH h9 A x) h3 [] [0] → ∃ hr, FX12_remember [vR (some 147)] h3 = some (rV, hr) ∧ hI hr 160 = nR w ∧ MW hr r d b dc bc ∧ RLo hr 160 ∧ UL hr ∧ Mq (cmH h9 A x) (RN hr 160 w') [160, 162] [0, 37] ∧ AINV (RN hr 160 w') s r d b dc bc lw v' u' w' lg bk (remZ z w A) (remA A) ((x + 1) % 41) := by
  obtain ⟨⟨i1, i2, i3, i4, i5, i6⟩, ⟨j1, j2, j3, j4, j5, j6, j7⟩, ⟨n0, k2, k3, k4, k5⟩, ⟨l1, l2, l3, l4, l5, l6, l7⟩⟩ := I
  have O89 : Only h h9 (actL x) := (O8.mono (fun a ha => by unfold actL; simp at ha ⊢; omega)).trans (O9.mono (fun a ha => by unfold actL; simp at ha ⊢; omega))
  have x9 : hI h9 14 1 = nI x := by rw [O9.I (by simp), O8.I (by simp; omega)]; exact l4
  have A9 : hI h9 14 2 = nI A := by rw [O9.I (by simp), O8.I (by simp; omega)]; exact l3
  have cm := commit_c (ptl_fr i2 O89) l5 l6 x9 A9
  have O13 : Only h (cmH h9 A x) (actL x) := O89.trans ((only_sI _ _ _ (by unfold actL; simp)).trans (only_sI _ _ _ (by unfold actL; simp)))
  have r13 : ∀ a, a ≠ 14 → hI (cmH h9 A x) a = hI h9 a := fun a ha => by unfold cmH; rw [hI_row _ _ _ _ ha, hI_row _ _ _ _ ha]
  have a13 : hI (cmH h9 A x) 14 1 = nI ((x + 1) % 41) := by unfold cmH; rw [hI_slot _ _ _ _ (by decide), hI_same]
  have b13 : hI (cmH h9 A x) 14 2 = nI (remA A) := by unfold cmH; rw [hI_same]
  have C13 : CLa (cmH h9 A x) (16 + 2 * x) v u := cla_fr C8 (by rw [r13 _ (by omega), O9.I (by simp; omega)]) (by rw [r13 _ (by omega), O9.I (by simp; omega)])
  have nA : ∀ a, a ≠ 8 → a ≠ 9 → a ≠ 10 → a ≠ 11 → a ≠ 14 → a ≠ 99 → a ≠ 100 → a ≠ 16 + 2 * x → a ≠ 16 + 2 * x + 1 → a ∉ actL x := fun a q1 q2 q3 q4 q5 q6 q7 q8 q9 => by unfold actL; simp; omega
  have M13 := mw_fr j4 O13 (nA _ (by omega) (by omega) (by omega) (by omega) (by omega) (by omega) (by omega) (by omega) (by omega)) (nA _ (by omega) (by omega) (by omega) (by omega) (by omega) (by omega) (by omega) (by omega) (by omega)) (nA _ (by omega) (by omega) (by omega) (by omega) (by omega) (by omega) (by omega) (by omega) (by omega)) (nA _ (by omega) (by omega) (by omega) (by omega) (by omega) (by omega) (by omega) (by omega) (by omega))
  have Q13 := lws_only j7 O13 (fun a ha => by unfold actL at ha; simp at ha; omega)
  have g160 : hI (cmH h9 A x) 160 = nR w := by rw [O13.I (nA _ (by omega) (by omega) (by omega) (by omega) (by omega) (by omega) (by omega) (by omega) (by omega))]; exact k3
  have g162 : hI (cmH h9 A x) 162 = nR z := by rw [O13.I (nA _ (by omega) (by omega) (by omega) (by omega) (by omega) (by omega) (by omega) (by omega) (by omega))]; exact l1
  have g37 : hI (cmH h9 A x) 147 37 = nI A := by rw [O13.I (nA _ (by omega) (by omega) (by omega) (by omega) (by omega) (by omega) (by omega) (by omega) (by omega))]; exact l2
  have U13 := ul_only i5 O13
  have R13 := rlo_only i6 O13
  refine ⟨cm, O13, r13, M13, R13, U13, g160, fun h3 q3 => ?_⟩
  have U3 := ul_mq U13 q3
  have s160 : hI h3 160 = nR w := by rw [q3.2.2.2.2.2.2.1 160 (by omega) (by omega) (by simp)]; exact g160
  have s162 : hI h3 162 = nR z := by rw [q3.2.2.2.2.2.2.1 162 (by omega) (by omega) (by simp)]; exact g162
  have s37 : hI h3 147 37 = nI A := by rw [q3.2.2.2.2.2.2.2 37 (by simp) (by simp)]; exact g37
  obtain ⟨hr, er, t162, t37, qr⟩ := remember_m U3 s160 s162 s37 l6
  have t160 : hI hr 160 = nR w := by rw [qr.2.2.2.2.2.2.1 160 (by omega) (by omega) (by simp)]; exact s160
  have q3r : Mq (cmH h9 A x) hr [160, 162] [0, 37] := (q3.mono (by simp) (by simp)).trans (qr.mono (by simp) (by simp))
  have Q : Mq (cmH h9 A x) (RN hr 160 w') [160, 162] [0, 37] := q3r.trans (mq_wA hr _ _ (by simp) (by decide))
  have row : ∀ a, a ≠ 147 → a ≠ 151 → a ≠ 160 → a ≠ 162 → hI (RN hr 160 w') a = hI (cmH h9 A x) a := fun a y1 y2 y3 y4 => Q.2.2.2.2.2.2.1 a y1 y2 (by simp; omega)
  refine ⟨hr, er, t160, mq_mw q3r M13 (by simp) (by simp) (by simp) (by simp) (by simp), mq_rlo q3r R13, ul_mq U13 q3r, Q, ⟨cf_mq (cf_fr i1 O13) Q, ptl_mq (ptl_fr i2 O13) Q, dp_mq (dp_fr i3 O13) Q (by omega), ll_mq (ll_fr i4 O13) Q (by omega), ul_mq U13 Q, mq_rlo Q R13⟩, ⟨j1, ?_, wh_mq (wh_fr j3 O13 (nA _ (by omega) (by omega) (by omega) (by omega) (by omega) (by omega) (by omega) (by omega) (by omega)) (nA _ (by omega) (by omega) (by omega) (by omega) (by omega) (by omega) (by omega) (by omega) (by omega)) (nA _ (by omega) (by omega) (by omega) (by omega) (by omega) (by omega) (by omega) (by omega) (by omega)) (nA _ (by omega) (by omega) (by omega) (by omega) (by omega) (by omega) (by omega) (by omega) (by omega))) Q (by omega) (fun a ha => by simp at ha; omega), mq_mw Q M13 (by simp) (by simp) (by simp) (by simp) (by simp), j5, j6, lws_mq Q13 Q M13.1 (by simp) (fun a ha => by simp at ha; omega)⟩, ⟨⟨?_, ?_, ?_, ?_⟩, B', ?_, M', E'⟩, ⟨?_, ?_, ?_, ?_, Nat.mod_lt _ (by omega), remA_le l6, ?_⟩⟩
  · rw [row _ (by omega) (by omega) (by omega) (by omega), O13.I (nA _ (by omega) (by omega) (by omega) (by omega) (by omega) (by omega) (by omega) (by omega) (by omega))]; exact j2
  · rw [row _ (by omega) (by omega) (by omega) (by omega), r13 _ (by decide)]; exact N9.1
  · rw [row _ (by omega) (by omega) (by omega) (by omega), r13 _ (by decide)]; exact N9.2.1
  · rw [row _ (by omega) (by omega) (by omega) (by omega), r13 _ (by decide)]; exact N9.2.2.1
  · rw [row _ (by omega) (by omega) (by omega) (by omega), r13 _ (by decide)]; exact N9.2.2.2
  · unfold RN; rw [wA_I]
  · rw [RN_o _ _ (by decide)]; exact t162
  · rw [RN_o _ _ (by decide)]; exact t37
  · rw [row _ (by omega) (by omega) (by omega) (by omega)]; exact b13
  · rw [row _ (by omega) (by omega) (by omega) (by omega)]; exact a13
  · refine past_act l7 l6 l5 k2 k4 k5 ⟨Or.inl rfl, fun i hi => rfl⟩ (by omega) (by omega) (by omega) (cla_fr C13 (row _ (by omega) (by omega) (by omega) (by omega)) (row _ (by omega) (by omega) (by omega) (by omega))) (fun i hi ne => ⟨?_, ?_⟩)
    · rw [row _ (by omega) (by omega) (by omega) (by omega)]; exact O13.I (nA _ (by omega) (by omega) (by omega) (by omega) (by omega) (by omega) (by omega) (by omega) (by omega))
    · rw [row _ (by omega) (by omega) (by omega) (by omega)]; exact O13.I (nA _ (by omega) (by omega) (by omega) (by omega) (by omega) (by omega) (by omega) (by omega) (by omega))
/-- what every call comes to -/
def CALL (h : Hp) (s : Nat) (r d b : Nat → Nat) (dc bc : Nat) (lw : Option ((Nat → Int32) × Nat)) (x : Nat) (X Y : Hp → Option (RV × Hp)) : Prop :=
  ∃ res h1 h2, X h = some (rI res, h1) ∧ Y h1 = some (rI res, h2) ∧ Only h h1 (actL x) ∧ Mq h1 h2 [160, 162] [0, 37] ∧ ∃ v' u' w' lg' bk' z' A' x', AINV h2 s r d b dc bc lw v' u' w' lg' bk' z' A' x'
theorem bv_cut {v u : Nat → Nat} (B : BV v u) (h5 : 0 < v 5) : BV (cutV v) u := by
  obtain ⟨b0, b1, b2, b3, b4, b5, b7, b9, b10, b11, b12, bu⟩ := B
  have o : ∀ k, k ≠ 5 → k ≠ 6 → cutV v k = v k := fun k a c => by unfold cutV; rw [up1_o _ _ c, up1_o _ _ a]
  have e5 : cutV v 5 = v 5 - 1 := by unfold cutV; rw [up1_o _ _ (by decide), up1_s]
  have e6 : cutV v 6 = v 6 + 3 := by unfold cutV; rw [up1_s]
  refine ⟨?_, ?_, ?_, ?_, ?_, ?_, ?_, ?_, ?_, ?_, ?_, bu⟩
  · rw [o 0 (by decide) (by decide)]; exact b0
  · rw [o 1 (by decide) (by decide)]; exact b1
  · rw [o 2 (by decide) (by decide), o 10 (by decide) (by decide), o 1 (by decide) (by decide)]; exact b2
  · rw [o 3 (by decide) (by decide)]; exact b3
  · rw [o 4 (by decide) (by decide)]; exact b4
  · rw [e5, e6, o 10 (by decide) (by decide)]; omega
  · rw [o 7 (by decide) (by decide)]; exact b7
  · rw [o 9 (by decide) (by decide)]; exact b9
  · rw [o 10 (by decide) (by decide)]; exact b10
  · rw [o 11 (by decide) (by decide), o 9 (by decide) (by decide)]; exact b11
  · rw [o 12 (by decide) (by decide)]; exact b12
theorem cut_both {h : Hp} {s : Nat} {r d b : Nat → Nat} {dc bc : Nat} {lw : Option ((Nat → Int32) × Nat)} {v u w lg bk z : Nat → Nat} {A x : Nat} (I : AINV h s r d b dc bc lw v u w lg bk z A x) : CALL h s r d b dc bc lw x (FX11_cut [vR (some 0)]) (FX12_cut [vR (some 147)]) := by
  have I0 := I
  obtain ⟨⟨i1, i2, i3, i4, i5, i6⟩, ⟨j1, j2, j3, j4, j5, j6, j7⟩, ⟨n0, k2, k3, k4, k5⟩, ⟨l1, l2, l3, l4, l5, l6, l7⟩⟩ := I
  have BV0 := k2
  obtain ⟨b0, b1, b2, b3, b4, b5, b7, b9, b10, b11, b12, bu⟩ := k2
  have F1 := i1.1
  have F2 := i1.2.1
  have F3 := i1.2.2.1
  have F4 := i1.2.2.2.1
  have p14 := i2.1.1
  obtain ⟨h8, e8, O8, C8⟩ := mark_c i2 (now_cla n0) b1 b3 l5 l4
  have O8' : Only h h8 (refL x) := O8.mono (fun a ha => by unfold refL; simp at ha ⊢; omega)
  have I8 := ainv_c I0 O8'
  obtain ⟨⟨i1', i2', i3', i4', i5', i6'⟩, ⟨_, j2', j3', j4', _, _, j7'⟩, ⟨n0', _, k3', _, _⟩, ⟨l1', l2', l3', l4', _, _, l7'⟩⟩ := I8
  have hm := home_c i1' j3' j2'
  have self : LN h8 10 v u = h8 := LN_self n0'.1 n0'.2.1
  have cut := cut_c (v := v) (u := u) i4' (by omega)
  rw [self] at cut
  have K0 : hK h8 0 = 11 := i1'.1
  have R1 : hR h8 0 1 = some 3 := i1'.2.1
  have R2 : hR h8 0 2 = some 10 := i1'.2.2.1
  have K3 := j3'.1.1
  by_cases c : 0 < v 5
  · rw [if_pos c] at cut
    have O9 : Only h8 (LN h8 10 (cutV v) u) [10, 11] := only_LN _ _ _ (by simp) (by simp)
    have N9 : NowC (LN h8 10 (cutV v) u) (cutV v) u lg bk := ⟨LN_ra _ _ _ _, LN_rs _ 10 _ _, by rw [LN_o _ _ _ (by decide) (by decide)]; exact n0'.2.2.1, by rw [LN_o _ _ _ (by decide) (by decide)]; exact n0'.2.2.2⟩
    have ex : ∀ (f : Nat → Nat) k, k ≠ 5 → k ≠ 6 → cutV f k = f k := fun f k a c => by unfold cutV; rw [up1_o _ _ c, up1_o _ _ a]
    obtain ⟨cm, O13, r13, M13, R13, U13, g160, fin⟩ := act_fin (w' := cutV w) I0 O8 C8 O9 N9 (bv_cut BV0 c) (mr_cut k4) (lb_same k5 (ex v 10 (by decide) (by decide)) (ex v 11 (by decide) (by decide)) b10 (fun k hk => ex w k (by omega) (by omega))) (ex v 10 (by decide) (by decide)) (ex v 11 (by decide) (by decide))
    have q3 : Mq (cmH (LN h8 10 (cutV v) u) A x) (sI (cmH (LN h8 10 (cutV v) u) A x) 147 0 0) [] [0] := mq_sI _ _ _ (by simp)
    obtain ⟨hr, er, s160, Mr, Rr, Ur, Q, J⟩ := fin _ q3
    have w5 : w 5 = v 5 := k4.1 5 (by omega)
    have cu := cuts_m (w := w) Rr (by omega)
    rw [RN_self s160] at cu
    have e5 : hI (cmH (LN h8 10 (cutV v) u) A x) 160 5 = nI (w 5) := by rw [g160]; rfl
    refine ⟨nI (cutV v 6), cmH (LN h8 10 (cutV v) u) A x, RN hr 160 (cutV w), ?_, ?_, O13, Q, _, _, _, _, _, _, _, _, J⟩
    · have kk0 : hK (cmH (LN h8 10 (cutV v) u) A x) 0 = 11 := K0
      have kk10 : hK (cmH (LN h8 10 (cutV v) u) A x) 10 = 4 := i4'.1
      have rr2 : hR (cmH (LN h8 10 (cutV v) u) A x) 0 2 = some 10 := R2
      have rr4 : hR h8 0 4 = some 14 := i1'.2.2.2.1
      have kk14 : hK h8 14 = 5 := i2'.1.1
      have v6 : hI (cmH (LN h8 10 (cutV v) u) A x) 10 6 = nI (cutV v 6) := by rw [r13 _ (by decide), LN_a]
      rw [tX11_cut]
      simp only [oB_some, dR_some, cond_true, cond_false, if_true, if_false, Bool.true_and, Bool.and_true, Nat.beq_refl, F1, F3, F4, p14, e8, K0, hm, R1, R2, K3, cut, show ¬ (1 : Int32) = 0 by decide, LN_K, LN_R, rr4, kk14]
      rw [show up1 (up1 v 5 (v 5 - 1)) 6 (v 6 + 3) = cutV v from rfl, cm]
      simp only [oB_some, dR_some, cond_true, cond_false, if_true, if_false, Bool.true_and, Bool.and_true, Nat.beq_refl, kk0, rr2, kk10, v6]
    · have w13 : hK (cmH (LN h8 10 (cutV v) u) A x) 147 = 12 := M13.1
      have rr3 : hR (cmH (LN h8 10 (cutV v) u) A x) 147 32 = some 160 := U13.2.1
      have kr : hK hr 147 = 12 := Mr.1
      have rrr : hR hr 147 32 = some 160 := Ur.2.1
      have k160 : hK (cmH (LN h8 10 (cutV v) u) A x) 160 = 20 := U13.2.2.1
      have e160 : hE (cmH (LN h8 10 (cutV v) u) A x) 160 = 381 := U13.2.2.2.1
      have kr160 : hK hr 160 = 20 := Ur.2.2.1
      have er160 : hE hr 160 = 381 := Ur.2.2.2.1
      have z27 : hI (sI (cmH (LN h8 10 (cutV v) u) A x) 147 0 0) 147 27 = nI bc := by rw [hI_slot _ _ _ _ (by decide)]; exact M13.2.2.2.2.2.1.2
      have nz : ¬ nI bc = 0 := nI_nz j5 (by have := M13.2.2.2.2.1.2; omega)
      have z5 : hI (sI (cmH (LN h8 10 (cutV v) u) A x) 147 0 0) 160 5 = nI (w 5) := by rw [hI_oth _ _ _ _ _ (by decide)]; exact e5
      have n5 : ¬ nI (w 5) = 0 := nI_nz (by omega) (by omega)
      have a6 : hI (RN hr 160 (cutV w)) 160 6 = nI (cutV v 6) := by rw [RN_a, (mr_cut k4).1 6 (by omega)]
      rw [tX12_cut]
      simp only [oB_some, dR_some, cond_true, cond_false, if_true, if_false, Bool.true_and, Bool.and_true, Nat.beq_refl, hK_sI, hR_sI, hE_sI, w13, z27, nz, rr3, k160, e160, iaK20, ib5, tc5, z5, n5, er, kr, rrr, cu]
      rw [show up1 (up1 w 5 (w 5 - 1)) 6 (w 6 + 3) = cutV w from rfl]
      simp only [oB_some, dR_some, cond_true, cond_false, if_true, if_false, Bool.true_and, Bool.and_true, Nat.beq_refl, RN_K, RN_R, RN_E, kr, rrr, kr160, er160, iaK20, ib6, tc6, a6]
  · rw [if_neg c] at cut
    have I3 := ainv_m (h' := sI h8 147 0 0) (ainv_c I0 O8') (mq_sI h8 _ _ (by simp))
    refine ⟨-1, h8, sI h8 147 0 0, ?_, ?_, O8'.mono (fun a ha => by unfold refL at ha; unfold actL; simp at ha ⊢; omega), mq_sI h8 _ _ (by simp), v, u, w, lg, bk, z, A, x, I3⟩
    · rw [tX11_cut]
      simp only [oB_some, dR_some, cond_true, cond_false, if_true, if_false, Bool.true_and, Bool.and_true, Nat.beq_refl, F1, F3, F4, p14, e8, K0, hm, R1, R2, K3, cut]
    · have w8 : hK h8 147 = 12 := j4'.1
      have z27 : hI (sI h8 147 0 0) 147 27 = nI bc := by rw [hI_slot _ _ _ _ (by decide)]; exact j4'.2.2.2.2.2.1.2
      have nz : ¬ nI bc = 0 := nI_nz j5 (by have := j4'.2.2.2.2.1.2; omega)
      have w5 : w 5 = v 5 := k4.1 5 (by omega)
      have z5 : hI (sI h8 147 0 0) 160 5 = nI 0 := by rw [hI_oth _ _ _ _ _ (by decide), k3']; show nI (w 5) = nI 0; rw [w5, show v 5 = 0 by omega]
      have rr3 : hR h8 147 32 = some 160 := i5'.2.1
      have k160 : hK h8 160 = 20 := i5'.2.2.1
      have e160 : hE h8 160 = 381 := i5'.2.2.2.1
      rw [tX12_cut]
      simp only [oB_some, dR_some, cond_true, cond_false, if_true, if_false, Bool.true_and, Bool.and_true, Nat.beq_refl, hK_sI, hR_sI, hE_sI, w8, z27, nz, rr3, k160, e160, iaK20, ib5, tc5, z5, nI_0]
