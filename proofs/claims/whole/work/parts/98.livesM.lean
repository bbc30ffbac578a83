/-! ===== PURE: lives in the reference, and by both (made by wip/tools/gen98.py) ===== -/
noncomputable def lvT (a : Nat) (x1 x4 dd : Int32) (h : Hp) : Option (RV × Hp) := if hK h a = 12 then dR (hR h a 32) (fun a8 => bif iaK (hK h a8) && inb 5 (hE h a8) then if (hI h a8 (Int32.toNatClampNeg 5)) = 0 then Run kX12_lives 39 [some (vR (some a)), some (vI (x1)), none, none, some (vI ((x4 + 1))), some (vI (dd)), none] [] h else if hK h a = 12 then bif Nat.beq (hK h a) 12 && true then oB (FX12_draw [vR (some a), vI ((hI h a 27))] h) (fun r9 h10 => if hK h10 a = 12 then bif Nat.beq (hK h10 a) 12 && true then oB (FX12_canSell [vR (some a), vR (hR h10 a 32), vI (r9.1), vI (0)] h10) (fun r11 h12 => if r11.1 = 0 then Run kX12_lives 39 [some (vR (some a)), some (vI (x1)), none, none, some (vI ((x4 + 1))), some (vI (dd)), some (vI (r9.1))] [] h12 else if hK h12 a = 12 then bif Nat.beq (hK h12 a) 12 && true then oB (FX12_sells [vR (some a), vR (hR h12 a 32), vI (r9.1), vI (0)] h12) (fun r13 h14 => Run kX12_lives 39 [some (vR (some a)), some (vI (x1)), none, none, some (vI ((x4 + 1))), some (vI (dd)), some (vI (r9.1))] [] h14) else none else none) else none else none) else none else none else none) else none
theorem lv39 (a : Nat) (x1 : Int32) (o2 : Option EV) (o3 : Option EV) (x4 : Int32) (o5 : Option EV) (o6 : Option EV) (h : Hp) : Run kX12_lives 39 [some (vR (some a)), some (vI (x1)), o2, o3, some (vI (x4)), o5, o6] [] h = if x1 ≤ x4 then if hK h a = 12 then dR (hR h a 32) (fun a1 => bif iaK (hK h a1) && inb 7 (hE h a1) then some (rI (hI h a1 (Int32.toNatClampNeg 7)), h) else none) else none else bif Nat.beq (hK h a) 12 && true then oB (FX12_remember [vR (some a)] h) (fun r2 h3 => bif Nat.beq (hK h3 a) 12 && true then oB (FX12_draw [vR (some a), vI (10)] h3) (fun r4 h5 => if hK h5 a = 12 then if r4.1 < (hI h5 a 35) then if hK h5 a = 12 then bif Nat.beq (hK h5 a) 12 && true then oB (FX12_goWeek [vR (some a), vR (hR h5 a 32), vI (0)] h5) (fun r6 h7 => lvT a x1 x4 0 h7) else none else none else bif Nat.beq (hK h5 a) 12 && true then oB (FX12_draw [vR (some a), vI (2)] h5) (fun r15 h16 => if r15.1 = 0 then if hK h16 a = 12 then bif Nat.beq (hK h16 a) 12 && true then oB (FX12_canWeave [vR (some a), vR (hR h16 a 32)] h16) (fun r17 h18 => if r17.1 = 0 then if hK h18 a = 12 then bif Nat.beq (hK h18 a) 12 && true then oB (FX12_goWeek [vR (some a), vR (hR h18 a 32), vI (2)] h18) (fun r19 h20 => lvT a x1 x4 2 h20) else none else none else if hK h18 a = 12 then bif Nat.beq (hK h18 a) 12 && true then oB (FX12_goWeek [vR (some a), vR (hR h18 a 32), vI (1)] h18) (fun r28 h29 => lvT a x1 x4 1 h29) else none else none) else none else none else if hK h16 a = 12 then bif Nat.beq (hK h16 a) 12 && true then oB (FX12_goWeek [vR (some a), vR (hR h16 a 32), vI (2)] h16) (fun r37 h38 => lvT a x1 x4 2 h38) else none else none) else none else none) else none) else none := tX12_lives_39 a x1 o2 o3 x4 o5 o6 h
theorem lvT_0 {h : Hp} {s : Nat} {r d b : Nat → Nat} {dc bc : Nat} {lw : Option ((Nat → Int32) × Nat)} {w : Nat → Nat} {n i : Nat} {dd : Int32} (S : STc h s r d b dc bc lw) (e : hI h 160 = nR w) (h5 : w 5 = 0) : lvT 147 (nI n) (nI i) dd h = Run kX12_lives 39 [some (vR (some 147)), some (vI (nI n)), none, none, some (vI (nI (i + 1))), some (vI dd), none] [] h := by
  obtain ⟨M147, R18, K152, E152, R20, K154, E154, R22, K156, E156, R32, K160, E160, dcM, bcM⟩ := smf S
  have w5 : hI h 160 5 = nI 0 := by rw [e]; show nI (w 5) = _; rw [h5]
  unfold lvT
  simp only [oB_some, dR_some, cond_true, cond_false, if_true, if_false, Bool.true_and, Bool.and_true, Nat.beq_refl, M147, R32, K160, E160, iaK20, ib5, tc5, w5, nI_0, nI_1]
theorem lvT_1 {h : Hp} {s : Nat} {r d b : Nat → Nat} {dc bc : Nat} {lw : Option ((Nat → Int32) × Nat)} {w : Nat → Nat} {n i : Nat} {dd y3 : Int32} {t t3 : Int64} {v u v' u' w' : Nat → Nat} (S : STc h s r d b dc bc lw) (e : hI h 160 = nR w) (M : MR v u w) (B : BV v u) (h5 : ¬ w 5 = 0) (et : hL h 147 38 = t) (e3 : nxD t = t3) (f3 : dvD t3 (nI bc) = y3) (R : sldR b bc v u w y3 v' u' w') : ∃ h' o6, lvT 147 (nI n) (nI i) dd h = Run kX12_lives 39 [some (vR (some 147)), some (vI (nI n)), none, none, some (vI (nI (i + 1))), some (vI dd), o6] [] h' ∧ MqL h h' [160, 162] [37] ∧ STc h' s r d b dc bc lw ∧ hI h' 160 = nR w' ∧ hI h' 162 = hI h 162 ∧ hI h' 147 37 = hI h 147 37 ∧ hI h' 147 35 = hI h 147 35 ∧ hL h' 147 38 = t3 := by
  obtain ⟨M147, R18, K152, E152, R20, K154, E154, R22, K156, E156, R32, K160, E160, dcM, bcM⟩ := smf S
  have b5 : bc ≤ 5 := S.2.2.2.2.1.2.2.2.2.1.2
  have b0 := S.2.2.2.2.2.1
  have bw := mr_bound B M
  have w5 : hI h 160 5 = nI (w 5) := by rw [e]; rfl
  have n5 : ¬ nI (w 5) = 0 := nI_nz (by omega) (by have := bw 5 (by omega); omega)
  have d3 := draw_m' (m := bc) M147 b0 (by omega) et e3 f3
  have Sd := st_sg S (sg_sL h 147 38 t3)
  have ed : hI (sL h 147 38 t3) 160 = nR w := e
  have ld : hL (sL h 147 38 t3) 147 38 = t3 := hL_at _ _ _ _
  have qd : MqL h (sL h 147 38 t3) [160, 162] [37] := mqL_sL _ _ _ _
  have x1 : hI (sL h 147 38 t3) 162 = hI h 162 := rfl
  have x2 : hI (sL h 147 38 t3) 147 37 = hI h 147 37 := rfl
  have x3 : hI (sL h 147 38 t3) 147 35 = hI h 147 35 := rfl
  generalize sL h 147 38 t3 = g at *
  have self : RN g 160 w = g := RN_self ed
  obtain ⟨M147p, R18p, K152p, E152p, R20p, K154p, E154p, R22p, K156p, E156p, R32p, K160p, E160p, dcMp, bcMp⟩ := smf Sd
  have can := canSell_m (w := w) Sd.2.2.2.2.1 Sd.1.2.2.2.2.2 (by rw [M.1 4 (by omega)]; have := B.2.2.2.2.1; omega) (by have := bw 5 (by omega); omega) (by have := bw 6 (by omega); omega) (fun i hi => by have := bw (14 + i) (by omega); omega) y3 0
  rw [self] at can
  rcases can with ⟨i3, k3, ei, ek, PM, can⟩ | ⟨NM, can⟩
  · have k0 : k3 = 0 := by
      have p2 := PM.2.1
      rcases (show k3 = 0 ∨ k3 = 1 by omega) with q | q
      · exact q
      · rw [q] at ek; exact absurd ek ne01
    subst k0
    have PV := (mr_sellOK M b5).mp PM
    rcases R with ⟨i, ei', PO, r1, r2, r3⟩ | ⟨N, _⟩
    · have ii : i3 = i := by rw [ei, nI_eq (by have := PM.1; omega) (by have := PO.1; omega)] at ei'; exact ei'
      subst ii
      have doit := sells_m (w := w) (i := i3) (k := 0) Sd.2.2.2.2.1 Sd.1.2.2.2.2.2 PM
      rw [self, ← ei, nI_0] at doit
      have q4 : Mq g (RN g 160 (sellVm b w i3 0)) [160] [] := mq_wA _ _ _ (by simp) (by decide)
      refine ⟨RN g 160 (sellVm b w i3 0), some (vI y3), ?_, qd.trans (q4.mono (by simp) (by simp)).toL, st_sg Sd (sg_mq q4 (fun a ha => by simp at ha; omega) (by simp)), by rw [r3]; unfold RN; rw [wA_I], by rw [RN_o _ _ (by decide)]; exact x1, by rw [RN_o _ _ (by decide)]; exact x2, by rw [RN_o _ _ (by decide)]; exact x3, ld⟩
      unfold lvT
      simp only [oB_some, dR_some, cond_true, cond_false, if_true, if_false, Bool.true_and, Bool.and_true, Nat.beq_refl, M147, R32, K160, E160, iaK20, ib5, tc5, w5, n5, bcM, d3, M147p, R32p, can, ne10, doit, nI_1]
    · exact absurd PV (N i3 ei (by have := PM.1; omega))
  · rcases R with ⟨i, ei', PO, r1, r2, r3⟩ | ⟨N, r1, r2, r3⟩
    · exact absurd ((mr_sellOK M b5).mpr PO) (NM i 0 ei' rfl (by have := PO.1; omega) (by decide))
    · refine ⟨g, some (vI y3), ?_, qd, Sd, by rw [r3]; exact ed, x1, x2, x3, ld⟩
      unfold lvT
      simp only [oB_some, dR_some, cond_true, cond_false, if_true, if_false, Bool.true_and, Bool.and_true, Nat.beq_refl, M147, R32, K160, E160, iaK20, ib5, tc5, w5, n5, bcM, d3, M147p, R32p, can, nI_1]
/-- the head of a life's week in the reference -/
theorem liv_m {h : Hp} {s : Nat} {r d b : Nat → Nat} {dc bc : Nat} {lw : Option ((Nat → Int32) × Nat)} {w : Nat → Nat} {n i dd A : Nat} {z v u : Nat → Nat} {z0 y1 y2 : Int32} {t t1 t2 tt : Int64} {p2 p3 p5 p6 : Option EV} (S : STc h s r d b dc bc lw) (M : MST h w z A) (hA : A ≤ 40) (R : MR v u w) (B : BV v u) (h200 : w 200 ≤ 60) (hi : i < n) (hn : n ≤ 60) (ez : hI h 147 35 = z0) (et : hL h 147 38 = t) (e1 : nxD t = t1) (f1 : dvD t1 (nI 10) = y1) (e2 : nxD t1 = t2) (f2 : dvD t2 (nI 2) = y2) (D : deedR z0 y1 y2 t1 t2 (canW v 1 (TK lw r (v 0) (v 2) (v 10) (v 9) (v 4))) dd tt) (Cn : canW v dd (TK lw r (v 0) (v 2) (v 10) (v 9) (v 4))) : ∃ h', Run kX12_lives 39 [some (vR (some 147)), some (vI (nI n)), p2, p3, some (vI (nI i)), p5, p6] [] h = lvT 147 (nI n) (nI i) (nI dd) h' ∧ MqL h h' [160, 162] [37] ∧ STc h' s r d b dc bc lw ∧ MST h' (dayM lw r w dd) (remZ z w A) (remA A) ∧ hI h' 147 35 = z0 ∧ hL h' 147 38 = tt := by
  obtain ⟨M147, R18, K152, E152, R20, K154, E154, R22, K156, E156, R32, K160, E160, dcM, bcM⟩ := smf S
  have ci : ¬ nI n ≤ nI i := nI_ge hi (by omega)
  obtain ⟨hr, er, Mr, qr, Sr⟩ := remember_s S M hA
  have Kr := (smf Sr).1
  have zr : hI hr 147 35 = z0 := by rw [qr.2.2.2.2.2.2.2 35 (by simp) (by simp)]; exact ez
  have lr : hL hr 147 38 = t := by rw [qr.2.2.2.2.1]; exact et
  have d1 : FX12_draw [vR (some 147), vI 10] hr = some (rI y1, sL hr 147 38 t1) := draw_m' (m := 10) Kr (by decide) (by decide) lr e1 f1
  have Sa := st_sg Sr (sg_sL hr 147 38 t1)
  have Ma : MST (sL hr 147 38 t1) w (remZ z w A) (remA A) := Mr
  have za : hI (sL hr 147 38 t1) 147 35 = z0 := zr
  have la : hL (sL hr 147 38 t1) 147 38 = t1 := hL_at _ _ _ _
  have qa : MqL h (sL hr 147 38 t1) [160, 162] [37] := (qr.mono (by simp) (by simp)).toL.trans (mqL_sL _ _ _ _)
  generalize sL hr 147 38 t1 = ga at *
  have hw := mr_bound B R
  have tkE : TK lw r (w 0) (w 2) (w 19) (w 7) (w 4) = TK lw r (v 0) (v 2) (v 10) (v 9) (v 4) := by rw [R.1 0 (by omega), R.1 2 (by omega), R.2.2.2.2, R.2.1, R.1 4 (by omega)]
  have go : ∀ (g : Hp) (dd : Nat), dd ≤ 3 → STc g s r d b dc bc lw → MST g w (remZ z w A) (remA A) → canW v dd (TK lw r (v 0) (v 2) (v 10) (v 9) (v 4)) → ∃ h', FX12_goWeek [vR (some 147), vR (some 160), vI (nI dd)] g = some (rV, h') ∧ Mq g h' [160] [] ∧ STc h' s r d b dc bc lw ∧ MST h' (dayM lw r w dd) (remZ z w A) (remA A) := fun g dd hd Sg Mg C => by
    obtain ⟨h', g1, g2, g3⟩ := day_m (dd := dd) Sg.2.2.2.2.1 Sg.1.2.2.2.2.2 (by omega) Sg.2.2.2.2.2.2.2 Mg.1 hd hw h200 (by rw [tkE]; exact (mr_can R).mpr C)
    exact ⟨h', g1, g3, st_sg Sg (sg_mq g3 (fun a ha => by simp at ha; omega) (by simp)), g2, by rw [g3.2.2.2.2.2.2.1 162 (by omega) (by omega) (by simp)]; exact Mg.2.1, by rw [g3.2.2.2.2.2.2.2 37 (by simp) (by simp)]; exact Mg.2.2⟩
  have Ka := (smf Sa).1
  have Ra := (smf Sa).2.2.2.2.2.2.2.2.2.2.1
  rcases D with ⟨c, ed, et'⟩ | ⟨c, et', D⟩
  · subst ed et'
    have c' : y1 < z0 := Int32.not_le.mp c
    obtain ⟨h', g1, g2, g3, g4⟩ := go ga 0 (by omega) Sa Ma Cn
    rw [nI_0] at g1
    refine ⟨h', ?_, qa.trans (g2.mono (by simp) (by simp)).toL, g3, g4, by rw [g2.2.2.2.2.2.2.2 35 (by simp) (by simp)]; exact za, by rw [g2.2.2.2.2.1]; exact la⟩
    rw [lv39]; simp only [oB_some, dR_some, cond_true, cond_false, if_true, if_false, Bool.true_and, Bool.and_true, Nat.beq_refl, ci, M147, er, Kr, d1, Ka, za, c', Ra, g1]; rfl
  · subst et'
    have c' : ¬ y1 < z0 := fun q => Int32.not_lt.mpr c q
    have d2 : FX12_draw [vR (some 147), vI 2] ga = some (rI y2, sL ga 147 38 tt) := draw_m' (m := 2) Ka (by decide) (by decide) la e2 f2
    have Sb := st_sg Sa (sg_sL ga 147 38 tt)
    have Mb : MST (sL ga 147 38 tt) w (remZ z w A) (remA A) := Ma
    have zb : hI (sL ga 147 38 tt) 147 35 = z0 := za
    have lb : hL (sL ga 147 38 tt) 147 38 = tt := hL_at _ _ _ _
    have qb : MqL h (sL ga 147 38 tt) [160, 162] [37] := qa.trans (mqL_sL _ _ _ _)
    generalize sL ga 147 38 tt = gb at *
    have Kb := (smf Sb).1
    have Rb := (smf Sb).2.2.2.2.2.2.2.2.2.2.1
    rcases D with ⟨c0, cw, ed⟩ | ⟨c0, cw, ed⟩ | ⟨c0, ed⟩
    · subst ed
      obtain ⟨gc, k1, mo⟩ := (canWv_s Sb Sb.1.2.2.2.2.2 (by omega) Mb.1 R (sv_bv B) (by omega)).1 cw
      have Sc := st_sg Sb (sg_mq (mo.mq [] []) (by simp) (by simp))
      have Mc := mst_mq Mb (mo.mq [] []) (by simp) (by simp) (by simp)
      obtain ⟨h', g1, g2, g3, g4⟩ := go gc 1 (by omega) Sc Mc Cn
      have g1' : FX12_goWeek [vR (some 147), vR (some 160), vI 1] gc = some (rV, h') := g1
      have qc := (mo.mq [160, 162] [37])
      refine ⟨h', ?_, (qb.trans qc.toL).trans (g2.mono (by simp) (by simp)).toL, g3, g4, by rw [g2.2.2.2.2.2.2.2 35 (by simp) (by simp), qc.2.2.2.2.2.2.2 35 (by simp) (by simp)]; exact zb, by rw [g2.2.2.2.2.1, qc.2.2.2.2.1]; exact lb⟩
      rw [lv39]; simp only [oB_some, dR_some, cond_true, cond_false, if_true, if_false, Bool.true_and, Bool.and_true, Nat.beq_refl, ci, M147, er, Kr, d1, Ka, za, c', d2, c0, Kb, Rb, k1, ne10, (smf Sc).1, (smf Sc).2.2.2.2.2.2.2.2.2.2.1, g1']; rfl
    · subst ed
      obtain ⟨gc, k1, mo⟩ := (canWv_s Sb Sb.1.2.2.2.2.2 (by omega) Mb.1 R (sv_bv B) (by omega)).2 cw
      have Sc := st_sg Sb (sg_mq (mo.mq [] []) (by simp) (by simp))
      have Mc := mst_mq Mb (mo.mq [] []) (by simp) (by simp) (by simp)
      obtain ⟨h', g1, g2, g3, g4⟩ := go gc 2 (by omega) Sc Mc Cn
      have g1' : FX12_goWeek [vR (some 147), vR (some 160), vI 2] gc = some (rV, h') := g1
      have qc := (mo.mq [160, 162] [37])
      refine ⟨h', ?_, (qb.trans qc.toL).trans (g2.mono (by simp) (by simp)).toL, g3, g4, by rw [g2.2.2.2.2.2.2.2 35 (by simp) (by simp), qc.2.2.2.2.2.2.2 35 (by simp) (by simp)]; exact zb, by rw [g2.2.2.2.2.1, qc.2.2.2.2.1]; exact lb⟩
      rw [lv39]; simp only [oB_some, dR_some, cond_true, cond_false, if_true, if_false, Bool.true_and, Bool.and_true, Nat.beq_refl, ci, M147, er, Kr, d1, Ka, za, c', d2, c0, Kb, Rb, k1, (smf Sc).1, (smf Sc).2.2.2.2.2.2.2.2.2.2.1, g1']; rfl
    · subst ed
      obtain ⟨h', g1, g2, g3, g4⟩ := go gb 2 (by omega) Sb Mb Cn
      have g1' : FX12_goWeek [vR (some 147), vR (some 160), vI 2] gb = some (rV, h') := g1
      refine ⟨h', ?_, qb.trans (g2.mono (by simp) (by simp)).toL, g3, g4, by rw [g2.2.2.2.2.2.2.2 35 (by simp) (by simp)]; exact zb, by rw [g2.2.2.2.2.1]; exact lb⟩
      rw [lv39]; simp only [oB_some, dR_some, cond_true, cond_false, if_true, if_false, Bool.true_and, Bool.and_true, Nat.beq_refl, ci, M147, er, Kr, d1, Ka, za, c', d2, c0, Kb, Rb, g1']; rfl
