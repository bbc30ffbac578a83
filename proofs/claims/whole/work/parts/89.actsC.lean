/-! ===== PURE: the class's acts, by themselves ===== -/
theorem sfa {h : Hp} {s : Nat} {r d b : Nat → Nat} {dc bc : Nat} {lw : Option ((Nat → Int32) × Nat)} (S : STc h s r d b dc bc lw) : hK h 0 = 11 ∧ hR h 0 1 = some 3 ∧ hR h 0 2 = some 10 ∧ hR h 0 4 = some 14 ∧ hR h 0 5 = some 98 ∧ hK h 3 = 10 ∧ hR h 3 0 = some s ∧ hK h s = 0 ∧ hR h s 2 = some (s + 1) ∧ hR h s 3 = some (s + 2) ∧ hR h s 4 = some (s + 3) ∧ hK h (s + 1) = 20 ∧ hE h (s + 1) = 7 ∧ hK h (s + 2) = 20 ∧ hE h (s + 2) = 18 ∧ hK h (s + 3) = 20 ∧ hE h (s + 3) = 15 ∧ hK h 10 = 4 ∧ hR h 10 8 = some 11 ∧ hK h 11 = 20 ∧ hE h 11 = 5 ∧ hK h 14 = 5 ∧ hK h 98 = 3 ∧ hI h s 0 = 1 ∧ hI h s 5 = nI dc ∧ hI h s 6 = nI bc := by
  obtain ⟨⟨⟨c1, c2, c3, c4, c5, c6, c7⟩, ⟨⟨p1, p2, p3, p4⟩, p5, p6⟩, D, L, U, RL⟩, ⟨j1, j2, W, M, j5, j6, j7⟩⟩ := S
  obtain ⟨⟨w1, w2⟩, ⟨x1, x2, x3, x4, ⟨x5, x5'⟩, ⟨x6, x6'⟩, ⟨x7, x7'⟩, x8⟩, w3, ⟨w4, w4'⟩, w5, w6, w7, w8⟩ := W
  exact ⟨c1, c2, c3, c4, c5, w1, w2, x1, x2, x3, x4, x5, x5', x6, x6', x7, x7', L.1, L.2.1, L.2.2.1, L.2.2.2.1, p1, D.1, j2, w4, w4'⟩
theorem smf {h : Hp} {s : Nat} {r d b : Nat → Nat} {dc bc : Nat} {lw : Option ((Nat → Int32) × Nat)} (S : STc h s r d b dc bc lw) : hK h 147 = 12 ∧ hR h 147 18 = some 152 ∧ hK h 152 = 20 ∧ hE h 152 = 7 ∧ hR h 147 20 = some 154 ∧ hK h 154 = 20 ∧ hE h 154 = 18 ∧ hR h 147 22 = some 156 ∧ hK h 156 = 20 ∧ hE h 156 = 15 ∧ hR h 147 32 = some 160 ∧ hK h 160 = 20 ∧ hE h 160 = 381 ∧ hI h 147 26 = nI dc ∧ hI h 147 27 = nI bc := by
  obtain ⟨⟨_, _, D, L, U, RL⟩, ⟨j1, j2, W, M, j5, j6, j7⟩⟩ := S
  obtain ⟨m1, ⟨m2, m2', m2''⟩, ⟨m3, m3', m3''⟩, ⟨m4, m4', m4''⟩, m5, ⟨m6, m6'⟩, m7, m8, m9, m10⟩ := M
  exact ⟨m1, m2, m2', m2'', m3, m3', m3'', m4, m4', m4'', U.2.1, U.2.2.1, U.2.2.2.1, m6, m6'⟩
theorem hom_s {h : Hp} {s : Nat} {r d b : Nat → Nat} {dc bc : Nat} {lw : Option ((Nat → Int32) × Nat)} (S : STc h s r d b dc bc lw) : FX11_homeless [vR (some 0)] h = some (rI 0, h) := home_c S.1.1 S.2.2.2.1 S.2.2.1
theorem cst_now {h : Hp} {v u lg bk : Nat → Nat} {V U : Nat → Nat → Nat} {A x : Nat} {h' : Hp} {v' u' lg' bk' : Nat → Nat} (C : CST h v u lg bk V U A x) (O : Only h h' [8, 9, 10, 11, 99, 100]) (N : NowC h' v' u' lg' bk') : CST h' v' u' lg' bk' V U A x := by
  obtain ⟨_, l3, l4, l5, l6, P1⟩ := C
  refine ⟨N, by rw [O.I (by simp)]; exact l3, by rw [O.I (by simp)]; exact l4, l5, l6, fun j hj => ?_⟩
  have lt : (x + 40 - j) % 41 < 41 := Nat.mod_lt _ (by omega)
  exact cla_fr (P1 j hj) (O.I (by simp; omega)) (O.I (by simp; omega))
theorem st_now {h h' : Hp} {s : Nat} {r d b : Nat → Nat} {dc bc : Nat} {lw : Option ((Nat → Int32) × Nat)} (S : STc h s r d b dc bc lw) (O : Only h h' [8, 9, 10, 11, 99, 100]) : STc h' s r d b dc bc lw := st_sg S (sg_only O (fun a ha => by simp at ha; omega))
theorem actL_of {x : Nat} {h h8 h9 h10 : Hp} (O8 : Only h h8 [16 + 2 * x, 16 + 2 * x + 1]) (O9 : Only h8 h9 [8, 9, 10, 11, 99, 100]) (O10 : Only h9 h10 [14]) : Only h h10 (actL x) :=
  (O8.mono (fun a ha => by unfold actL; simp at ha ⊢; omega)).trans ((O9.mono (fun a ha => by unfold actL; simp at ha ⊢; omega)).trans (O10.mono (fun a ha => by unfold actL; simp at ha ⊢; omega)))
theorem refL_of {x : Nat} {h h8 h9 : Hp} (O8 : Only h h8 [16 + 2 * x, 16 + 2 * x + 1]) (O9 : Only h8 h9 [8, 9]) : Only h h9 (refL x) :=
  (O8.mono (fun a ha => by unfold refL; simp at ha ⊢; omega)).trans (O9.mono (fun a ha => by unfold refL; simp at ha ⊢; omega))
theorem day_9 {lw : Option ((Nat → Int32) × Nat)} {r v : Nat → Nat} {dd : Nat} : dayV lw r v dd 9 = v 9 + 1 := by
  unfold dayV
  rw [wkE_9]
  by_cases c : dd = 1
  · rw [if_pos c, bolt_o (by decide) (by decide) (by decide) (by decide) (by decide)]
  · rw [if_neg c, deed_o (by decide) (by decide)]
theorem week_cl {h : Hp} {s : Nat} {r d b : Nat → Nat} {dc bc : Nat} {lw : Option ((Nat → Int32) × Nat)} {v u lg bk : Nat → Nat} {V U : Nat → Nat → Nat} {A x : Nat} (S : STc h s r d b dc bc lw) (C : CST h v u lg bk V U A x) (B : BV v u) (y : Int32) :
    (∃ dd h', y = nI dd ∧ dd ≤ 3 ∧ v 9 < 999 ∧ canW v dd (TK lw r (v 0) (v 2) (v 10) (v 9) (v 4)) ∧ FX11_week [vR (some 0), vI y] h = some (rI (nI (v 9 + 1)), h') ∧ Only h h' (actL x) ∧ STc h' s r d b dc bc lw ∧ CST h' (up1 (dayV lw r v dd) 11 (v 11 + 1)) u (p3N lg (3 * (v 11 % 100)) dd (dayV lw r v dd 4) (dayV lw r v dd 0)) (if dd = 1 then p3N bk (3 * v 10) (v 9) (v 0) (TK lw r (v 0) (v 2) (v 10) (v 9) (v 4)) else bk) (sh1 v V) (sh1 u U) (remA A) ((x + 1) % 41)) ∨
    ((∀ dd, y = nI dd → dd ≤ 3 → ¬ (v 9 < 999 ∧ canW v dd (TK lw r (v 0) (v 2) (v 10) (v 9) (v 4)))) ∧ ∃ h', FX11_week [vR (some 0), vI y] h = some (rI (-1), h') ∧ Only h h' (refL x) ∧ STc h' s r d b dc bc lw ∧ CST h' v u lg bk V U A x) := by
  obtain ⟨K0, R01, R02, R04, R05, K3, R30, Ks, Rs2, Rs3, Rs4, Ks1, Es1, Ks2, Es2, Ks3, Es3, K10, R108, K11, E11, K14, K98, td, dcC, bcC⟩ := sfa S
  have hm := hom_s S
  have hv := bv_bound B
  have B0 := B
  obtain ⟨b0, b1, b2, b3, b4, b5, b7, b9, b10, b11, b12, bu⟩ := B
  have q9 : hI h 10 9 = nI (v 9) := by rw [C.1.1]; rfl
  rcases ix_cases y (n := 4) (by omega) with c | ⟨c1, c2, c3⟩ | ⟨dd, hd, c, c1, c2⟩
  · refine Or.inr ⟨fun dd e hd => absurd c (by rw [e]; exact nI_pos (by omega)), h, ?_, Only.refl _ _, S, C⟩
    rw [tX11_week]; simp only [oB_some, dR_some, cond_true, cond_false, if_true, if_false, Bool.true_and, Bool.and_true, Nat.beq_refl, K0, hm, within11, c]
  · have c2' : (3 : Int32) < y := c2
    refine Or.inr ⟨fun dd e hd => by have := c3 dd e (by omega); omega, h, ?_, Only.refl _ _, S, C⟩
    rw [tX11_week]; simp only [oB_some, dR_some, cond_true, cond_false, if_true, if_false, Bool.true_and, Bool.and_true, Nat.beq_refl, K0, hm, within11, c1, c2']
  · have c2' : ¬ (3 : Int32) < y := c2
    subst c
    have q999 : (nI (v 9) < (999 : Int32)) = (v 9 < 999) := nI_nlt' (b := 999) (by omega) (by omega)
    have uq : ∀ d', nI dd = nI d' → d' ≤ 3 → d' = dd := fun d' e hd' => by rw [nI_eq (by omega) (by omega)] at e; exact e.symm
    by_cases c9 : v 9 < 999
    · obtain ⟨h8, e8, O8, S8, C8, K8⟩ := mark_s S C b1 b3
      have day := day_c (dd := dd) S8.1.1 S8.2.2.2.1 S8.2.2.2.2.1 S8.2.1 S8.1.2.2.2.1 S8.1.2.2.1 S8.2.2.2.2.2.2.2 C8.1 (by omega) hv b10 (by omega)
      have K8' := (sfa S8).1
      by_cases Cn : canW v dd (TK lw r (v 0) (v 2) (v 10) (v 9) (v 4))
      · obtain ⟨h9, e9, O9, N9⟩ := day.1 Cn
        have S9 := st_now S8 O9
        obtain ⟨K0p, R01p, R02p, R04p, R05p, K3p, R30p, Ksp, Rs2p, Rs3p, Rs4p, Ks1p, Es1p, Ks2p, Es2p, Ks3p, Es3p, K10p, R108p, K11p, E11p, K14p, K98p, tdp, dcCp, bcCp⟩ := sfa S9
        obtain ⟨cm, O10, S10, C10⟩ := com_s S9 (cst_now C8 O9 N9) (cla_fr K8 (O9.I (by simp; have := C.2.2.2.1; omega)) (O9.I (by simp; have := C.2.2.2.1; omega)))
        have K0q := (sfa S10).1
        have R02q := (sfa S10).2.2.1
        have K10q := S10.1.2.2.2.1.1
        have v9' : hI (cmH h9 A x) 10 9 = nI (v 9 + 1) := by
          rw [C10.1.1]
          show nI (up1 (dayV lw r v dd) 11 (v 11 + 1) 9) = _
          rw [up1_o _ _ (by decide), day_9]
        refine Or.inl ⟨dd, cmH h9 A x, rfl, by omega, c9, Cn, ?_, actL_of O8 O9 O10, S10, C10⟩
        rw [tX11_week]; simp only [oB_some, dR_some, cond_true, cond_false, if_true, if_false, Bool.true_and, Bool.and_true, Nat.beq_refl, K0, hm, within11, c1, c2', ne10, R02, R04, K10, q9, q999, c9, K14, e8, K8', e9, K0p, R04p, K14p, cm, K0q, R02q, K10q, v9']
      · obtain ⟨h9, e9, O9⟩ := day.2 Cn
        refine Or.inr ⟨fun d' e hd' q => ?_, h9, ?_, refL_of O8 O9, st_now S8 (O9.mono (by simp)), cst_only C8 O9 (fun a ha => by unfold frC; simp at ha; omega)⟩
        · rw [uq d' e hd'] at q; exact Cn q.2
        · rw [tX11_week]; simp only [oB_some, dR_some, cond_true, cond_false, if_true, if_false, Bool.true_and, Bool.and_true, Nat.beq_refl, K0, hm, within11, c1, c2', ne10, R02, R04, K10, q9, q999, c9, K14, e8, K8', e9]
    · refine Or.inr ⟨fun d' e hd' q => c9 q.1, h, ?_, Only.refl _ _, S, C⟩
      rw [tX11_week]; simp only [oB_some, dR_some, cond_true, cond_false, if_true, if_false, Bool.true_and, Bool.and_true, Nat.beq_refl, K0, hm, within11, c1, c2', ne10, R02, K10, q9, q999, c9]
theorem only_n {h : Hp} (v u : Nat → Nat) : Only h (LN h 10 v u) [8, 9, 10, 11, 99, 100] := only_LN _ _ _ (by simp) (by simp)
theorem now_n {h : Hp} {v u lg bk : Nat → Nat} (N : NowC h v u lg bk) (v' u' : Nat → Nat) : NowC (LN h 10 v' u') v' u' lg bk := ⟨LN_ra _ _ _ _, LN_rs _ 10 _ _, by rw [LN_o _ _ _ (by decide) (by decide)]; exact N.2.2.1, by rw [LN_o _ _ _ (by decide) (by decide)]; exact N.2.2.2⟩
theorem cut_cl {h : Hp} {s : Nat} {r d b : Nat → Nat} {dc bc : Nat} {lw : Option ((Nat → Int32) × Nat)} {v u lg bk : Nat → Nat} {V U : Nat → Nat → Nat} {A x : Nat} (S : STc h s r d b dc bc lw) (C : CST h v u lg bk V U A x) (B : BV v u) :
    (0 < v 5 ∧ ∃ h', FX11_cut [vR (some 0)] h = some (rI (nI (cutV v 6)), h') ∧ Only h h' (actL x) ∧ STc h' s r d b dc bc lw ∧ CST h' (cutV v) u lg bk (sh1 v V) (sh1 u U) (remA A) ((x + 1) % 41)) ∨
    (¬ 0 < v 5 ∧ ∃ h', FX11_cut [vR (some 0)] h = some (rI (-1), h') ∧ Only h h' (refL x) ∧ STc h' s r d b dc bc lw ∧ CST h' v u lg bk V U A x) := by
  obtain ⟨K0, R01, R02, R04, R05, K3, R30, Ks, Rs2, Rs3, Rs4, Ks1, Es1, Ks2, Es2, Ks3, Es3, K10, R108, K11, E11, K14, K98, td, dcC, bcC⟩ := sfa S
  obtain ⟨b0, b1, b2, b3, b4, b5, b7, b9, b10, b11, b12, bu⟩ := B
  obtain ⟨h8, e8, O8, S8, C8, K8⟩ := mark_s S C b1 b3
  obtain ⟨K0p, R01p, R02p, R04p, R05p, K3p, R30p, Ksp, Rs2p, Rs3p, Rs4p, Ks1p, Es1p, Ks2p, Es2p, Ks3p, Es3p, K10p, R108p, K11p, E11p, K14p, K98p, tdp, dcCp, bcCp⟩ := sfa S8
  have hm := hom_s S8
  have self : LN h8 10 v u = h8 := LN_self C8.1.1 C8.1.2.1
  have cut := cut_c (v := v) (u := u) S8.1.2.2.2.1 (by omega)
  rw [self] at cut
  by_cases c : 0 < v 5
  · rw [if_pos c] at cut
    have cut' : FX10_cutBolt [vR (some 3), vR (some 10)] h8 = some (rI 1, LN h8 10 (cutV v) u) := cut
    have O9 := only_n (h := h8) (cutV v) u
    have S9 := st_now S8 O9
    obtain ⟨cm, O10, S10, C10⟩ := com_s S9 (cst_now C8 O9 (now_n C8.1 (cutV v) u)) (cla_fr K8 (O9.I (by simp; have := C.2.2.2.1; omega)) (O9.I (by simp; have := C.2.2.2.1; omega)))
    obtain ⟨K0q, R01q, R02q, R04q, R05q, K3q, R30q, Ksq, Rs2q, Rs3q, Rs4q, Ks1q, Es1q, Ks2q, Es2q, Ks3q, Es3q, K10q, R108q, K11q, E11q, K14q, K98q, tdq, dcCq, bcCq⟩ := sfa S9
    obtain ⟨K0t, R01t, R02t, R04t, R05t, K3t, R30t, Kst, Rs2t, Rs3t, Rs4t, Ks1t, Es1t, Ks2t, Es2t, Ks3t, Es3t, K10t, R108t, K11t, E11t, K14t, K98t, tdt, dcCt, bcCt⟩ := sfa S10
    have v6 : hI (cmH (LN h8 10 (cutV v) u) A x) 10 6 = nI (cutV v 6) := by rw [C10.1.1]; rfl
    refine Or.inl ⟨c, _, ?_, actL_of O8 O9 O10, S10, C10⟩
    rw [tX11_cut]; simp only [oB_some, dR_some, cond_true, cond_false, if_true, if_false, Bool.true_and, Bool.and_true, Nat.beq_refl, K0, R02, R04, K14, e8, K0p, hm, R01p, R02p, K3p, cut', ne10, K0q, R04q, K14q, cm, K0t, R02t, K10t, v6]
  · rw [if_neg c] at cut
    refine Or.inr ⟨c, h8, ?_, refL_of O8 (Only.refl _ _), S8, C8⟩
    rw [tX11_cut]; simp only [oB_some, dR_some, cond_true, cond_false, if_true, if_false, Bool.true_and, Bool.and_true, Nat.beq_refl, K0, R02, R04, K14, e8, K0p, hm, R01p, R02p, K3p, cut, self]
theorem pay_cl {h : Hp} {s : Nat} {r d b : Nat → Nat} {dc bc : Nat} {lw : Option ((Nat → Int32) × Nat)} {v u lg bk : Nat → Nat} {V U : Nat → Nat → Nat} {A x : Nat} (S : STc h s r d b dc bc lw) (C : CST h v u lg bk V U A x) (B : BV v u) (y : Int32) :
    (∃ i h', y = nI i ∧ payOK d v dc i ∧ FX11_pay [vR (some 0), vI y] h = some (rI (nI (payV d v i 4)), h') ∧ Only h h' (actL x) ∧ STc h' s r d b dc bc lw ∧ CST h' (payV d v i) u lg bk (sh1 v V) (sh1 u U) (remA A) ((x + 1) % 41)) ∨
    ((∀ i, y = nI i → i < 2 ^ 31 → ¬ payOK d v dc i) ∧ ∃ h', FX11_pay [vR (some 0), vI y] h = some (rI (-1), h') ∧ Only h h' (refL x) ∧ STc h' s r d b dc bc lw ∧ CST h' v u lg bk V U A x) := by
  obtain ⟨K0, R01, R02, R04, R05, K3, R30, Ks, Rs2, Rs3, Rs4, Ks1, Es1, Ks2, Es2, Ks3, Es3, K10, R108, K11, E11, K14, K98, td, dcC, bcC⟩ := sfa S
  obtain ⟨b0, b1, b2, b3, b4, b5, b7, b9, b10, b11, b12, bu⟩ := B
  obtain ⟨h8, e8, O8, S8, C8, K8⟩ := mark_s S C b1 b3
  obtain ⟨K0p, R01p, R02p, R04p, R05p, K3p, R30p, Ksp, Rs2p, Rs3p, Rs4p, Ks1p, Es1p, Ks2p, Es2p, Ks3p, Es3p, K10p, R108p, K11p, E11p, K14p, K98p, tdp, dcCp, bcCp⟩ := sfa S8
  have hm := hom_s S8
  have self : LN h8 10 v u = h8 := LN_self C8.1.1 C8.1.2.1
  have op := pay_c (v := v) (u := u) S8.2.2.2.1 S8.1.2.2.2.1 b7 (by omega) (by omega) y
  rw [self] at op
  rcases op with ⟨i, ye, PO, cut⟩ | ⟨NO, cut⟩
  · have O9 := only_n (h := h8) (payV d v i) u
    have S9 := st_now S8 O9
    obtain ⟨cm, O10, S10, C10⟩ := com_s S9 (cst_now C8 O9 (now_n C8.1 (payV d v i) u)) (cla_fr K8 (O9.I (by simp; have := C.2.2.2.1; omega)) (O9.I (by simp; have := C.2.2.2.1; omega)))
    obtain ⟨K0q, R01q, R02q, R04q, R05q, K3q, R30q, Ksq, Rs2q, Rs3q, Rs4q, Ks1q, Es1q, Ks2q, Es2q, Ks3q, Es3q, K10q, R108q, K11q, E11q, K14q, K98q, tdq, dcCq, bcCq⟩ := sfa S9
    obtain ⟨K0t, R01t, R02t, R04t, R05t, K3t, R30t, Kst, Rs2t, Rs3t, Rs4t, Ks1t, Es1t, Ks2t, Es2t, Ks3t, Es3t, K10t, R108t, K11t, E11t, K14t, K98t, tdt, dcCt, bcCt⟩ := sfa S10
    have v4 : hI (cmH (LN h8 10 (payV d v i) u) A x) 10 4 = nI (payV d v i 4) := by rw [C10.1.1]; rfl
    refine Or.inl ⟨i, _, ye, PO, ?_, actL_of O8 O9 O10, S10, C10⟩
    rw [tX11_pay]; simp only [oB_some, dR_some, cond_true, cond_false, if_true, if_false, Bool.true_and, Bool.and_true, Nat.beq_refl, K0, R02, R04, K14, e8, K0p, hm, R01p, R02p, K3p, cut, ne10, K0q, R04q, K14q, cm, K0t, R02t, K10t, v4]
  · refine Or.inr ⟨NO, h8, ?_, refL_of O8 (Only.refl _ _), S8, C8⟩
    rw [tX11_pay]; simp only [oB_some, dR_some, cond_true, cond_false, if_true, if_false, Bool.true_and, Bool.and_true, Nat.beq_refl, K0, R02, R04, K14, e8, K0p, hm, R01p, R02p, K3p, cut]
theorem sell_cl {h : Hp} {s : Nat} {r d b : Nat → Nat} {dc bc : Nat} {lw : Option ((Nat → Int32) × Nat)} {v u lg bk : Nat → Nat} {V U : Nat → Nat → Nat} {A x : Nat} (S : STc h s r d b dc bc lw) (C : CST h v u lg bk V U A x) (B : BV v u) (y y2 : Int32) :
    (∃ i k h', y = nI i ∧ y2 = nI k ∧ sellOK b v u bc i k ∧ FX11_sell [vR (some 0), vI y, vI y2] h = some (rI (nI (sellV b v i k 4)), h') ∧ Only h h' (actL x) ∧ STc h' s r d b dc bc lw ∧ CST h' (sellV b v i k) (up1 u i (u i + 1)) lg bk (sh1 v V) (sh1 u U) (remA A) ((x + 1) % 41)) ∨
    ((∀ i k, y = nI i → y2 = nI k → i < 2 ^ 31 → k < 2 ^ 31 → ¬ sellOK b v u bc i k) ∧ ∃ h', FX11_sell [vR (some 0), vI y, vI y2] h = some (rI (-1), h') ∧ Only h h' (refL x) ∧ STc h' s r d b dc bc lw ∧ CST h' v u lg bk V U A x) := by
  obtain ⟨K0, R01, R02, R04, R05, K3, R30, Ks, Rs2, Rs3, Rs4, Ks1, Es1, Ks2, Es2, Ks3, Es3, K10, R108, K11, E11, K14, K98, td, dcC, bcC⟩ := sfa S
  obtain ⟨b0, b1, b2, b3, b4, b5, b7, b9, b10, b11, b12, bu⟩ := B
  obtain ⟨h8, e8, O8, S8, C8, K8⟩ := mark_s S C b1 b3
  obtain ⟨K0p, R01p, R02p, R04p, R05p, K3p, R30p, Ksp, Rs2p, Rs3p, Rs4p, Ks1p, Es1p, Ks2p, Es2p, Ks3p, Es3p, K10p, R108p, K11p, E11p, K14p, K98p, tdp, dcCp, bcCp⟩ := sfa S8
  have hm := hom_s S8
  have self : LN h8 10 v u = h8 := LN_self C8.1.1 C8.1.2.1
  have op := sell_c (v := v) (u := u) S8.2.2.2.1 S8.1.2.2.2.1 (by omega) (by omega) (by omega) (fun k hk => by have := bu k hk; omega) y y2
  rw [self] at op
  rcases op with ⟨i, k, ye, ye2, PO, cut⟩ | ⟨NO, cut⟩
  · have O9 := only_n (h := h8) (sellV b v i k) (up1 u i (u i + 1))
    have S9 := st_now S8 O9
    obtain ⟨cm, O10, S10, C10⟩ := com_s S9 (cst_now C8 O9 (now_n C8.1 (sellV b v i k) (up1 u i (u i + 1)))) (cla_fr K8 (O9.I (by simp; have := C.2.2.2.1; omega)) (O9.I (by simp; have := C.2.2.2.1; omega)))
    obtain ⟨K0q, R01q, R02q, R04q, R05q, K3q, R30q, Ksq, Rs2q, Rs3q, Rs4q, Ks1q, Es1q, Ks2q, Es2q, Ks3q, Es3q, K10q, R108q, K11q, E11q, K14q, K98q, tdq, dcCq, bcCq⟩ := sfa S9
    obtain ⟨K0t, R01t, R02t, R04t, R05t, K3t, R30t, Kst, Rs2t, Rs3t, Rs4t, Ks1t, Es1t, Ks2t, Es2t, Ks3t, Es3t, K10t, R108t, K11t, E11t, K14t, K98t, tdt, dcCt, bcCt⟩ := sfa S10
    have v4 : hI (cmH (LN h8 10 (sellV b v i k) (up1 u i (u i + 1))) A x) 10 4 = nI (sellV b v i k 4) := by rw [C10.1.1]; rfl
    refine Or.inl ⟨i, k, _, ye, ye2, PO, ?_, actL_of O8 O9 O10, S10, C10⟩
    rw [tX11_sell]; simp only [oB_some, dR_some, cond_true, cond_false, if_true, if_false, Bool.true_and, Bool.and_true, Nat.beq_refl, K0, R02, R04, K14, e8, K0p, hm, R01p, R02p, K3p, cut, ne10, K0q, R04q, K14q, cm, K0t, R02t, K10t, v4]
  · refine Or.inr ⟨NO, h8, ?_, refL_of O8 (Only.refl _ _), S8, C8⟩
    rw [tX11_sell]; simp only [oB_some, dR_some, cond_true, cond_false, if_true, if_false, Bool.true_and, Bool.and_true, Nat.beq_refl, K0, R02, R04, K14, e8, K0p, hm, R01p, R02p, K3p, cut]
