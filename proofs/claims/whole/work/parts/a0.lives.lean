/-! ===== PURE: lives, by both ===== -/
theorem day_5 {lw : Option ((Nat → Int32) × Nat)} {r v u w : Nat → Nat} {dd : Nat} (M : MR (up1 (dayV lw r v dd) 11 (v 11 + 1)) u (dayM lw r w dd)) : dayM lw r w dd 5 = up1 (dayV lw r v dd) 11 (v 11 + 1) 5 := M.1 5 (by omega)
theorem lives_loop {s : Nat} {r d b : Nat → Nat} {dc bc n : Nat} {lw : Option ((Nat → Int32) × Nat)} {z0 : Int32} (hn : n ≤ 60) : ∀ k i (h : Hp) (t : Int64) (o2 o3 : Option EV) (v u w lg bk z : Nat → Nat) (V U : Nat → Nat → Nat) (A x : Nat), i + k = n → v 9 + k ≤ 999 → STc h s r d b dc bc lw → CST h v u lg bk V U A x → PST v u w lg bk V U z A → hI h 0 18 = z0 → hL h 0 19 = t → ∃ res h1 v' u' w' lg' bk' V' U' z' A' x', Run kX11_lives 42 [some (vR (some 0)), some (vI (nI n)), o2, o3, some (vI (nI i))] [] h = some (rI res, h1) ∧ OnlyL h h1 allL ∧ STc h1 s r d b dc bc lw ∧ CST h1 v' u' lg' bk' V' U' A' x' ∧ PST v' u' w' lg' bk' V' U' z' A' ∧ ∀ (g : Hp) (p2 p3 p5 p6 : Option EV), STc g s r d b dc bc lw → MST g w z A → hI g 147 35 = z0 → hL g 147 38 = t → ∃ g1, Run kX12_lives 39 [some (vR (some 147)), some (vI (nI n)), p2, p3, some (vI (nI i)), p5, p6] [] g = some (rI res, g1) ∧ MqL g g1 [160, 162] [37] ∧ STc g1 s r d b dc bc lw ∧ MST g1 w' z' A' := by
  intro k
  induction k with
  | zero =>
    intro i h t o2 o3 v u w lg bk z V U A x e h9 S C P ez et
    obtain ⟨K0, R01, R02, R04, R05, K3, R30, Ks, Rs2, Rs3, Rs4, Ks1, Es1, Ks2, Es2, Ks3, Es3, K10, R108, K11, E11, K14, K98, td, dcC, bcC⟩ := sfa S
    have c : nI n ≤ nI i := nI_le (by omega) (by omega)
    have v9 : hI h 10 9 = nI (v 9) := by rw [C.1.1]; rfl
    refine ⟨nI (v 9), h, v, u, w, lg, bk, V, U, z, A, x, ?_, (Only.refl _ _).toL, S, C, P, fun g p2 p3 p5 p6 Sg Mg zg tg => ⟨g, ?_, (mq_refl _ _ _).toL, Sg, Mg⟩⟩
    · rw [tX11_lives_42]; simp only [oB_some, dR_some, cond_true, cond_false, if_true, if_false, Bool.true_and, Bool.and_true, Nat.beq_refl, c, K0, R02, K10, v9]
    · obtain ⟨M147, R18, K152, E152, R20, K154, E154, R22, K156, E156, R32, K160, E160, dcM, bcM⟩ := smf Sg
      have w7 : hI g 160 7 = nI (v 9) := by rw [Mg.1]; show nI (w 7) = _; rw [P.2.1.2.1]
      rw [lv39]; simp only [oB_some, dR_some, cond_true, cond_false, if_true, if_false, Bool.true_and, Bool.and_true, Nat.beq_refl, c, M147, R32, K160, E160, iaK20, ib7, tc7, w7]
  | succ k ih =>
    intro i h t o2 o3 v u w lg bk z V U A x e h9 S C P ez et
    obtain ⟨K0, R01, R02, R04, R05, K3, R30, Ks, Rs2, Rs3, Rs4, Ks1, Es1, Ks2, Es2, Ks3, Es3, K10, R108, K11, E11, K14, K98, td, dcC, bcC⟩ := sfa S
    have c : ¬ nI n ≤ nI i := nI_ge (by omega) (by omega)
    have B := P.1
    have hx := C.2.2.2.1
    have hA := C.2.2.2.2.1
    have b5 : bc ≤ 5 := S.2.2.2.2.1.2.2.2.2.1.2
    have b0 := S.2.2.2.2.2.1
    have H := S.2.2.2.2.2.2.1
    have b60 := H.2.2.2.2.2.2.2.2.2.2.1
    have h200 := lb_200 P.2.2.1
    have b10 := B.2.2.2.2.2.2.2.2.1
    obtain ⟨h8, e8, O8, S8, C8, K8⟩ := mark_s S C B.2.1 B.2.2.2.1
    have K08 := (sfa S8).1
    obtain ⟨dd, h9', tt, D, hd, Cn, l1, OL, lt, S9, C9⟩ := liveDrawn_c (z0 := z0) (t := t) S8 C8 B (by rw [O8.I (by simp; omega)]; exact ez) (by rw [O8.L]; exact et) rfl rfl rfl rfl
    obtain ⟨K0p, R01p, R02p, R04p, R05p, K3p, R30p, Ksp, Rs2p, Rs3p, Rs4p, Ks1p, Es1p, Ks2p, Es2p, Ks3p, Es3p, K10p, R108p, K11p, E11p, K14p, K98p, tdp, dcCp, bcCp⟩ := sfa S9
    obtain ⟨MRn, LBn⟩ := mr_day (lw := lw) (r := r) (dd := dd) P.2.1 P.2.2.1 b10 Cn
    have Bn := bv_day B H (show v 9 < 999 by omega) Cn
    have K9 : CLa h9' (16 + 2 * x) v u := cla_fr K8 (OL.2.2.2.2.2.2 _ (by simp; omega)) (OL.2.2.2.2.2.2 _ (by simp; omega))
    have z9 : hI h9' 0 18 = z0 := by rw [OL.2.2.2.2.2.2 0 (by simp), O8.I (by simp; omega)]; exact ez
    have G : LGs v lg (p3N lg (3 * (v 11 % 100)) dd (dayV lw r v dd 4) (dayV lw r v dd 0)) bk (if dd = 1 then p3N bk (3 * v 10) (v 9) (v 0) (TK lw r (v 0) (v 2) (v 10) (v 9) (v 4)) else bk) := ⟨Or.inr ⟨_, _, _, rfl⟩, fun i hi => by
      by_cases cd : dd = 1
      · rw [if_pos cd, p3N_o _ _ _ _ _ (by omega)]
      · rw [if_neg cd]⟩
    have d10 : v 10 ≤ up1 (dayV lw r v dd) 11 (v 11 + 1) 10 := by rw [up1_o _ _ (by decide), day_10]; by_cases cd : dd = 1 <;> simp only [cd, if_true, if_false] <;> omega
    have d11 : up1 (dayV lw r v dd) 11 (v 11 + 1) 11 = v 11 + 1 := up1_s _ _ _
    have d9 : up1 (dayV lw r v dd) 11 (v 11 + 1) 9 = v 9 + 1 := by rw [up1_o _ _ (by decide), day_9]
    have ew5 := day_5 MRn
    have mdl := fun (g : Hp) (p2 p3 p5 p6 : Option EV) (Sg : STc g s r d b dc bc lw) (Mg : MST g w z A) (zg : hI g 147 35 = z0) (tg : hL g 147 38 = t) => liv_m (i := i) (n := n) (p2 := p2) (p3 := p3) (p5 := p5) (p6 := p6) Sg Mg hA P.2.1 B h200 (by omega) hn zg tg rfl rfl rfl rfl D Cn
    generalize ev1 : up1 (dayV lw r v dd) 11 (v 11 + 1) = v1 at *
    generalize elg : p3N lg (3 * (v 11 % 100)) dd (dayV lw r v dd 4) (dayV lw r v dd 0) = lg1 at *
    generalize ebk : (if dd = 1 then p3N bk (3 * v 10) (v 9) (v 0) (TK lw r (v 0) (v 2) (v 10) (v 9) (v 4)) else bk) = bk1 at *
    generalize ew1 : dayM lw r w dd = w1 at *
    have v5 : hI h9' 10 5 = nI (v1 5) := by rw [C9.1.1]; rfl
    have q5 : (nI (v1 5) ≤ (0 : Int32)) = (v1 5 = 0) := nI_le0 (by have := Bn.2.2.2.2.2.1; have := Bn.2.2.2.2.2.2.2.2.1; omega)
    by_cases c5 : v1 5 = 0
    · obtain ⟨cm, O10, S10, C10⟩ := com_s S9 C9 K9
      obtain ⟨res, h1, v', u', w', lg', bk', V', U', z', A', x', f1, f2, f3, f4, f5, f6⟩ := ih (i + 1) (cmH h9' A x) tt none none v1 u w1 lg1 bk1 (remZ z w A) (sh1 v V) (sh1 u U) (remA A) ((x + 1) % 41) (by omega) (by omega) S10 C10 (pst_act P hA Bn MRn LBn G d10 (by omega) (by omega)) (by rw [O10.I (by simp)]; exact z9) (by rw [O10.L]; exact lt)
      refine ⟨res, h1, v', u', w', lg', bk', V', U', z', A', x', ?_, ((O8.mono (fun a ha => allL_of.mpr (by simp at ha; omega))).toL.trans (OL.mono (fun a ha => allL_of.mpr (by simp at ha; omega)))).trans ((O10.mono (fun a ha => allL_of.mpr (by simp at ha; omega))).toL.trans f2), f3, f4, f5, fun g p2 p3 p5 p6 Sg Mg zg tg => ?_⟩
      · rw [tX11_lives_42]; simp only [oB_some, dR_some, cond_true, cond_false, if_true, if_false, Bool.true_and, Bool.and_true, Nat.beq_refl, c, K0, R02, R04, K14, e8, K08, l1, K0p, R02p, K10p, v5, q5, eq_true c5, R04p, K14p, cm, nI_1]; exact f1
      · obtain ⟨g2, y1, y2, y3, y4, y5, y6⟩ := mdl g p2 p3 p5 p6 Sg Mg zg tg
        have y7 := lvT_0 (n := n) (i := i) (dd := nI dd) y3 y4.1 (by rw [ew5]; exact c5)
        obtain ⟨g3, k1, k2, k3, k4⟩ := f6 g2 none none (some (vI (nI dd))) none y3 y4 y5 y6
        exact ⟨g3, by rw [y1, y7]; exact k1, y2.trans k2, k3, k4⟩
    · have d3 := draw_c' (h := h9') (m := bc) K0p b0 (by omega) lt rfl rfl
      obtain ⟨v2, u2, w2, h11, SR, ⟨rr, sl⟩, O11, S11, C11⟩ := sld_c w1 (st_sg S9 (sg_sL h9' 0 19 (nxD tt))) (cst_sL C9 0 19 (nxD tt)) Bn (dvD (nxD tt) (nI bc))
      obtain ⟨B2, M2, E2, t10, t11, t9⟩ := sld_pst SR b5 b60 Bn MRn LBn
      obtain ⟨K0q, R01q, R02q, R04q, R05q, K3q, R30q, Ksq, Rs2q, Rs3q, Rs4q, Ks1q, Es1q, Ks2q, Es2q, Ks3q, Es3q, K10q, R108q, K11q, E11q, K14q, K98q, tdq, dcCq, bcCq⟩ := sfa S11
      have K11 : CLa h11 (16 + 2 * x) v u := cla_fr K9 (by rw [O11.I (by simp; omega)]; rfl) (by rw [O11.I (by simp; omega)]; rfl)
      obtain ⟨cm, O12, S12, C12⟩ := com_s S11 C11 K11
      have l11 : hL h11 0 19 = nxD tt := by rw [O11.L]; exact hL_at _ _ _ _
      obtain ⟨res, h1, v', u', w', lg', bk', V', U', z', A', x', f1, f2, f3, f4, f5, f6⟩ := ih (i + 1) (cmH h11 A x) (nxD tt) none none v2 u2 w2 lg1 bk1 (remZ z w A) (sh1 v V) (sh1 u U) (remA A) ((x + 1) % 41) (by omega) (by omega) S12 C12 (pst_act P hA B2 M2 E2 G (by omega) (by omega) (by omega)) (by rw [O12.I (by simp), O11.I (by simp)]; exact z9) (by rw [O12.L]; exact l11)
      refine ⟨res, h1, v', u', w', lg', bk', V', U', z', A', x', ?_, ((O8.mono (fun a ha => allL_of.mpr (by simp at ha; omega))).toL.trans (OL.mono (fun a ha => allL_of.mpr (by simp at ha; omega)))).trans ((onlyL_sL h9' (nxD tt) allL).trans ((O11.mono (fun a ha => allL_of.mpr (by simp at ha; omega))).toL.trans ((O12.mono (fun a ha => allL_of.mpr (by simp at ha; omega))).toL.trans f2))), f3, f4, f5, fun g p2 p3 p5 p6 Sg Mg zg tg => ?_⟩
      · have K3d : hK (sL h9' 0 19 (nxD tt)) 3 = 10 := K3p
        rw [tX11_lives_42]; simp only [oB_some, dR_some, cond_true, cond_false, if_true, if_false, Bool.true_and, Bool.and_true, Nat.beq_refl, c, K0, R02, R04, K14, e8, K08, l1, K0p, R02p, K10p, v5, q5, c5, R01p, K3p, R30p, Ksp, bcCp, d3, K3d, sl, K0q, R04q, K14q, cm, nI_1]; exact f1
      · obtain ⟨g2, y1, y2, y3, y4, y5, y6⟩ := mdl g p2 p3 p5 p6 Sg Mg zg tg
        obtain ⟨g3, o6, j1, j2, j3, j4, j5, j6, j7, j8⟩ := lvT_1 (n := n) (i := i) (dd := nI dd) y3 y4.1 MRn Bn (by rw [ew5]; exact c5) y6 rfl rfl SR
        obtain ⟨g4, k1, k2, k3, k4⟩ := f6 g3 none none (some (vI (nI dd))) o6 j3 ⟨j4, by rw [j5]; exact y4.2.1, by rw [j6]; exact y4.2.2⟩ (by rw [j7]; exact y5) j8
        exact ⟨g4, by rw [y1, j1]; exact k1, (y2.trans j2).trans k2, k3, k4⟩
/-- what lives comes to: draws are written too -/
def CALLL (h : Hp) (s : Nat) (r d b : Nat → Nat) (dc bc : Nat) (lw : Option ((Nat → Int32) × Nat)) (X Y : Hp → Option (RV × Hp)) : Prop :=
  ∃ res h1 h2, X h = some (rI res, h1) ∧ Y h1 = some (rI res, h2) ∧ OnlyL h h1 allL ∧ MqL h1 h2 [160, 162] [0, 37] ∧ ∃ v' u' w' lg' bk' z' A' x', AINV h2 s r d b dc bc lw v' u' w' lg' bk' z' A' x'
theorem cst_mqL {h : Hp} {v u lg bk : Nat → Nat} {V U : Nat → Nat → Nat} {A x : Nat} {h' : Hp} {l ks : List Nat} (C : CST h v u lg bk V U A x) (Q : MqL h h' l ks) (hl : ∀ a ∈ l, 147 ≤ a) : CST h' v u lg bk V U A x :=
  cst_fr C (fun a e => Q.2.2.2.2.2.2.1 a (by omega) (by omega) (fun z => by have := hl a z; omega))
theorem lives_both {h : Hp} {s : Nat} {r d b : Nat → Nat} {dc bc : Nat} {lw : Option ((Nat → Int32) × Nat)} {v u w lg bk z : Nat → Nat} {A x : Nat} {z0 : Int32} (I : AINV h s r d b dc bc lw v u w lg bk z A x) (lz : hI h 0 18 = z0) (lm : hI h 147 35 = z0) (y : Int32) (sd : Int64) : CALLL h s r d b dc bc lw (FX11_lives [vR (some 0), vI y, vL sd]) (FX12_lives [vR (some 147), vI y, vL sd]) := by
  obtain ⟨K0, R01, R02, R04, R05, K3, R30, Ks, Rs2, Rs3, Rs4, Ks1, Es1, Ks2, Es2, Ks3, Es3, K10, R108, K11, E11, K14, K98, td, dcC, bcC, Ev, Eu⟩ := cfa I
  have hm := hom I
  have M0 := (mfa I).1
  obtain ⟨M147, R18, K152, E152, R20, K154, E154, R22, K156, E156, R32, K160, E160, dcM, bcM, Ew⟩ := mfa (ainv_t I)
  have b5 : bc ≤ 5 := I.2.1.2.2.2.1.2.2.2.2.1.2
  have b0 := I.2.1.2.2.2.2.1
  have v9 := I.2.2.1.2.1.2.2.2.2.2.2.2.1
  have w7 : w 7 = v 9 := I.2.2.1.2.2.2.1.2.1
  have no : ∀ res, FX11_lives [vR (some 0), vI y, vL sd] h = some (rI res, h) → FX12_lives [vR (some 147), vI y, vL sd] h = some (rI res, sI h 147 0 0) → CALLL h s r d b dc bc lw (FX11_lives [vR (some 0), vI y, vL sd]) (FX12_lives [vR (some 147), vI y, vL sd]) := fun res a1 a2 => ⟨res, h, _, a1, a2, (Only.refl _ _).toL, (mq_sI h _ _ (by simp)).toL, _, _, _, _, _, _, _, _, ainv_t I⟩
  by_cases c1 : y < 1
  · refine no (-1) ?_ ?_
    · rw [tX11_lives]; simp only [oB_some, dR_some, cond_true, cond_false, if_true, if_false, Bool.true_and, Bool.and_true, Nat.beq_refl, K0, hm, within11, c1]
    · rw [tX12_lives]; simp only [oB_some, dR_some, cond_true, cond_false, if_true, if_false, Bool.true_and, Bool.and_true, Nat.beq_refl, M0, isIn_160, c1]
  by_cases c2 : (60 : Int32) < y
  · refine no (-1) ?_ ?_
    · rw [tX11_lives]; simp only [oB_some, dR_some, cond_true, cond_false, if_true, if_false, Bool.true_and, Bool.and_true, Nat.beq_refl, K0, hm, within11, c1, c2]
    · rw [tX12_lives]; simp only [oB_some, dR_some, cond_true, cond_false, if_true, if_false, Bool.true_and, Bool.and_true, Nat.beq_refl, M0, isIn_160, c1, c2]
  obtain ⟨n, hn, en⟩ := nI_of2 (x := y) (M := 60) (n := 60) (by decide) (fun q => c1 (Int32.lt_trans q (by decide))) (Int32.not_lt.mp c2)
  subst en
  have ea : nI (v 9) + nI n = nI (v 9 + n) := nI_add _ _
  have q1 : (nI (v 9 + n) ≤ (999 : Int32)) = (v 9 + n ≤ 999) := nI_nle' (b := 999) (by omega) (by omega)
  have q2 : ((999 : Int32) < nI (v 9 + n)) = (999 < v 9 + n) := nI_nlt' (a := 999) (by omega) (by omega)
  have mp := mayPass_o (k := nI n) (ainv_t I).2.1.2.2.2.1 (ainv_t I).1.2.2.2.2.2 (ainv_t I).2.2.1.2.2.1 b0
  by_cases c3 : v 9 + n ≤ 999
  · obtain ⟨S, V, U, C, M, P⟩ := ainv_split I
    obtain ⟨res, h1, v', u', w', lg', bk', V', U', z', A', x', f1, f2, f3, f4, f5, f6⟩ := lives_loop (z0 := z0) hn n 0 (sL h 0 19 sd) sd (some (vL sd)) none v u w lg bk z V U A x (by omega) c3 (st_sg S (sg_sL h 0 19 sd)) (cst_sL C 0 19 sd) P lz (hL_at _ _ _ _)
    have OO := (onlyL_sL h sd allL).trans f2
    have ol : ∀ a, 147 ≤ a → a ∉ allL := fun a ha z => by have := allL_of.mp z; omega
    have q3 : Mq h1 (sI h1 147 0 0) [] [0] := mq_sI _ _ _ (by simp)
    have S3 := st_sg f3 (sg_mq q3 (by simp) (fun k hk => by simp at hk; omega))
    have M1 : MST h1 w z A := ⟨by rw [OO.2.2.2.2.2.2 _ (ol _ (by omega))]; exact M.1, by rw [OO.2.2.2.2.2.2 _ (ol _ (by omega))]; exact M.2.1, by rw [OO.2.2.2.2.2.2 _ (ol _ (by omega))]; exact M.2.2⟩
    have M3 := mst_mq M1 q3 (by simp) (by simp) (by simp)
    have z3 : hI (sI h1 147 0 0) 147 35 = z0 := by rw [hI_slot _ _ _ _ (by decide), OO.2.2.2.2.2.2 _ (ol _ (by omega))]; exact lm
    have S4 := st_sg S3 (sg_sL (sI h1 147 0 0) 147 38 sd)
    obtain ⟨g1, k1, k2, k3, k4⟩ := f6 (sL (sI h1 147 0 0) 147 38 sd) (some (vL sd)) none none none S4 M3 z3 (hL_at _ _ _ _)
    have Q : MqL h1 g1 [160, 162] [0, 37] := ((q3.mono (by simp) (by simp)).toL.trans (mqL_sL _ sd _ _)).trans (by
      obtain ⟨a1, a2, a3, a4, a5, a6, a7, a8⟩ := k2
      exact ⟨a1, a2, a3, a4, a5, a6, a7, fun k e f => a8 k e (by simp at f ⊢; exact f.2)⟩)
    have M1h := (smf f3).1
    have mp1 := mayPass_o (k := nI n) S3.2.2.2.2.1 S3.1.2.2.2.2.2 M3.1 b0
    obtain ⟨M147p, R18p, K152p, E152p, R20p, K154p, E154p, R22p, K156p, E156p, R32p, K160p, E160p, dcMp, bcMp⟩ := smf S3
    refine ⟨res, h1, g1, ?_, ?_, OO, Q, v', u', w', lg', bk', z', A', x', ainv_join k3 (cst_mqL f4 Q (fun a ha => by simp at ha; omega)) k4 f5⟩
    · rw [tX11_lives]; simp only [oB_some, dR_some, cond_true, cond_false, if_true, if_false, Bool.true_and, Bool.and_true, Nat.beq_refl, K0, hm, within11, c1, c2, ne10, R02, K10, Ev, ea, q1, c3]; exact f1
    · rw [tX12_lives]; simp only [oB_some, dR_some, cond_true, cond_false, if_true, if_false, Bool.true_and, Bool.and_true, Nat.beq_refl, M1h, isIn_160, c1, c2, ne10, M147p, R32p, mp1, w7, ea, q2, show ¬ 999 < v 9 + n by omega]; exact k1
  · refine no (-1) ?_ ?_
    · rw [tX11_lives]; simp only [oB_some, dR_some, cond_true, cond_false, if_true, if_false, Bool.true_and, Bool.and_true, Nat.beq_refl, K0, hm, within11, c1, c2, ne10, R02, K10, Ev, ea, q1, c3]
    · rw [tX12_lives]; simp only [oB_some, dR_some, cond_true, cond_false, if_true, if_false, Bool.true_and, Bool.and_true, Nat.beq_refl, M0, isIn_160, c1, c2, ne10, M147, R32, mp, w7, ea, q2, show 999 < v 9 + n by omega]
