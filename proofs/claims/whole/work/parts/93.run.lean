/-! ===== PURE: run, by both ===== -/
theorem mayPass_o {h : Hp} {o : Nat} {r d b w : Nat → Nat} {dc bc : Nat} {k : Int32} (M : MW h r d b dc bc) (L : RLo h o) (e : hI h o = nR w) (hb : 0 < bc) : FX12_mayPass [vR (some 147), vR (some o), vI k] h = some (rI (if (999 : Int32) < nI (w 7) + k then 0 else 1), h) := by
  have w1 := M.1
  have f6 := M.2.2.2.2.2.1.2
  have g2 := M.2.2.2.2.1.2
  obtain ⟨L1, L2, _⟩ := L
  have q : ¬ nI bc ≤ 0 := by rw [nI_le0 (by omega)]; omega
  have e7 : hI h o 7 = nI (w 7) := by rw [e]; rfl
  rw [tX12_mayPass]
  by_cases c : (999 : Int32) < nI (w 7) + k
  · simp only [oB_some, dR_some, cond_true, cond_false, if_true, if_false, Bool.true_and, Bool.and_true, Nat.beq_refl, w1, f6, q, L1, L2, iaK20, ib7, tc7, e7, c, isZ0]
  · simp only [oB_some, dR_some, cond_true, cond_false, if_true, if_false, Bool.true_and, Bool.and_true, Nat.beq_refl, w1, f6, q, L1, L2, iaK20, ib7, tc7, e7, c, isZ1]
theorem ne02 : ¬ (0 : Int32) = 2 := by decide
theorem ne12 : ¬ (1 : Int32) = 2 := by decide
theorem ne21 : ¬ (2 : Int32) = 1 := by decide
theorem ne31 : ¬ (3 : Int32) = 1 := by decide
theorem ne32 : ¬ (3 : Int32) = 2 := by decide
theorem ne03 : ¬ (0 : Int32) = 3 := by decide
theorem ne13 : ¬ (1 : Int32) = 3 := by decide
theorem ne23 : ¬ (2 : Int32) = 3 := by decide
theorem step_m {h : Hp} {s : Nat} {r d b : Nat → Nat} {dc bc o t : Nat} {lw : Option ((Nat → Int32) × Nat)} {V U ww : Nat → Nat} {kd a c : Int32} (S : STc h s r d b dc bc lw) (P : PLl h) (L : RLo h o) (ho : 160 ≤ o ∧ o < 172) (e : hI h o = nR ww) (M' : MR V U ww) (B : SVb 999 V U) (h200 : ww 200 ≤ 60) (ht : t + 2 < 240) (k0 : hI h 158 t = kd) (k1 : hI h 158 (t + 1) = a) (k2 : hI h 158 (t + 2) = c) (st : stp kd a) :
    (∀ V' U' W', stepR lw r d b dc bc V U ww kd a c V' U' W' → (∃ h2, FX12_canStep [vR (some 147), vR (some o), vI (nI t)] h = some (rI 1, h2) ∧ Mo h h2) ∧ (∃ h4, FX12_steps [vR (some 147), vR (some o), vI (nI t)] h = some (rV, h4) ∧ hI h4 o = nR W' ∧ Mq h h4 [o] [])) ∧
    ((∀ V' U' W', ¬ stepR lw r d b dc bc V U ww kd a c V' U' W') → ∃ h2, FX12_canStep [vR (some 147), vR (some o), vI (nI t)] h = some (rI 0, h2) ∧ Mo h h2) := by
  obtain ⟨M147, R18, K152, E152, R20, K154, E154, R22, K156, E156, R32, K160, E160, dcM, bcM⟩ := smf S
  obtain ⟨p1, p2, p3⟩ := P.2.2.1
  have L1 := L.1
  have L2 := L.2.1
  have M := S.2.2.2.2.1
  have d6 : dc ≤ 6 := M.2.2.2.2.1.1
  have b5 : bc ≤ 5 := M.2.2.2.2.1.2
  have hw := sv_mr B (by omega) M'
  have self : RN h o ww = h := RN_self e
  have t1 : nI t + 1 = nI (t + 1) := nI_1 t
  have t2 : nI t + 2 = nI (t + 2) := nI_add t 2
  have x0 : inb (nI t) 240 = true := inb_nI (by omega) (by omega)
  have x1 : inb (nI (t + 1)) 240 = true := inb_nI (by omega) (by omega)
  have x2 : inb (nI (t + 2)) 240 = true := inb_nI (by omega) (by omega)
  have y0 : (nI t).toNatClampNeg = t := nI_clamp (by omega)
  have y1 : (nI (t + 1)).toNatClampNeg = t + 1 := nI_clamp (by omega)
  have y2 : (nI (t + 2)).toNatClampNeg = t + 2 := nI_clamp (by omega)
  rcases st with ⟨z0, dd, hd, ea⟩ | z1 | z2 | z3
  · subst z0
    rw [ea] at k1
    have mp := mayPass_o (k := 1) M L e S.2.2.2.2.2.1
    have q9 : ((999 : Int32) < nI (ww 7) + 1) = (999 < V 9 + 1) := by
      rw [M'.2.1, nI_1]
      exact nI_nlt' (a := 999) (by omega) (by have := B.2.2.2.2.2.2.2.1; omega)
    have can := can_s (dd := dd) S L ho e M' B (by omega) hd
    have tkE : TK lw r (ww 0) (ww 2) (ww 19) (ww 7) (ww 4) = TK lw r (V 0) (V 2) (V 10) (V 9) (V 4) := by rw [M'.1 0 (by omega), M'.1 2 (by omega), M'.2.2.2.2, M'.2.1, M'.1 4 (by omega)]
    refine ⟨fun V' U' W' R => ?_, fun N => ?_⟩
    · rcases R with ⟨_, dd', hd', ea', h9, C, e1, e2, e3⟩ | ⟨q, _⟩ | ⟨q, _⟩ | ⟨q, _⟩
      · have ed : dd' = dd := by rw [ea, nI_eq (by omega) (by omega)] at ea'; exact ea'.symm
        subst ed
        obtain ⟨h2, c1, mo⟩ := can.1 C
        refine ⟨⟨h2, ?_, mo⟩, ?_⟩
        · rw [tX12_canStep]; simp only [oB_some, dR_some, cond_true, cond_false, if_true, if_false, Bool.true_and, Bool.and_true, Nat.beq_refl, M147, p1, p2, p3, iaK20, t1, x0, x1, y0, y1, k0, k1, mp, q9, show ¬ 999 < V 9 + 1 by omega, ne10, c1, isZ1]
        · obtain ⟨h4, f1, f2, f3⟩ := day_m (dd := dd') M L ho S.2.2.2.2.2.2.2 e hd hw h200 (by rw [tkE]; exact (mr_can M').mpr C)
          refine ⟨h4, ?_, by rw [e3]; exact f2, f3⟩
          rw [tX12_steps]; simp only [oB_some, dR_some, cond_true, cond_false, if_true, if_false, Bool.true_and, Bool.and_true, Nat.beq_refl, M147, p1, p2, p3, iaK20, t1, x0, x1, y0, y1, k0, k1, f1]
      · exact absurd q ne01
      · exact absurd q ne02
      · exact absurd q ne03
    · by_cases h9 : V 9 < 999
      · have C : ¬ canW V dd (TK lw r (V 0) (V 2) (V 10) (V 9) (V 4)) := fun C => N _ _ _ (Or.inl ⟨rfl, dd, hd, ea, h9, C, rfl, rfl, rfl⟩)
        obtain ⟨h2, c1, mo⟩ := can.2 C
        refine ⟨h2, ?_, mo⟩
        rw [tX12_canStep]; simp only [oB_some, dR_some, cond_true, cond_false, if_true, if_false, Bool.true_and, Bool.and_true, Nat.beq_refl, M147, p1, p2, p3, iaK20, t1, x0, x1, y0, y1, k0, k1, mp, q9, show ¬ 999 < V 9 + 1 by omega, ne10, c1, isZ0]
      · refine ⟨h, ?_, Mo.refl _⟩
        rw [tX12_canStep]; simp only [oB_some, dR_some, cond_true, cond_false, if_true, if_false, Bool.true_and, Bool.and_true, Nat.beq_refl, M147, p1, p2, p3, iaK20, t1, x0, x1, y0, y1, k0, k1, mp, q9, show 999 < V 9 + 1 by omega, isZ0]
  · subst z1
    have w5 : hI h o 5 = nI (V 5) := by rw [e]; show nI (ww 5) = _; rw [M'.1 5 (by omega)]
    have q5 : (nI (V 5) ≤ (0 : Int32)) = (V 5 = 0) := nI_le0 (by have := B.2.2.2.2.2.1; have := B.2.2.2.2.2.2.2.2.1; omega)
    refine ⟨fun V' U' W' R => ?_, fun N => ?_⟩
    · rcases R with ⟨q, _⟩ | ⟨_, h5, e1, e2, e3⟩ | ⟨q, _⟩ | ⟨q, _⟩
      · exact absurd q ne10
      · have cu := cuts_m (w := ww) L (by rw [M'.1 5 (by omega)]; exact h5)
        rw [self] at cu
        refine ⟨⟨h, ?_, Mo.refl _⟩, RN h o W', ?_, by unfold RN; rw [wA_I], mq_wA _ _ _ (by simp) (by omega)⟩
        · rw [tX12_canStep]; simp only [oB_some, dR_some, cond_true, cond_false, if_true, if_false, Bool.true_and, Bool.and_true, Nat.beq_refl, M147, p1, p2, p3, iaK20, t1, x0, x1, y0, y1, k0, ne10, L1, L2, ib5, tc5, w5, q5, show ¬ V 5 = 0 by omega, isZ1]
        · rw [tX12_steps]; simp only [oB_some, dR_some, cond_true, cond_false, if_true, if_false, Bool.true_and, Bool.and_true, Nat.beq_refl, M147, p1, p2, p3, iaK20, t1, x0, x1, y0, y1, k0, ne10, cu]
          rw [e3]; rfl
      · exact absurd q ne12
      · exact absurd q ne13
    · have h5 : V 5 = 0 := by
        by_cases z : 0 < V 5
        · exact absurd (Or.inr (Or.inl ⟨rfl, z, rfl, rfl, rfl⟩)) (N _ _ _)
        · omega
      refine ⟨h, ?_, Mo.refl _⟩
      rw [tX12_canStep]; simp only [oB_some, dR_some, cond_true, cond_false, if_true, if_false, Bool.true_and, Bool.and_true, Nat.beq_refl, M147, p1, p2, p3, iaK20, t1, x0, x1, y0, y1, k0, ne10, L1, L2, ib5, tc5, w5, q5, eq_true h5, isZ0]
  · subst z2
    have can := canSell_m (w := ww) M L (by rw [M'.1 4 (by omega)]; have := B.2.2.2.2.1; omega) (by have := hw 5 (by omega); omega) (by have := hw 6 (by omega); omega) (fun i hi => by have := hw (14 + i) (by omega); omega) a c
    rw [self] at can
    refine ⟨fun V' U' W' R => ?_, fun N => ?_⟩
    · rcases R with ⟨q, _⟩ | ⟨q, _⟩ | ⟨_, i, k, ei, ek, PO, e1, e2, e3⟩ | ⟨q, _⟩
      · exact absurd q ne20
      · exact absurd q ne21
      · have doit := sells_m (w := ww) (i := i) (k := k) M L ((mr_sellOK M' b5).mpr PO)
        rw [self, ← ei, ← ek] at doit
        rcases can with ⟨i3, k3, _, _, _, can⟩ | ⟨NM, _⟩
        · refine ⟨⟨h, ?_, Mo.refl _⟩, RN h o W', ?_, by unfold RN; rw [wA_I], mq_wA _ _ _ (by simp) (by omega)⟩
          · rw [tX12_canStep]; simp only [oB_some, dR_some, cond_true, cond_false, if_true, if_false, Bool.true_and, Bool.and_true, Nat.beq_refl, M147, p1, p2, p3, iaK20, t1, t2, x0, x1, x2, y0, y1, y2, k0, k1, k2, ne20, ne21, can, isZ1]
          · rw [tX12_steps]; simp only [oB_some, dR_some, cond_true, cond_false, if_true, if_false, Bool.true_and, Bool.and_true, Nat.beq_refl, M147, p1, p2, p3, iaK20, t1, t2, x0, x1, x2, y0, y1, y2, k0, k1, k2, ne20, ne21, doit]
            rw [e3]
        · exact absurd ((mr_sellOK M' b5).mpr PO) (NM i k ei ek (by have := PO.1; omega) (by have := PO.2.1; omega))
      · exact absurd q ne23
    · rcases can with ⟨i3, k3, ei, ek, PM, _⟩ | ⟨_, can⟩
      · exact absurd (Or.inr (Or.inr (Or.inl ⟨rfl, i3, k3, ei, ek, (mr_sellOK M' b5).mp PM, rfl, rfl, rfl⟩))) (N _ _ _)
      · refine ⟨h, ?_, Mo.refl _⟩
        rw [tX12_canStep]; simp only [oB_some, dR_some, cond_true, cond_false, if_true, if_false, Bool.true_and, Bool.and_true, Nat.beq_refl, M147, p1, p2, p3, iaK20, t1, t2, x0, x1, x2, y0, y1, y2, k0, k1, k2, ne20, ne21, can, isZ0]
  · subst z3
    have can := canPay_m (w := ww) M L (fun i hi => by rw [M'.2.2.1 i hi]; omega) (by rw [M'.1 4 (by omega)]; have := B.2.2.2.2.1; omega) (by rw [M'.2.1]; have := B.2.2.2.2.2.2.2.1; omega) a
    rw [self] at can
    refine ⟨fun V' U' W' R => ?_, fun N => ?_⟩
    · rcases R with ⟨q, _⟩ | ⟨q, _⟩ | ⟨q, _⟩ | ⟨_, i, ei, PO, e1, e2, e3⟩
      · exact absurd q ne30
      · exact absurd q ne31
      · exact absurd q ne32
      · have doit := pays_m (w := ww) (i := i) M L ((mr_payOK M' d6).mpr PO) (by rw [M'.2.1]; have := B.2.2.2.2.2.2.2.1; omega)
        rw [self, ← ei] at doit
        rcases can with ⟨i3, _, _, can⟩ | ⟨NM, _⟩
        · refine ⟨⟨h, ?_, Mo.refl _⟩, RN h o W', ?_, by unfold RN; rw [wA_I], mq_wA _ _ _ (by simp) (by omega)⟩
          · rw [tX12_canStep]; simp only [oB_some, dR_some, cond_true, cond_false, if_true, if_false, Bool.true_and, Bool.and_true, Nat.beq_refl, M147, p1, p2, p3, iaK20, t1, x0, x1, y0, y1, k0, k1, ne30, ne31, ne32, can, isZ1]
          · rw [tX12_steps]; simp only [oB_some, dR_some, cond_true, cond_false, if_true, if_false, Bool.true_and, Bool.and_true, Nat.beq_refl, M147, p1, p2, p3, iaK20, t1, x0, x1, y0, y1, k0, k1, ne30, ne31, ne32, doit]
            rw [e3]
        · exact absurd ((mr_payOK M' d6).mpr PO) (NM i ei (by have := PO.1; omega))
    · rcases can with ⟨i3, ei, PM, _⟩ | ⟨_, can⟩
      · exact absurd (Or.inr (Or.inr (Or.inr ⟨rfl, i3, ei, (mr_payOK M' d6).mp PM, rfl, rfl, rfl⟩))) (N _ _ _)
      · refine ⟨h, ?_, Mo.refl _⟩
        rw [tX12_canStep]; simp only [oB_some, dR_some, cond_true, cond_false, if_true, if_false, Bool.true_and, Bool.and_true, Nat.beq_refl, M147, p1, p2, p3, iaK20, t1, x0, x1, y0, y1, k0, k1, ne30, ne31, ne32, can, isZ0]
theorem take_c {h : Hp} {s : Nat} {r d b : Nat → Nat} {dc bc p i : Nat} {lw : Option ((Nat → Int32) × Nat)} {V U W : Nat → Nat} {kd a c : Int32} (S : STc h s r d b dc bc lw) (P : PLl h) (hp : p < 4) (hi : i < 16) (L : LL h 12 s) (e1 : hI h 12 = nR V) (e2 : hI h 13 = nR U) (B : SVb 999 V U) (k0 : hI h (140 + 2 * p) (3 * i) = kd) (k1 : hI h (140 + 2 * p) (3 * i + 1) = a) (k2 : hI h (140 + 2 * p) (3 * i + 2) = c) (st : stp kd a) :
    (∃ V' U' W', stepR lw r d b dc bc V U W kd a c V' U' W' ∧ ∃ h', FX10_takeStep [vR (some 3), vR (some 12), vR (some (139 + 2 * p)), vI (nI i)] h = some (rI 1, h') ∧ Only h h' [8, 9, 12, 13] ∧ hI h' 12 = nR V' ∧ hI h' 13 = nR U') ∨
    ((∀ V' U' W', ¬ stepR lw r d b dc bc V U W kd a c V' U' W') ∧ ∃ h', FX10_takeStep [vR (some 3), vR (some 12), vR (some (139 + 2 * p)), vI (nI i)] h = some (rI 0, h') ∧ Only h h' [8, 9, 12, 13] ∧ hI h' 12 = nR V ∧ hI h' 13 = nR U) := by
  obtain ⟨K0, R01, R02, R04, R05, K3, R30, Ks, Rs2, Rs3, Rs4, Ks1, Es1, Ks2, Es2, Ks3, Es3, K10, R108, K11, E11, K14, K98, td, dcC, bcC⟩ := sfa S
  obtain ⟨q1, q2, q3, q4, q5⟩ := P.2.1 p hp
  have K12 := L.1
  have g0 := part_c (j := 0) P hp hi (by omega)
  have g1 := part_c (j := 1) P hp hi (by omega)
  have g2 := part_c (j := 2) P hp hi (by omega)
  rw [Nat.add_zero, k0, show nI 0 = (0 : Int32) from rfl] at g0
  rw [k1, show nI 1 = (1 : Int32) from rfl] at g1
  rw [k2, show nI 2 = (2 : Int32) from rfl] at g2
  have self : LN h 12 V U = h := LN_self e1 e2
  have b9 := B.2.2.2.2.2.2.2.1
  have b10 := B.2.2.2.2.2.2.2.2.1
  have b5 := B.2.2.2.2.2.1
  have row : ∀ V' U', Only h (LN h 12 V' U') [8, 9, 12, 13] ∧ hI (LN h 12 V' U') 12 = nR V' ∧ hI (LN h 12 V' U') 13 = nR U' := fun V' U' => ⟨only_LN _ _ _ (by simp) (by simp), LN_ra _ _ _ _, LN_rs _ 12 _ _⟩
  rcases st with ⟨z0, dd, hd, ea⟩ | z1 | z2 | z3
  · subst z0
    rw [ea] at g1
    have v9 : hI h 12 9 = nI (V 9) := by rw [e1]; rfl
    have qq : ((999 : Int32) ≤ nI (V 9)) = (999 ≤ V 9) := nI_nle' (a := 999) (by omega) (by omega)
    have pw := pass_s (dd := dd) S L (by decide) e1 e2 B (by omega) hd
    by_cases h9 : V 9 < 999
    · by_cases C : canW V dd (TK lw r (V 0) (V 2) (V 10) (V 9) (V 4))
      · obtain ⟨h', f1, f2, f3, f4⟩ := pw.1 C
        refine Or.inl ⟨_, _, dayM lw r W dd, Or.inl ⟨rfl, dd, hd, ea, h9, C, rfl, rfl, rfl⟩, h', ?_, f2, f3, f4⟩
        rw [tX10_takeStep]; simp only [oB_some, dR_some, cond_true, cond_false, if_true, if_false, Bool.true_and, Bool.and_true, Nat.beq_refl, q2, g0, g1, K12, v9, qq, show ¬ 999 ≤ V 9 by omega, K3, f1, ne10, isZ1]
      · obtain ⟨h', f1, f2⟩ := pw.2 C
        refine Or.inr ⟨fun V' U' W' R => ?_, h', ?_, f2.mono (by simp), by rw [f2.I (by simp)]; exact e1, by rw [f2.I (by simp)]; exact e2⟩
        · rcases R with ⟨_, dd', hd', ea', _, C', _⟩ | ⟨q, _⟩ | ⟨q, _⟩ | ⟨q, _⟩
          · have ed : dd' = dd := by rw [ea, nI_eq (by omega) (by omega)] at ea'; exact ea'.symm
            rw [ed] at C'; exact C C'
          · exact absurd q ne01
          · exact absurd q ne02
          · exact absurd q ne03
        · rw [tX10_takeStep]; simp only [oB_some, dR_some, cond_true, cond_false, if_true, if_false, Bool.true_and, Bool.and_true, Nat.beq_refl, q2, g0, g1, K12, v9, qq, show ¬ 999 ≤ V 9 by omega, K3, f1, isZ0]
    · refine Or.inr ⟨fun V' U' W' R => ?_, h, ?_, Only.refl _ _, e1, e2⟩
      · rcases R with ⟨_, dd', hd', ea', h9', C', _⟩ | ⟨q, _⟩ | ⟨q, _⟩ | ⟨q, _⟩
        · exact h9 h9'
        · exact absurd q ne01
        · exact absurd q ne02
        · exact absurd q ne03
      · rw [tX10_takeStep]; simp only [oB_some, dR_some, cond_true, cond_false, if_true, if_false, Bool.true_and, Bool.and_true, Nat.beq_refl, q2, g0, g1, K12, v9, qq, show 999 ≤ V 9 by omega, isZ0]
  · subst z1
    have cut := cut_c (v := V) (u := U) L (by omega)
    rw [self] at cut
    by_cases h5 : 0 < V 5
    · rw [if_pos h5] at cut
      obtain ⟨f2, f3, f4⟩ := row (cutV V) U
      refine Or.inl ⟨_, _, cutV W, Or.inr (Or.inl ⟨rfl, h5, rfl, rfl, rfl⟩), LN h 12 (cutV V) U, ?_, f2, f3, f4⟩
      rw [tX10_takeStep]; simp only [oB_some, dR_some, cond_true, cond_false, if_true, if_false, Bool.true_and, Bool.and_true, Nat.beq_refl, q2, g0, g1, ne10, K3, cut, isZ1]; rfl
    · rw [if_neg h5] at cut
      refine Or.inr ⟨fun V' U' W' R => ?_, h, ?_, Only.refl _ _, e1, e2⟩
      · rcases R with ⟨q, _⟩ | ⟨_, h5', _⟩ | ⟨q, _⟩ | ⟨q, _⟩
        · exact absurd q ne10
        · exact h5 h5'
        · exact absurd q ne12
        · exact absurd q ne13
      · rw [tX10_takeStep]; simp only [oB_some, dR_some, cond_true, cond_false, if_true, if_false, Bool.true_and, Bool.and_true, Nat.beq_refl, q2, g0, g1, ne10, K3, cut, isZ0]
  · subst z2
    have op := sell_c (v := V) (u := U) S.2.2.2.1 L (by have := B.2.2.2.2.1; omega) (by omega) (by omega) (fun k hk => by have := B.2.2.2.2.2.2.2.2.2.2.2 k hk; omega) a c
    rw [self] at op
    rcases op with ⟨i', k', ei, ek, PO, cut⟩ | ⟨NO, cut⟩
    · obtain ⟨f2, f3, f4⟩ := row (sellV b V i' k') (up1 U i' (U i' + 1))
      refine Or.inl ⟨_, _, sellVm b W i' k', Or.inr (Or.inr (Or.inl ⟨rfl, i', k', ei, ek, PO, rfl, rfl, rfl⟩)), _, ?_, f2, f3, f4⟩
      rw [tX10_takeStep]; simp only [oB_some, dR_some, cond_true, cond_false, if_true, if_false, Bool.true_and, Bool.and_true, Nat.beq_refl, q2, g0, g1, g2, ne20, ne21, K3, cut, isZ1]
    · refine Or.inr ⟨fun V' U' W' R => ?_, h, ?_, Only.refl _ _, e1, e2⟩
      · rcases R with ⟨q, _⟩ | ⟨q, _⟩ | ⟨_, i', k', ei, ek, PO, _⟩ | ⟨q, _⟩
        · exact absurd q ne20
        · exact absurd q ne21
        · have b5 : bc ≤ 5 := S.2.2.2.2.1.2.2.2.2.1.2
          exact NO i' k' ei ek (by have := PO.1; omega) (by have := PO.2.1; omega) PO
        · exact absurd q ne23
      · rw [tX10_takeStep]; simp only [oB_some, dR_some, cond_true, cond_false, if_true, if_false, Bool.true_and, Bool.and_true, Nat.beq_refl, q2, g0, g1, g2, ne20, ne21, K3, cut, isZ0]
  · subst z3
    have op := pay_c (v := V) (u := U) S.2.2.2.1 L B.2.2.2.2.2.2.1 (by have := B.2.2.2.2.1; omega) (by omega) a
    rw [self] at op
    rcases op with ⟨i', ei, PO, cut⟩ | ⟨NO, cut⟩
    · obtain ⟨f2, f3, f4⟩ := row (payV d V i') U
      refine Or.inl ⟨_, _, payVm d W i', Or.inr (Or.inr (Or.inr ⟨rfl, i', ei, PO, rfl, rfl, rfl⟩)), _, ?_, f2, f3, f4⟩
      rw [tX10_takeStep]; simp only [oB_some, dR_some, cond_true, cond_false, if_true, if_false, Bool.true_and, Bool.and_true, Nat.beq_refl, q2, g0, g1, ne30, ne31, ne32, K3, cut, isZ1]
    · refine Or.inr ⟨fun V' U' W' R => ?_, h, ?_, Only.refl _ _, e1, e2⟩
      · rcases R with ⟨q, _⟩ | ⟨q, _⟩ | ⟨q, _⟩ | ⟨_, i', ei, PO, _⟩
        · exact absurd q ne30
        · exact absurd q ne31
        · exact absurd q ne32
        · have d6 : dc ≤ 6 := S.2.2.2.2.1.2.2.2.2.1.1
          exact NO i' ei (by have := PO.1; omega) PO
      · rw [tX10_takeStep]; simp only [oB_some, dR_some, cond_true, cond_false, if_true, if_false, Bool.true_and, Bool.and_true, Nat.beq_refl, q2, g0, g1, ne30, ne31, ne32, K3, cut, isZ0]
