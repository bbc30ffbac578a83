/-! ===== PURE: weaving, in the reference: all rows ===== -/
theorem deed2_4 {V r : Nat → Nat} : deedV V r 2 4 = mnN (V 4 + r 4) 9999 := by unfold deedV; rw [if_pos rfl, up1_s]
theorem deed0_2 {V r : Nat → Nat} : deedV V r 0 2 = V 2 - 1 := by unfold deedV; rw [if_neg (by decide), if_pos rfl, up1_s]
theorem deed_0o {V r : Nat → Nat} {k : Nat} (h : k ≠ 2) : deedV V r 0 k = V k := by unfold deedV; rw [if_neg (by decide), if_pos rfl, up1_o _ _ h]
theorem deed_2o {V r : Nat → Nat} {k : Nat} (h : k ≠ 4) : deedV V r 2 k = V k := by unfold deedV; rw [if_pos rfl, up1_o _ _ h]
theorem day_n1 {lw : Option ((Nat → Int32) × Nat)} {r V : Nat → Nat} {dd : Nat} (h : dd ≠ 1) : dayV lw r V dd = wkE (deedV V r dd) r dd := by unfold dayV; rw [if_neg h]
theorem day_y1 {lw : Option ((Nat → Int32) × Nat)} {r V : Nat → Nat} : dayV lw r V 1 = wkE (bolt V (tkV lw r V)) r 1 := by unfold dayV; rw [if_pos rfl]; rfl
theorem goWv_m {s : Nat} {r d b : Nat → Nat} {dc bc p : Nat} {lw : Option ((Nat → Int32) × Nat)} {w : Nat → Nat} (hp : p ≤ 60) : ∀ k D N row (h : Hp) (st : Option (Nat × Nat)) (V U : Nat → Nat), k ≤ D → N + k ≤ 5000 → STc h s r d b dc bc lw → hI h 160 = nR w → w 3 = V 3 → SVb N V U → encM h st → ∃ h', gGw (D + 1) 0 [vR (some 147), vI (nI k), vI (nI p), vI (nI (V 0)), vI (nI (V 1)), vI (nI (V 2)), vI (nI (V 4)), vI (nI (V 5)), vI (nI (V 10)), vI (nI (V 9)), vI (nI row)] h = some (rV, h') ∧ Mq h h' [] [39, 40] ∧ encM h' (wvF lw r p k V row st) := by
  intro k
  induction k with
  | zero =>
    intro D N row h st V U hD hN S ew e3 B E
    obtain ⟨b0, b1, b2, b3, b4, b5, b7, b9, b10, b11, b12, bu⟩ := B
    have : p * V 5 ≤ 60 * 60 := Nat.mul_le_mul hp (by omega)
    exact upd_m (smf S).1 E (by omega)
  | succ k ih =>
    intro D N row h st V U hD hN S ew e3 B E
    obtain ⟨D, rfl⟩ : ∃ D', D = D' + 1 := ⟨D - 1, by omega⟩
    have B0 := B
    obtain ⟨b0, b1, b2, b3, b4, b5, b7, b9, b10, b11, b12, bu⟩ := B
    have H := S.2.2.2.2.2.2.1
    have rb := S.2.2.2.2.1.2.2.2.2.2.2.2.2.2.1
    have i74 : inb 4 7 = true := by decide
    have c2 : (2 : Int32) = nI 2 := rfl
    have c1 : (1 : Int32) = nI 1 := rfl
    have keep : ∀ {g g' : Hp} {ks : List Nat}, STc g s r d b dc bc lw ∧ hI g 160 = nR w → Mq g g' [] ks → (∀ x ∈ ks, x = 39 ∨ x = 40) → STc g' s r d b dc bc lw ∧ hI g' 160 = nR w := fun {g g' ks} G q hk => ⟨st_sg G.1 (sg_mq q (by simp) (fun x hx => by have := hk x hx; omega)), by rw [q.2.2.2.2.2.2.1 160 (by omega) (by omega) (by simp)]; exact G.2⟩
    -- no deed left
    have L3 : ∀ (g : Hp) (o12 o13 o14 o15 o16 o17 : Option EV), Run (kX12_goWeaving (gGw (D + 1))) 48 [some (vR (some 147)), some (vI (nI (k + 1))), some (vI (nI p)), some (vI (nI (V 0))), some (vI (nI (V 1))), some (vI (nI (V 2))), some (vI (nI (V 4))), some (vI (nI (V 5))), some (vI (nI (V 10))), some (vI (nI (V 9))), some (vI (nI row)), some (vI (nI 3)), o12, o13, o14, o15, o16, o17] [] g = some (rV, g) := fun g o12 o13 o14 o15 o16 o17 => by
      rw [tX12_goWeaving_48 (gGw_G (D + 1))]; simp only [show (3 : Int32) ≤ nI 3 by decide, if_true]
    -- he ploughs
    have L2 : ∀ (g : Hp) (st : Option (Nat × Nat)) (o12 o13 o14 o15 o16 o17 : Option EV), STc g s r d b dc bc lw ∧ hI g 160 = nR w → encM g st → ∃ h', Run (kX12_goWeaving (gGw (D + 1))) 48 [some (vR (some 147)), some (vI (nI (k + 1))), some (vI (nI p)), some (vI (nI (V 0))), some (vI (nI (V 1))), some (vI (nI (V 2))), some (vI (nI (V 4))), some (vI (nI (V 5))), some (vI (nI (V 10))), some (vI (nI (V 9))), some (vI (nI row)), some (vI (nI 2)), o12, o13, o14, o15, o16, o17] [] g = some (rV, h') ∧ Mq g h' [] [39, 40] ∧ encM h' (wvF lw r p k (dayV lw r V 2) (10 * row + 2) st) := fun g st o12 o13 o14 o15 o16 o17 G E => by
      obtain ⟨M147, R18, K152, E152, R20, K154, E154, R22, K156, E156, R32, K160, E160, dcM, bcM⟩ := smf G.1
      have r4 := G.1.2.2.2.2.1.2.2.2.2.2.2.1 4 (by decide)
      have x1 : deedV V r 2 1 = V 1 := deed_2o (by decide)
      have x2 : deedV V r 2 2 = V 2 := deed_2o (by decide)
      obtain ⟨p13, p14, p15, p16, p17, e175⟩ := gw_175 (h := g) (X := deedV V r 2) (k := k) (dd := 2) (tk := 0) (mo := 0) (D := D + 1) (x2 := nI p) (x5 := nI (V 2)) (x6 := nI (V 4)) (x10 := nI row) (V0 := V 0) (V5 := V 5) (V10 := V 10) (V9 := V 9) G.1 (by decide) (by omega) b0 (by rw [x1]; exact b1) (by rw [x2]; omega) (by rw [deed_2o (by decide)]; rfl) (by rw [deed_2o (by decide)]; rfl) (by rw [deed_2o (by decide)]; rfl) (deed_2o (by decide)) rfl
      have C : canW V 2 (TK lw r (V 0) (V 2) (V 10) (V 9) (V 4)) := can0 (Or.inr rfl)
      have Bn := sv_day B0 H C
      have iron : dayV lw r V 2 3 = V 3 := by rw [day_n1 (by decide), wkE_o (by decide) (by decide) (by decide), deed_2o (by decide)]
      obtain ⟨h', f1, f2, f3⟩ := ih D (N + 1) (10 * row + 2) g st (dayV lw r V 2) U (by omega) (by omega) G.1 G.2 (by rw [iron]; exact e3) Bn E
      rw [day_n1 (by decide)] at f1
      have dig : (10 : Int32) * nI row + nI 2 = nI (10 * row + 2) := by rw [show (10 : Int32) * nI row = nI (10 * row) from pk_mul 10 row, nI_add]
      rw [dig, x1, x2, show (2 : Nat) + 1 = 3 from rfl, f1, oB_some, L3] at e175
      refine ⟨h', ?_, f2, f3⟩
      have mm : (if nI (V 4 + r 4) < (9999 : Int32) then nI (V 4 + r 4) else 9999) = nI (deedV V r 2 4) := by rw [deed2_4]; exact mn' (b := 9999) (by have := rb 4; omega) (by omega)
      rw [tX12_goWeaving_48 (gGw_G (D + 1))]
      simp only [oB_some, dR_some, cond_true, cond_false, if_true, if_false, Bool.true_and, Bool.and_true, Nat.beq_refl, show ¬ (3 : Int32) ≤ nI 2 by decide, show ¬ nI 2 = (1 : Int32) by decide, tX12_goWeaving_107 (gGw_G (D + 1)), show ¬ nI 2 = (0 : Int32) by decide, show nI 2 = (2 : Int32) from rfl, ne20, ne21, M147, R18, K152, E152, iaK20, i74, tc4, r4, nI_add, mm]
      exact e175
    have tl : TK lw r (V 0) (V 2) (V 10) (V 9) (V 4) ≤ 60 := TK_le (by have := rb 3; omega) _ _ _ _ _
    -- she weaves, if she can
    have L1 : ∀ (g : Hp) (st : Option (Nat × Nat)) (o12 o13 o14 o15 o16 o17 : Option EV), STc g s r d b dc bc lw ∧ hI g 160 = nR w → encM g st → ∃ h', Run (kX12_goWeaving (gGw (D + 1))) 48 [some (vR (some 147)), some (vI (nI (k + 1))), some (vI (nI p)), some (vI (nI (V 0))), some (vI (nI (V 1))), some (vI (nI (V 2))), some (vI (nI (V 4))), some (vI (nI (V 5))), some (vI (nI (V 10))), some (vI (nI (V 9))), some (vI (nI row)), some (vI (nI 1)), o12, o13, o14, o15, o16, o17] [] g = some (rV, h') ∧ Mq g h' [] [39, 40] ∧ encM h' (wvF lw r p k (dayV lw r V 2) (10 * row + 2) (pIf (canW V 1 (tkV lw r V)) (wvF lw r p k (dayV lw r V 1) (10 * row + 1) st) st)) := fun g st o12 o13 o14 o15 o16 o17 G E => by
      obtain ⟨g1, t1, mo⟩ := takesBy_s G.1 (V 0) (V 2) (V 10) (V 9) (V 4)
      have G1 := keep G (mo.mq [] []) (by simp)
      have E1 := encM_mo E mo
      have M147 := (smf G.1).1
      obtain ⟨M147p, R18p, K152p, E152p, R20p, K154p, E154p, R22p, K156p, E156p, R32p, K160p, E160p, dcMp, bcMp⟩ := smf G1.1
      have q60 : (nI (V 10) = (60 : Int32)) = (V 10 = 60) := nI_neq' (b := 60) (by omega) (by omega)
      have q1 : (nI (V 1) = (1 : Int32)) = (V 1 = 1) := nI_neq' (b := 1) (by omega) (by omega)
      have q0 : (nI (TK lw r (V 0) (V 2) (V 10) (V 9) (V 4)) < nI (V 0)) = (TK lw r (V 0) (V 2) (V 10) (V 9) (V 4) < V 0) := nI_nlt' (by omega) (by omega)
      by_cases C : canW V 1 (TK lw r (V 0) (V 2) (V 10) (V 9) (V 4))
      · obtain ⟨cc1, cc2, cc3⟩ := C.1 rfl
        rw [pIf_t (show canW V 1 (tkV lw r V) from C)]
        have x1 : bolt V (tkV lw r V) 1 = V 1 := bolt_o (by decide) (by decide) (by decide) (by decide) (by decide)
        have x4 : bolt V (tkV lw r V) 4 = V 4 := bolt_o (by decide) (by decide) (by decide) (by decide) (by decide)
        have x2 : bolt V (tkV lw r V) 2 = if V 3 = 0 then V 2 + 1 else V 2 := bolt_2
        obtain ⟨p13, p14, p15, p16, p17, e175⟩ := gw_175 (h := g1) (X := bolt V (tkV lw r V)) (k := k) (dd := 1) (tk := tkV lw r V) (mo := 1) (D := D + 1) (x2 := nI p) (x5 := nI (V 2)) (x6 := nI (V 4)) (x10 := nI row) (V0 := V 0) (V5 := V 5) (V10 := V 10) (V9 := V 9) G1.1 (by decide) (by unfold tkV; omega) b0 (by rw [x1]; exact b1) (by rw [x2]; split <;> omega) bolt_0 bolt_5 bolt_10 (bolt_o (by decide) (by decide) (by decide) (by decide) (by decide)) rfl
        have Bn := sv_day B0 H C
        have iron : dayV lw r V 1 3 = V 3 := by rw [day_y1, wkE_o (by decide) (by decide) (by decide), bolt_o (by decide) (by decide) (by decide) (by decide) (by decide)]
        obtain ⟨h', f1, f2, f3⟩ := ih D (N + 1) (10 * row + 1) g1 st (dayV lw r V 1) U (by omega) (by omega) G1.1 G1.2 (by rw [iron]; exact e3) Bn E1
        rw [day_y1] at f1
        have dig : (10 : Int32) * nI row + nI 1 = nI (10 * row + 1) := by rw [show (10 : Int32) * nI row = nI (10 * row) from pk_mul 10 row, nI_add]
        obtain ⟨h'', y1, y2, y3⟩ := L2 h' _ none p13 p14 p15 p16 p17 (keep G1 f2 (by simp)) f3
        rw [dig, x1, x4, x2, show (1 : Nat) + 1 = 2 from rfl, f1, oB_some, y1] at e175
        refine ⟨h'', ?_, ((mo.mq [] [39, 40]).trans f2).trans y2, y3⟩
        have w3 : hI g1 160 3 = nI (V 3) := by rw [G1.2]; show nI (w 3) = _; rw [e3]
        rw [tX12_goWeaving_48 (gGw_G (D + 1))]
        by_cases v3 : V 3 = 0
        · rw [if_pos v3] at e175
          have z3 : (nI (V 3) = (0 : Int32)) = True := eq_true (by rw [v3]; rfl)
          simp only [oB_some, dR_some, cond_true, cond_false, if_true, if_false, Bool.true_and, Bool.and_true, Nat.beq_refl, show ¬ (3 : Int32) ≤ nI 1 by decide, show (nI 1 = (1 : Int32)) = True from eq_true rfl, M147, t1, q1, show ¬ V 1 = 1 by omega, q60, show ¬ V 10 = 60 by omega, q0, cc3, tX12_goWeaving_107 (gGw_G (D + 1)), show ¬ nI 1 = (0 : Int32) by decide, M147p, R32p, K160p, E160p, iaK20, ib3, tc3, w3, z3, show ¬ nI 1 = (2 : Int32) by decide, nI_1]
          exact e175
        · rw [if_neg v3] at e175
          have z3 : ¬ nI (V 3) = (0 : Int32) := nI_nz (by omega) (by omega)
          simp only [oB_some, dR_some, cond_true, cond_false, if_true, if_false, Bool.true_and, Bool.and_true, Nat.beq_refl, show ¬ (3 : Int32) ≤ nI 1 by decide, show (nI 1 = (1 : Int32)) = True from eq_true rfl, M147, t1, q1, show ¬ V 1 = 1 by omega, q60, show ¬ V 10 = 60 by omega, q0, cc3, tX12_goWeaving_107 (gGw_G (D + 1)), show ¬ nI 1 = (0 : Int32) by decide, M147p, R32p, K160p, E160p, iaK20, ib3, tc3, w3, z3, show ¬ nI 1 = (2 : Int32) by decide]
          exact e175
      · rw [pIf_f (show ¬ canW V 1 (tkV lw r V) from C)]
        obtain ⟨h'', y1, y2, y3⟩ := L2 g1 st (some (vI (nI (TK lw r (V 0) (V 2) (V 10) (V 9) (V 4))))) none none none none none G1 E1
        refine ⟨h'', ?_, (mo.mq [] [39, 40]).trans y2, y3⟩
        have no : V 1 = 1 ∨ (¬ V 1 = 1 ∧ V 10 = 60) ∨ (¬ V 1 = 1 ∧ ¬ V 10 = 60 ∧ ¬ TK lw r (V 0) (V 2) (V 10) (V 9) (V 4) < V 0) := by
          by_cases z1 : V 1 = 1
          · exact Or.inl z1
          by_cases z2 : V 10 = 60
          · exact Or.inr (Or.inl ⟨z1, z2⟩)
          · refine Or.inr (Or.inr ⟨z1, z2, fun z3 => C ⟨fun _ => ⟨by omega, by omega, z3⟩, fun q => absurd q (by decide)⟩⟩)
        rw [tX12_goWeaving_48 (gGw_G (D + 1))]
        rcases no with z1 | ⟨z1, z2⟩ | ⟨z1, z2, z3⟩
        · simp only [oB_some, dR_some, cond_true, cond_false, if_true, if_false, Bool.true_and, Bool.and_true, Nat.beq_refl, show ¬ (3 : Int32) ≤ nI 1 by decide, show (nI 1 = (1 : Int32)) = True from eq_true rfl, M147, t1, q1.trans (eq_true z1), nI_1]
          exact y1
        · simp only [oB_some, dR_some, cond_true, cond_false, if_true, if_false, Bool.true_and, Bool.and_true, Nat.beq_refl, show ¬ (3 : Int32) ≤ nI 1 by decide, show (nI 1 = (1 : Int32)) = True from eq_true rfl, M147, t1, q1, z1, q60.trans (eq_true z2), nI_1]
          exact y1
        · simp only [oB_some, dR_some, cond_true, cond_false, if_true, if_false, Bool.true_and, Bool.and_true, Nat.beq_refl, show ¬ (3 : Int32) ≤ nI 1 by decide, show (nI 1 = (1 : Int32)) = True from eq_true rfl, M147, t1, q1, z1, q60, z2, q0, z3, nI_1]
          exact y1
    -- she rests
    have x1 : deedV V r 0 1 = V 1 := deed_0o (by decide)
    have x4 : deedV V r 0 4 = V 4 := deed_0o (by decide)
    obtain ⟨p13, p14, p15, p16, p17, e175⟩ := gw_175 (h := h) (X := deedV V r 0) (k := k) (dd := 0) (tk := 0) (mo := 0) (D := D + 1) (x2 := nI p) (x5 := nI (V 2)) (x6 := nI (V 4)) (x10 := nI row) (V0 := V 0) (V5 := V 5) (V10 := V 10) (V9 := V 9) S (by decide) (by omega) b0 (by rw [x1]; exact b1) (by rw [deed0_2]; omega) (by rw [deed_0o (by decide)]; rfl) (by rw [deed_0o (by decide)]; rfl) (by rw [deed_0o (by decide)]; rfl) (deed_0o (by decide)) rfl
    have C : canW V 0 (TK lw r (V 0) (V 2) (V 10) (V 9) (V 4)) := can0 (Or.inl rfl)
    have Bn := sv_day B0 H C
    have iron : dayV lw r V 0 3 = V 3 := by rw [day_n1 (by decide), wkE_o (by decide) (by decide) (by decide), deed_0o (by decide)]
    obtain ⟨h', f1, f2, f3⟩ := ih D (N + 1) (10 * row + 0) h st (dayV lw r V 0) U (by omega) (by omega) S ew (by rw [iron]; exact e3) Bn E
    rw [day_n1 (by decide)] at f1
    have dig : (10 : Int32) * nI row + nI 0 = nI (10 * row + 0) := by rw [show (10 : Int32) * nI row = nI (10 * row) from pk_mul 10 row, nI_add]
    obtain ⟨h'', y1, y2, y3⟩ := L1 h' _ none p13 p14 p15 p16 p17 (keep ⟨S, ew⟩ f2 (by simp)) f3
    rw [dig, x1, x4, deed0_2, show (0 : Nat) + 1 = 1 from rfl, f1, oB_some, y1] at e175
    refine ⟨h'', ?_, f2.trans y2, by rw [wvF_s]; exact y3⟩
    show Fm (kX12_goWeaving (gGw (D + 1))) 18 _ h = _
    have mm : (if (0 : Int32) < nI (V 2) - 1 then nI (V 2) - 1 else 0) = nI (V 2 - 1) := mx0 (a := V 2) (b := 1) (by omega) (by omega)
    have nk : ¬ nI (k + 1) = 0 := nI_nz (by omega) (by omega)
    rw [tX12_goWeaving (gGw_G (D + 1)), if_neg nk, tX12_goWeaving_48 (gGw_G (D + 1))]
    simp only [oB_some, dR_some, cond_true, cond_false, if_true, if_false, Bool.true_and, Bool.and_true, Nat.beq_refl, show ¬ (3 : Int32) ≤ 0 by decide, ne01, tX12_goWeaving_107 (gGw_G (D + 1)), ne02, mm]
    exact e175
