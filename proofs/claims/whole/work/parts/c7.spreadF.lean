/-! ===== PURE: the soonest week, by the class: from one place ===== -/
theorem wkE_gr {r X : Nat → Nat} {dd : Nat} (g : X 1 = 0) (h3 : dd ≠ 3) : (X 2 < r 6 → wkE X r dd 1 = 0 ∧ wkE X r dd 0 = grS r (X 0)) ∧ (¬ X 2 < r 6 → wkE X r dd 1 = 1) := by
  unfold wkE growV
  refine ⟨fun c => ?_, fun c => ?_⟩
  · rw [if_pos g, if_neg h3, if_pos c]
    refine ⟨?_, ?_⟩
    · rw [up1_o _ _ (by decide), up1_o _ _ (by decide)]; exact g
    · rw [up1_o _ _ (by decide), up1_s]; rfl
  · rw [if_pos g, if_neg h3, if_neg c, up1_o _ _ (by decide), up1_s]
theorem dv0 {lw : Option ((Nat → Int32) × Nat)} {r V : Nat → Nat} (g : V 1 = 0) : (V 2 - 1 < r 6 → dayV lw r V 0 1 = 0 ∧ dayV lw r V 0 0 = grS r (V 0)) ∧ (¬ V 2 - 1 < r 6 → dayV lw r V 0 1 = 1) ∧ dayV lw r V 0 2 = V 2 - 1 := by
  have e : dayV lw r V 0 = wkE (up1 V 2 (V 2 - 1)) r 0 := by unfold dayV deedV; rw [if_neg (by decide), if_neg (by decide), if_pos rfl]
  have g' : up1 V 2 (V 2 - 1) 1 = 0 := by rw [up1_o _ _ (by decide)]; exact g
  have e2 : up1 V 2 (V 2 - 1) 2 = V 2 - 1 := up1_s _ _ _
  obtain ⟨k1, k2⟩ := wkE_gr (r := r) (X := up1 V 2 (V 2 - 1)) (dd := 0) g' (by decide)
  rw [e2, up1_o _ _ (by decide)] at k1
  rw [e2] at k2
  rw [e]
  exact ⟨k1, k2, by rw [wkE_o (by decide) (by decide) (by decide), up1_s]⟩
theorem dv1 {lw : Option ((Nat → Int32) × Nat)} {r V : Nat → Nat} {tk : Nat} (g : V 1 = 0) (et : TK lw r (V 0) (V 2) (V 10) (V 9) (V 4) = tk) : (V 2 + jS V < r 6 → dayV lw r V 1 1 = 0 ∧ dayV lw r V 1 0 = grS r (V 0 - tk)) ∧ (¬ V 2 + jS V < r 6 → dayV lw r V 1 1 = 1) ∧ dayV lw r V 1 2 = V 2 + jS V := by
  have e : dayV lw r V 1 = wkE (bolt V tk) r 1 := by unfold dayV; rw [if_pos rfl, et]
  have g' : bolt V tk 1 = 0 := by rw [bolt_o (by decide) (by decide) (by decide) (by decide) (by decide)]; exact g
  have e2 : bolt V tk 2 = V 2 + jS V := by
    rw [bolt_2]; unfold jS
    by_cases c : V 3 = 0
    · rw [if_pos c, if_pos c]
    · rw [if_neg c, if_neg c]; rfl
  obtain ⟨k1, k2⟩ := wkE_gr (r := r) (X := bolt V tk) (dd := 1) g' (by decide)
  rw [e2, bolt_0] at k1
  rw [e2] at k2
  rw [e]
  exact ⟨k1, k2, by rw [wkE_o (by decide) (by decide) (by decide), e2]⟩
theorem srl_f {h : Hp} (L : SRl h) : hK h 103 = 8 ∧ hR h 103 0 = some 3 ∧ hR h 103 1 = some 104 ∧ hK h 104 = 34 ∧ hE h 104 = 9 ∧ hR h 104 1 = some 110 ∧ hK h 110 = 4 := ⟨L.1.2.1, L.1.2.2.1, L.1.2.2.2.1, L.1.2.2.2.2.1, L.1.2.2.2.2.2, (L.2.1 1 (by omega)).1, (L.2.1 1 (by omega)).2.1⟩
/-- a bolt more, and as many as asked -/
def hitC (lw : Option ((Nat → Int32) × Nat)) (r v : Nat → Nat) (wk b1 d q m : Nat) : Prop := (∃ d' q' m', wvS lw r v wk d q m d' q' m') ∧ ¬ m + 1 < b1
theorem spreadFrom_c {h : Hp} {s : Nat} {r d b : Nat → Nat} {dc bc : Nat} {lw : Option ((Nat → Int32) × Nat)} {v u w lg bk z : Nat → Nat} {A x : Nat} (I : AINV h s r d b dc bc lw v u w lg bk z A x) (L : SRl h) {a1 a2 m q dn n b1 : Nat} (W : SW h a1 a2) (g1 : v 1 = 0) (hq : q < 21) (hm : m < b1) (hb : b1 ≤ 9) (hd : dn ≤ 60) (hn : 1 ≤ n) (hn3 : n ≤ 30) (bb1 : q ≤ 9 + v 10 + m) (bb2 : v 10 + m ≤ 60) : ∃ res h', FX8_spreadFrom [vR (some 103), vR (some 10), vI (nI (m * 21 + q)), vI (nI dn), vI (nI b1), vI (nI n)] h = some (rI res, h') ∧ SG1 h h' ∧ hL h' a1 = hL h a1 ∧ ((hitC lw r v (v 9 + n - 1) b1 dn q m ∧ res = 1) ∨ (¬ hitC lw r v (v 9 + n - 1) b1 dn q m ∧ res = 0 ∧ ∀ R, CB h a2 R → CB h' a2 (fun j q' m' => R j q' m' ∨ stS lw r v (v 9 + n - 1) dn q m j q' m'))) := by
  have Hb := I.2.1.2.2.2.2.2.1
  have r1 : r 1 ≤ 60 := Hb.2.2.1
  have r6 : r 6 ≤ 20 := Hb.2.2.2.2.2.2.2.2.2.1
  have v3 : v 3 ≤ 1 := I.2.2.1.2.1.2.2.2.1
  have j1 : jS v ≤ 1 := by unfold jS; split <;> omega
  obtain ⟨e21, _⟩ := q21 hq (show m < 9 by omega)
  -- rest
  obtain ⟨h2, V, U, x1, O2, hV, hU, ⟨V0, V1, V2, V3, V4, V9, V10⟩, B2⟩ := setAt_c I L g1 hq (show m < 9 by omega) hd hn hn3 bb1 bb2
  have G2 : SG1 h h2 := sg1_only O2 (by decide)
  have I2 := ainv_ag I (sf_ag G2.1)
  have L2 := sf_srl G2.1 L
  obtain ⟨h6, x2, O6, hV6, hU6⟩ := (pass_s (dd := 0) (stI I2) (ll_sr L2 I2.2.1.1 (show 1 < 9 by omega)) (by omega) hV hU B2 (by omega) (by omega)).1 ⟨fun z => by omega, fun z => by omega⟩
  have G6 : SG1 h2 h6 := sg1_only O6 (by decide)
  have I6 := ainv_ag I2 (sf_ag G6.1)
  have L6 := sf_srl G6.1 L2
  obtain ⟨p1, p2, p3⟩ := dv0 (lw := lw) (r := r) V1
  have pl : dayV lw r V 0 1 ≤ 1 := by
    by_cases c : V 2 - 1 < r 6
    · rw [(p1 c).1]; omega
    · rw [p2 c]; omega
  have pz : dayV lw r V 0 1 = 0 → V 2 - 1 < r 6 := fun z => by
    by_cases c : V 2 - 1 < r 6
    · exact c
    · have := p2 c; omega
  have W6 := sw_g1 G6 (sw_g1 G2 W)
  obtain ⟨h18, x3, G18, A18, C18⟩ := reach_c L6 W6 hV6 (show m < 9 by omega) (fun z => by rw [(p1 (pz z)).2]; exact grS_le r1) pl (by rw [p3]; omega)
  have I18 := ainv_ag I6 (sf_ag G18.1)
  have L18 := sf_srl G18.1 L6
  have W18 := sw_g1 G18 W6
  have na : a2 = 105 ∨ a2 = 106 := by have := W.2.2.1; omega
  -- weave
  obtain ⟨h20, V', U', x4, O20, hV', hU', ⟨V0', V1', V2', V3', V4', V9', V10'⟩, B20⟩ := setAt_c I18 L18 g1 hq (show m < 9 by omega) hd hn hn3 bb1 bb2
  have G20 : SG1 h18 h20 := sg1_only O20 (by decide)
  have I20 := ainv_ag I18 (sf_ag G20.1)
  have L20 := sf_srl G20.1 L18
  have W20 := sw_g1 G20 W18
  have pw := pass_s (dd := 1) (stI I20) (ll_sr L20 I20.2.1.1 (show 1 < 9 by omega)) (by omega) hV' hU' B20 (by omega) (by omega)
  have et : TK lw r (V' 0) (V' 2) (V' 10) (V' 9) (V' 4) = tkS lw r v (v 9 + n - 1) dn q m := by rw [V0', V2', V10', V9', V4']; rfl
  have cw : canW V' 1 (TK lw r (V' 0) (V' 2) (V' 10) (V' 9) (V' 4)) ↔ (v 10 + m < 60 ∧ tkS lw r v (v 9 + n - 1) dn q m < dn) := by
    rw [et]; unfold canW; rw [V1', V10', V0']
    exact ⟨fun z => (z.1 rfl).2, fun z => ⟨fun _ => ⟨rfl, z⟩, fun y => by omega⟩⟩
  have jV : jS V' = jS v := by unfold jS; rw [V3']
  obtain ⟨f1, f2, f3, f4, f5, f6, f7⟩ := srl_f L
  obtain ⟨f1', f2', f3', f4', f5', f6', f7'⟩ := srl_f L2
  obtain ⟨k1, k2, k3, k4, k5, k6, k7⟩ := srl_f L6
  obtain ⟨l1, l2, l3, l4, l5, l6, l7⟩ := srl_f L18
  obtain ⟨m1, m2, m3, m4, m5, m6, m7⟩ := srl_f L20
  obtain ⟨K02, R012, R022, R042, R052, K32, R302, Ks2, Rs22, Rs32, Rs42, Ks12, Es12, Ks22, Es22, Ks32, Es32, K102, R1082, K112, E112, K142, K982, td2, dcC2, bcC2, Ev2, Eu2⟩ := cfa I2
  obtain ⟨K020, R0120, R0220, R0420, R0520, K320, R3020, Ks20, Rs220, Rs320, Rs420, Ks120, Es120, Ks220, Es220, Ks320, Es320, K1020, R10820, K1120, E1120, K1420, K9820, td20, dcC20, bcC20, Ev20, Eu20⟩ := cfa I20
  have x2' : FX10_passWeek [vR (some 3), vR (some 110), vI 0] h2 = some (rI 1, h6) := x2
  have GA : SG1 h h20 := ((G2.trans G6).trans G18).trans G20
  have hA : hL h20 a1 = hL h a1 := by rw [O20.L, A18, O6.L, O2.L]
  have C20 : ∀ R, CB h a2 R → CB h20 a2 (fun j q' m' => R j q' m' ∨ rsS r dn q m j q' m') := fun R C => by
    have := C18 R (cb_row C (by rw [O6.L, O2.L]))
    intro q' m' j h1 h2 h3
    rw [O20.L, this q' m' j h1 h2 h3]
    constructor
    · rintro (z | ⟨z1, z2, z3, z4⟩)
      · exact Or.inl z
      · have c := pz z1
        refine Or.inr ⟨by omega, ?_, by omega, by omega⟩
        rw [z2, (p1 c).2, V0]
    · rintro (z | ⟨z1, z2, z3, z4⟩)
      · exact Or.inl z
      · have c : V 2 - 1 < r 6 := by omega
        refine Or.inr ⟨(p1 c).1, ?_, by omega, by omega⟩
        rw [z2, (p1 c).2, V0]
  have pre : ∀ (res : Int32) (h' : Hp), (oB (FX10_passWeek [vR (some 3), vR (some 110), vI 1] h20) (fun r23 h24 => if r23.1 = 0 then (bif isZ 0 then some (rI 0, h24) else none) else if hK h24 103 = 8 then dR (hR h24 103 1) (fun a25 => bif Nat.beq (hK h24 a25) 34 && inb 1 (hE h24 a25) then dR (hR h24 a25 1) (fun a26 => if hK h24 a26 = 4 then if (hI h24 a26 1) = 0 then if (nI m + 1) < nI b1 then bif Nat.beq (hK h24 103) 8 then oB (FX8_reach [vR (some 103), vI (nI m + 1)] h24) (fun r27 h28 => (bif isZ 0 then some (rI 0, h28) else none)) else none else (bif isZ 1 then some (rI 1, h24) else none) else (bif isZ 0 then some (rI 0, h24) else none) else none) else none) else none)) = some (rI res, h') → FX8_spreadFrom [vR (some 103), vR (some 10), vI (nI (m * 21 + q)), vI (nI dn), vI (nI b1), vI (nI n)] h = some (rI res, h') := by
    intro res h' z
    rw [tX8_spreadFrom]
    simp only [oB_some, dR_some, cond_true, cond_false, if_true, if_false, Bool.true_and, Bool.and_true, Nat.beq_refl, nb21, f1, x1, f1', f2', f3', f4', f5', f6', K32, show inb 1 9 = true from by decide, show (1 : Int32).toNatClampNeg = 1 from by decide, x2']
    simp only [oB_some, dR_some, cond_true, cond_false, if_true, if_false, Bool.true_and, Bool.and_true, Nat.beq_refl, ne10, k1, e21, x3, l1, x4, m1, m2, m3, m4, m5, m6, K320, show inb 1 9 = true from by decide, show (1 : Int32).toNatClampNeg = 1 from by decide]
    exact z
  by_cases c : v 10 + m < 60 ∧ tkS lw r v (v 9 + n - 1) dn q m < dn
  · obtain ⟨h24, x5, O24, hV24, _⟩ := pw.1 (cw.mpr c)
    have G24 : SG1 h20 h24 := sg1_only O24 (by decide)
    have L24 := sf_srl G24.1 L20
    have W24 := sw_g1 G24 W20
    obtain ⟨n1, n2, n3, n4, n5, n6, n7⟩ := srl_f L24
    obtain ⟨y1, y2, y3⟩ := dv1 (lw := lw) (r := r) V1' et
    rw [jV, V2'] at y1 y2 y3
    have ev : hI h24 110 1 = nI (dayV lw r V' 1 1) := by rw [hV24]; rfl
    have C24 : ∀ R, CB h a2 R → CB h24 a2 (fun j q' m' => R j q' m' ∨ rsS r dn q m j q' m') := fun R C => cb_row (C20 R C) (by rw [O24.L])
    by_cases c2 : q + jS v < r 6
    · have g0 := (y1 c2).1
      have wv : wvS lw r v (v 9 + n - 1) dn q m (grS r (dn - tkS lw r v (v 9 + n - 1) dn q m)) (q + jS v) (m + 1) := ⟨c.1, c.2, by omega, c2, rfl, rfl, rfl⟩
      by_cases c3 : m + 1 < b1
      · obtain ⟨h28, x6, G28, A28, C28⟩ := reach_c L24 W24 hV24 (show m + 1 < 9 by omega) (fun _ => by rw [(y1 c2).2]; exact grS_le r1) (by rw [g0]; omega) (by rw [y3]; omega)
        have q3 : nI (m + 1) < nI b1 := by rw [nI_nlt' (by omega) (by omega)]; exact c3
        refine ⟨0, h28, pre _ _ ?_, (GA.trans G24).trans G28, by rw [A28, O24.L, hA], Or.inr ⟨fun z => z.2 c3, rfl, fun R C => ?_⟩⟩
        · rw [show (1 : Int32) = nI 1 from rfl, x5]
          simp only [oB_some, dR_some, cond_true, cond_false, if_true, if_false, Bool.true_and, Bool.and_true, Nat.beq_refl, show ¬ (1 : Int32) = 0 from by decide, show (nI 1) = 1 from rfl, n1, n3, n4, n5, n6, n7, show inb 1 9 = true from by decide, show (1 : Int32).toNatClampNeg = 1 from by decide, ev, g0, nI_0, nI_1, q3, x6, isZ0]
        · intro q' m' j h1 h2 h3
          rw [C28 _ (C24 R C) q' m' j h1 h2 h3, g0, y3, (y1 c2).2, V0']
          constructor
          · rintro ((z | z) | ⟨_, z2, z3, z4⟩)
            · exact Or.inl z
            · exact Or.inr (Or.inl z)
            · exact Or.inr (Or.inr ⟨c.1, c.2, by omega, c2, z2, z3, z4⟩)
          · rintro (z | z | ⟨_, _, _, _, z2, z3, z4⟩)
            · exact Or.inl (Or.inl z)
            · exact Or.inl (Or.inr z)
            · exact Or.inr ⟨rfl, z2, z3, z4⟩
      · have q3 : ¬ nI (m + 1) < nI b1 := by rw [nI_nlt' (by omega) (by omega)]; exact c3
        refine ⟨1, h24, pre _ _ ?_, GA.trans G24, by rw [O24.L, hA], Or.inl ⟨⟨⟨_, _, _, wv⟩, c3⟩, rfl⟩⟩
        rw [show (1 : Int32) = nI 1 from rfl, x5]
        simp only [oB_some, dR_some, cond_true, cond_false, if_true, if_false, Bool.true_and, Bool.and_true, Nat.beq_refl, show ¬ (1 : Int32) = 0 from by decide, show (nI 1) = 1 from rfl, n1, n3, n4, n5, n6, n7, show inb 1 9 = true from by decide, show (1 : Int32).toNatClampNeg = 1 from by decide, ev, g0, nI_0, nI_1, q3, isZ1]
    · have g0 := y2 c2
      refine ⟨0, h24, pre _ _ ?_, GA.trans G24, by rw [O24.L, hA], Or.inr ⟨fun z => by obtain ⟨⟨_, _, _, z1⟩, _⟩ := z; exact c2 z1.2.2.2.1, rfl, fun R C q' m' j h1 h2 h3 => ?_⟩⟩
      · rw [show (1 : Int32) = nI 1 from rfl, x5]
        simp only [oB_some, dR_some, cond_true, cond_false, if_true, if_false, Bool.true_and, Bool.and_true, Nat.beq_refl, show ¬ (1 : Int32) = 0 from by decide, show (nI 1) = 1 from rfl, n1, n3, n4, n5, n6, n7, show inb 1 9 = true from by decide, show (1 : Int32).toNatClampNeg = 1 from by decide, ev, g0, isZ0]
      · rw [C24 R C q' m' j h1 h2 h3]
        constructor
        · rintro (z | z)
          · exact Or.inl z
          · exact Or.inr (Or.inl z)
        · rintro (z | z | z)
          · exact Or.inl z
          · exact Or.inr z
          · exact absurd z.2.2.2.1 c2
  · obtain ⟨h24, x5, O24⟩ := pw.2 (fun z => c (cw.mp z))
    have G24 : SG1 h20 h24 := sg1_only O24 (by decide)
    refine ⟨0, h24, pre _ _ ?_, GA.trans G24, by rw [O24.L, hA], Or.inr ⟨fun z => by obtain ⟨⟨_, _, _, z1⟩, _⟩ := z; exact c ⟨z1.1, z1.2.1⟩, rfl, fun R C q' m' j h1 h2 h3 => ?_⟩⟩
    · rw [show (1 : Int32) = nI 1 from rfl, x5]
      simp only [oB_some, dR_some, cond_true, cond_false, if_true, if_false, Bool.true_and, Bool.and_true, Nat.beq_refl, isZ0]
    · rw [show hL h24 = hL h20 from O24.L, C20 R C q' m' j h1 h2 h3]
      constructor
      · rintro (z | z)
        · exact Or.inl z
        · exact Or.inr (Or.inl z)
      · rintro (z | z | z)
        · exact Or.inl z
        · exact Or.inr z
        · exact absurd ⟨z.1, z.2.1⟩ c
