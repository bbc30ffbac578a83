/-! ===== PURE: stands, bears: by both ===== -/
theorem ag_side {x : Nat} {h h' : Hp} (O : Only h h' [8, 9, 12, 13]) : AG x h h' := ag_only O (fun a ha => by unfold frC; simp at ha; omega) (by simp)
theorem ag_side' {x : Nat} {h h' : Hp} (O : Only h h' [8, 9]) : AG x h h' := ag_only O (fun a ha => by unfold frC; simp at ha; omega) (by simp)
theorem ag_row {x : Nat} {h h' : Hp} (Q : Mq h h' [161] []) : AG x h h' := ag_mq Q (fun a ha => by unfold frM; simp at ha; omega) (by simp)
theorem ag_mo {x : Nat} {h h' : Hp} (Q : Mo h h') : AG x h h' := ag_mq (Q.mq [] []) (by simp) (by simp)
theorem stands_loop {s : Nat} {r d b : Nat → Nat} {dc bc : Nat} {lw : Option ((Nat → Int32) × Nat)} {v u w lg bk z : Nat → Nat} {A x : Nat} : ∀ k n (h : Hp) (V U ww : Nat → Nat), n + k = 60 → AINV h s r d b dc bc lw v u w lg bk z A x → LSd h → hI h 12 = nR V → hI h 13 = nR U → SVb (999 + n) V U → MR V U ww → ww 200 ≤ 60 → ∃ res h1, Run kX11_stands 22 [some (vR (some 0)), some (vI (nI n))] [] h = some (rI res, h1) ∧ Only h h1 [8, 9, 12, 13] ∧ ∀ g : Hp, AINV g s r d b dc bc lw v u w lg bk z A x → LSd g → hI g 161 = nR ww → ∃ g1, Run kX12_stands 27 [some (vR (some 147)), some (vI (nI n))] [] g = some (rI res, g1) ∧ Mq g g1 [161] [] := by
  intro k
  induction k with
  | zero =>
    intro n h V U ww e I S e1 e2 B M' h200
    have c : (60 : Int32) ≤ nI n := nI_le (a := 60) (by omega) (by omega)
    refine ⟨nI n, h, ?_, Only.refl _ _, fun g J Sg eg => ⟨g, ?_, mq_refl _ _ _⟩⟩
    · rw [tX11_stands_22]; simp only [c, if_true]
    · rw [tX12_stands_27]; simp only [c, if_true]
  | succ k ih =>
    intro n h V U ww e I S e1 e2 B M' h200
    obtain ⟨K0, R01, R02, R04, R05, K3, R30, Ks, Rs2, Rs3, Rs4, Ks1, Es1, Ks2, Es2, Ks3, Es3, K10, R108, K11, E11, K14, K98, td, dcC, bcC, Ev, Eu⟩ := cfa I
    have c : ¬ (60 : Int32) ≤ nI n := nI_ge (b := 60) (by omega) (by omega)
    have P := pass_s (dd := 1) (stI I) (ll_12 S I.2.1.1) (by decide) e1 e2 B (by omega) (by decide)
    have n1 : nI 1 = (1 : Int32) := rfl
    rw [n1] at P
    by_cases C : canW V 1 (TK lw r (V 0) (V 2) (V 10) (V 9) (V 4))
    · obtain ⟨h', p1, O, e1', e2'⟩ := P.1 C
      have O' : Only h h' [8, 9, 12, 13] := O
      obtain ⟨res, h1, a1, a2, a3⟩ := ih (n + 1) h' (dayV lw r V 1) U (dayM lw r ww 1) (by omega) (ainv_ag I (ag_side O')) (ls_only S O') e1' e2' (sv_day B I.2.1.2.2.2.2.2.1 C) (mr_dayS M' C) (dayM_200 h200 (fun _ => by rw [M'.2.2.2.2]; exact (C.1 rfl).2.1))
      refine ⟨res, h1, ?_, O'.trans a2, fun g J Sg eg => ?_⟩
      · rw [tX11_stands_22]; simp only [oB_some, dR_some, cond_true, cond_false, if_true, if_false, Bool.true_and, Bool.and_true, Nat.beq_refl, c, K0, R01, K3, S.1, p1, ne10, nI_1]; exact a1
      · obtain ⟨M147, R18, K152, E152, R20, K154, E154, R22, K156, E156, R32, K160, E160, dcM, bcM, Ew⟩ := mfa J
        obtain ⟨g2, c1, mo⟩ := (canWv_s (stI J) Sg.2.2.2 (by omega) eg M' B (by omega)).1 C
        have J2 := ainv_ag J (ag_mo mo)
        have S2 := ls_mq Sg (mo.mq [] [])
        have eg2 : hI g2 161 = nR ww := by rw [mo.2.2.2.2.2.2.1 161 (by decide) (by decide)]; exact eg
        have tkE : TK lw r (ww 0) (ww 2) (ww 19) (ww 7) (ww 4) = TK lw r (V 0) (V 2) (V 10) (V 9) (V 4) := by rw [M'.1 0 (by omega), M'.1 2 (by omega), M'.2.2.2.2, M'.2.1, M'.1 4 (by omega)]
        obtain ⟨g3, w1, w2, w3⟩ := day_m (dd := 1) J2.2.1.2.2.2.1 S2.2.2.2 (by omega) J2.2.1.2.2.2.2.2.2 eg2 (by omega) (sv_mr B (by omega) M') h200 (by rw [tkE]; exact (mr_can M').mpr C)
        rw [n1] at w1
        obtain ⟨g4, f1, f2⟩ := a3 g3 (ainv_ag J2 (ag_row w3)) (ls_mq S2 w3) w2
        refine ⟨g4, ?_, ((mo.mq [161] []).trans w3).trans f2⟩
        rw [tX12_stands_27]; simp only [oB_some, dR_some, cond_true, cond_false, if_true, if_false, Bool.true_and, Bool.and_true, Nat.beq_refl, c, M147, Sg.2.2.1, c1, ne10, (mfa J2).1, S2.2.2.1, w1, nI_1]; exact f1
    · obtain ⟨h', p1, O⟩ := P.2 C
      refine ⟨nI n, h', ?_, O.mono (by simp), fun g J Sg eg => ?_⟩
      · rw [tX11_stands_22]; simp only [oB_some, dR_some, cond_true, cond_false, if_true, if_false, Bool.true_and, Bool.and_true, Nat.beq_refl, c, K0, R01, K3, S.1, p1]
      · obtain ⟨M147, R18, K152, E152, R20, K154, E154, R22, K156, E156, R32, K160, E160, dcM, bcM, Ew⟩ := mfa J
        obtain ⟨g2, c1, mo⟩ := (canWv_s (stI J) Sg.2.2.2 (by omega) eg M' B (by omega)).2 C
        refine ⟨g2, ?_, mo.mq _ _⟩
        rw [tX12_stands_27]; simp only [oB_some, dR_some, cond_true, cond_false, if_true, if_false, Bool.true_and, Bool.and_true, Nat.beq_refl, c, M147, Sg.2.2.1, c1]
theorem mq_161 {h h' : Hp} (Q : Mq h h' [161] []) : Mq h h' scrM scrS := Q.mono (by decide) (by simp)
theorem stands_both {h : Hp} {s : Nat} {r d b : Nat → Nat} {dc bc : Nat} {lw : Option ((Nat → Int32) × Nat)} {v u w lg bk z : Nat → Nat} {A x : Nat} (I : AINV h s r d b dc bc lw v u w lg bk z A x) (S : LSd h) : QRY h (FX11_stands [vR (some 0)]) (FX12_stands [vR (some 147)]) := by
  obtain ⟨K0, R01, R02, R04, R05, K3, R30, Ks, Rs2, Rs3, Rs4, Ks1, Es1, Ks2, Es2, Ks3, Es3, K10, R108, K11, E11, K14, K98, td, dcC, bcC, Ev, Eu⟩ := cfa I
  have hm := hom I
  have b5 : bc ≤ 5 := I.2.1.2.2.2.1.2.2.2.2.1.2
  have nz : ¬ nI bc = 0 := nI_nz I.2.1.2.2.2.2.1 (by omega)
  obtain ⟨h', V, U, cp, O, hV, hU, eV, eU⟩ := apart_c I S
  have O' : Only h h' [8, 9, 12, 13] := O.mono (by simp)
  have k4 := I.2.2.1.2.2.2.1
  have h200 := lb_200 I.2.2.1.2.2.2.2
  have S' := ls_only S O'
  have I' := ainv_ag I (ag_side O')
  obtain ⟨ww, cm, ew⟩ := apart_m I' S'
  have B0 := sv_ext (sv_bv I.2.2.1.2.1) eV eU
  have M0 := mr_ext k4 eV eU (fun k hk => ew k (by omega))
  obtain ⟨res, h1, a1, a2, a3⟩ := stands_loop 60 0 h' V U ww (by omega) I' S' hV hU B0 M0 (by rw [ew 200 (by omega)]; exact h200)
  have O1 := O'.trans a2
  have J := ainv_t (ainv_ag I (ag_side O1))
  have Sj := ls_mq (ls_only S O1) (mq_t h1)
  obtain ⟨M147, R18, K152, E152, R20, K154, E154, R22, K156, E156, R32, K160, E160, dcM, bcM, Ew⟩ := mfa J
  obtain ⟨ww2, cm2, ew2⟩ := apart_m J Sj
  have cK : hK h 12 = 4 := S.2.1.1
  have M147h := (mfa (ainv_ag I (ag_side O1))).1
  have q := mq_wA (sI h1 147 0 0) (a := 161) (nR ww2) (l := [161]) [] (by simp) (by decide)
  have J2 := ainv_ag J (ag_row q)
  obtain ⟨res2, h12, b1, b2, b3⟩ := stands_loop 60 0 h' V U ww2 (by omega) I' S' hV hU B0 (mr_ext k4 eV eU (fun k hk => ew2 k (by omega))) (by rw [ew2 200 (by omega)]; exact h200)
  obtain ⟨g1, f1, f2⟩ := b3 (RN (sI h1 147 0 0) 161 ww2) J2 (ls_mq Sj q) (by unfold RN; rw [wA_I])
  have er : res2 = res := by rw [a1] at b1; injection b1 with b1; injection b1 with b1; injection b1 with b1; exact b1.symm
  subst er
  refine ⟨res2, h1, g1, ?_, ?_, O1.mono (by decide), (mq_t h1).trans ((mq_161 q).trans (mq_161 f2))⟩
  · rw [tX11_stands]; simp only [oB_some, dR_some, cond_true, cond_false, if_true, if_false, Bool.true_and, Bool.and_true, Nat.beq_refl, K0, hm, S.1, cK, R02, cp]; exact a1
  · rw [tX12_stands]; simp only [oB_some, dR_some, cond_true, cond_false, if_true, if_false, Bool.true_and, Bool.and_true, Nat.beq_refl, M147h, M147, bcM, nz, R32, Sj.2.2.1, cm2]; exact f1
theorem bears_loop {s : Nat} {r d b : Nat → Nat} {dc bc : Nat} {lw : Option ((Nat → Int32) × Nat)} {v u w lg bk z : Nat → Nat} {A x : Nat} (y : Int32) : ∀ k n (h : Hp) (V U : Nat → Nat), n + k = 61 → AINV h s r d b dc bc lw v u w lg bk z A x → LSd h → hI h 12 = nR V → hI h 13 = nR U → SVb (999 + n) V U → ∃ res h1, Run kX11_bears 32 [some (vR (some 0)), some (vI y), some (vI (nI n))] [] h = some (rI res, h1) ∧ Only h h1 [8, 9, 12, 13] ∧ ∀ (g : Hp) (ww : Nat → Nat), MR V U ww → ww 200 ≤ 60 → AINV g s r d b dc bc lw v u w lg bk z A x → LSd g → hI g 161 = nR ww → ∃ g1, Run kX12_bears 39 [some (vR (some 147)), some (vI y), some (vI (nI n))] [] g = some (rI res, g1) ∧ Mq g g1 [161] [] := by
  intro k
  induction k with
  | zero =>
    intro n h V U e I S e1 e2 B
    have c : (60 : Int32) < nI n := nI_lt (a := 60) (by omega) (by omega)
    refine ⟨-1, h, ?_, Only.refl _ _, fun g ww M' h200 J Sg eg => ⟨g, ?_, mq_refl _ _ _⟩⟩
    · rw [tX11_bears_32]; simp only [c, if_true]
    · rw [tX12_bears_39]; simp only [c, if_true]
  | succ k ih =>
    intro n h V U e I S e1 e2 B
    obtain ⟨K0, R01, R02, R04, R05, K3, R30, Ks, Rs2, Rs3, Rs4, Ks1, Es1, Ks2, Es2, Ks3, Es3, K10, R108, K11, E11, K14, K98, td, dcC, bcC, Ev, Eu⟩ := cfa I
    have c : ¬ (60 : Int32) < nI n := nI_nlt (a := 60) (by omega) (by omega)
    have cK : hK h 12 = 4 := S.2.1.1
    have v0 : hI h 12 0 = nI (V 0) := by rw [e1]; rfl
    have C : canW V 0 (TK lw r (V 0) (V 2) (V 10) (V 9) (V 4)) := ⟨fun q => absurd q (by decide), fun q => absurd q (by decide)⟩
    by_cases q : nI (V 0) < y
    · obtain ⟨h', p1, O, e1', e2'⟩ := (pass_s (dd := 0) (stI I) (ll_12 S I.2.1.1) (by decide) e1 e2 B (by omega) (by decide)).1 C
      rw [nI_0] at p1
      have O' : Only h h' [8, 9, 12, 13] := O
      obtain ⟨res, h1, a1, a2, a3⟩ := ih (n + 1) h' (dayV lw r V 0) U (by omega) (ainv_ag I (ag_side O')) (ls_only S O') e1' e2' (sv_day B I.2.1.2.2.2.2.2.1 C)
      refine ⟨res, h1, ?_, O'.trans a2, fun g ww M' h200 J Sg eg => ?_⟩
      · rw [tX11_bears_32]; simp only [oB_some, dR_some, cond_true, cond_false, if_true, if_false, Bool.true_and, Bool.and_true, Nat.beq_refl, c, K0, S.1, cK, v0, q, R01, K3, p1, nI_1]; exact a1
      · obtain ⟨M147, R18, K152, E152, R20, K154, E154, R22, K156, E156, R32, K160, E160, dcM, bcM, Ew⟩ := mfa J
        obtain ⟨g3, ww', w1, w2, w3, w4, w5⟩ := week_s (dd := 0) (stI J) Sg.2.2.2 (by omega) eg M' B (by omega) (by omega) h200 C
        rw [nI_0] at w1
        obtain ⟨g4, f1, f2⟩ := a3 g3 ww' w4 w5 (ainv_ag J (ag_row w3)) (ls_mq Sg w3) w2
        have g0 : hI g 161 0 = nI (V 0) := by rw [eg]; show nI (ww 0) = _; rw [M'.1 0 (by omega)]
        refine ⟨g4, ?_, w3.trans f2⟩
        rw [tX12_bears_39]; simp only [oB_some, dR_some, cond_true, cond_false, if_true, if_false, Bool.true_and, Bool.and_true, Nat.beq_refl, c, M147, Sg.2.2.1, Sg.2.2.2.1, Sg.2.2.2.2.1, iaK20, ib0, tc0, g0, q, w1, nI_1]; exact f1
    · refine ⟨nI n, h, ?_, Only.refl _ _, fun g ww M' h200 J Sg eg => ⟨g, ?_, mq_refl _ _ _⟩⟩
      · rw [tX11_bears_32]; simp only [oB_some, dR_some, cond_true, cond_false, if_true, if_false, Bool.true_and, Bool.and_true, Nat.beq_refl, c, K0, S.1, cK, v0, q]
      · have M147 := (mfa J).1
        have g0 : hI g 161 0 = nI (V 0) := by rw [eg]; show nI (ww 0) = _; rw [M'.1 0 (by omega)]
        rw [tX12_bears_39]; simp only [oB_some, dR_some, cond_true, cond_false, if_true, if_false, Bool.true_and, Bool.and_true, Nat.beq_refl, c, M147, Sg.2.2.1, Sg.2.2.2.1, Sg.2.2.2.2.1, iaK20, ib0, tc0, g0, q]
theorem bears_both {h : Hp} {s : Nat} {r d b : Nat → Nat} {dc bc : Nat} {lw : Option ((Nat → Int32) × Nat)} {v u w lg bk z : Nat → Nat} {A x : Nat} (I : AINV h s r d b dc bc lw v u w lg bk z A x) (S : LSd h) (y : Int32) : QRY h (FX11_bears [vR (some 0), vI y]) (FX12_bears [vR (some 147), vI y]) := by
  obtain ⟨K0, R01, R02, R04, R05, K3, R30, Ks, Rs2, Rs3, Rs4, Ks1, Es1, Ks2, Es2, Ks3, Es3, K10, R108, K11, E11, K14, K98, td, dcC, bcC, Ev, Eu⟩ := cfa I
  have hm := hom I
  have b5 : bc ≤ 5 := I.2.1.2.2.2.1.2.2.2.2.1.2
  have nz : ¬ nI bc = 0 := nI_nz I.2.1.2.2.2.2.1 (by omega)
  by_cases c1 : y < 0
  · have M0 := (mfa I).1
    obtain ⟨M147, R18, K152, E152, R20, K154, E154, R22, K156, E156, R32, K160, E160, dcM, bcM, Ew⟩ := mfa (ainv_t I)
    refine QRY.id (res := -1) ?_ ?_
    · rw [tX11_bears]; simp only [oB_some, dR_some, cond_true, cond_false, if_true, if_false, Bool.true_and, Bool.and_true, Nat.beq_refl, K0, hm, within11, c1]
    · rw [tX12_bears]; simp only [oB_some, dR_some, cond_true, cond_false, if_true, if_false, Bool.true_and, Bool.and_true, Nat.beq_refl, M0, M147, bcM, nz, isIn_060, c1]
  by_cases c2 : (60 : Int32) < y
  · have M0 := (mfa I).1
    obtain ⟨M147, R18, K152, E152, R20, K154, E154, R22, K156, E156, R32, K160, E160, dcM, bcM, Ew⟩ := mfa (ainv_t I)
    refine QRY.id (res := -1) ?_ ?_
    · rw [tX11_bears]; simp only [oB_some, dR_some, cond_true, cond_false, if_true, if_false, Bool.true_and, Bool.and_true, Nat.beq_refl, K0, hm, within11, c1, c2]
    · rw [tX12_bears]; simp only [oB_some, dR_some, cond_true, cond_false, if_true, if_false, Bool.true_and, Bool.and_true, Nat.beq_refl, M0, M147, bcM, nz, isIn_060, c1, c2]
  obtain ⟨h', V, U, cp, O, hV, hU, eV, eU⟩ := apart_c I S
  have O' : Only h h' [8, 9, 12, 13] := O.mono (by simp)
  have k4 := I.2.2.1.2.2.2.1
  have h200 := lb_200 I.2.2.1.2.2.2.2
  have S' := ls_only S O'
  have I' := ainv_ag I (ag_side O')
  have B0 := sv_ext (sv_bv I.2.2.1.2.1) eV eU
  obtain ⟨res, h1, a1, a2, a3⟩ := bears_loop y 61 0 h' V U (by omega) I' S' hV hU B0
  have O1 := O'.trans a2
  have J := ainv_t (ainv_ag I (ag_side O1))
  have Sj := ls_mq (ls_only S O1) (mq_t h1)
  obtain ⟨M147, R18, K152, E152, R20, K154, E154, R22, K156, E156, R32, K160, E160, dcM, bcM, Ew⟩ := mfa J
  obtain ⟨ww2, cm2, ew2⟩ := apart_m J Sj
  have cK : hK h 12 = 4 := S.2.1.1
  have M147h := (mfa (ainv_ag I (ag_side O1))).1
  have q := mq_wA (sI h1 147 0 0) (a := 161) (nR ww2) (l := [161]) [] (by simp) (by decide)
  have J2 := ainv_ag J (ag_row q)
  obtain ⟨g1, f1, f2⟩ := a3 (RN (sI h1 147 0 0) 161 ww2) ww2 (mr_ext k4 eV eU (fun k hk => ew2 k (by omega))) (by rw [ew2 200 (by omega)]; exact h200) J2 (ls_mq Sj q) (by unfold RN; rw [wA_I])
  refine ⟨res, h1, g1, ?_, ?_, O1.mono (by decide), (mq_t h1).trans ((mq_161 q).trans (mq_161 f2))⟩
  · rw [tX11_bears]; simp only [oB_some, dR_some, cond_true, cond_false, if_true, if_false, Bool.true_and, Bool.and_true, Nat.beq_refl, K0, hm, within11, c1, c2, ne10, S.1, cK, R02, cp]; exact a1
  · rw [tX12_bears]; simp only [oB_some, dR_some, cond_true, cond_false, if_true, if_false, Bool.true_and, Bool.and_true, Nat.beq_refl, M147h, M147, bcM, nz, isIn_060, c1, c2, ne10, R32, Sj.2.2.1, cm2]; exact f1
