/-! ===== PURE: perform, by both ===== -/
theorem actStep_c {h : Hp} {s : Nat} {r d b : Nat → Nat} {dc bc : Nat} {lw : Option ((Nat → Int32) × Nat)} {v u lg bk : Nat → Nat} {V U : Nat → Nat → Nat} {A x : Nat} {p i : Nat} {kd a c : Int32} (W : Nat → Nat) (S : STc h s r d b dc bc lw) (C : CST h v u lg bk V U A x) (B : BV v u) (P : PLl h) (hp : p < 4) (hi : i < 16) (k0 : hI h (140 + 2 * p) (3 * i) = kd) (k1 : hI h (140 + 2 * p) (3 * i + 1) = a) (k2 : hI h (140 + 2 * p) (3 * i + 2) = c) (st : stp kd a) :
    (∃ v' u' w' lg' bk', nowR lw r d b dc bc v u W lg bk kd a c v' u' w' lg' bk' ∧ ∃ h', FX11_actStep [vR (some 0), vR (some (139 + 2 * p)), vI (nI i)] h = some (rI 1, h') ∧ Only h h' allL ∧ STc h' s r d b dc bc lw ∧ CST h' v' u' lg' bk' (sh1 v V) (sh1 u U) (remA A) ((x + 1) % 41)) ∨
    ((∀ v' u' w' lg' bk', ¬ nowR lw r d b dc bc v u W lg bk kd a c v' u' w' lg' bk') ∧ ∃ h', FX11_actStep [vR (some 0), vR (some (139 + 2 * p)), vI (nI i)] h = some (rI 0, h') ∧ Only h h' allL ∧ STc h' s r d b dc bc lw ∧ CST h' v u lg bk V U A x) := by
  obtain ⟨K0, R01, R02, R04, R05, K3, R30, Ks, Rs2, Rs3, Rs4, Ks1, Es1, Ks2, Es2, Ks3, Es3, K10, R108, K11, E11, K14, K98, td, dcC, bcC⟩ := sfa S
  obtain ⟨q1, q2, q3, q4, q5⟩ := P.2.1 p hp
  have hx := C.2.2.2.1
  have g0 := part_c (j := 0) P hp hi (by omega)
  have g1 := part_c (j := 1) P hp hi (by omega)
  have g2 := part_c (j := 2) P hp hi (by omega)
  rw [Nat.add_zero, k0, show nI 0 = (0 : Int32) from rfl] at g0
  rw [k1, show nI 1 = (1 : Int32) from rfl] at g1
  rw [k2, show nI 2 = (2 : Int32) from rfl] at g2
  have b9 := B.2.2.2.2.2.2.2.1
  have b4 := B.2.2.2.2.1
  have b5 := B.2.2.2.2.2.1
  have b10 := B.2.2.2.2.2.2.2.2.1
  rcases st with ⟨z0, dd, hd, ea⟩ | z1 | z2 | z3
  · subst z0
    rcases week_cl S C B a with ⟨dd', h', ea', hd', h9, Cn, f1, f2, f3, f4⟩ | ⟨N, h', f1, f2, f3, f4⟩
    · refine Or.inl ⟨_, _, _, _, _, Or.inl ⟨rfl, dd', hd', ea', h9, Cn, rfl, rfl, rfl, rfl, rfl⟩, h', ?_, act_all f2 hx, f3, f4⟩
      rw [tX11_actStep]; simp only [oB_some, dR_some, cond_true, cond_false, if_true, if_false, Bool.true_and, Bool.and_true, Nat.beq_refl, q2, g0, g1, K0, f1, nI_nm1 (p := v 9 + 1) (by omega), isZ1]
    · refine Or.inr ⟨fun v' u' w' lg' bk' R => ?_, h', ?_, ref_all f2 hx, f3, f4⟩
      · rcases R with ⟨_, dd', hd', ea', h9, Cn, _⟩ | ⟨q, _⟩ | ⟨q, _⟩ | ⟨q, _⟩
        · exact N dd' ea' hd' ⟨h9, Cn⟩
        · exact absurd q ne01
        · exact absurd q ne02
        · exact absurd q ne03
      · rw [tX11_actStep]; simp only [oB_some, dR_some, cond_true, cond_false, if_true, if_false, Bool.true_and, Bool.and_true, Nat.beq_refl, q2, g0, g1, K0, f1, isZ0]
  · subst z1
    rcases cut_cl S C B with ⟨h5, h', f1, f2, f3, f4⟩ | ⟨h5, h', f1, f2, f3, f4⟩
    · have e6 : cutV v 6 = v 6 + 3 := by unfold cutV; rw [up1_s]
      refine Or.inl ⟨_, _, _, _, _, Or.inr (Or.inl ⟨rfl, h5, rfl, rfl, rfl, rfl, rfl⟩), h', ?_, act_all f2 hx, f3, f4⟩
      rw [tX11_actStep]; simp only [oB_some, dR_some, cond_true, cond_false, if_true, if_false, Bool.true_and, Bool.and_true, Nat.beq_refl, q2, g0, g1, ne10, K0, f1, nI_nm1 (p := cutV v 6) (by omega), isZ1]
    · refine Or.inr ⟨fun v' u' w' lg' bk' R => ?_, h', ?_, ref_all f2 hx, f3, f4⟩
      · rcases R with ⟨q, _⟩ | ⟨_, h5', _⟩ | ⟨q, _⟩ | ⟨q, _⟩
        · exact absurd q ne10
        · exact h5 h5'
        · exact absurd q ne12
        · exact absurd q ne13
      · rw [tX11_actStep]; simp only [oB_some, dR_some, cond_true, cond_false, if_true, if_false, Bool.true_and, Bool.and_true, Nat.beq_refl, q2, g0, g1, ne10, K0, f1, isZ0]
  · subst z2
    rcases sell_cl S C B a c with ⟨i', k', h', ei, ek, PO, f1, f2, f3, f4⟩ | ⟨N, h', f1, f2, f3, f4⟩
    · have e4 : sellV b v i' k' 4 = v 4 + b (3 * i' + k') := by unfold sellV; rw [up1_s]
      refine Or.inl ⟨_, _, _, _, _, Or.inr (Or.inr (Or.inl ⟨rfl, i', k', ei, ek, PO, rfl, rfl, rfl, rfl, rfl⟩)), h', ?_, act_all f2 hx, f3, f4⟩
      rw [tX11_actStep]; simp only [oB_some, dR_some, cond_true, cond_false, if_true, if_false, Bool.true_and, Bool.and_true, Nat.beq_refl, q2, g0, g1, g2, ne20, ne21, K0, f1, nI_nm1 (p := sellV b v i' k' 4) (by have := PO.2.2.2.2; omega), isZ1]
    · refine Or.inr ⟨fun v' u' w' lg' bk' R => ?_, h', ?_, ref_all f2 hx, f3, f4⟩
      · rcases R with ⟨q, _⟩ | ⟨q, _⟩ | ⟨_, i', k', ei, ek, PO, _⟩ | ⟨q, _⟩
        · exact absurd q ne20
        · exact absurd q ne21
        · have b5 : bc ≤ 5 := S.2.2.2.2.1.2.2.2.2.1.2
          exact N i' k' ei ek (by have := PO.1; omega) (by have := PO.2.1; omega) PO
        · exact absurd q ne23
      · rw [tX11_actStep]; simp only [oB_some, dR_some, cond_true, cond_false, if_true, if_false, Bool.true_and, Bool.and_true, Nat.beq_refl, q2, g0, g1, g2, ne20, ne21, K0, f1, isZ0]
  · subst z3
    rcases pay_cl S C B a with ⟨i', h', ei, PO, f1, f2, f3, f4⟩ | ⟨N, h', f1, f2, f3, f4⟩
    · have e4 : payV d v i' 4 = v 4 - ow d i' (v 9) := by unfold payV; rw [up1_o _ _ (by decide), up1_s]
      refine Or.inl ⟨_, _, _, _, _, Or.inr (Or.inr (Or.inr ⟨rfl, i', ei, PO, rfl, rfl, rfl, rfl, rfl⟩)), h', ?_, act_all f2 hx, f3, f4⟩
      rw [tX11_actStep]; simp only [oB_some, dR_some, cond_true, cond_false, if_true, if_false, Bool.true_and, Bool.and_true, Nat.beq_refl, q2, g0, g1, ne30, ne31, ne32, K0, f1, nI_nm1 (p := payV d v i' 4) (by omega), isZ1]
    · refine Or.inr ⟨fun v' u' w' lg' bk' R => ?_, h', ?_, ref_all f2 hx, f3, f4⟩
      · rcases R with ⟨q, _⟩ | ⟨q, _⟩ | ⟨q, _⟩ | ⟨_, i', ei, PO, _⟩
        · exact absurd q ne30
        · exact absurd q ne31
        · exact absurd q ne32
        · have d6 : dc ≤ 6 := S.2.2.2.2.1.2.2.2.2.1.1
          exact N i' ei (by have := PO.1; omega) PO
      · rw [tX11_actStep]; simp only [oB_some, dR_some, cond_true, cond_false, if_true, if_false, Bool.true_and, Bool.and_true, Nat.beq_refl, q2, g0, g1, ne30, ne31, ne32, K0, f1, isZ0]
theorem perf_loop {s : Nat} {r d b : Nat → Nat} {dc bc p n : Nat} {lw : Option ((Nat → Int32) × Nat)} {f : Nat → Int32} (F : stF n f) : ∀ k i (h : Hp) (v u w lg bk z : Nat → Nat) (V U : Nat → Nat → Nat) (A x : Nat), i + k = n → STc h s r d b dc bc lw → CST h v u lg bk V U A x → PST v u w lg bk V U z A → PLl h → PCc h p n f → ∃ res h1 v' u' w' lg' bk' V' U' z' A' x', Run kX11_perform 19 [some (vR (some 0)), some (vI (nI p)), some (vI (nI i))] [] h = some (rI res, h1) ∧ Only h h1 allL ∧ STc h1 s r d b dc bc lw ∧ CST h1 v' u' lg' bk' V' U' A' x' ∧ PST v' u' w' lg' bk' V' U' z' A' ∧ ∀ g : Hp, STc g s r d b dc bc lw → MST g w z A → PLl g → PCm g p n f → ∃ g1, Run kX12_perform 24 [some (vR (some 147)), some (vI (nI p)), some (vI (nI i))] [] g = some (rI res, g1) ∧ Mq g g1 [160, 162] [37] ∧ STc g1 s r d b dc bc lw ∧ MST g1 w' z' A' := by
  intro k
  induction k with
  | zero =>
    intro i h v u w lg bk z V U A x e S C P L PC
    obtain ⟨K0, R01, R02, R04, R05, K3, R30, Ks, Rs2, Rs3, Rs4, Ks1, Es1, Ks2, Es2, Ks3, Es3, K10, R108, K11, E11, K14, K98, td, dcC, bcC⟩ := sfa S
    obtain ⟨hp, hn, cn, cf⟩ := PC
    obtain ⟨⟨a1, a2, a3⟩, a4, _⟩ := L
    obtain ⟨q1, q2, q3, q4, q5⟩ := a4 p hp
    have ib : inb (nI p) 4 = true := inb_nI hp (by omega)
    have cl : (nI p).toNatClampNeg = p := nI_clamp (by omega)
    have c : nI n ≤ nI i := nI_le (by omega) (by omega)
    refine ⟨nI i, h, v, u, w, lg, bk, V, U, z, A, x, ?_, Only.refl _ _, S, C, P, fun g Sg Mg Lg PCg => ⟨g, ?_, mq_refl _ _ _, Sg, Mg⟩⟩
    · rw [tX11_perform_19]; simp only [oB_some, dR_some, cond_true, cond_false, if_true, if_false, Bool.true_and, Bool.and_true, Nat.beq_refl, K0, a1, a2, a3, ib, cl, q1, q2, cn, c]
    · have M147 := (smf Sg).1
      obtain ⟨_, _, cn', _⟩ := PCg
      obtain ⟨b1, b2, b3⟩ := Lg.2.2.2
      have ib' : inb (nI p) 5 = true := inb_nI (by omega) (by omega)
      rw [tX12_perform_24]; simp only [oB_some, dR_some, cond_true, cond_false, if_true, if_false, Bool.true_and, Bool.and_true, Nat.beq_refl, M147, b1, b2, b3, iaK20, ib', cl, cn', c]
  | succ k ih =>
    intro i h v u w lg bk z V U A x e S C P L PC
    obtain ⟨K0, R01, R02, R04, R05, K3, R30, Ks, Rs2, Rs3, Rs4, Ks1, Es1, Ks2, Es2, Ks3, Es3, K10, R108, K11, E11, K14, K98, td, dcC, bcC⟩ := sfa S
    have PC0 := PC
    have L0 := L
    obtain ⟨hp, hn, cn, cf⟩ := PC
    obtain ⟨⟨a1, a2, a3⟩, a4, _⟩ := L
    obtain ⟨q1, q2, q3, q4, q5⟩ := a4 p hp
    have ib : inb (nI p) 4 = true := inb_nI hp (by omega)
    have ib' : inb (nI p) 5 = true := inb_nI (by omega) (by omega)
    have cl : (nI p).toNatClampNeg = p := nI_clamp (by omega)
    have c : ¬ nI n ≤ nI i := nI_ge (by omega) (by omega)
    have hi : i < n := by omega
    have M := S.2.2.2.2.1
    have d6 : dc ≤ 6 := M.2.2.2.2.1.1
    have b5 : bc ≤ 5 := M.2.2.2.2.1.2
    have hA := C.2.2.2.2.1
    have h200 := lb_200 P.2.2.1
    rcases actStep_c (i := i) w S C P.1 L0 hp (by omega) (cf (3 * i) (by omega)) (cf (3 * i + 1) (by omega)) (cf (3 * i + 2) (by omega)) (F i hi) with ⟨v', u', w', lg', bk', R, h', t1, O, S', C'⟩ | ⟨N, h', t1, O, S', C'⟩
    · have rr : ∀ i, 139 ≤ i → i ≤ 146 → hI h' i = hI h i := fun i q1 q2 => O.I (fun z => by have := allL_of.mp z; omega)
      obtain ⟨res, h1, v2, u2, w2, lg2, bk2, V2, U2, z2, A2, x2, f1, f2, f3, f4, f5, f6⟩ := ih (i + 1) h' v' u' w' lg' bk' (remZ z w A) (sh1 v V) (sh1 u U) (remA A) ((x + 1) % 41) (by omega) S' C' (nowR_pst R S.2.2.2.2.2.2.1 d6 b5 P hA) (pll_only L0 O) (pcc_fr PC0 (rr _ (by omega) (by omega)) (rr _ (by omega) (by omega)))
      refine ⟨res, h1, v2, u2, w2, lg2, bk2, V2, U2, z2, A2, x2, ?_, O.trans f2, f3, f4, f5, fun g Sg Mg Lg PCg => ?_⟩
      · rw [tX11_perform_19]; simp only [oB_some, dR_some, cond_true, cond_false, if_true, if_false, Bool.true_and, Bool.and_true, Nat.beq_refl, K0, a1, a2, a3, ib, cl, q1, q2, cn, c, t1, ne10, nI_1]; exact f1
      · obtain ⟨_, _, cn', cf'⟩ := PCg
        obtain ⟨M147, R18, K152, E152, R20, K154, E154, R22, K156, E156, R32, K160, E160, dcM, bcM⟩ := smf Sg
        obtain ⟨b1, b2, b3⟩ := Lg.2.2.2
        obtain ⟨v'', R'⟩ := nowR_step R
        obtain ⟨⟨g2, c1, mo⟩, _⟩ := (step_m (t := 48 * p + 3 * i) Sg Lg Sg.1.2.2.2.2.2 (by omega) Mg.1 P.2.1 (sv_bv P.1) h200 (by omega) (cf' (3 * i) (by omega)) (by rw [Nat.add_assoc]; exact cf' (3 * i + 1) (by omega)) (by rw [Nat.add_assoc]; exact cf' (3 * i + 2) (by omega)) (F i hi)).1 v'' u' w' R'
        have S2 := st_sg Sg (sg_mq (mo.mq [] []) (by simp) (by simp))
        have P2 := pll_mq Lg (mo.mq [] [])
        have PC2 := pcm_mo (p := p) (n := n) (f := f) ⟨hp, hn, cn', cf'⟩ mo
        have M2 := mst_mq Mg (mo.mq [] []) (by simp) (by simp) (by simp)
        obtain ⟨g3, r1, M3, r3, S3⟩ := remember_s S2 M2 hA
        have P3 := pll_mq P2 r3
        have PC3 : PCm g3 p n f := pcm_fr PC2 (r3.2.2.2.2.2.2.1 158 (by omega) (by omega) (by simp)) (r3.2.2.2.2.2.2.1 159 (by omega) (by omega) (by simp))
        have PC3' := PC3
        obtain ⟨_, _, _, cf3⟩ := PC3'
        obtain ⟨_, g4, s1, s2, s3⟩ := (step_m (t := 48 * p + 3 * i) S3 P3 S3.1.2.2.2.2.2 (by omega) M3.1 P.2.1 (sv_bv P.1) h200 (by omega) (cf3 (3 * i) (by omega)) (by rw [Nat.add_assoc]; exact cf3 (3 * i + 1) (by omega)) (by rw [Nat.add_assoc]; exact cf3 (3 * i + 2) (by omega)) (F i hi)).1 v'' u' w' R'
        have S4 := st_sg S3 (sg_mq s3 (fun a ha => by simp at ha; omega) (by simp))
        have M4 : MST g4 w' (remZ z w A) (remA A) := ⟨s2, by rw [s3.2.2.2.2.2.2.1 162 (by omega) (by omega) (by simp)]; exact M3.2.1, by rw [s3.2.2.2.2.2.2.2 37 (by simp) (by simp)]; exact M3.2.2⟩
        obtain ⟨g5, y1, y2, y3, y4⟩ := f6 g4 S4 M4 (pll_mq P3 s3) (pcm_row PC3 s3 (by omega))
        refine ⟨g5, ?_, ((mo.mq [160, 162] [37]).trans (r3.mono (by simp) (by simp))).trans ((s3.mono (by simp) (by simp)).trans y2), y3, y4⟩
        rw [tX12_perform_24]; simp only [oB_some, dR_some, cond_true, cond_false, if_true, if_false, Bool.true_and, Bool.and_true, Nat.beq_refl, M147, b1, b2, b3, iaK20, ib', cl, cn', c, R32, p48, c1, ne10, (smf S2).1, r1, (smf S3).1, (smf S3).2.2.2.2.2.2.2.2.2.2.1, s1, nI_1]; exact y1
    · refine ⟨nI i, h', v, u, w, lg, bk, V, U, z, A, x, ?_, O, S', C', P, fun g Sg Mg Lg PCg => ?_⟩
      · rw [tX11_perform_19]; simp only [oB_some, dR_some, cond_true, cond_false, if_true, if_false, Bool.true_and, Bool.and_true, Nat.beq_refl, K0, a1, a2, a3, ib, cl, q1, q2, cn, c, t1]
      · obtain ⟨_, _, cn', cf'⟩ := PCg
        obtain ⟨M147, R18, K152, E152, R20, K154, E154, R22, K156, E156, R32, K160, E160, dcM, bcM⟩ := smf Sg
        obtain ⟨b1, b2, b3⟩ := Lg.2.2.2
        obtain ⟨g2, c1, mo⟩ := (step_m (t := 48 * p + 3 * i) (c := f (3 * i + 2)) Sg Lg Sg.1.2.2.2.2.2 (by omega) Mg.1 P.2.1 (sv_bv P.1) h200 (by omega) (cf' (3 * i) (by omega)) (by rw [Nat.add_assoc]; exact cf' (3 * i + 1) (by omega)) (by rw [Nat.add_assoc]; exact cf' (3 * i + 2) (by omega)) (F i hi)).2 (fun V' U' W' R => by obtain ⟨v'', lg'', bk'', R'⟩ := step_now (lg := lg) (bk := bk) R; exact N _ _ _ _ _ R')
        refine ⟨g2, ?_, mo.mq _ _, st_sg Sg (sg_mq (mo.mq [] []) (by simp) (by simp)), mst_mq Mg (mo.mq [] []) (by simp) (by simp) (by simp)⟩
        rw [tX12_perform_24]; simp only [oB_some, dR_some, cond_true, cond_false, if_true, if_false, Bool.true_and, Bool.and_true, Nat.beq_refl, M147, b1, b2, b3, iaK20, ib', cl, cn', c, R32, p48, c1]
/-- what every call that acts comes to, whatever it writes of what acts write -/
def CALL2 (h : Hp) (s : Nat) (r d b : Nat → Nat) (dc bc : Nat) (lw : Option ((Nat → Int32) × Nat)) (X Y : Hp → Option (RV × Hp)) : Prop :=
  ∃ res h1 h2, X h = some (rI res, h1) ∧ Y h1 = some (rI res, h2) ∧ Only h h1 allL ∧ Mq h1 h2 [160, 162] [0, 37] ∧ ∃ v' u' w' lg' bk' z' A' x', AINV h2 s r d b dc bc lw v' u' w' lg' bk' z' A' x'
theorem CALL.all {h : Hp} {s : Nat} {r d b : Nat → Nat} {dc bc : Nat} {lw : Option ((Nat → Int32) × Nat)} {x : Nat} {X Y : Hp → Option (RV × Hp)} (C : CALL h s r d b dc bc lw x X Y) (hx : x < 41) : CALL2 h s r d b dc bc lw X Y := by
  obtain ⟨res, h1, h2, a, e, O, Q, J⟩ := C
  exact ⟨res, h1, h2, a, e, act_all O hx, Q, J⟩
theorem call2_no {h : Hp} {s : Nat} {r d b : Nat → Nat} {dc bc : Nat} {lw : Option ((Nat → Int32) × Nat)} {v u w lg bk z : Nat → Nat} {A x : Nat} {X Y : Hp → Option (RV × Hp)} {res : Int32} (I : AINV h s r d b dc bc lw v u w lg bk z A x) (e1 : X h = some (rI res, h)) (e2 : Y h = some (rI res, sI h 147 0 0)) : CALL2 h s r d b dc bc lw X Y :=
  ⟨res, h, _, e1, e2, Only.refl _ _, mq_sI h _ _ (by simp), _, _, _, _, _, _, _, _, ainv_t I⟩
theorem perform_both {h : Hp} {s : Nat} {r d b : Nat → Nat} {dc bc : Nat} {lw : Option ((Nat → Int32) × Nat)} {v u w lg bk z : Nat → Nat} {A x : Nat} {pc : Nat} {pn : Nat → Nat} (I : AINV h s r d b dc bc lw v u w lg bk z A x) (P : PLl h) (N : PLN h pc pn) (y : Int32) : CALL2 h s r d b dc bc lw (FX11_perform [vR (some 0), vI y]) (FX12_perform [vR (some 147), vI y]) := by
  obtain ⟨K0, R01, R02, R04, R05, K3, R30, Ks, Rs2, Rs3, Rs4, Ks1, Es1, Ks2, Es2, Ks3, Es3, K10, R108, K11, E11, K14, K98, td, dcC, bcC, Ev, Eu⟩ := cfa I
  have hm := hom I
  have b5 : bc ≤ 5 := I.2.1.2.2.2.1.2.2.2.2.1.2
  have nz : ¬ nI bc = 0 := nI_nz I.2.1.2.2.2.2.1 (by omega)
  have M0 := (mfa I).1
  obtain ⟨n1, n2, n3, n4⟩ := N
  have hP := hasPlan_c K0 n2 y
  have n3' : hI (sI h 147 0 0) 147 30 = nI pc := by rw [hI_slot _ _ _ _ (by decide)]; exact n3
  have iP := isPlan_m (mfa (ainv_t I)).1 n3' y
  rcases ix_both y (n := pc) (by omega) with c | ⟨c1, c2, c3⟩ | ⟨p, hp, c, c1, c2, c3⟩
  · have M147 := (mfa (ainv_t I)).1
    refine call2_no (res := -1) I ?_ ?_
    · rw [tX11_perform]; simp only [oB_some, dR_some, cond_true, cond_false, if_true, if_false, Bool.true_and, Bool.and_true, Nat.beq_refl, K0, hm, hP, c]
    · rw [tX12_perform]; simp only [oB_some, dR_some, cond_true, cond_false, if_true, if_false, Bool.true_and, Bool.and_true, Nat.beq_refl, M0, M147, iP, c]
  · have M147 := (mfa (ainv_t I)).1
    refine call2_no (res := -1) I ?_ ?_
    · rw [tX11_perform]; simp only [oB_some, dR_some, cond_true, cond_false, if_true, if_false, Bool.true_and, Bool.and_true, Nat.beq_refl, K0, hm, hP, c1, c2]
    · rw [tX12_perform]; simp only [oB_some, dR_some, cond_true, cond_false, if_true, if_false, Bool.true_and, Bool.and_true, Nat.beq_refl, M0, M147, iP, c1, c3]
  subst c
  obtain ⟨f1, f2, f3⟩ := pcc_of (n4 p hp) (by omega)
  obtain ⟨S, V, U, C, M, Ps⟩ := ainv_split I
  obtain ⟨res, h1, v', u', w', lg', bk', V', U', z', A', x', a1, O, S1, C1, P1, a3⟩ := perf_loop f3 (pn p) 0 h v u w lg bk z V U A x (by omega) S C Ps P f1
  have ol : ∀ a ∈ allL, a < 147 := fun a ha => by have := allL_of.mp ha; omega
  have q3 : Mq h1 (sI h1 147 0 0) [] [0] := mq_sI _ _ _ (by simp)
  have S3 := st_sg S1 (sg_mq q3 (by simp) (fun k hk => by simp at hk; omega))
  have M3 := mst_mq (mst_only M O ol) q3 (by simp) (by simp) (by simp)
  have pg : PCm (sI h1 147 0 0) p (pn p) (hI h (140 + 2 * p)) := pcm_fr f2 (by rw [hI_row _ _ _ _ (by decide), O.I (fun z => by have := ol _ z; omega)]) (by rw [hI_row _ _ _ _ (by decide), O.I (fun z => by have := ol _ z; omega)])
  obtain ⟨g1, w1, w2, w3, w4⟩ := a3 (sI h1 147 0 0) S3 M3 (pll_mq (pll_only P O) q3) pg
  obtain ⟨M147, R18, K152, E152, R20, K154, E154, R22, K156, E156, R32, K160, E160, dcM, bcM⟩ := smf S3
  have M147h := (smf S1).1
  have n3j : hI (sI h1 147 0 0) 147 30 = nI pc := by rw [hI_slot _ _ _ _ (by decide), O.I (fun z => by have := ol _ z; omega)]; exact n3
  have iPj := isPlan_m M147 n3j (nI p)
  have Q : Mq h1 g1 [160, 162] [0, 37] := (q3.mono (by simp) (by simp)).trans (w2.mono (by simp) (by simp))
  refine ⟨res, h1, g1, ?_, ?_, O, Q, v', u', w', lg', bk', z', A', x', ainv_join w3 (cst_mq C1 Q (fun a ha => by simp at ha; omega)) w4 P1⟩
  · rw [tX11_perform]; simp only [oB_some, dR_some, cond_true, cond_false, if_true, if_false, Bool.true_and, Bool.and_true, Nat.beq_refl, K0, hm, hP, c1, c2, ne10]; exact a1
  · rw [tX12_perform]; simp only [oB_some, dR_some, cond_true, cond_false, if_true, if_false, Bool.true_and, Bool.and_true, Nat.beq_refl, M147h, M147, iPj, c1, c3, ne10, bcM, nz]; exact w1
