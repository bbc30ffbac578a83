/-! ===== PURE: run, step, by both ===== -/
def PCc (h : Hp) (p n : Nat) (f : Nat → Int32) : Prop := p < 4 ∧ n ≤ 16 ∧ hI h (139 + 2 * p) 1 = nI n ∧ ∀ j, j < 3 * n → hI h (140 + 2 * p) j = f j
def PCm (h : Hp) (p n : Nat) (f : Nat → Int32) : Prop := p < 4 ∧ n ≤ 16 ∧ hI h 159 p = nI n ∧ ∀ j, j < 3 * n → hI h 158 (48 * p + j) = f j
def stF (n : Nat) (f : Nat → Int32) : Prop := ∀ i, i < n → stp (f (3 * i)) (f (3 * i + 1))
theorem pcc_fr {h h' : Hp} {p n : Nat} {f : Nat → Int32} (P : PCc h p n f) (e1 : hI h' (139 + 2 * p) = hI h (139 + 2 * p)) (e2 : hI h' (140 + 2 * p) = hI h (140 + 2 * p)) : PCc h' p n f := by unfold PCc; rw [e1, e2]; exact P
theorem pcm_fr {h h' : Hp} {p n : Nat} {f : Nat → Int32} (P : PCm h p n f) (e1 : hI h' 158 = hI h 158) (e2 : hI h' 159 = hI h 159) : PCm h' p n f := by unfold PCm; rw [e1, e2]; exact P
theorem pcm_row {h h' : Hp} {p n o : Nat} {f : Nat → Int32} (P : PCm h p n f) (Q : Mq h h' [o] []) (ho : 160 ≤ o) : PCm h' p n f := pcm_fr P (Q.2.2.2.2.2.2.1 158 (by omega) (by omega) (by simp; omega)) (Q.2.2.2.2.2.2.1 159 (by omega) (by omega) (by simp; omega))
theorem pcm_mo {h h' : Hp} {p n : Nat} {f : Nat → Int32} (P : PCm h p n f) (Q : Mo h h') : PCm h' p n f := pcm_fr P (Q.2.2.2.2.2.2.1 158 (by omega) (by omega)) (Q.2.2.2.2.2.2.1 159 (by omega) (by omega))
theorem p48 {p i : Nat} : (3 : Int32) * (16 * nI p + nI i) = nI (48 * p + 3 * i) := by
  rw [show (16 : Int32) * nI p = nI (16 * p) from pk_mul 16 p, nI_add, show (3 : Int32) * nI (16 * p + i) = nI (3 * (16 * p + i)) from pk_mul 3 _]
  congr 1; omega
theorem run_loop {s : Nat} {r d b : Nat → Nat} {dc bc p n : Nat} {lw : Option ((Nat → Int32) × Nat)} {v u w lg bk z : Nat → Nat} {A x : Nat} {f : Nat → Int32} (F : stF n f) (y : Int32) : ∀ k i (h : Hp) (V U : Nat → Nat), i + k = n → AINV h s r d b dc bc lw v u w lg bk z A x → LSd h → PLl h → PCc h p n f → hI h 12 = nR V → hI h 13 = nR U → SVb 999 V U → ∃ res h1, Run kX11_run 41 [some (vR (some 0)), some (vI (nI p)), some (vI y), some (vI (nI i))] [] h = some (rI res, h1) ∧ Only h h1 [8, 9, 12, 13] ∧ ∀ (g : Hp) (ww : Nat → Nat), MR V U ww → ww 200 ≤ 60 → AINV g s r d b dc bc lw v u w lg bk z A x → LSd g → PLl g → PCm g p n f → hI g 161 = nR ww → ∃ g1, Run kX12_run 47 [some (vR (some 147)), some (vI (nI p)), some (vI y), some (vI (nI i))] [] g = some (rI res, g1) ∧ Mq g g1 [161] [] := by
  intro k
  induction k with
  | zero =>
    intro i h V U e I S P PC e1 e2 B
    obtain ⟨K0, R01, R02, R04, R05, K3, R30, Ks, Rs2, Rs3, Rs4, Ks1, Es1, Ks2, Es2, Ks3, Es3, K10, R108, K11, E11, K14, K98, td, dcC, bcC, Ev, Eu⟩ := cfa I
    obtain ⟨hp, hn, cn, cf⟩ := PC
    obtain ⟨⟨a1, a2, a3⟩, a4, _⟩ := P
    obtain ⟨q1, q2, q3, q4, q5⟩ := a4 p hp
    have ib : inb (nI p) 4 = true := inb_nI hp (by omega)
    have cl : (nI p).toNatClampNeg = p := nI_clamp (by omega)
    have c : nI n ≤ nI i := nI_le (by omega) (by omega)
    have cK : hK h 12 = 4 := S.2.1.1
    have v4 : hI h 12 4 = nI (V 4) := by rw [e1]; rfl
    have ei : (nI i = nI n) = True := eq_true (by rw [show i = n by omega])
    refine ⟨if y = 1 then nI (V 4) else -1, h, ?_, Only.refl _ _, fun g ww M' h200 J Sg Pg PCg eg => ⟨g, ?_, mq_refl _ _ _⟩⟩
    · rw [tX11_run_41]
      by_cases y1 : y = 1
      · simp only [oB_some, dR_some, cond_true, cond_false, if_true, if_false, Bool.true_and, Bool.and_true, Nat.beq_refl, K0, a1, a2, a3, ib, cl, q1, q2, cn, c, y1, S.1, cK, v4]
      · simp only [oB_some, dR_some, cond_true, cond_false, if_true, if_false, Bool.true_and, Bool.and_true, Nat.beq_refl, K0, a1, a2, a3, ib, cl, q1, q2, cn, c, y1, ei]
    · have M147 := (mfa J).1
      obtain ⟨_, _, cn', _⟩ := PCg
      obtain ⟨b1, b2, b3⟩ := Pg.2.2.2
      have ib' : inb (nI p) 5 = true := inb_nI (by omega) (by omega)
      have g4 : hI g 161 4 = nI (V 4) := by rw [eg]; show nI (ww 4) = _; rw [M'.1 4 (by omega)]
      rw [tX12_run_47]
      by_cases y1 : y = 1
      · simp only [oB_some, dR_some, cond_true, cond_false, if_true, if_false, Bool.true_and, Bool.and_true, Nat.beq_refl, M147, b1, b2, b3, iaK20, ib', cl, cn', c, y1, Sg.2.2.1, Sg.2.2.2.1, Sg.2.2.2.2.1, ib4, tc4, g4]
      · simp only [oB_some, dR_some, cond_true, cond_false, if_true, if_false, Bool.true_and, Bool.and_true, Nat.beq_refl, M147, b1, b2, b3, iaK20, ib', cl, cn', c, y1, ei]
  | succ k ih =>
    intro i h V U e I S P PC e1 e2 B
    obtain ⟨K0, R01, R02, R04, R05, K3, R30, Ks, Rs2, Rs3, Rs4, Ks1, Es1, Ks2, Es2, Ks3, Es3, K10, R108, K11, E11, K14, K98, td, dcC, bcC, Ev, Eu⟩ := cfa I
    have PC0 := PC
    have P0 := P
    obtain ⟨hp, hn, cn, cf⟩ := PC
    obtain ⟨⟨a1, a2, a3⟩, a4, _⟩ := P
    obtain ⟨q1, q2, q3, q4, q5⟩ := a4 p hp
    have ib : inb (nI p) 4 = true := inb_nI hp (by omega)
    have cl : (nI p).toNatClampNeg = p := nI_clamp (by omega)
    have c : ¬ nI n ≤ nI i := nI_ge (by omega) (by omega)
    have cK : hK h 12 = 4 := S.2.1.1
    have hi : i < n := by omega
    have inn : (nI i = nI n) = (i = n) := nI_neq' (by omega) (by omega)
    have b5 : bc ≤ 5 := I.2.1.2.2.2.1.2.2.2.2.1.2
    have d6 : dc ≤ 6 := I.2.1.2.2.2.1.2.2.2.2.1.1
    have ib' : inb (nI p) 5 = true := inb_nI (by omega) (by omega)
    have tk := fun W => take_c (W := W) (i := i) (stI I) P0 hp (by omega) (ll_12 S I.2.1.1) e1 e2 B (cf (3 * i) (by omega)) (cf (3 * i + 1) (by omega)) (cf (3 * i + 2) (by omega)) (F i hi)
    rcases tk V with ⟨V', U', W0, R0, h', t1, O, e1', e2'⟩ | ⟨N, h', t1, O, e1', e2'⟩
    · have rr : ∀ i, 139 ≤ i → i ≤ 146 → hI h' i = hI h i := fun i q1 q2 => O.I (by simp; omega)
      have sv : SVb 999 V' U' := by
        rcases R0 with ⟨_, dd, _, _, h9, C, z1, z2, _⟩ | ⟨_, h5, z1, z2, _⟩ | ⟨_, i', k', _, _, PO, z1, z2, _⟩ | ⟨_, i', _, PO, z1, z2, _⟩
        · subst z1 z2
          obtain ⟨b0, b1, b2, b3, b4, b5, b7, b9, b10, b11, b12, bu⟩ := sv_day B I.2.1.2.2.2.2.2.1 C
          exact ⟨b0, b1, b2, b3, b4, b5, b7, by rw [day_9]; omega, b10, b11, b12, bu⟩
        · subst z1 z2; exact sv_cut B h5
        · subst z1 z2; exact sv_sell B PO I.2.1.2.2.2.2.2.1.2.2.2.2.2.2.2.2.2.2.1
        · subst z1 z2; exact sv_pay B (by have := PO.1; omega)
      obtain ⟨res, h1, f1, f2, f3⟩ := ih (i + 1) h' V' U' (by omega) (ainv_ag I (ag_side O)) (ls_only S O) (pll_only P0 O) (pcc_fr PC0 (rr _ (by omega) (by omega)) (rr _ (by omega) (by omega))) e1' e2' sv
      refine ⟨res, h1, ?_, O.trans f2, fun g ww M' h200 J Sg Pg PCg eg => ?_⟩
      · rw [tX11_run_41]; simp only [oB_some, dR_some, cond_true, cond_false, if_true, if_false, Bool.true_and, Bool.and_true, Nat.beq_refl, K0, a1, a2, a3, ib, cl, q1, q2, cn, c, R01, K3, S.1, t1, ne10, nI_1]; exact f1
      · obtain ⟨_, _, cn', cf'⟩ := PCg
        have M147 := (mfa J).1
        obtain ⟨b1, b2, b3⟩ := Pg.2.2.2
        -- the same step, for this row
        have R : ∃ W', stepR lw r d b dc bc V U ww (f (3 * i)) (f (3 * i + 1)) (f (3 * i + 2)) V' U' W' := by
          rcases R0 with ⟨z0, dd, y1, y2, h9, C, z1, z2, _⟩ | ⟨z0, h5, z1, z2, _⟩ | ⟨z0, i', k', y1, y2, PO, z1, z2, _⟩ | ⟨z0, i', y1, PO, z1, z2, _⟩
          · exact ⟨_, Or.inl ⟨z0, dd, y1, y2, h9, C, z1, z2, rfl⟩⟩
          · exact ⟨_, Or.inr (Or.inl ⟨z0, h5, z1, z2, rfl⟩)⟩
          · exact ⟨_, Or.inr (Or.inr (Or.inl ⟨z0, i', k', y1, y2, PO, z1, z2, rfl⟩))⟩
          · exact ⟨_, Or.inr (Or.inr (Or.inr ⟨z0, i', y1, PO, z1, z2, rfl⟩))⟩
        obtain ⟨W', R⟩ := R
        have kp := step_keep R I.2.1.2.2.2.2.2.1 d6 b5 B M' h200
        obtain ⟨⟨g2, c1, mo⟩, _⟩ := (step_m (t := 48 * p + 3 * i) (stI J) Pg Sg.2.2.2 (by omega) eg M' B h200 (by omega) (cf' (3 * i) (by omega)) (by rw [Nat.add_assoc]; exact cf' (3 * i + 1) (by omega)) (by rw [Nat.add_assoc]; exact cf' (3 * i + 2) (by omega)) (F i hi)).1 V' U' W' R
        have J2 := ainv_ag J (ag_mo mo)
        have S2 := ls_mq Sg (mo.mq [] [])
        have P2 := pll_mq Pg (mo.mq [] [])
        have PC2 := pcm_mo (p := p) (n := n) (f := f) ⟨hp, hn, cn', cf'⟩ mo
        have eg2 : hI g2 161 = nR ww := by rw [mo.2.2.2.2.2.2.1 161 (by decide) (by decide)]; exact eg
        obtain ⟨_, _, _, cf2⟩ := PC2
        obtain ⟨_, g3, s1, s2, s3⟩ := (step_m (t := 48 * p + 3 * i) (stI J2) P2 S2.2.2.2 (by omega) eg2 M' B h200 (by omega) (cf2 (3 * i) (by omega)) (by rw [Nat.add_assoc]; exact cf2 (3 * i + 1) (by omega)) (by rw [Nat.add_assoc]; exact cf2 (3 * i + 2) (by omega)) (F i hi)).1 V' U' W' R
        obtain ⟨g4, w1, w2⟩ := f3 g3 W' kp.2.1 kp.2.2 (ainv_ag J2 (ag_row s3)) (ls_mq S2 s3) (pll_mq P2 s3) (pcm_row (pcm_mo (p := p) (n := n) (f := f) ⟨hp, hn, cn', cf'⟩ mo) s3 (by omega)) s2
        refine ⟨g4, ?_, ((mo.mq [161] []).trans s3).trans w2⟩
        rw [tX12_run_47]; simp only [oB_some, dR_some, cond_true, cond_false, if_true, if_false, Bool.true_and, Bool.and_true, Nat.beq_refl, M147, b1, b2, b3, iaK20, ib', cl, cn', c, Sg.2.2.1, p48, c1, ne10, (mfa J2).1, S2.2.2.1, s1, nI_1]; exact w1
    · have v4 : hI h' 12 4 = nI (V 4) := by rw [e1']; rfl
      have I' := ainv_ag I (ag_side O)
      obtain ⟨K0p, R01p, R02p, R04p, R05p, K3p, R30p, Ksp, Rs2p, Rs3p, Rs4p, Ks1p, Es1p, Ks2p, Es2p, Ks3p, Es3p, K10p, R108p, K11p, E11p, K14p, K98p, tdp, dcCp, bcCp, Evp, Eup⟩ := cfa I'
      have S' := ls_only S O
      have cK' : hK h' 12 = 4 := S'.2.1.1
      obtain ⟨⟨a1', a2', a3'⟩, a4', _⟩ := pll_only P0 O
      obtain ⟨q1', q2', q3', q4', q5'⟩ := a4' p hp
      have cn2 : hI h' (139 + 2 * p) 1 = nI n := by rw [O.I (by simp; omega)]; exact cn
      refine ⟨if y = 1 then nI (V 4) else nI i, h', ?_, O, fun g ww M' h200 J Sg Pg PCg eg => ?_⟩
      · rw [tX11_run_41]
        by_cases y1 : y = 1
        · simp only [oB_some, dR_some, cond_true, cond_false, if_true, if_false, Bool.true_and, Bool.and_true, Nat.beq_refl, K0, a1, a2, a3, ib, cl, q1, q2, cn, c, R01, K3, S.1, t1, y1, K0p, S'.1, cK', v4]
        · simp only [oB_some, dR_some, cond_true, cond_false, if_true, if_false, Bool.true_and, Bool.and_true, Nat.beq_refl, K0, a1, a2, a3, ib, cl, q1, q2, cn, c, R01, K3, S.1, t1, y1, K0p, a1', a2', a3', q1', q2', cn2, inn, show ¬ i = n by omega]
      · obtain ⟨_, _, cn', cf'⟩ := PCg
        have M147 := (mfa J).1
        obtain ⟨b1, b2, b3⟩ := Pg.2.2.2
        have N' : ∀ V' U' W', ¬ stepR lw r d b dc bc V U ww (f (3 * i)) (f (3 * i + 1)) (f (3 * i + 2)) V' U' W' := by
          intro V' U' W' R0
          rcases R0 with ⟨z0, dd, y1, y2, h9, C, z1, z2, _⟩ | ⟨z0, h5, z1, z2, _⟩ | ⟨z0, i', k', y1, y2, PO, z1, z2, _⟩ | ⟨z0, i', y1, PO, z1, z2, _⟩
          · exact N _ _ _ (Or.inl ⟨z0, dd, y1, y2, h9, C, z1, z2, rfl⟩)
          · exact N _ _ _ (Or.inr (Or.inl ⟨z0, h5, z1, z2, rfl⟩))
          · exact N _ _ _ (Or.inr (Or.inr (Or.inl ⟨z0, i', k', y1, y2, PO, z1, z2, rfl⟩)))
          · exact N _ _ _ (Or.inr (Or.inr (Or.inr ⟨z0, i', y1, PO, z1, z2, rfl⟩)))
        obtain ⟨g2, c1, mo⟩ := (step_m (t := 48 * p + 3 * i) (stI J) Pg Sg.2.2.2 (by omega) eg M' B h200 (by omega) (cf' (3 * i) (by omega)) (by rw [Nat.add_assoc]; exact cf' (3 * i + 1) (by omega)) (by rw [Nat.add_assoc]; exact cf' (3 * i + 2) (by omega)) (F i hi)).2 N'
        have J2 := ainv_ag J (ag_mo mo)
        have S2 := ls_mq Sg (mo.mq [] [])
        have P2 := pll_mq Pg (mo.mq [] [])
        obtain ⟨_, _, cn3, _⟩ := pcm_mo (p := p) (n := n) (f := f) ⟨hp, hn, cn', cf'⟩ mo
        obtain ⟨b1', b2', b3'⟩ := P2.2.2.2
        have g4 : hI g2 161 4 = nI (V 4) := by rw [mo.2.2.2.2.2.2.1 161 (by decide) (by decide), eg]; show nI (ww 4) = _; rw [M'.1 4 (by omega)]
        refine ⟨g2, ?_, mo.mq _ _⟩
        rw [tX12_run_47]
        by_cases y1 : y = 1
        · simp only [oB_some, dR_some, cond_true, cond_false, if_true, if_false, Bool.true_and, Bool.and_true, Nat.beq_refl, M147, b1, b2, b3, iaK20, ib', cl, cn', c, Sg.2.2.1, p48, c1, y1, (mfa J2).1, S2.2.2.1, S2.2.2.2.1, S2.2.2.2.2.1, ib4, tc4, g4]
        · simp only [oB_some, dR_some, cond_true, cond_false, if_true, if_false, Bool.true_and, Bool.and_true, Nat.beq_refl, M147, b1, b2, b3, iaK20, ib', cl, cn', c, Sg.2.2.1, p48, c1, y1, (mfa J2).1, b1', b2', b3', cn3, inn, show ¬ i = n by omega]
theorem pcc_of {h : Hp} {p n : Nat} (P : PLp h p n) (hp : p < 4) : PCc h p n (hI h (140 + 2 * p)) ∧ PCm h p n (hI h (140 + 2 * p)) ∧ stF n (hI h (140 + 2 * p)) :=
  ⟨⟨hp, P.2.1, P.2.2.1, fun _ _ => rfl⟩, ⟨hp, P.2.1, P.2.2.2.1, fun j hj => (P.2.2.2.2.1 j hj).symm⟩, P.2.2.2.2.2⟩
theorem hasPlan_c {h : Hp} {pc : Nat} (K0 : hK h 0 = 11) (e : hI h 0 17 = nI pc) (y : Int32) : FX11_hasPlan [vR (some 0), vI y] h = some (rI (if y < 0 then 0 else if nI pc - 1 < y then 0 else 1), h) := by
  rw [tX11_hasPlan]
  by_cases c : y < 0
  · simp only [oB_some, dR_some, cond_true, cond_false, if_true, if_false, Bool.true_and, Bool.and_true, Nat.beq_refl, K0, within11, e, c, isZ0]
  · by_cases c2 : nI pc - 1 < y
    · simp only [oB_some, dR_some, cond_true, cond_false, if_true, if_false, Bool.true_and, Bool.and_true, Nat.beq_refl, K0, within11, e, c, c2, isZ0]
    · simp only [oB_some, dR_some, cond_true, cond_false, if_true, if_false, Bool.true_and, Bool.and_true, Nat.beq_refl, K0, within11, e, c, c2, isZ1]
theorem isPlan_m {h : Hp} {pc : Nat} (M147 : hK h 147 = 12) (e : hI h 147 30 = nI pc) (y : Int32) : FX12_isPlan [vR (some 147), vI y] h = some (rI (if y < 0 then 0 else if nI pc ≤ y then 0 else 1), h) := by
  rw [tX12_isPlan]
  by_cases c : y < 0
  · simp only [oB_some, dR_some, cond_true, cond_false, if_true, if_false, Bool.true_and, Bool.and_true, Nat.beq_refl, c, isZ0]
  · by_cases c2 : nI pc ≤ y
    · simp only [oB_some, dR_some, cond_true, cond_false, if_true, if_false, Bool.true_and, Bool.and_true, Nat.beq_refl, M147, e, c, c2, isZ0]
    · simp only [oB_some, dR_some, cond_true, cond_false, if_true, if_false, Bool.true_and, Bool.and_true, Nat.beq_refl, M147, e, c, c2, isZ1]
/-- an index below n, by both ways of asking -/
theorem ix_both (y : Int32) {n : Nat} (hn : n < 2 ^ 31) : (y < 0) ∨ (¬ y < 0 ∧ nI n - 1 < y ∧ nI n ≤ y) ∨ (∃ i, i < n ∧ y = nI i ∧ ¬ y < 0 ∧ ¬ nI n - 1 < y ∧ ¬ nI n ≤ y) := by
  rcases ix_cases y hn with c | ⟨c1, c2, c3⟩ | ⟨i, hi, c, c1, c2⟩
  · exact Or.inl c
  · refine Or.inr (Or.inl ⟨c1, c2, ?_⟩)
    obtain ⟨j, hj, ej⟩ := nI_of c1
    rw [ej]
    exact nI_le (c3 j ej hj) hj
  · exact Or.inr (Or.inr ⟨i, hi, c, c1, c2, by rw [c]; exact nI_ge hi (by omega)⟩)
theorem run_both {h : Hp} {s : Nat} {r d b : Nat → Nat} {dc bc : Nat} {lw : Option ((Nat → Int32) × Nat)} {v u w lg bk z : Nat → Nat} {A x : Nat} {pc : Nat} {pn : Nat → Nat} (I : AINV h s r d b dc bc lw v u w lg bk z A x) (S : LSd h) (P : PLl h) (N : PLN h pc pn) (y y2 : Int32) : QRY h (FX11_run [vR (some 0), vI y, vI y2]) (FX12_run [vR (some 147), vI y, vI y2]) := by
  obtain ⟨K0, R01, R02, R04, R05, K3, R30, Ks, Rs2, Rs3, Rs4, Ks1, Es1, Ks2, Es2, Ks3, Es3, K10, R108, K11, E11, K14, K98, td, dcC, bcC, Ev, Eu⟩ := cfa I
  have hm := hom I
  have b5 : bc ≤ 5 := I.2.1.2.2.2.1.2.2.2.2.1.2
  have nz : ¬ nI bc = 0 := nI_nz I.2.1.2.2.2.2.1 (by omega)
  have M0 := (mfa I).1
  obtain ⟨n1, n2, n3, n4⟩ := N
  have hP := hasPlan_c K0 n2 y
  have n3' : hI (sI h 147 0 0) 147 30 = nI pc := by rw [hI_slot _ _ _ _ (by decide)]; exact n3
  have iP := isPlan_m (mfa (ainv_t I)).1 n3' y
  rcases ix_both y (n := pc) (by omega) with c | ⟨c1, c2, c3⟩ | ⟨p, hp, c, c1, c2, c3⟩
  · obtain ⟨M147, R18, K152, E152, R20, K154, E154, R22, K156, E156, R32, K160, E160, dcM, bcM, Ew⟩ := mfa (ainv_t I)
    refine QRY.id (res := -1000000) ?_ ?_
    · rw [tX11_run]; simp only [oB_some, dR_some, cond_true, cond_false, if_true, if_false, Bool.true_and, Bool.and_true, Nat.beq_refl, K0, hm, hP, c]
    · rw [tX12_run]; simp only [oB_some, dR_some, cond_true, cond_false, if_true, if_false, Bool.true_and, Bool.and_true, Nat.beq_refl, M0, M147, iP, c]
  · obtain ⟨M147, R18, K152, E152, R20, K154, E154, R22, K156, E156, R32, K160, E160, dcM, bcM, Ew⟩ := mfa (ainv_t I)
    refine QRY.id (res := -1000000) ?_ ?_
    · rw [tX11_run]; simp only [oB_some, dR_some, cond_true, cond_false, if_true, if_false, Bool.true_and, Bool.and_true, Nat.beq_refl, K0, hm, hP, c1, c2]
    · rw [tX12_run]; simp only [oB_some, dR_some, cond_true, cond_false, if_true, if_false, Bool.true_and, Bool.and_true, Nat.beq_refl, M0, M147, iP, c1, c3]
  by_cases k1 : y2 < 0
  · obtain ⟨M147, R18, K152, E152, R20, K154, E154, R22, K156, E156, R32, K160, E160, dcM, bcM, Ew⟩ := mfa (ainv_t I)
    refine QRY.id (res := -1000000) ?_ ?_
    · rw [tX11_run]; simp only [oB_some, dR_some, cond_true, cond_false, if_true, if_false, Bool.true_and, Bool.and_true, Nat.beq_refl, K0, hm, hP, c1, c2, ne10, within11, k1]
    · rw [tX12_run]; simp only [oB_some, dR_some, cond_true, cond_false, if_true, if_false, Bool.true_and, Bool.and_true, Nat.beq_refl, M0, M147, iP, c1, c3, ne10, bcM, nz, isIn_01, k1]
  by_cases k2 : (1 : Int32) < y2
  · obtain ⟨M147, R18, K152, E152, R20, K154, E154, R22, K156, E156, R32, K160, E160, dcM, bcM, Ew⟩ := mfa (ainv_t I)
    refine QRY.id (res := -1000000) ?_ ?_
    · rw [tX11_run]; simp only [oB_some, dR_some, cond_true, cond_false, if_true, if_false, Bool.true_and, Bool.and_true, Nat.beq_refl, K0, hm, hP, c1, c2, ne10, within11, k1, k2]
    · rw [tX12_run]; simp only [oB_some, dR_some, cond_true, cond_false, if_true, if_false, Bool.true_and, Bool.and_true, Nat.beq_refl, M0, M147, iP, c1, c3, ne10, bcM, nz, isIn_01, k1, k2]
  subst c
  obtain ⟨f1, f2, f3⟩ := pcc_of (n4 p hp) (by omega)
  obtain ⟨h', V, U, cp, O, hV, hU, eV, eU⟩ := apart_c I S
  have O' : Only h h' [8, 9, 12, 13] := O.mono (by simp)
  have k4 := I.2.2.1.2.2.2.1
  have h200 := lb_200 I.2.2.1.2.2.2.2
  have S' := ls_only S O'
  have I' := ainv_ag I (ag_side O')
  have B0 := sv_ext (sv_bv I.2.2.1.2.1) eV eU
  obtain ⟨res, h1, a1, a2, a3⟩ := run_loop f3 y2 (pn p) 0 h' V U (by omega) I' S' (pll_only P O') (pcc_fr f1 (O'.I (by simp; omega)) (O'.I (by simp; omega))) hV hU B0
  have O1 := O'.trans a2
  have J := ainv_t (ainv_ag I (ag_side O1))
  have Sj := ls_mq (ls_only S O1) (mq_t h1)
  obtain ⟨M147, R18, K152, E152, R20, K154, E154, R22, K156, E156, R32, K160, E160, dcM, bcM, Ew⟩ := mfa J
  obtain ⟨ww2, cm2, ew2⟩ := apart_m J Sj
  have cK : hK h 12 = 4 := S.2.1.1
  have M147h := (mfa (ainv_ag I (ag_side O1))).1
  have q := mq_wA (sI h1 147 0 0) (a := 161) (nR ww2) (l := [161]) [] (by simp) (by decide)
  have J2 := ainv_ag J (ag_row q)
  have n3j : hI (sI h1 147 0 0) 147 30 = nI pc := by rw [hI_slot _ _ _ _ (by decide), O1.I (by simp)]; exact n3
  have iPj := isPlan_m M147 n3j (nI p)
  have pg : PCm (RN (sI h1 147 0 0) 161 ww2) p (pn p) (hI h (140 + 2 * p)) := pcm_row (pcm_fr f2 (by rw [hI_row _ _ _ _ (by decide), O1.I (by simp)]) (by rw [hI_row _ _ _ _ (by decide), O1.I (by simp)])) q (by omega)
  obtain ⟨g1, w1, w2⟩ := a3 (RN (sI h1 147 0 0) 161 ww2) ww2 (mr_ext k4 eV eU (fun k hk => ew2 k (by omega))) (by rw [ew2 200 (by omega)]; exact h200) J2 (ls_mq Sj q) (pll_mq (pll_mq (pll_only P O1) (mq_t h1)) q) pg (by unfold RN; rw [wA_I])
  refine ⟨res, h1, g1, ?_, ?_, O1.mono (by decide), (mq_t h1).trans ((mq_161 q).trans (mq_161 w2))⟩
  · rw [tX11_run]; simp only [oB_some, dR_some, cond_true, cond_false, if_true, if_false, Bool.true_and, Bool.and_true, Nat.beq_refl, K0, hm, hP, c1, c2, ne10, within11, k1, k2, S.1, cK, R02, cp]; exact a1
  · rw [tX12_run]; simp only [oB_some, dR_some, cond_true, cond_false, if_true, if_false, Bool.true_and, Bool.and_true, Nat.beq_refl, M147h, M147, iPj, c1, c3, ne10, bcM, nz, isIn_01, k1, k2, R32, Sj.2.2.1, cm2]; exact w1
