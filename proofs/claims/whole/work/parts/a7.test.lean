/-! ===== PURE: test, sign: by both ===== -/
/-- what test writes -/
def tsP (a k : Nat) : Prop := (a = 101 ∧ (k = 0 ∨ k = 1 ∨ k = 2)) ∨ a = 166 ∨ a = 169 ∨ (a = 147 ∧ (k = 0 ∨ k = 50))
theorem ten_at {h : Hp} (T : TEN h) {k : Nat} (hk : k ≤ 2) : hI h (PRE + 4) k = nI (oneN k) ∧ hI h (PRE + 5) k = nI (twoN k) := by
  obtain ⟨⟨_, _, a1, a2, a3⟩, ⟨_, _, b1, b2, b3⟩⟩ := T
  rcases (show k = 0 ∨ k = 1 ∨ k = 2 by omega) with z | z | z
  · subst z; exact ⟨a1, b1⟩
  · subst z; exact ⟨a2, b2⟩
  · subst z; exact ⟨a3, b3⟩
theorem test_both {h : Hp} {s : Nat} {r d b : Nat → Nat} {dc bc : Nat} {lw : Option ((Nat → Int32) × Nat)} {v u w lg bk z : Nat → Nat} {A x : Nat} {tc : Nat} {so is : Nat → Nat} (I : AINV h s r d b dc bc lw v u w lg bk z A x) (L : PRl h) (T : TST h tc so is) (E : TEN h) (y : Int32) {i : Nat} (hi : i ≤ 1) : ∃ res h1 h2, FX11_test [vR (some 0), vI y, vI (nI i)] h = some (rI res, h1) ∧ FX12_test [vR (some 147), vI y, vI (nI i)] h1 = some (rI res, h2) ∧ FR tsP h h2 ∧ ∃ tc' so' is', TST h2 tc' so' is' := by
  obtain ⟨K0, R01, R02, R04, R05, K3, R30, Ks, Rs2, Rs3, Rs4, Ks1, Es1, Ks2, Es2, Ks3, Es3, K10, R108, K11, E11, K14, K98, td, dcC, bcC, Ev, Eu⟩ := cfa I
  have hm := hom I
  have M0 := (mfa I).1
  obtain ⟨M147, R18, K152, E152, R20, K154, E154, R22, K156, E156, R32, K160, E160, dcM, bcM, Ew⟩ := mfa (ainv_t I)
  have b5 : bc ≤ 5 := I.2.1.2.2.2.1.2.2.2.2.1.2
  have nz : ¬ nI bc = 0 := nI_nz I.2.1.2.2.2.2.1 (by omega)
  obtain ⟨t1, t2, t3, t4, t5, t6⟩ := T
  obtain ⟨⟨a1, a2, a3, a4, a5⟩, ⟨d1, d2, d3⟩, ⟨e1, e2, e3⟩, _⟩ := L
  have T0 : TST (sI h 147 0 0) tc so is := ⟨t1, by rw [hI_oth _ _ _ _ _ (by decide)]; exact t2, by rw [hI_slot _ _ _ _ (by decide)]; exact t3, t4, t5, fun k hk => by rw [hI_oth _ _ _ _ _ (by decide), hI_oth _ _ _ _ _ (by decide)]; exact t6 k hk⟩
  have frn : FR tsP h (sI h 147 0 0) := fr_sI _ _ _ _ (by unfold tsP; omega)
  have no : FX11_test [vR (some 0), vI y, vI (nI i)] h = some (rI (-1), h) → FX12_test [vR (some 147), vI y, vI (nI i)] h = some (rI (-1), sI h 147 0 0) → ∃ res h1 h2, FX11_test [vR (some 0), vI y, vI (nI i)] h = some (rI res, h1) ∧ FX12_test [vR (some 147), vI y, vI (nI i)] h1 = some (rI res, h2) ∧ FR tsP h h2 ∧ ∃ tc' so' is', TST h2 tc' so' is' := fun q1 q2 => ⟨-1, h, _, q1, q2, frn, tc, so, is, T0⟩
  by_cases c1 : y < 0
  · refine no ?_ ?_
    · rw [tX11_test]; simp only [oB_some, dR_some, cond_true, cond_false, if_true, if_false, Bool.true_and, Bool.and_true, Nat.beq_refl, K0, hm, within11, c1]
    · rw [tX12_test]; simp only [oB_some, dR_some, cond_true, cond_false, if_true, if_false, Bool.true_and, Bool.and_true, Nat.beq_refl, M0, M147, bcM, nz, isIn_02, c1]
  by_cases c2 : (2 : Int32) < y
  · refine no ?_ ?_
    · rw [tX11_test]; simp only [oB_some, dR_some, cond_true, cond_false, if_true, if_false, Bool.true_and, Bool.and_true, Nat.beq_refl, K0, hm, within11, c1, c2]
    · rw [tX12_test]; simp only [oB_some, dR_some, cond_true, cond_false, if_true, if_false, Bool.true_and, Bool.and_true, Nat.beq_refl, M0, M147, bcM, nz, isIn_02, c1, c2]
  obtain ⟨k, hk, ek⟩ := nI_of2 (M := 2) (n := 2) (by decide) c1 (Int32.not_lt.mp c2)
  subst ek
  have q12 : ((12 : Int32) ≤ nI tc) = (12 ≤ tc) := nI_nle' (a := 12) (by omega) (by omega)
  have e12 : (nI tc = (12 : Int32)) = (tc = 12) := nI_neq' (b := 12) (by omega) (by omega)
  have z50 : hI (sI h 147 0 0) 147 50 = nI tc := T0.2.2.1
  by_cases c3 : 12 ≤ tc
  · refine no ?_ ?_
    · rw [tX11_test]; simp only [oB_some, dR_some, cond_true, cond_false, if_true, if_false, Bool.true_and, Bool.and_true, Nat.beq_refl, K0, hm, within11, c1, c2, ne10, a1, a2, tX7_addTest, t2, q12, c3]
    · rw [tX12_test]; simp only [oB_some, dR_some, cond_true, cond_false, if_true, if_false, Bool.true_and, Bool.and_true, Nat.beq_refl, M0, M147, bcM, nz, isIn_02, c1, c2, ne10, z50, e12, eq_true (show tc = 12 by omega)]
  obtain ⟨o1, o2⟩ := ten_at E hk
  obtain ⟨⟨x1, x2, _⟩, ⟨w1, w2, _⟩⟩ := E
  have k3 : nI k < Int32.ofNat 3 := by
    have : nI k < nI 3 := nI_lt (by omega) (by omega)
    exact this
  have ib3 : inb (nI k) 3 = true := inb_nI (by omega) (by omega)
  have ck : (nI k).toNatClampNeg = k := nI_clamp (by omega)
  -- the class
  let h1 : Hp := sI (sL (sL h 101 1 (lN (pdt oneN so is tc * tnt oneN k i))) 101 2 (lN (pdt twoN so is tc * tnt twoN k i))) 101 0 (nI (tc + 1))
  have hl2 : ∀ y', hL (sL h 101 1 y') 101 2 = lN (pdt twoN so is tc) := fun y' => by rw [hL_sL, if_pos rfl, if_neg (by decide)]; exact t5
  have cls : FX11_test [vR (some 0), vI (nI k), vI (nI i)] h = some (rI (nI (tc + 1)), h1) := by
    have p1 := lN_t (tnt_b one_b.1 one_b.2 k i).2
    have p2 := lN_t (tnt_b two_b.1 two_b.2 k i).2
    have u1 := one_b.2 k
    have u2 := two_b.2 k
    rw [tX11_test]
    rcases (show i = 0 ∨ i = 1 by omega) with q | q
    · subst q
      rw [show tnt oneN k 0 = 10 - oneN k from rfl] at p1
      rw [show tnt twoN k 0 = 10 - twoN k from rfl] at p2
      simp only [oB_some, dR_some, cond_true, cond_false, if_true, if_false, Bool.true_and, Bool.and_true, Nat.beq_refl, K0, hm, within11, c1, c2, ne10, a1, a2, tX7_addTest, t2, q12, c3, x1, x2, w1, w2, iaK25, alK25, k3, nI_0, ib3, ck, o1, o2, ten_10 _ u1, ten_10 _ u2, p1, p2, hK_sL, hE_sL, hI_sL, t4, hl2, lN_mul, hK_sI, hI_same, nI_1]
      rfl
    · subst q
      rw [show tnt oneN k 1 = oneN k from rfl] at p1
      rw [show tnt twoN k 1 = twoN k from rfl] at p2
      simp only [oB_some, dR_some, cond_true, cond_false, if_true, if_false, Bool.true_and, Bool.and_true, Nat.beq_refl, K0, hm, within11, c1, c2, ne10, a1, a2, tX7_addTest, t2, q12, c3, x1, x2, w1, w2, iaK25, alK25, k3, show nI 1 = (1 : Int32) from rfl, ib3, ck, o1, o2, p1, p2, hK_sL, hE_sL, hI_sL, t4, hl2, lN_mul, hK_sI, hI_same, nI_1]
      rfl
  have ib12 : inb (nI tc) 12 = true := inb_nI (by omega) (by omega)
  have ct : (nI tc).toNatClampNeg = tc := nI_clamp (by omega)
  have n12 : ¬ tc = 12 := by omega
  have f1 : FR tsP h h1 := ((fr_sL _ _ _ _ (by unfold tsP; omega)).trans (fr_sL _ _ _ _ (by unfold tsP; omega))).trans (fr_sI _ _ _ _ (by unfold tsP; omega))
  have j50 : hI (sI h1 147 0 0) 147 50 = nI tc := by rw [hI_slot _ _ _ _ (by decide)]; show hI (sI _ 101 0 _) 147 50 = _; rw [hI_oth _ _ _ _ _ (by decide)]; exact t3
  have j27 : hI (sI h1 147 0 0) 147 27 = nI bc := by rw [hI_slot _ _ _ _ (by decide)]; show hI (sI _ 101 0 _) 147 27 = _; rw [hI_oth _ _ _ _ _ (by decide)]; exact (mfa I).2.2.2.2.2.2.2.2.2.2.2.2.2.2.1
  have K1 : hK h1 = hK h := rfl
  have E1 : hE h1 = hE h := rfl
  have R1 : hR h1 = hR h := rfl
  have L1 : hL h1 101 1 = lN (pdt oneN so is tc * tnt oneN k i) := by show hL (sL (sL h 101 1 (lN (pdt oneN so is tc * tnt oneN k i))) 101 2 (lN (pdt twoN so is tc * tnt twoN k i))) 101 1 = _; rw [hL_sL, if_pos rfl, if_neg (by decide), hL_at]
  have L2 : hL h1 101 2 = lN (pdt twoN so is tc * tnt twoN k i) := by show hL (sL (sL h 101 1 (lN (pdt oneN so is tc * tnt oneN k i))) 101 2 (lN (pdt twoN so is tc * tnt twoN k i))) 101 2 = _; rw [hL_at]
  have I1 : hI h1 101 0 = nI (tc + 1) := hI_same _ _ _ _
  have I2 : ∀ a, a ≠ 101 → hI h1 a = hI h a := fun a ha => by show hI (sI _ 101 0 _) a = _; rw [hI_row _ _ _ _ ha]; rfl
  generalize h1 = g at *
  let h2 : Hp := sI (sI (sI (sI g 147 0 0) 166 tc (nI k)) 169 tc (nI i)) 147 50 (nI (tc + 1))
  have mdl : FX12_test [vR (some 147), vI (nI k), vI (nI i)] g = some (rI (nI (tc + 1)), h2) := by
    have r1 : hI (sI (sI g 147 0 0) 166 tc (nI k)) 147 50 = nI tc := by rw [hI_oth _ _ _ _ _ (by decide)]; exact j50
    have r2 : hI (sI (sI (sI g 147 0 0) 166 tc (nI k)) 169 tc (nI i)) 147 50 = nI tc := by rw [hI_oth _ _ _ _ _ (by decide)]; exact r1
    rw [tX12_test]
    simp only [oB_some, dR_some, cond_true, cond_false, if_true, if_false, Bool.true_and, Bool.and_true, Nat.beq_refl, hK_sI, hE_sI, hR_sI, K1, E1, R1, M0, j27, nz, isIn_02, c1, c2, ne10, j50, e12, n12, d1, d2, d3, ib12, ct, r1, e1, e2, e3, bool_n i hi, r2, nI_1, hI_same]
    rfl
  have f2 : FR tsP g h2 := (((fr_sI _ _ _ _ (by unfold tsP; omega)).trans (fr_sI _ _ _ _ (by unfold tsP; omega))).trans (fr_sI _ _ _ _ (by unfold tsP; omega))).trans (fr_sI _ _ _ _ (by unfold tsP; omega))
  refine ⟨nI (tc + 1), g, h2, cls, mdl, f1.trans f2, tc + 1, up1 so tc k, up1 is tc i, by omega, ?_, hI_same _ _ _ _, ?_, ?_, fun j hj => ?_⟩
  · show hI (sI (sI (sI (sI g 147 0 0) 166 tc (nI k)) 169 tc (nI i)) 147 50 (nI (tc + 1))) 101 0 = _
    rw [hI_oth _ _ _ _ _ (by decide), hI_oth _ _ _ _ _ (by decide), hI_oth _ _ _ _ _ (by decide), hI_oth _ _ _ _ _ (by decide)]; exact I1
  · show hL g 101 1 = lN (pdt oneN (up1 so tc k) (up1 is tc i) tc * tnt oneN (up1 so tc k tc) (up1 is tc i tc))
    rw [up1_s, up1_s, pdt_cg (fun j hj => ⟨up1_o _ _ (by omega), up1_o _ _ (by omega)⟩)]; exact L1
  · show hL g 101 2 = lN (pdt twoN (up1 so tc k) (up1 is tc i) tc * tnt twoN (up1 so tc k tc) (up1 is tc i tc))
    rw [up1_s, up1_s, pdt_cg (fun j hj => ⟨up1_o _ _ (by omega), up1_o _ _ (by omega)⟩)]; exact L2
  · have g6 : hI h2 166 j = if j = tc then nI k else hI h 166 j := by
      show hI (sI (sI (sI (sI g 147 0 0) 166 tc (nI k)) 169 tc (nI i)) 147 50 (nI (tc + 1))) 166 j = _
      rw [hI_oth _ _ _ _ _ (by decide), hI_oth _ _ _ _ _ (by decide), hI_sI, if_pos rfl]
      by_cases q : j = tc
      · rw [if_pos q, if_pos q]
      · rw [if_neg q, if_neg q, hI_oth _ _ _ _ _ (by decide), I2 166 (by decide)]
    have g9 : hI h2 169 j = if j = tc then nI i else hI h 169 j := by
      show hI (sI (sI (sI (sI g 147 0 0) 166 tc (nI k)) 169 tc (nI i)) 147 50 (nI (tc + 1))) 169 j = _
      rw [hI_oth _ _ _ _ _ (by decide), hI_sI, if_pos rfl]
      by_cases q : j = tc
      · rw [if_pos q, if_pos q]
      · rw [if_neg q, if_neg q, hI_oth _ _ _ _ _ (by decide), hI_oth _ _ _ _ _ (by decide), I2 169 (by decide)]
    rw [g6, g9]
    by_cases q : j = tc
    · subst q; rw [if_pos rfl, if_pos rfl, up1_s, up1_s]; exact ⟨rfl, hk, rfl, hi⟩
    · rw [if_neg q, if_neg q, up1_o _ _ q, up1_o _ _ q]; exact t6 j (by omega)
/-- what sign writes -/
def sgP (a k : Nat) : Prop := (a = 101 ∧ k = 3) ∨ a = 102 ∨ a = 167 ∨ a = 168 ∨ a = 170 ∨ (a = 147 ∧ (k = 0 ∨ k = 51))
theorem sign_both {h : Hp} {s : Nat} {r d b : Nat → Nat} {dc bc : Nat} {lw : Option ((Nat → Int32) × Nat)} {v u w lg bk z : Nat → Nat} {A x : Nat} {sc : Nat} {ss sm si : Nat → Nat} (I : AINV h s r d b dc bc lw v u w lg bk z A x) (L : PRl h) (T : SGN h sc ss sm si) (y y2 : Int32) {i : Nat} (hi : i ≤ 1) : ∃ res h1 h2, FX11_sign [vR (some 0), vI y, vI y2, vI (nI i)] h = some (rI res, h1) ∧ FX12_sign [vR (some 147), vI y, vI y2, vI (nI i)] h1 = some (rI res, h2) ∧ FR sgP h h2 ∧ ∃ sc' ss' sm' si', SGN h2 sc' ss' sm' si' := by
  obtain ⟨K0, R01, R02, R04, R05, K3, R30, Ks, Rs2, Rs3, Rs4, Ks1, Es1, Ks2, Es2, Ks3, Es3, K10, R108, K11, E11, K14, K98, td, dcC, bcC, Ev, Eu⟩ := cfa I
  have hm := hom I
  have M0 := (mfa I).1
  obtain ⟨M147, R18, K152, E152, R20, K154, E154, R22, K156, E156, R32, K160, E160, dcM, bcM, Ew⟩ := mfa (ainv_t I)
  have b5 : bc ≤ 5 := I.2.1.2.2.2.1.2.2.2.2.1.2
  have nz : ¬ nI bc = 0 := nI_nz I.2.1.2.2.2.2.1 (by omega)
  have T0 := sgn_t T
  obtain ⟨t1, t2, t3, t4⟩ := T
  obtain ⟨⟨a1, a2, a3, a4, a5⟩, _, _, ⟨d1, d2, d3⟩, ⟨e1, e2, e3⟩, ⟨f1, f2, f3⟩⟩ := L
  have frn : FR sgP h (sI h 147 0 0) := fr_sI _ _ _ _ (by unfold sgP; omega)
  have no : FX11_sign [vR (some 0), vI y, vI y2, vI (nI i)] h = some (rI (-1), h) → FX12_sign [vR (some 147), vI y, vI y2, vI (nI i)] h = some (rI (-1), sI h 147 0 0) → ∃ res h1 h2, FX11_sign [vR (some 0), vI y, vI y2, vI (nI i)] h = some (rI res, h1) ∧ FX12_sign [vR (some 147), vI y, vI y2, vI (nI i)] h1 = some (rI res, h2) ∧ FR sgP h h2 ∧ ∃ sc' ss' sm' si', SGN h2 sc' ss' sm' si' := fun q1 q2 => ⟨-1, h, _, q1, q2, frn, sc, ss, sm, si, T0⟩
  by_cases c1 : y < 0
  · refine no ?_ ?_
    · rw [tX11_sign]; simp only [oB_some, dR_some, cond_true, cond_false, if_true, if_false, Bool.true_and, Bool.and_true, Nat.beq_refl, K0, hm, within11, c1]
    · rw [tX12_sign]; simp only [oB_some, dR_some, cond_true, cond_false, if_true, if_false, Bool.true_and, Bool.and_true, Nat.beq_refl, M0, M147, bcM, nz, isIn_02, c1]
  by_cases c2 : (2 : Int32) < y
  · refine no ?_ ?_
    · rw [tX11_sign]; simp only [oB_some, dR_some, cond_true, cond_false, if_true, if_false, Bool.true_and, Bool.and_true, Nat.beq_refl, K0, hm, within11, c1, c2]
    · rw [tX12_sign]; simp only [oB_some, dR_some, cond_true, cond_false, if_true, if_false, Bool.true_and, Bool.and_true, Nat.beq_refl, M0, M147, bcM, nz, isIn_02, c1, c2]
  by_cases c3 : y2 < 0
  · refine no ?_ ?_
    · rw [tX11_sign]; simp only [oB_some, dR_some, cond_true, cond_false, if_true, if_false, Bool.true_and, Bool.and_true, Nat.beq_refl, K0, hm, within11, c1, c2, ne10, c3]
    · rw [tX12_sign]; simp only [oB_some, dR_some, cond_true, cond_false, if_true, if_false, Bool.true_and, Bool.and_true, Nat.beq_refl, M0, M147, bcM, nz, isIn_02, c1, c2, ne10, isIn_099, c3]
  by_cases c4 : (99 : Int32) < y2
  · refine no ?_ ?_
    · rw [tX11_sign]; simp only [oB_some, dR_some, cond_true, cond_false, if_true, if_false, Bool.true_and, Bool.and_true, Nat.beq_refl, K0, hm, within11, c1, c2, ne10, c3, c4]
    · rw [tX12_sign]; simp only [oB_some, dR_some, cond_true, cond_false, if_true, if_false, Bool.true_and, Bool.and_true, Nat.beq_refl, M0, M147, bcM, nz, isIn_02, c1, c2, ne10, isIn_099, c3, c4]
  obtain ⟨k, hk, ek⟩ := nI_of2 (M := 2) (n := 2) (by decide) c1 (Int32.not_lt.mp c2)
  obtain ⟨m, hm2, em⟩ := nI_of2 (M := 99) (n := 99) (by decide) c3 (Int32.not_lt.mp c4)
  subst ek em
  have q10 : (nI sc < (10 : Int32)) = (sc < 10) := nI_nlt' (b := 10) (by omega) (by omega)
  have e10 : (nI sc = (10 : Int32)) = (sc = 10) := nI_neq' (b := 10) (by omega) (by omega)
  have z51 : hI (sI h 147 0 0) 147 51 = nI sc := T0.2.2.1
  by_cases c5 : sc < 10
  · obtain ⟨i30, i300, i31, i32, ia0, ia1, ia2, ic0, ic1, ic2⟩ := ix3 (i := sc) (N := 30) (by omega) (by omega)
    let h1 : Hp := sI (sI (sI (sI h 102 (3 * sc) (nI k)) 102 (3 * sc + 1) (nI m)) 102 (3 * sc + 2) (nI i)) 101 3 (nI (sc + 1))
    have cls : FX11_sign [vR (some 0), vI (nI k), vI (nI m), vI (nI i)] h = some (rI (nI (sc + 1)), h1) := by
      have r1 : hI (sI h 102 (3 * sc) (nI k)) 101 3 = nI sc := by rw [hI_oth _ _ _ _ _ (by decide)]; exact t2
      have r2 : hI (sI (sI h 102 (3 * sc) (nI k)) 102 (3 * sc + 1) (nI m)) 101 3 = nI sc := by rw [hI_oth _ _ _ _ _ (by decide)]; exact r1
      rw [tX11_sign]
      rcases (show i = 0 ∨ i = 1 by omega) with q | q
      · subst q
        have r3 : hI (sI (sI (sI h 102 (3 * sc) (nI k)) 102 (3 * sc + 1) (nI m)) 102 (3 * sc + 2) 0) 101 3 = nI sc := by rw [hI_oth _ _ _ _ _ (by decide)]; exact r2
        simp only [oB_some, dR_some, cond_true, cond_false, if_true, if_false, Bool.true_and, Bool.and_true, Nat.beq_refl, K0, hm, within11, c1, c2, c3, c4, ne10, a1, a2, tX7_addSign, t2, q10, c5, a3, a4, a5, i30, i300, i31, i32, ia0, ia1, ia2, ic0, ic1, ic2, hK_sI, hE_sI, hR_sI, r1, r2, nI_0, r3, hI_same, nI_1]
        rfl
      · subst q
        have r3 : hI (sI (sI (sI h 102 (3 * sc) (nI k)) 102 (3 * sc + 1) (nI m)) 102 (3 * sc + 2) 1) 101 3 = nI sc := by rw [hI_oth _ _ _ _ _ (by decide)]; exact r2
        simp only [oB_some, dR_some, cond_true, cond_false, if_true, if_false, Bool.true_and, Bool.and_true, Nat.beq_refl, K0, hm, within11, c1, c2, c3, c4, ne10, a1, a2, tX7_addSign, t2, q10, c5, a3, a4, a5, i30, i300, i31, i32, ia0, ia1, ia2, ic0, ic1, ic2, hK_sI, hE_sI, hR_sI, r1, r2, show nI 1 = (1 : Int32) from rfl, r3, hI_same, nI_1]
        rfl
    have g1 : FR sgP h h1 := (((fr_sI _ _ _ _ (by unfold sgP; omega)).trans (fr_sI _ _ _ _ (by unfold sgP; omega))).trans (fr_sI _ _ _ _ (by unfold sgP; omega))).trans (fr_sI _ _ _ _ (by unfold sgP; omega))
    have K1 : hK h1 = hK h := rfl
    have E1 : hE h1 = hE h := rfl
    have R1 : hR h1 = hR h := rfl
    have I1 : hI h1 101 3 = nI (sc + 1) := hI_same _ _ _ _
    have I2 : ∀ a, a ≠ 101 → a ≠ 102 → hI h1 a = hI h a := fun a ha hb => by show hI (sI (sI (sI (sI h 102 _ _) 102 _ _) 102 _ _) 101 3 _) a = _; rw [hI_row _ _ _ _ ha, hI_row _ _ _ _ hb, hI_row _ _ _ _ hb, hI_row _ _ _ _ hb]
    have I3 : ∀ j, hI h1 102 j = if j = 3 * sc + 2 then nI i else if j = 3 * sc + 1 then nI m else if j = 3 * sc then nI k else hI h 102 j := fun j => by
      show hI (sI (sI (sI (sI h 102 (3 * sc) (nI k)) 102 (3 * sc + 1) (nI m)) 102 (3 * sc + 2) (nI i)) 101 3 (nI (sc + 1))) 102 j = _
      rw [hI_oth _ _ _ _ _ (by decide), hI_sI, if_pos rfl, hI_sI, if_pos rfl, hI_sI, if_pos rfl]
    have j51 : hI (sI h1 147 0 0) 147 51 = nI sc := by rw [hI_slot _ _ _ _ (by decide), I2 147 (by decide) (by decide)]; exact t3
    have j27 : hI (sI h1 147 0 0) 147 27 = nI bc := by rw [hI_slot _ _ _ _ (by decide), I2 147 (by decide) (by decide)]; exact (mfa I).2.2.2.2.2.2.2.2.2.2.2.2.2.2.1
    generalize h1 = g at *
    have ib10 : inb (nI sc) 10 = true := inb_nI (by omega) (by omega)
    have ct : (nI sc).toNatClampNeg = sc := nI_clamp (by omega)
    have n10 : ¬ sc = 10 := by omega
    let h2 : Hp := sI (sI (sI (sI (sI g 147 0 0) 167 sc (nI k)) 168 sc (nI m)) 170 sc (nI i)) 147 51 (nI (sc + 1))
    have mdl : FX12_sign [vR (some 147), vI (nI k), vI (nI m), vI (nI i)] g = some (rI (nI (sc + 1)), h2) := by
      have r1 : hI (sI (sI g 147 0 0) 167 sc (nI k)) 147 51 = nI sc := by rw [hI_oth _ _ _ _ _ (by decide)]; exact j51
      have r2 : hI (sI (sI (sI g 147 0 0) 167 sc (nI k)) 168 sc (nI m)) 147 51 = nI sc := by rw [hI_oth _ _ _ _ _ (by decide)]; exact r1
      have r3 : hI (sI (sI (sI (sI g 147 0 0) 167 sc (nI k)) 168 sc (nI m)) 170 sc (nI i)) 147 51 = nI sc := by rw [hI_oth _ _ _ _ _ (by decide)]; exact r2
      rw [tX12_sign]
      simp only [oB_some, dR_some, cond_true, cond_false, if_true, if_false, Bool.true_and, Bool.and_true, Nat.beq_refl, hK_sI, hE_sI, hR_sI, K1, E1, R1, M0, j27, nz, isIn_02, isIn_099, c1, c2, c3, c4, ne10, j51, e10, n10, d1, d2, d3, ib10, ct, r1, e1, e2, e3, r2, f1, f2, f3, bool_n i hi, r3, nI_1, hI_same]
      rfl
    have g2 : FR sgP g h2 := ((((fr_sI _ _ _ _ (by unfold sgP; omega)).trans (fr_sI _ _ _ _ (by unfold sgP; omega))).trans (fr_sI _ _ _ _ (by unfold sgP; omega))).trans (fr_sI _ _ _ _ (by unfold sgP; omega))).trans (fr_sI _ _ _ _ (by unfold sgP; omega))
    refine ⟨nI (sc + 1), g, h2, cls, mdl, g1.trans g2, sc + 1, up1 ss sc k, up1 sm sc m, up1 si sc i, by omega, ?_, hI_same _ _ _ _, fun j hj => ?_⟩
    · show hI (sI (sI (sI (sI (sI g 147 0 0) 167 sc (nI k)) 168 sc (nI m)) 170 sc (nI i)) 147 51 (nI (sc + 1))) 101 3 = _
      rw [hI_oth _ _ _ _ _ (by decide), hI_oth _ _ _ _ _ (by decide), hI_oth _ _ _ _ _ (by decide), hI_oth _ _ _ _ _ (by decide), hI_oth _ _ _ _ _ (by decide)]; exact I1
    · have w2 : ∀ a q, a ≠ 147 → a ≠ 167 → a ≠ 168 → a ≠ 170 → hI h2 a q = hI g a q := fun a q p1 p2 p3 p4 => by
        show hI (sI (sI (sI (sI (sI g 147 0 0) 167 sc (nI k)) 168 sc (nI m)) 170 sc (nI i)) 147 51 (nI (sc + 1))) a q = _
        rw [hI_oth _ _ _ _ _ p1, hI_oth _ _ _ _ _ p4, hI_oth _ _ _ _ _ p3, hI_oth _ _ _ _ _ p2, hI_oth _ _ _ _ _ p1]
      have g7 : hI h2 167 j = if j = sc then nI k else hI h 167 j := by
        show hI (sI (sI (sI (sI (sI g 147 0 0) 167 sc (nI k)) 168 sc (nI m)) 170 sc (nI i)) 147 51 (nI (sc + 1))) 167 j = _
        rw [hI_oth _ _ _ _ _ (by decide), hI_oth _ _ _ _ _ (by decide), hI_oth _ _ _ _ _ (by decide), hI_sI, if_pos rfl, hI_oth _ _ _ _ _ (by decide), I2 167 (by decide) (by decide)]
      have g8 : hI h2 168 j = if j = sc then nI m else hI h 168 j := by
        show hI (sI (sI (sI (sI (sI g 147 0 0) 167 sc (nI k)) 168 sc (nI m)) 170 sc (nI i)) 147 51 (nI (sc + 1))) 168 j = _
        rw [hI_oth _ _ _ _ _ (by decide), hI_oth _ _ _ _ _ (by decide), hI_sI, if_pos rfl, hI_oth _ _ _ _ _ (by decide), hI_oth _ _ _ _ _ (by decide), I2 168 (by decide) (by decide)]
      have g0 : hI h2 170 j = if j = sc then nI i else hI h 170 j := by
        show hI (sI (sI (sI (sI (sI g 147 0 0) 167 sc (nI k)) 168 sc (nI m)) 170 sc (nI i)) 147 51 (nI (sc + 1))) 170 j = _
        rw [hI_oth _ _ _ _ _ (by decide), hI_sI, if_pos rfl, hI_oth _ _ _ _ _ (by decide), hI_oth _ _ _ _ _ (by decide), hI_oth _ _ _ _ _ (by decide), I2 170 (by decide) (by decide)]
      rw [w2 102 _ (by decide) (by decide) (by decide) (by decide), w2 102 _ (by decide) (by decide) (by decide) (by decide), w2 102 _ (by decide) (by decide) (by decide) (by decide), g7, g8, g0, I3, I3, I3]
      by_cases q : j = sc
      · subst q
        rw [if_neg (by omega), if_neg (by omega), if_pos rfl, if_neg (by omega), if_pos rfl, if_pos rfl, if_pos rfl, if_pos rfl, if_pos rfl, up1_s, up1_s, up1_s]
        exact ⟨⟨rfl, rfl, rfl⟩, ⟨rfl, rfl, rfl⟩, hk, hm2, hi⟩
      · rw [if_neg (by omega), if_neg (by omega), if_neg (by omega), if_neg (by omega), if_neg (by omega), if_neg (by omega), if_neg (by omega), if_neg (by omega), if_neg (by omega), if_neg q, if_neg q, if_neg q, up1_o _ _ q, up1_o _ _ q, up1_o _ _ q]
        exact t4 j (by omega)
  · refine no ?_ ?_
    · rw [tX11_sign]; simp only [oB_some, dR_some, cond_true, cond_false, if_true, if_false, Bool.true_and, Bool.and_true, Nat.beq_refl, K0, hm, within11, c1, c2, c3, c4, ne10, a1, a2, tX7_addSign, t2, q10, c5]
    · rw [tX12_sign]; simp only [oB_some, dR_some, cond_true, cond_false, if_true, if_false, Bool.true_and, Bool.and_true, Nat.beq_refl, M0, M147, bcM, nz, isIn_02, isIn_099, c1, c2, c3, c4, ne10, z51, e10, eq_true (show sc = 10 by omega)]
