/-! ===== PURE: test, crane, sign, from, ask: by both ===== -/
theorem crane_both {h : Hp} {s : Nat} {r d b : Nat → Nat} {dc bc : Nat} {lw : Option ((Nat → Int32) × Nat)} {v u w lg bk z : Nat → Nat} {A x : Nat} {tc : Nat} {so is : Nat → Nat} (I : AINV h s r d b dc bc lw v u w lg bk z A x) (L : PRl h) (T : TST h tc so is) : QRY h (FX11_crane [vR (some 0)]) (FX12_crane [vR (some 147)]) := by
  obtain ⟨K0, R01, R02, R04, R05, K3, R30, Ks, Rs2, Rs3, Rs4, Ks1, Es1, Ks2, Es2, Ks3, Es3, K10, R108, K11, E11, K14, K98, td, dcC, bcC, Ev, Eu⟩ := cfa I
  have hm := hom I
  have M0 := (mfa I).1
  obtain ⟨M147, R18, K152, E152, R20, K154, E154, R22, K156, E156, R32, K160, E160, dcM, bcM, Ew⟩ := mfa (ainv_t I)
  have b5 : bc ≤ 5 := I.2.1.2.2.2.1.2.2.2.2.1.2
  have nz : ¬ nI bc = 0 := nI_nz I.2.1.2.2.2.2.1 (by omega)
  have T' : TST (sI h 147 0 0) tc so is := by
    obtain ⟨t1, t2, t3, t4, t5, t6⟩ := T
    exact ⟨t1, by rw [hI_oth _ _ _ _ _ (by decide)]; exact t2, by rw [hI_slot _ _ _ _ (by decide)]; exact t3, t4, t5, fun k hk => by rw [hI_oth _ _ _ _ _ (by decide), hI_oth _ _ _ _ _ (by decide)]; exact t6 k hk⟩
  have cm := crane_21 M147 (show PRl (sI h 147 0 0) from L) T' tc 0 none none none none (by omega)
  obtain ⟨t1, t2, t3, t4, t5, t6⟩ := T
  obtain ⟨⟨a1, a2, a3, a4, a5⟩, _⟩ := L
  have p1 := pdt_b one_b.1 one_b.2 (so := so) (is := is) tc
  have p2 := pdt_b two_b.1 two_b.2 (so := so) (is := is) tc
  have p9 : 9 ^ tc ≤ 9 ^ 12 := Nat.pow_le_pow_right (by decide) t1
  have pos : 0 < lg_cmp (lN (pdt oneN so is tc) + lN (pdt twoN so is tc)) 0 := by
    rw [lg_cmp_gt, lN_add]
    show lN 0 < _
    rw [pk_lLT (by omega) (by omega)]; omega
  have nzl : ¬ lN (pdt oneN so is tc) + lN (pdt twoN so is tc) = 0 := by
    rw [lN_add]
    intro z
    have : lN (pdt oneN so is tc + pdt twoN so is tc) = lN 0 := z
    rw [pk_lEQ (by omega) (by omega)] at this
    omega
  refine QRY.id (res := Int64.toInt32 (1000000 * lN (pdt oneN so is tc) / (lN (pdt oneN so is tc) + lN (pdt twoN so is tc)))) ?_ ?_
  · rw [tX11_crane]; simp only [oB_some, dR_some, cond_true, cond_false, if_true, if_false, Bool.true_and, Bool.and_true, Nat.beq_refl, K0, hm, a1, a2, tX7_craneParts, t4, t5, pos, nzl]
    rw [Int64.mul_comm]
  · rw [tX12_crane]; simp only [oB_some, dR_some, cond_true, cond_false, if_true, if_false, Bool.true_and, Bool.and_true, Nat.beq_refl, M0, M147, bcM, nz]; exact cm
/-- a sign is so of a bolt -/
def sgo (bk ss sm : Nat → Nat) (i k : Nat) : Nat := if nI (bk (3 * i + ss k)) < nI (sm k) then 0 else 1
/-- all signs are so of a bolt -/
def fitB (bk ss sm si : Nat → Nat) (i : Nat) : Nat → Nat → Bool
  | 0, _ => true
  | k + 1, j => Nat.beq (sgo bk ss sm i j) (si j) && fitB bk ss sm si i k (j + 1)
theorem fits_c {h : Hp} {s sc i : Nat} {v u w lg bk ss sm si : Nat → Nat} (N : NI h s v u w lg bk) (L : PRl h) (S : SGN h sc ss sm si) (hi : i < 60) : ∀ k j (o4 : Option EV), j + k = sc → Run kX7_fits 2 [some (vR (some 101)), some (vR (some 98)), some (vI (nI i)), some (vI (nI j)), o4] [] h = some (rI (bif fitB bk ss sm si i k j then 1 else 0), h) := by
  obtain ⟨s1, s2, s3, s4⟩ := S
  obtain ⟨⟨a1, a2, a3, a4, a5⟩, _⟩ := L
  have K98 := N.1.2.2.1.1
  intro k
  induction k with
  | zero =>
    intro j o4 e
    have c : nI sc ≤ nI j := nI_le (by omega) (by omega)
    rw [tX7_fits_2]; simp only [oB_some, dR_some, cond_true, cond_false, if_true, if_false, Bool.true_and, Bool.and_true, Nat.beq_refl, a2, s2, c, isZ1]; rfl
  | succ k ih =>
    intro j o4 e
    have c : ¬ nI sc ≤ nI j := nI_ge (by omega) (by omega)
    obtain ⟨⟨f1, f2, f3⟩, _, y1, y2, y3⟩ := s4 j (by omega)
    obtain ⟨i30, i300, i31, i32, ia0, ia1, ia2, ic0, ic1, ic2⟩ := ix3 (i := j) (N := 30) (by omega) (by omega)
    have bd := bound_now N (i := i) (j := ss j) hi (by omega)
    have st : fitB bk ss sm si i (k + 1) j = (Nat.beq (sgo bk ss sm i j) (si j) && fitB bk ss sm si i k (j + 1)) := rfl
    have n1 := fun o4 => ih (j + 1) o4 (by omega)
    rw [st, tX7_fits_2]
    by_cases c2 : nI (bk (3 * i + ss j)) < nI (sm j)
    · have g0 : sgo bk ss sm i j = 0 := if_pos c2
      rcases (show si j = 0 ∨ si j = 1 by omega) with z | z
      · rw [z] at f3
        rw [g0, z, show Nat.beq 0 0 = true from rfl, Bool.true_and]
        simp only [oB_some, dR_some, cond_true, cond_false, if_true, if_false, Bool.true_and, Bool.and_true, Nat.beq_refl, a2, s2, c, a3, a4, a5, iaK20, i30, i300, i31, i32, ia0, ia1, ia2, ic0, ic1, ic2, f1, f2, f3, K98, bd, c2, nI_0, ne01, nI_1]
        exact n1 _
      · rw [z] at f3
        rw [g0, z, show Nat.beq 0 1 = false from rfl, Bool.false_and]
        simp only [oB_some, dR_some, cond_true, cond_false, if_true, if_false, Bool.true_and, Bool.and_true, Nat.beq_refl, a2, s2, c, a3, a4, a5, iaK20, i30, i300, i31, i32, ia0, ia1, ia2, ic0, ic1, ic2, f1, f2, f3, K98, bd, c2, show nI 1 = (1 : Int32) from rfl, ne01, isZ0]
    · have g0 : sgo bk ss sm i j = 1 := if_neg c2
      rcases (show si j = 0 ∨ si j = 1 by omega) with z | z
      · rw [z] at f3
        rw [g0, z, show Nat.beq 1 0 = false from rfl, Bool.false_and]
        simp only [oB_some, dR_some, cond_true, cond_false, if_true, if_false, Bool.true_and, Bool.and_true, Nat.beq_refl, a2, s2, c, a3, a4, a5, iaK20, i30, i300, i31, i32, ia0, ia1, ia2, ic0, ic1, ic2, f1, f2, f3, K98, bd, c2, nI_0, ne01, ne10, isZ0]
      · rw [z] at f3
        rw [g0, z, show Nat.beq 1 1 = true from rfl, Bool.true_and]
        simp only [oB_some, dR_some, cond_true, cond_false, if_true, if_false, Bool.true_and, Bool.and_true, Nat.beq_refl, a2, s2, c, a3, a4, a5, iaK20, i30, i300, i31, i32, ia0, ia1, ia2, ic0, ic1, ic2, f1, f2, f3, K98, bd, c2, show nI 1 = (1 : Int32) from rfl, nI_1]
        exact n1 _
theorem isFrom_m {h : Hp} {s sc i : Nat} {v u w lg bk ss sm si : Nat → Nat} (N : NI h s v u w lg bk) (L : PRl h) (S : SGN h sc ss sm si) (hi : i < v 10) : ∀ k j, j + k = sc → Run kX12_isFrom 2 [some (vR (some 147)), some (vI (nI i)), some (vI (nI j))] [] h = some (rI (bif fitB bk ss sm si i k j then 1 else 0), h) := by
  obtain ⟨s1, s2, s3, s4⟩ := S
  obtain ⟨_, _, _, ⟨a1, a2, a3⟩, ⟨b1, b2, b3⟩, ⟨c1, c2', c3⟩⟩ := L
  have M147 := N.1.2.2.2.2.1.1
  intro k
  induction k with
  | zero =>
    intro j e
    have c : nI sc ≤ nI j := nI_le (by omega) (by omega)
    rw [tX12_isFrom_2]; simp only [oB_some, dR_some, cond_true, cond_false, if_true, if_false, Bool.true_and, Bool.and_true, Nat.beq_refl, M147, s3, c, isZ1]; rfl
  | succ k ih =>
    intro j e
    have c : ¬ nI sc ≤ nI j := nI_ge (by omega) (by omega)
    obtain ⟨_, ⟨f1, f2, f3⟩, y1, y2, y3⟩ := s4 j (by omega)
    have ib : inb (nI j) 10 = true := inb_nI (by omega) (by omega)
    have cl : (nI j).toNatClampNeg = j := nI_clamp (by omega)
    have pg := page_m N (i := i) (j := ss j) hi (by omega)
    have st : fitB bk ss sm si i (k + 1) j = (Nat.beq (sgo bk ss sm i j) (si j) && fitB bk ss sm si i k (j + 1)) := rfl
    have n1 := ih (j + 1) (by omega)
    rw [st, tX12_isFrom_2]
    by_cases c2 : nI (bk (3 * i + ss j)) < nI (sm j)
    · have g0 : sgo bk ss sm i j = 0 := if_pos c2
      rcases (show si j = 0 ∨ si j = 1 by omega) with z | z
      · rw [z] at f3
        rw [g0, z, show Nat.beq 0 0 = true from rfl, Bool.true_and]
        simp only [oB_some, dR_some, cond_true, cond_false, if_true, if_false, Bool.true_and, Bool.and_true, Nat.beq_refl, M147, s3, c, a1, a2, a3, b1, b2, b3, c1, c2', c3, iaK20, ib, cl, f1, f2, f3, pg, c2, nI_0, nI_1]
        exact n1
      · rw [z] at f3
        rw [g0, z, show Nat.beq 0 1 = false from rfl, Bool.false_and]
        simp only [oB_some, dR_some, cond_true, cond_false, if_true, if_false, Bool.true_and, Bool.and_true, Nat.beq_refl, M147, s3, c, a1, a2, a3, b1, b2, b3, c1, c2', c3, iaK20, ib, cl, f1, f2, f3, pg, c2, show nI 1 = (1 : Int32) from rfl, ne01, isZ0]
    · have g0 : sgo bk ss sm i j = 1 := if_neg c2
      rcases (show si j = 0 ∨ si j = 1 by omega) with z | z
      · rw [z] at f3
        rw [g0, z, show Nat.beq 1 0 = false from rfl, Bool.false_and]
        simp only [oB_some, dR_some, cond_true, cond_false, if_true, if_false, Bool.true_and, Bool.and_true, Nat.beq_refl, M147, s3, c, a1, a2, a3, b1, b2, b3, c1, c2', c3, iaK20, ib, cl, f1, f2, f3, pg, c2, nI_0, ne10, isZ0]
      · rw [z] at f3
        rw [g0, z, show Nat.beq 1 1 = true from rfl, Bool.true_and]
        simp only [oB_some, dR_some, cond_true, cond_false, if_true, if_false, Bool.true_and, Bool.and_true, Nat.beq_refl, M147, s3, c, a1, a2, a3, b1, b2, b3, c1, c2', c3, iaK20, ib, cl, f1, f2, f3, pg, c2, show nI 1 = (1 : Int32) from rfl, nI_1]
        exact n1
/-- the bolts that fit, as bits -/
theorem fitting_c {h : Hp} {s sc n : Nat} {v u w lg bk ss sm si : Nat → Nat} (N : NI h s v u w lg bk) (L : PRl h) (S : SGN h sc ss sm si) (hn : n ≤ 60) : ∀ k i (F : Int64) (o4 : Option EV), i + k = n → (∀ j, j < 64 → bL F j = (decide (j < i) && fitB bk ss sm si j sc 0)) → ∃ F', Run kX7_fitting 5 [some (vR (some 101)), some (vR (some 98)), some (vI (nI n)), some (vL F), o4, some (vI (nI i))] [] h = some (rL F', h) ∧ ∀ j, j < 64 → bL F' j = (decide (j < n) && fitB bk ss sm si j sc 0) := by
  have a2 := L.1.2.1
  intro k
  induction k with
  | zero =>
    intro i F o4 e hF
    have c : nI n ≤ nI i := nI_le (by omega) (by omega)
    have ei : i = n := by omega
    subst ei
    refine ⟨F, ?_, hF⟩
    rw [tX7_fitting_5]; simp only [c, if_true]
  | succ k ih =>
    intro i F o4 e hF
    have c : ¬ nI n ≤ nI i := nI_ge (by omega) (by omega)
    have fc := fits_c N L S (i := i) (by omega) sc 0 none (by omega)
    have fc' : FX7_fits [vR (some 101), vR (some 98), vI (nI i)] h = some (rI (bif fitB bk ss sm si i sc 0 then 1 else 0), h) := by rw [tX7_fits]; exact fc
    rw [tX7_fitting_5]
    cases cf : fitB bk ss sm si i sc 0 with
    | false =>
      rw [cf] at fc'
      obtain ⟨F', g1, g2⟩ := ih (i + 1) F none (by omega) (fun j hj => by
        rw [hF j hj]
        by_cases q : j = i
        · subst q; rw [cf, Bool.and_false, Bool.and_false]
        · by_cases q2 : j < i
          · rw [decide_eq_true q2, decide_eq_true (show j < i + 1 by omega)]
          · rw [decide_eq_false q2, decide_eq_false (show ¬ j < i + 1 by omega)])
      refine ⟨F', ?_, g2⟩
      simp only [oB_some, dR_some, cond_true, cond_false, if_true, if_false, Bool.true_and, Bool.and_true, Nat.beq_refl, c, a2, fc', nI_1]; exact g1
    | true =>
      rw [cf] at fc'
      obtain ⟨F', g1, g2⟩ := ih (i + 1) (F ||| ((1 : Int64) <<< ((nI i).toInt64 &&& 63))) none (by omega) (fun j hj => by
        rw [bL_set F (by omega) hj, hF j hj]
        by_cases q : j = i
        · subst q; rw [cf, decide_eq_true (show j < j + 1 by omega), decide_eq_true rfl, Bool.or_true, Bool.and_true]
        · rw [decide_eq_false q, Bool.or_false]
          by_cases q2 : j < i
          · rw [decide_eq_true q2, decide_eq_true (show j < i + 1 by omega)]
          · rw [decide_eq_false q2, decide_eq_false (show ¬ j < i + 1 by omega)])
      refine ⟨F', ?_, g2⟩
      simp only [oB_some, dR_some, cond_true, cond_false, if_true, if_false, Bool.true_and, Bool.and_true, Nat.beq_refl, c, a2, fc', ne10, nI_1]; exact g1
theorem fit_now {h : Hp} {s sc n : Nat} {v u w lg bk ss sm si : Nat → Nat} (N : NI h s v u w lg bk) (L : PRl h) (S : SGN h sc ss sm si) (hn : n ≤ 60) : ∃ F', FX7_fitting [vR (some 101), vR (some 98), vI (nI n)] h = some (rL F', h) ∧ ∀ j, j < 64 → bL F' j = (decide (j < n) && fitB bk ss sm si j sc 0) := by
  obtain ⟨F', g1, g2⟩ := fitting_c N L S hn n 0 0 none (by omega) (fun j hj => by rw [bL_0, decide_eq_false (by omega), Bool.false_and])
  exact ⟨F', by rw [tX7_fitting]; exact g1, g2⟩
theorem isFrom_now {h : Hp} {s sc i : Nat} {v u w lg bk ss sm si : Nat → Nat} (N : NI h s v u w lg bk) (L : PRl h) (S : SGN h sc ss sm si) (hi : i < v 10) : FX12_isFrom [vR (some 147), vI (nI i)] h = some (rI (bif fitB bk ss sm si i sc 0 then 1 else 0), h) := by
  have b10 := N.2.2.2.1.2.2.2.2.2.2.2.2.1
  rw [tX12_isFrom]; exact isFrom_m N L S hi sc 0 (by omega)
theorem from_loop {h g : Hp} {s sc : Nat} {v u w lg bk ss sm si : Nat → Nat} {F : Int64} (N : NI h s v u w lg bk) (G : NI g s v u w lg bk) (L : PRl g) (S : SGN g sc ss sm si) (hF : ∀ j, j < 64 → bL F j = (decide (j < v 10) && fitB bk ss sm si j sc 0)) (y : Int32) : ∀ k i (m : Int32) (o3 : Option EV), i + k = v 10 → ∃ res, Run kX11_from 39 [some (vR (some 0)), some (vI y), some (vL F), o3, some (vI m), some (vI (nI i))] [] h = some (rI res, h) ∧ Run kX12_from 23 [some (vR (some 147)), some (vI y), some (vI m), some (vI (nI i))] [] g = some (rI res, g) := by
  obtain ⟨⟨K0, R01, R02, R04, R05, _⟩, _, D, Ln, U, RL⟩ := N.1
  obtain ⟨u1, u2, u3, u4, _⟩ := G.1.2.2.2.2.1
  have K10 := Ln.1
  have b10 := N.2.2.2.1.2.2.2.2.2.2.2.2.1
  have v10 : hI h 10 10 = nI (v 10) := by rw [N.2.1.1]; rfl
  have w19 : hI g 160 19 = nI (v 10) := by rw [G.2.2.1]; show nI (w 19) = _; rw [G.2.2.2.2.1.2.2.2.2]
  intro k
  induction k with
  | zero =>
    intro i m o3 e
    have c : nI (v 10) ≤ nI i := nI_le (by omega) (by omega)
    by_cases q : y = -1
    · refine ⟨m, ?_, ?_⟩
      · rw [tX11_from_39]; simp only [oB_some, dR_some, cond_true, cond_false, if_true, if_false, Bool.true_and, Bool.and_true, Nat.beq_refl, K0, R02, K10, v10, c, q]
      · rw [tX12_from_23]; simp only [oB_some, dR_some, cond_true, cond_false, if_true, if_false, Bool.true_and, Bool.and_true, Nat.beq_refl, u1, u2, u3, u4, iaK20, ib19, tc19, w19, c, q]
    · refine ⟨-1, ?_, ?_⟩
      · rw [tX11_from_39]; simp only [oB_some, dR_some, cond_true, cond_false, if_true, if_false, Bool.true_and, Bool.and_true, Nat.beq_refl, K0, R02, K10, v10, c, q]
      · rw [tX12_from_23]; simp only [oB_some, dR_some, cond_true, cond_false, if_true, if_false, Bool.true_and, Bool.and_true, Nat.beq_refl, u1, u2, u3, u4, iaK20, ib19, tc19, w19, c, q]
  | succ k ih =>
    intro i m o3 e
    have c : ¬ nI (v 10) ≤ nI i := nI_ge (by omega) (by omega)
    have hi : i < v 10 := by omega
    have ts := bL_test F (k := i) (by omega)
    have fr := isFrom_now G L S hi
    have bi := hF i (by omega)
    rw [decide_eq_true hi, Bool.true_and] at bi
    rw [tX11_from_39, tX12_from_23]
    cases cf : fitB bk ss sm si i sc 0 with
    | false =>
      rw [cf] at fr bi
      simp only [oB_some, dR_some, cond_true, cond_false, if_true, if_false, Bool.true_and, Bool.and_true, Nat.beq_refl, K0, R02, K10, v10, c, ts, bi, u1, u2, u3, u4, iaK20, ib19, tc19, w19, fr, nI_1]
      exact ih (i + 1) m none (by omega)
    | true =>
      rw [cf] at fr bi
      simp only [oB_some, dR_some, cond_true, cond_false, if_true, if_false, Bool.true_and, Bool.and_true, Nat.beq_refl, K0, R02, K10, v10, c, ts, bi, Bool.true_eq_false, u1, u2, u3, u4, iaK20, ib19, tc19, w19, fr, ne10, nI_1]
      by_cases q : m = y
      · exact ⟨nI i, by simp only [q, if_true], by simp only [q, if_true]⟩
      · simp only [q, if_false]
        exact ih (i + 1) (m + 1) none (by omega)
theorem prl_t {h : Hp} (L : PRl h) : PRl (sI h 147 0 0) := L
theorem sgn_t {h : Hp} {sc : Nat} {ss sm si : Nat → Nat} (S : SGN h sc ss sm si) : SGN (sI h 147 0 0) sc ss sm si := by
  obtain ⟨s1, s2, s3, s4⟩ := S
  exact ⟨s1, by rw [hI_oth _ _ _ _ _ (by decide)]; exact s2, by rw [hI_slot _ _ _ _ (by decide)]; exact s3, fun k hk => by rw [hI_row _ _ _ _ (show (102 : Nat) ≠ 147 by decide), hI_row _ _ _ _ (show (167 : Nat) ≠ 147 by decide), hI_row _ _ _ _ (show (168 : Nat) ≠ 147 by decide), hI_row _ _ _ _ (show (170 : Nat) ≠ 147 by decide)]; exact s4 k hk⟩
theorem from_both {h : Hp} {s : Nat} {r d b : Nat → Nat} {dc bc : Nat} {lw : Option ((Nat → Int32) × Nat)} {v u w lg bk z : Nat → Nat} {A x : Nat} {sc : Nat} {ss sm si : Nat → Nat} (I : AINV h s r d b dc bc lw v u w lg bk z A x) (L : PRl h) (S : SGN h sc ss sm si) (y : Int32) : QRY h (FX11_from [vR (some 0), vI y]) (FX12_from [vR (some 147), vI y]) := by
  obtain ⟨K0, R01, R02, R04, R05, K3, R30, Ks, Rs2, Rs3, Rs4, Ks1, Es1, Ks2, Es2, Ks3, Es3, K10, R108, K11, E11, K14, K98, td, dcC, bcC, Ev, Eu⟩ := cfa I
  have hm := hom I
  have M0 := (mfa I).1
  obtain ⟨M147, R18, K152, E152, R20, K154, E154, R22, K156, E156, R32, K160, E160, dcM, bcM, Ew⟩ := mfa (ainv_t I)
  have b5 : bc ≤ 5 := I.2.1.2.2.2.1.2.2.2.2.1.2
  have nz : ¬ nI bc = 0 := nI_nz I.2.1.2.2.2.2.1 (by omega)
  have b10 := I.2.2.1.2.1.2.2.2.2.2.2.2.2.1
  by_cases c : (-1 : Int32) ≤ y
  · obtain ⟨F, g1, g2⟩ := fit_now (ni_of I) L S b10
    obtain ⟨res, e1, e2⟩ := from_loop (ni_of I) (ni_t (ni_of I)) (prl_t L) (sgn_t S) g2 y (v 10) 0 0 none (by omega)
    refine QRY.id (res := res) ?_ ?_
    · rw [tX11_from]; simp only [oB_some, dR_some, cond_true, cond_false, if_true, if_false, Bool.true_and, Bool.and_true, Nat.beq_refl, K0, hm, c, R02, R05, K10, L.1.1, L.1.2.1, Ev, g1]; exact e1
    · rw [tX12_from]; simp only [oB_some, dR_some, cond_true, cond_false, if_true, if_false, Bool.true_and, Bool.and_true, Nat.beq_refl, M0, M147, bcM, nz, c]; exact e2
  · refine QRY.id (res := -1) ?_ ?_
    · rw [tX11_from]; simp only [oB_some, dR_some, cond_true, cond_false, if_true, if_false, Bool.true_and, Bool.and_true, Nat.beq_refl, K0, hm, c]
    · rw [tX12_from]; simp only [oB_some, dR_some, cond_true, cond_false, if_true, if_false, Bool.true_and, Bool.and_true, Nat.beq_refl, M0, M147, bcM, nz, c]
/-- how far apart a question's answers stand -/
theorem ask_37 {h g : Hp} {s sc qu : Nat} {v u w lg bk ss sm si : Nat → Nat} {F : Int64} (N : NI h s v u w lg bk) (G : NI g s v u w lg bk) (L : PRl g) (S : SGN g sc ss sm si) (hF : ∀ j, j < 64 → bL F j = (decide (j < v 10) && fitB bk ss sm si j sc 0)) (hq : qu < 300) (x5 x6 x1 x2 : Int32) : ∀ k i (a : Int32) (o0 o4 : Option EV), i + k = v 10 → ∃ a' : Int32, Run kX7_bestQuestion 37 [o0, some (vR (some 98)), some (vI (nI (v 10))), some (vL F), o4, some (vI x5), some (vI x6), some (vI (nI qu)), some (vI a), some (vI (nI i))] [] h = (if x6 ≤ (if 0 ≤ a' then a' else 0 - a') then Run kX7_bestQuestion 17 [none, some (vR (some 98)), some (vI (nI (v 10))), some (vL F), none, some (vI x5), some (vI x6), some (vI (nI (qu + 1))), some (vI a'), some (vI (nI (v 10)))] [] h else Run kX7_bestQuestion 17 [none, some (vR (some 98)), some (vI (nI (v 10))), some (vL F), none, some (vI (nI qu)), some (vI (if 0 ≤ a' then a' else 0 - a')), some (vI (nI (qu + 1))), some (vI a'), some (vI (nI (v 10)))] [] h) ∧
    Run kX12_ask 41 [some (vR (some 147)), some (vI x1), some (vI x2), some (vI (nI qu)), some (vI a), some (vI (nI i))] [] g = (if x1 = -1 then Run kX12_ask 28 [some (vR (some 147)), some (vI (nI qu)), some (vI (if 0 ≤ a' then a' else 0 - a')), some (vI (nI (qu + 1))), some (vI (if 0 ≤ a' then a' else 0 - a')), some (vI (nI (v 10)))] [] g else if (if 0 ≤ a' then a' else 0 - a') < x2 then Run kX12_ask 28 [some (vR (some 147)), some (vI (nI qu)), some (vI (if 0 ≤ a' then a' else 0 - a')), some (vI (nI (qu + 1))), some (vI (if 0 ≤ a' then a' else 0 - a')), some (vI (nI (v 10)))] [] g else Run kX12_ask 28 [some (vR (some 147)), some (vI x1), some (vI x2), some (vI (nI (qu + 1))), some (vI (if 0 ≤ a' then a' else 0 - a')), some (vI (nI (v 10)))] [] g) ∧ (∀ B : Nat, ((-(B : Int)) ≤ a.toInt ∧ a.toInt ≤ B) → B + k < 1000 → (-((B + k : Nat) : Int)) ≤ a'.toInt ∧ a'.toInt ≤ ((B + k : Nat) : Int)) := by
  obtain ⟨⟨K0, R01, R02, R04, R05, _⟩, _, D, Ln, U, RL⟩ := N.1
  obtain ⟨u1, u2, u3, u4, _⟩ := G.1.2.2.2.2.1
  have K98 := D.1
  have b10 := N.2.2.2.1.2.2.2.2.2.2.2.2.1
  have w19 : hI g 160 19 = nI (v 10) := by rw [G.2.2.1]; show nI (w 19) = _; rw [G.2.2.2.2.1.2.2.2.2]
  have qd : nI qu / 100 = nI (qu / 100) := by
    rw [show (100 : Int32) = nI 100 from rfl]; exact pk_div (by omega) (by omega) (by omega)
  have n100 : ¬ (100 : Int32) = 0 := by decide
  intro k
  induction k with
  | zero =>
    intro i a o0 o4 e
    have c : nI (v 10) ≤ nI i := nI_le (by omega) (by omega)
    have ei : i = v 10 := by omega
    subst ei
    refine ⟨a, ?_, ?_, fun B h1 h2 => h1⟩
    · rw [tX7_bestQuestion_37, if_pos c, nI_1]
    · rw [tX12_ask_41]; simp only [oB_some, dR_some, cond_true, cond_false, if_true, if_false, Bool.true_and, Bool.and_true, Nat.beq_refl, u1, u2, u3, u4, iaK20, ib19, tc19, w19, c, nI_1]
  | succ k ih =>
    intro i a o0 o4 e
    have c : ¬ nI (v 10) ≤ nI i := nI_ge (by omega) (by omega)
    have hi : i < v 10 := by omega
    have ts := bL_test F (k := i) (by omega)
    have fr := isFrom_now G L S hi
    have bi := hF i (by omega)
    rw [decide_eq_true hi, Bool.true_and] at bi
    rw [tX7_bestQuestion_37, tX12_ask_41]
    have wd : ∀ (a2 : Int32), (a2 = a ∨ a2 = a + 1 ∨ a2 = a + (-1)) → ∀ B : Nat, ((-(B : Int)) ≤ a.toInt ∧ a.toInt ≤ B) → B + (k + 1) < 1000 → ((-((B + 1 : Nat) : Int)) ≤ a2.toInt ∧ a2.toInt ≤ ((B + 1 : Nat) : Int)) := by
      intro a2 h3 B h1 h2
      rcases h3 with z | z | z
      · rw [z]; omega
      · rw [z, Int32.toInt_add, show (1 : Int32).toInt = 1 from rfl, Int.bmod_eq_of_le (by omega) (by omega)]; omega
      · rw [z, Int32.toInt_add, show (-1 : Int32).toInt = -1 from rfl, Int.bmod_eq_of_le (by omega) (by omega)]; omega
    cases cf : fitB bk ss sm si i sc 0 with
    | false =>
      rw [cf] at fr bi
      simp only [oB_some, dR_some, cond_true, cond_false, if_true, if_false, Bool.true_and, Bool.and_true, Nat.beq_refl, c, ts, bi, u1, u2, u3, u4, iaK20, ib19, tc19, w19, fr, nI_1]
      obtain ⟨a', y1, y2, y3⟩ := ih (i + 1) a none none (by omega)
      exact ⟨a', y1, y2, fun B h1 h2 => by have := y3 (B + 1) (wd a (Or.inl rfl) B h1 h2) (by omega); rw [show B + (k + 1) = B + 1 + k by omega]; exact this⟩
    | true =>
      rw [cf] at fr bi
      have bd := bound_now N (i := i) (j := qu / 100) (by omega) (by omega)
      have pg := page_m G (i := i) (j := qu / 100) hi (by omega)
      by_cases q : nI (bk (3 * i + qu / 100)) < nI qu - nI (qu / 100) * 100
      · simp only [oB_some, dR_some, cond_true, cond_false, if_true, if_false, Bool.true_and, Bool.and_true, Nat.beq_refl, c, ts, bi, Bool.true_eq_false, n100, K98, qd, bd, u1, u2, u3, u4, iaK20, ib19, tc19, w19, fr, ne10, pg, q, nI_1]
        obtain ⟨a', y1, y2, y3⟩ := ih (i + 1) (a + (-1)) none none (by omega)
        exact ⟨a', y1, y2, fun B h1 h2 => by have := y3 (B + 1) (wd _ (Or.inr (Or.inr rfl)) B h1 h2) (by omega); rw [show B + (k + 1) = B + 1 + k by omega]; exact this⟩
      · simp only [oB_some, dR_some, cond_true, cond_false, if_true, if_false, Bool.true_and, Bool.and_true, Nat.beq_refl, c, ts, bi, Bool.true_eq_false, n100, K98, qd, bd, u1, u2, u3, u4, iaK20, ib19, tc19, w19, fr, ne10, pg, q, nI_1]
        obtain ⟨a', y1, y2, y3⟩ := ih (i + 1) (a + 1) none none (by omega)
        exact ⟨a', y1, y2, fun B h1 h2 => by have := y3 (B + 1) (wd _ (Or.inr (Or.inl rfl)) B h1 h2) (by omega); rw [show B + (k + 1) = B + 1 + k by omega]; exact this⟩
