/-! ===== buyer, by the law ===== -/
def OUT (h : Hp) : Prop := hK h 172 = 23 ∧ hE h 172 = 1
def p00 (a k : Nat) : Prop := a = 147 ∧ k = 0
theorem fn_nw60 {h : Hp} (F : FRSH h) (hb : hN h < PRE) (c : Int32) : FN p5 p00 h (sI (nw h 60 0 6) 147 0 c) := by
  have q : ∀ a, (a < hN h ∨ PRE ≤ a) → a ≠ h.1.1 := fun a o => by have : h.1.1 = hN h := rfl; omega
  refine ⟨⟨Nat.le_succ _, Nat.le_succ _, ?_⟩, fun a o => ⟨?_, ?_⟩, fun a k o _ => ?_, fun a k o p => ?_, fun k p => ?_, fun a z1 z2 => ?_⟩
  · show hS h + 6 ≤ hS h + 300
    omega
  · show (up1 h.2.1 h.1.1 (60, 0) a).1 = (h.2.1 a).1
    unfold up1; simp [q a o]
  · show (up1 h.2.1 h.1.1 (60, 0) a).2 = (h.2.1 a).2
    unfold up1; simp [q a o]
  · show up1 h.2.2.1 h.1.1 (fun _ => none) a k = h.2.2.1 a k
    unfold up1; simp [q a o]
  · show up2 (up1 h.2.2.2.2 h.1.1 (fun _ => 0)) 147 0 c a k = h.2.2.2.2 a k
    unfold up2 up1
    unfold p00 at p
    by_cases e : a = 147
    · subst e; have : k ≠ 0 := fun z => p ⟨rfl, z⟩; simp [q 147 o, this]
    · simp [q a o, e]
  · show up1 h.2.2.2.1 h.1.1 (fun _ => 0) 101 k = h.2.2.2.1 101 k
    unfold up1
    by_cases e : 101 = h.1.1
    · exact absurd e (q 101 (Or.inl (by have := F.1; omega)))
    · simp [e]
  · show (up1 h.2.1 h.1.1 (60, 0) a).1 = (h.2.1 a).1
    have e : a ≠ h.1.1 := by have : hN (sI (nw h 60 0 6) 147 0 c) = h.1.1 + 1 := rfl; omega
    unfold up1; simp [e]
theorem fn_sL172 (h : Hp) (x : Int64) (c : Int32) : FN p5 p00 h (sI (sL h 172 0 x) 147 0 c) := by
  refine ⟨⟨Nat.le_refl _, Nat.le_add_right _ _, Nat.le_add_right _ _⟩, fun a o => ⟨rfl, rfl⟩, fun a k o _ => rfl, fun a k o p => ?_, fun k p => ?_, fun a z1 z2 => rfl⟩
  · show up2 h.2.2.2.2 147 0 c a k = h.2.2.2.2 a k
    unfold up2
    unfold p00 at p
    by_cases e : a = 147
    · subst e; have : k ≠ 0 := fun z => p ⟨rfl, z⟩; simp [this]
    · simp [e]
  · show up2 h.2.2.2.1 172 0 x 101 k = h.2.2.2.1 101 k
    unfold up2; simp
def bVal (b u : Nat → Nat) (i j : Nat) : Int32 := if j = 2 then nI (b (3 * i + 2)) - nI (u i) else if j = 3 then nI (u i) else nI (b (3 * i + j))
theorem j03 {j : Nat} (h : j ≤ 3) : j = 0 ∨ j = 1 ∨ j = 2 ∨ j = 3 := by omega
theorem buyer_c {h : Hp} {s : Nat} {r d b : Nat → Nat} {dc bc : Nat} {lw : Option ((Nat → Int32) × Nat)} {v u w lg bk z : Nat → Nat} {A x : Nat} (I : AINV h s r d b dc bc lw v u w lg bk z A x) {i j : Nat} (hi : i < bc) (hj : j ≤ 3) : FX11_buyer [vR (some 0), vI (nI i), vI (nI j)] h = some (rI (bVal b u i j), h) := by
  obtain ⟨K0, R01, R02, R04, R05, K3, R30, Ks, Rs2, Rs3, Rs4, Ks1, Es1, Ks2, Es2, Ks3, Es3, K10, R108, K11, E11, K14, K98, td, dcC, bcC, Ev, Eu⟩ := cfa I
  have b5 : bc ≤ 5 := I.2.1.2.2.2.1.2.2.2.2.1.2
  have bC := I.2.1.2.2.1.2.2.2.2.2.2.1
  have wn := wants_now I hi
  have hB := hasB_a I (nI i)
  have c1 : ¬ nI i < 0 := nI_pos (by omega)
  have c2 : ¬ nI bc - 1 < nI i := by rw [nI_s1 (by omega), nI_nlt' (by omega) (by omega)]; omega
  have d1 : ¬ nI j < 0 := nI_pos (by omega)
  have d2 : ¬ (3 : Int32) < nI j := by rw [show (3 : Int32) = nI 3 from rfl, nI_nlt' (by omega) (by omega)]; omega
  rw [if_neg c1, if_neg c2] at hB
  obtain ⟨i30, i300, i31, i32, ia0, ia1, ia2, ic0, ic1, ic2⟩ := ix3 (i := i) (N := 15) (by omega) (by omega)
  have e5 : inb (nI i) 5 = true := inb_nI (by omega) (by omega)
  have e6 : (nI i).toNatClampNeg = i := nI_clamp (by omega)
  have f0 := bC (3 * i) (by omega)
  have f1 := bC (3 * i + 1) (by omega)
  have ia20 : iaK 20 = true := rfl
  rw [tX11_buyer]
  rcases j03 hj with e | e | e | e
  · subst e
    simp only [oB_some, dR_some, cond_true, cond_false, if_true, if_false, Bool.true_and, Bool.and_true, Nat.beq_refl, K0, hB, rI_1, ne10, within11, d1, d2, R01, K3, R30, Ks, Rs4, Ks3, Es3, ia20, i30, i300, ia0, ic0, f0, bVal, show nI 0 = (0 : Int32) from rfl, show ¬ (0 : Int32) = 2 from by decide, show ¬ (0 : Int32) = 3 from by decide, show ¬ (0 : Nat) = 2 from by decide, show ¬ (0 : Nat) = 3 from by decide, show ¬ (0 : Int32) < 0 from by decide, show ¬ (3 : Int32) < 0 from by decide, Nat.add_zero]
  · subst e
    simp only [oB_some, dR_some, cond_true, cond_false, if_true, if_false, Bool.true_and, Bool.and_true, Nat.beq_refl, K0, hB, rI_1, ne10, within11, d1, d2, R01, K3, R30, Ks, Rs4, Ks3, Es3, ia20, i30, i31, ia1, ic1, f1, bVal, show nI 1 = (1 : Int32) from rfl, show ¬ (1 : Int32) = 2 from by decide, show ¬ (1 : Int32) = 3 from by decide, show ¬ (1 : Nat) = 2 from by decide, show ¬ (1 : Nat) = 3 from by decide, show ¬ (1 : Int32) < 0 from by decide, show ¬ (3 : Int32) < 1 from by decide]
  · subst e
    simp only [oB_some, dR_some, cond_true, cond_false, if_true, if_false, Bool.true_and, Bool.and_true, Nat.beq_refl, K0, hB, rI_1, ne10, within11, d1, d2, R01, R02, K3, wn, bVal, show nI 2 = (2 : Int32) from rfl, show ¬ (2 : Int32) < 0 from by decide, show ¬ (3 : Int32) < 2 from by decide]
  · subst e
    simp only [oB_some, dR_some, cond_true, cond_false, if_true, if_false, Bool.true_and, Bool.and_true, Nat.beq_refl, K0, hB, rI_1, ne10, within11, d1, d2, R02, K10, R108, K11, E11, ia20, e5, e6, Eu, bVal, show nI 3 = (3 : Int32) from rfl, show ¬ (3 : Int32) = 2 from by decide, show ¬ (3 : Nat) = 2 from by decide, show ¬ (3 : Int32) < 0 from by decide, show ¬ (3 : Int32) < 3 from by decide]
theorem buyer_m {g : Hp} {s : Nat} {r d b : Nat → Nat} {dc bc : Nat} {lw : Option ((Nat → Int32) × Nat)} {v u w lg bk z : Nat → Nat} {A x : Nat} (J : AINV (sI g 147 0 0) s r d b dc bc lw v u w lg bk z A x) {i j : Nat} (hi : i < bc) (hj : j ≤ 3) : FX12_buyer [vR (some 147), vI (nI i), vI (nI j)] g = some (rI (bVal b u i j), sI g 147 0 0) := by
  obtain ⟨M147, R18, K152, E152, R20, K154, E154, R22, K156, E156, R32, K160, E160, dcM, bcM, Ew⟩ := mfa J
  have b5 : bc ≤ 5 := J.2.1.2.2.2.1.2.2.2.2.1.2
  have bM := J.2.1.2.2.2.1.2.2.2.2.2.2.2.2.1
  have wn := wants_nowM J hi
  have k4 := J.2.2.1.2.2.2.1
  have M0 : hK g 147 = 12 := M147
  have bc0 : hI g 147 27 = nI bc := bcM
  have c1 : ¬ nI i < 0 := nI_pos (by omega)
  have c2 : ¬ nI bc ≤ nI i := nI_ge hi (by omega)
  have d1 : ¬ nI j < 0 := nI_pos (by omega)
  have d2 : ¬ (3 : Int32) < nI j := by rw [show (3 : Int32) = nI 3 from rfl, nI_nlt' (by omega) (by omega)]; omega
  have ib : FX12_isBuyer [vR (some 147), vI (nI i)] g = some (rI 1, g) := by
    rw [tX12_isBuyer]
    simp only [oB_some, dR_some, cond_true, cond_false, if_true, if_false, Bool.true_and, Bool.and_true, Nat.beq_refl, M0, bc0, c1, c2, isZ1]
  have t0 : hI (sI g 147 0 0) 147 0 = 0 := hI_same _ _ _ _
  obtain ⟨i30, i300, i31, i32, ia0, ia1, ia2, ic0, ic1, ic2⟩ := ix3 (i := i) (N := 15) (by omega) (by omega)
  have i14 : (14 : Int32) + nI i = nI (14 + i) := nI_add 14 i
  have e5 : inb (nI (14 + i)) 381 = true := inb_nI (by omega) (by omega)
  have e6 : (nI (14 + i)).toNatClampNeg = 14 + i := nI_clamp (by omega)
  have w14 : nI (w (14 + i)) = nI (u i) := by rw [k4.2.2.2.1 i (by omega)]
  have f0 := bM (3 * i) (by omega)
  have f1 := bM (3 * i + 1) (by omega)
  have ia20 : iaK 20 = true := rfl
  have z0 : (0 : Int32) ≤ 0 := by decide
  rw [tX12_buyer]
  rcases j03 hj with e | e | e | e
  · subst e
    simp only [oB_some, dR_some, cond_true, cond_false, if_true, if_false, Bool.true_and, Bool.and_true, Nat.beq_refl, M0, ib, rI_1, ne10, isIn_03', d1, d2, M147, t0, z0, R22, K156, E156, ia20, i30, i300, ia0, ic0, f0, bVal, show nI 0 = (0 : Int32) from rfl, show ¬ (0 : Int32) = 2 from by decide, show ¬ (0 : Int32) = 3 from by decide, show ¬ (0 : Nat) = 2 from by decide, show ¬ (0 : Nat) = 3 from by decide, show ¬ (0 : Int32) < 0 from by decide, show ¬ (3 : Int32) < 0 from by decide, Nat.add_zero]
  · subst e
    simp only [oB_some, dR_some, cond_true, cond_false, if_true, if_false, Bool.true_and, Bool.and_true, Nat.beq_refl, M0, ib, rI_1, ne10, isIn_03', d1, d2, M147, t0, z0, R22, K156, E156, ia20, i30, i31, ia1, ic1, f1, bVal, show nI 1 = (1 : Int32) from rfl, show ¬ (1 : Int32) = 2 from by decide, show ¬ (1 : Int32) = 3 from by decide, show ¬ (1 : Nat) = 2 from by decide, show ¬ (1 : Nat) = 3 from by decide, show ¬ (1 : Int32) < 0 from by decide, show ¬ (3 : Int32) < 1 from by decide]
  · subst e
    simp only [oB_some, dR_some, cond_true, cond_false, if_true, if_false, Bool.true_and, Bool.and_true, Nat.beq_refl, M0, ib, rI_1, ne10, isIn_03', d1, d2, M147, t0, z0, R32, wn, bVal, show nI 2 = (2 : Int32) from rfl, show ¬ (2 : Int32) < 0 from by decide, show ¬ (3 : Int32) < 2 from by decide]
  · subst e
    simp only [oB_some, dR_some, cond_true, cond_false, if_true, if_false, Bool.true_and, Bool.and_true, Nat.beq_refl, M0, ib, rI_1, ne10, isIn_03', d1, d2, M147, t0, z0, R32, K160, E160, ia20, i14, e5, e6, Ew, w14, bVal, show nI 3 = (3 : Int32) from rfl, show ¬ (3 : Int32) = 2 from by decide, show ¬ (3 : Nat) = 2 from by decide, show ¬ (3 : Int32) < 0 from by decide, show ¬ (3 : Int32) < 3 from by decide]
theorem inv_p00 {h h' : Hp} (I : INV h) (E : FN p5 p00 h h') : INV h' := inv_fn I E (fun a k z => by unfold p00 at z; unfold NR; omega) (fun s W a k z => by have := hw_s W; unfold p00 at z; unfold NH; omega)
/-- buyer: both throw, or both answer the same -/
theorem buyer_two {h : Hp} (I : INV h) (O : OUT h) (hb : hN h + 2 < PRE) (p0 p1 : Int32) :
    (FL_buyer [vR (some 0), vI p0, vI p1, vR (some 172)] h = some (rI 1, nw h 60 0 6) ∧ FX12_buyer [vR (some 147), vI p0, vI p1] (nw h 60 0 6) = some (rI 0, sI (nw h 60 0 6) 147 0 1)) ∨
    ∃ x : Int32, FL_buyer [vR (some 0), vI p0, vI p1, vR (some 172)] h = some (rI 0, sL h 172 0 x.toInt64) ∧ FX12_buyer [vR (some 147), vI p0, vI p1] (sL h 172 0 x.toInt64) = some (rI x, sI (sL h 172 0 x.toInt64) 147 0 0) := by
  have I0 := I
  obtain ⟨Ly, F, ⟨s, W, H⟩, R⟩ := I
  have k0 : hK h 0 = 11 := (ly_CF Ly).1
  have km : hK h 147 = 12 := (ly_UL Ly).1
  have f173 := F.1
  have kn : hK (nw h 60 0 6) 147 = 12 := by rw [hK_nw, if_neg (by omega)]; exact km
  have i27 : hI (nw h 60 0 6) 147 27 = hI h 147 27 := by rw [hI_nw, if_neg (by omega)]
  rcases H with H | ⟨r, d, b, dc, bc, lw, v, u, w, lg, bk, z, A, x, J⟩
  · left
    have hB := hasB_h (hm_hos I0 W H) k0 p0
    refine ⟨?_, buyer_mt kn ?_⟩
    · rw [tL_buyer]; simp only [oB_some, dR_some, cond_true, cond_false, if_true, if_false, Bool.true_and, Bool.and_true, Nat.beq_refl, k0, hB, rI_1]
    · rw [i27, H.2.2.1]
      by_cases c : p0 < 0
      · exact Or.inl c
      · exact Or.inr (Or.inl (Int32.not_lt.mp c))
  · have hB := hasB_a J p0
    have b5 : bc ≤ 5 := J.2.1.2.2.2.1.2.2.2.2.1.2
    have bcM : hI h 147 27 = nI bc := (mfa J).2.2.2.2.2.2.2.2.2.2.2.2.2.2.1
    rcases ix_cases p0 (n := bc) (by omega) with c | ⟨c1, c2, c3⟩ | ⟨i, hi, c, c1, c2⟩
    · left
      refine ⟨?_, buyer_mt kn (Or.inl c)⟩
      rw [tL_buyer]; simp only [oB_some, dR_some, cond_true, cond_false, if_true, if_false, Bool.true_and, Bool.and_true, Nat.beq_refl, k0, hB, rI_1, c]
    · left
      have c5 : nI bc ≤ p0 := by
        obtain ⟨j, hj, ej⟩ := nI_of c1
        rw [ej]
        exact nI_le (c3 j ej hj) (by omega)
      refine ⟨?_, buyer_mt kn (Or.inr (Or.inl (by rw [i27, bcM]; exact c5)))⟩
      rw [tL_buyer]; simp only [oB_some, dR_some, cond_true, cond_false, if_true, if_false, Bool.true_and, Bool.and_true, Nat.beq_refl, k0, hB, rI_1, c1, c2]
    · rcases ix_cases p1 (n := 4) (by omega) with k | ⟨q1, q2, _⟩ | ⟨j, hj, k, q1, q2⟩
      · left
        refine ⟨?_, buyer_mt kn (Or.inr (Or.inr (Or.inl k)))⟩
        rw [tL_buyer]; simp only [oB_some, dR_some, cond_true, cond_false, if_true, if_false, Bool.true_and, Bool.and_true, Nat.beq_refl, k0, hB, rI_1, c1, c2, ne10, within11, k]
      · left
        have q3 : (3 : Int32) < p1 := q2
        refine ⟨?_, buyer_mt kn (Or.inr (Or.inr (Or.inr q3)))⟩
        rw [tL_buyer]; simp only [oB_some, dR_some, cond_true, cond_false, if_true, if_false, Bool.true_and, Bool.and_true, Nat.beq_refl, k0, hB, rI_1, c1, c2, ne10, within11, q1, q3]
      · right
        have q3 : ¬ (3 : Int32) < p1 := q2
        have bc' := buyer_c J hi (j := j) (by omega)
        subst c k
        refine ⟨bVal b u i j, ?_, ?_⟩
        · rw [tL_buyer]; simp only [oB_some, dR_some, cond_true, cond_false, if_true, if_false, Bool.true_and, Bool.and_true, Nat.beq_refl, k0, hB, rI_1, c1, c2, ne10, within11, q1, q3, bc', O.1, O.2, show inb 0 1 = true from rfl]; rfl
        · have E := fn_sL172 h (bVal b u i j).toInt64 0
          have I' := inv_p00 I0 E
          have J' := ainv_fn J F I'.1 E (by unfold p5; omega) (fun a k z => by have := hw_s W; unfold p00 at z; unfold NH; omega) (lws_fn F Ly I'.1 E (fun a k z => by unfold p5 at z; unfold PR0; omega) (fun a k z => by unfold p00 at z; omega) J.2.1.2.2.2.2.2.2 (by unfold p5; omega) (by unfold p00; omega) (fun i _ _ => ⟨fun j _ => by unfold p00; omega, by unfold p00; omega⟩))
          exact buyer_m J' hi (by omega)
theorem thrown_m {g : Hp} (k : hK g 147 = 12) : FX12_thrown [vR (some 147)] g = some (rI (hI g 147 0), g) := by
  rw [tX12_thrown, if_pos k]
theorem lg_self (x : Int64) : lg_cmp x x = 0 := by
  unfold lg_cmp
  simp
theorem lc_450 {h : Hp} {x : Int32} {L : Nat} (I : INV h) (S : SCR h L) (O : OUT h) (B : BX x L) (hb : hN h + 2 < PRE) : ∃ h2, NX h h2 ∧ Run kL_law 450 (LSx x) [] h = Run kL_law 1621 (LSx x) [] h2 := by
  have F := I.2.1
  have f173 := F.1
  have pb := PRE_big
  rcases buyer_two I O hb (hI h (PRE + 30) (Int32.toNatClampNeg (x + 1))) (hI h (PRE + 30) (Int32.toNatClampNeg (x + 2))) with ⟨y1, y2⟩ | ⟨q, y1, y2⟩
  · have E := fn_nw60 F (by omega) 1
    have s1 : hK (nw h 60 0 6) (PRE + 30) = 25 := by rw [hK_nw, if_neg (by omega)]; exact S.1
    have s2 : hE (nw h 60 0 6) (PRE + 30) = L := by rw [hE_nw, if_neg (by omega)]; exact S.2
    have s3 : hI (nw h 60 0 6) (PRE + 30) = hI h (PRE + 30) := by funext k; rw [hI_nw, if_neg (by omega)]
    have s4 : hK (nw h 60 0 6) 147 = 12 := by rw [hK_nw, if_neg (by omega)]; exact (ly_UL I.1).1
    have s5 : hK (sI (nw h 60 0 6) 147 0 1) 147 = 12 := s4
    have th := thrown_m s5
    rw [hI_same] at th
    refine ⟨sI (nw h 60 0 6) 147 0 1, ⟨inv_p00 I E, E.1.2.1, E.1.2.2, kp_trans (kp_nw h 60 0 6) (kp_sI (by rw [s4]; decide) 0 1)⟩, (tL_law_450 _ _ _ _ _ _ _ _).trans ?_⟩
    simp only [oB_some, dR_some, cond_true, cond_false, if_true, if_false, Bool.true_and, Bool.and_true, Nat.beq_refl, rI_1, eq_self, S.1, S.2, ia25, B.1, B.2.1, y1, s1, s2, s3, s4, y2, s5, th, ne10, LSx]
    exact (tL_law_1621 _ _ _ _ _ _ _ _).trans (tL_law_1621 _ _ _ _ _ none none _).symm
  · have E := fn_sL172 h q.toInt64 0
    have s1 : hK (sL h 172 0 q.toInt64) (PRE + 30) = 25 := S.1
    have s2 : hE (sL h 172 0 q.toInt64) (PRE + 30) = L := S.2
    have s3 : hI (sL h 172 0 q.toInt64) (PRE + 30) = hI h (PRE + 30) := rfl
    have s4 : hK (sL h 172 0 q.toInt64) 147 = 12 := (ly_UL I.1).1
    have s5 : hK (sI (sL h 172 0 q.toInt64) 147 0 0) 147 = 12 := s4
    have th := thrown_m s5
    rw [hI_same] at th
    have o1 : hK (sI (sL h 172 0 q.toInt64) 147 0 0) 172 = 23 := O.1
    have o2 : hE (sI (sL h 172 0 q.toInt64) 147 0 0) 172 = 1 := O.2
    have o3 : hL (sI (sL h 172 0 q.toInt64) 147 0 0) 172 (Int32.toNatClampNeg 0) = q.toInt64 := rfl
    refine ⟨sI (sL h 172 0 q.toInt64) 147 0 0, ⟨inv_p00 I E, E.1.2.1, E.1.2.2, kp_trans (kp_sL 172 0 _) (kp_sI (by rw [s4]; decide) 0 0)⟩, (tL_law_450 _ _ _ _ _ _ _ _).trans ?_⟩
    simp only [oB_some, dR_some, cond_true, cond_false, if_true, if_false, Bool.true_and, Bool.and_true, Nat.beq_refl, rI_1, eq_self, S.1, S.2, ia25, B.1, B.2.1, y1, s1, s2, s3, s4, y2, s5, th, o1, o2, o3, lg_self, show inb 0 1 = true from rfl, LSx]
    exact (tL_law_1621 _ _ _ _ _ _ _ _).trans (tL_law_1621 _ _ _ _ _ none none _).symm
