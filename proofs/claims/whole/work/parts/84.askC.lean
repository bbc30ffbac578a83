/-! ===== PURE: owed, paying: by both ===== -/
theorem owed_38 {h : Hp} {s : Nat} {r d b : Nat → Nat} {dc bc : Nat} {lw : Option ((Nat → Int32) × Nat)} {v u w lg bk z : Nat → Nat} {A x : Nat} {g : Hp} (I : AINV h s r d b dc bc lw v u w lg bk z A x) (J : AINV g s r d b dc bc lw v u w lg bk z A x) (y : Int32) : ∀ k i acc (late q : Int32), i + k = dc → (q = -1 ∨ ∃ m, m < dc ∧ q = nI m) → ∃ l2 q2, Run kX12_owed 38 [some (vR (some 147)), some (vI y), some (vI (nI acc)), some (vI late), some (vI q), some (vI (nI i))] [] g = some (rI (if y = 0 then nI (acc + osm d v 60 k i) else if y = 1 then l2 else q2), g) ∧ Run kX10_lateDebts 4 [some (vR (some 3)), some (vR (some 10)), some (vI late), some (vI (nI i))] [] h = some (rI l2, h) ∧ Run kX10_nextDebt 4 [some (vR (some 3)), some (vR (some 10)), some (vI q), some (vI (nI i))] [] h = some (rI q2, h) := by
  obtain ⟨K0, R01, R02, R04, R05, K3, R30, Ks, Rs2, Rs3, Rs4, Ks1, Es1, Ks2, Es2, Ks3, Es3, K10, R108, K11, E11, K14, K98, td, dcC, bcC, Ev, Eu⟩ := cfa I
  obtain ⟨M147, R18, K152, E152, R20, K154, E154, R22, K156, E156, R32, K160, E160, dcM, bcM, Ew⟩ := mfa J
  have d6 : dc ≤ 6 := J.2.1.2.2.2.1.2.2.2.2.1.1
  have dC := I.2.1.2.2.1.2.2.2.2.2.1
  have dM := J.2.1.2.2.2.1.2.2.2.2.2.2.2.1
  have d60 := J.2.1.2.2.2.2.2.1.2.2.2.2.2.2.2.2.2.2.2.2.2
  have k4 := J.2.2.1.2.2.2.1
  have w7 : w 7 = v 9 := k4.2.1
  intro k
  induction k with
  | zero =>
    intro i acc late q e hq
    have c : nI dc ≤ nI i := nI_le (by omega) (by omega)
    refine ⟨late, q, ?_, ?_, ?_⟩
    · rw [tX12_owed_38]
      show _ = some (rI (if y = 0 then nI (acc + 0) else if y = 1 then late else q), g)
      rw [Nat.add_zero]
      by_cases y0 : y = 0
      · simp only [oB_some, dR_some, cond_true, cond_false, if_true, if_false, Bool.true_and, Bool.and_true, Nat.beq_refl, M147, dcM, c, y0]
      · by_cases y1 : y = 1
        · simp only [oB_some, dR_some, cond_true, cond_false, if_true, if_false, Bool.true_and, Bool.and_true, Nat.beq_refl, M147, dcM, c, y1, ne10]
        · simp only [oB_some, dR_some, cond_true, cond_false, if_true, if_false, Bool.true_and, Bool.and_true, Nat.beq_refl, M147, dcM, c, y0, y1]
    · rw [tX10_lateDebts_4]; simp only [oB_some, dR_some, cond_true, cond_false, if_true, if_false, Bool.true_and, Bool.and_true, Nat.beq_refl, K3, R30, Ks, dcC, c]
    · rw [tX10_nextDebt_4]; simp only [oB_some, dR_some, cond_true, cond_false, if_true, if_false, Bool.true_and, Bool.and_true, Nat.beq_refl, K3, R30, Ks, dcC, c]
  | succ k ih =>
    intro i acc late q e hq
    have c : ¬ nI dc ≤ nI i := nI_ge (by omega) (by omega)
    have hi : i < dc := by omega
    obtain ⟨i30, i300, i31, i32, ia0, ia1, ia2, ic0, ic1, ic2⟩ := ix3 (i := i) (N := 18) (by omega) (by omega)
    have f1 := dC (3 * i) (by omega)
    have f2 := dM (3 * i) (by omega)
    have d6i := d60 i (by omega)
    have pd := paid_now I (i := i) (by omega)
    have op := open_m J (i := i) (by omega)
    have st : osm d v 60 (k + 1) i = (if v 7 / 2 ^ i % 2 = 0 ∧ d (3 * i) ≤ 60 then ow d i (v 9) else 0) + osm d v 60 k (i + 1) := rfl
    rw [st, tX12_owed_38, tX10_lateDebts_4, tX10_nextDebt_4]
    rcases (show v 7 / 2 ^ i % 2 = 0 ∨ v 7 / 2 ^ i % 2 = 1 by omega) with p | p
    · rw [p] at op pd
      rw [if_pos (show v 7 / 2 ^ i % 2 = 0 ∧ d (3 * i) ≤ 60 by omega), ← Nat.add_assoc]
      have en : ∃ q', (q' = -1 ∨ ∃ m, m < dc ∧ q' = nI m) ∧ (if q = -1 then nI i = q' else ∃ m, m < dc ∧ q = nI m ∧ (if nI (d (3 * m)) ≤ nI (d (3 * i)) then q = q' else nI i = q')) := by
        by_cases q1 : q = -1
        · exact ⟨nI i, Or.inr ⟨i, hi, rfl⟩, by rw [if_pos q1]⟩
        · obtain ⟨m, hm, em⟩ := hq.resolve_left q1
          by_cases z : nI (d (3 * m)) ≤ nI (d (3 * i))
          · exact ⟨q, hq, by rw [if_neg q1]; exact ⟨m, hm, em, by rw [if_pos z]⟩⟩
          · exact ⟨nI i, Or.inr ⟨i, hi, rfl⟩, by rw [if_neg q1]; exact ⟨m, hm, em, by rw [if_neg z]⟩⟩
      obtain ⟨q', hq', Eq'⟩ := en
      by_cases zl : nI (v 9) ≤ nI (d (3 * i))
      · obtain ⟨l2, q2, a1, a2, a3⟩ := ih (i + 1) (acc + ow d i (v 9)) late q' (by omega) hq'
        refine ⟨l2, q2, ?_, ?_, ?_⟩
        · rw [← a1]
          by_cases q1 : q = -1
          · rw [if_pos q1] at Eq'
            subst Eq'
            simp only [oB_some, dR_some, cond_true, cond_false, if_true, if_false, Bool.true_and, Bool.and_true, Nat.beq_refl, M147, dcM, c, op, ne10, R32, owes_nowM J hi, K160, E160, iaK20, ib7, tc7, Ew, w7, R20, K154, E154, i30, i300, i31, i32, ia0, ia1, ia2, ic0, ic1, ic2, f2, zl, q1, nI_add, nI_1, Int32.or_zero]
          · rw [if_neg q1] at Eq'
            obtain ⟨m, hm, em, z⟩ := Eq'
            obtain ⟨i30', i300', i31', i32', ia0', ia1', ia2', ic0', ic1', ic2'⟩ := ix3 (i := m) (N := 18) (by omega) (by omega)
            have f4 := dM (3 * m) (by omega)
            by_cases z2 : nI (d (3 * m)) ≤ nI (d (3 * i))
            · rw [if_pos z2] at z
              subst z
              rw [em] at q1 ⊢
              simp only [oB_some, dR_some, cond_true, cond_false, if_true, if_false, Bool.true_and, Bool.and_true, Nat.beq_refl, M147, dcM, c, op, ne10, R32, owes_nowM J hi, K160, E160, iaK20, ib7, tc7, Ew, w7, R20, K154, E154, i30, i300, i31, i32, ia0, ia1, ia2, ic0, ic1, ic2, i30', i300', i31', i32', ia0', ia1', ia2', ic0', ic1', ic2', f2, f4, zl, q1, z2, nI_add, nI_1, Int32.or_zero]
            · rw [if_neg z2] at z
              subst z
              rw [em] at q1 ⊢
              simp only [oB_some, dR_some, cond_true, cond_false, if_true, if_false, Bool.true_and, Bool.and_true, Nat.beq_refl, M147, dcM, c, op, ne10, R32, owes_nowM J hi, K160, E160, iaK20, ib7, tc7, Ew, w7, R20, K154, E154, i30, i300, i31, i32, ia0, ia1, ia2, ic0, ic1, ic2, i30', i300', i31', i32', ia0', ia1', ia2', ic0', ic1', ic2', f2, f4, zl, q1, z2, nI_add, nI_1, Int32.or_zero]
        · rw [← a2]
          simp only [oB_some, dR_some, cond_true, cond_false, if_true, if_false, Bool.true_and, Bool.and_true, Nat.beq_refl, K3, R30, Ks, dcC, c, K10, pd, nI_0, Rs3, Ks2, Es2, iaK20, i30, i300, i31, i32, ia0, ia1, ia2, ic0, ic1, ic2, f1, Ev, zl, nI_1]
        · rw [← a3]
          by_cases q1 : q = -1
          · rw [if_pos q1] at Eq'
            subst Eq'
            simp only [oB_some, dR_some, cond_true, cond_false, if_true, if_false, Bool.true_and, Bool.and_true, Nat.beq_refl, K3, R30, Ks, dcC, c, K10, pd, nI_0, q1, nI_1]
          · rw [if_neg q1] at Eq'
            obtain ⟨m, hm, em, z⟩ := Eq'
            obtain ⟨i30', i300', i31', i32', ia0', ia1', ia2', ic0', ic1', ic2'⟩ := ix3 (i := m) (N := 18) (by omega) (by omega)
            have f4 := dC (3 * m) (by omega)
            by_cases z2 : nI (d (3 * m)) ≤ nI (d (3 * i))
            · rw [if_pos z2] at z
              subst z
              rw [em] at q1 ⊢
              simp only [oB_some, dR_some, cond_true, cond_false, if_true, if_false, Bool.true_and, Bool.and_true, Nat.beq_refl, K3, R30, Ks, dcC, c, K10, pd, nI_0, q1, Rs3, Ks2, Es2, iaK20, i30, i300, i31, i32, ia0, ia1, ia2, ic0, ic1, ic2, i30', i300', i31', i32', ia0', ia1', ia2', ic0', ic1', ic2', f1, f4, z2, nI_1]
            · rw [if_neg z2] at z
              subst z
              rw [em] at q1 ⊢
              simp only [oB_some, dR_some, cond_true, cond_false, if_true, if_false, Bool.true_and, Bool.and_true, Nat.beq_refl, K3, R30, Ks, dcC, c, K10, pd, nI_0, q1, Rs3, Ks2, Es2, iaK20, i30, i300, i31, i32, ia0, ia1, ia2, ic0, ic1, ic2, i30', i300', i31', i32', ia0', ia1', ia2', ic0', ic1', ic2', f1, f4, z2, nI_1]
      · obtain ⟨l2, q2, a1, a2, a3⟩ := ih (i + 1) (acc + ow d i (v 9)) (late ||| (1 <<< (nI i &&& 31))) q' (by omega) hq'
        refine ⟨l2, q2, ?_, ?_, ?_⟩
        · rw [← a1]
          by_cases q1 : q = -1
          · rw [if_pos q1] at Eq'
            subst Eq'
            simp only [oB_some, dR_some, cond_true, cond_false, if_true, if_false, Bool.true_and, Bool.and_true, Nat.beq_refl, M147, dcM, c, op, ne10, R32, owes_nowM J hi, K160, E160, iaK20, ib7, tc7, Ew, w7, R20, K154, E154, i30, i300, i31, i32, ia0, ia1, ia2, ic0, ic1, ic2, f2, zl, q1, nI_add, nI_1]
          · rw [if_neg q1] at Eq'
            obtain ⟨m, hm, em, z⟩ := Eq'
            obtain ⟨i30', i300', i31', i32', ia0', ia1', ia2', ic0', ic1', ic2'⟩ := ix3 (i := m) (N := 18) (by omega) (by omega)
            have f4 := dM (3 * m) (by omega)
            by_cases z2 : nI (d (3 * m)) ≤ nI (d (3 * i))
            · rw [if_pos z2] at z
              subst z
              rw [em] at q1 ⊢
              simp only [oB_some, dR_some, cond_true, cond_false, if_true, if_false, Bool.true_and, Bool.and_true, Nat.beq_refl, M147, dcM, c, op, ne10, R32, owes_nowM J hi, K160, E160, iaK20, ib7, tc7, Ew, w7, R20, K154, E154, i30, i300, i31, i32, ia0, ia1, ia2, ic0, ic1, ic2, i30', i300', i31', i32', ia0', ia1', ia2', ic0', ic1', ic2', f2, f4, zl, q1, z2, nI_add, nI_1]
            · rw [if_neg z2] at z
              subst z
              rw [em] at q1 ⊢
              simp only [oB_some, dR_some, cond_true, cond_false, if_true, if_false, Bool.true_and, Bool.and_true, Nat.beq_refl, M147, dcM, c, op, ne10, R32, owes_nowM J hi, K160, E160, iaK20, ib7, tc7, Ew, w7, R20, K154, E154, i30, i300, i31, i32, ia0, ia1, ia2, ic0, ic1, ic2, i30', i300', i31', i32', ia0', ia1', ia2', ic0', ic1', ic2', f2, f4, zl, q1, z2, nI_add, nI_1]
        · rw [← a2]
          simp only [oB_some, dR_some, cond_true, cond_false, if_true, if_false, Bool.true_and, Bool.and_true, Nat.beq_refl, K3, R30, Ks, dcC, c, K10, pd, nI_0, Rs3, Ks2, Es2, iaK20, i30, i300, i31, i32, ia0, ia1, ia2, ic0, ic1, ic2, f1, Ev, zl, nI_1]
        · rw [← a3]
          by_cases q1 : q = -1
          · rw [if_pos q1] at Eq'
            subst Eq'
            simp only [oB_some, dR_some, cond_true, cond_false, if_true, if_false, Bool.true_and, Bool.and_true, Nat.beq_refl, K3, R30, Ks, dcC, c, K10, pd, nI_0, q1, nI_1]
          · rw [if_neg q1] at Eq'
            obtain ⟨m, hm, em, z⟩ := Eq'
            obtain ⟨i30', i300', i31', i32', ia0', ia1', ia2', ic0', ic1', ic2'⟩ := ix3 (i := m) (N := 18) (by omega) (by omega)
            have f4 := dC (3 * m) (by omega)
            by_cases z2 : nI (d (3 * m)) ≤ nI (d (3 * i))
            · rw [if_pos z2] at z
              subst z
              rw [em] at q1 ⊢
              simp only [oB_some, dR_some, cond_true, cond_false, if_true, if_false, Bool.true_and, Bool.and_true, Nat.beq_refl, K3, R30, Ks, dcC, c, K10, pd, nI_0, q1, Rs3, Ks2, Es2, iaK20, i30, i300, i31, i32, ia0, ia1, ia2, ic0, ic1, ic2, i30', i300', i31', i32', ia0', ia1', ia2', ic0', ic1', ic2', f1, f4, z2, nI_1]
            · rw [if_neg z2] at z
              subst z
              rw [em] at q1 ⊢
              simp only [oB_some, dR_some, cond_true, cond_false, if_true, if_false, Bool.true_and, Bool.and_true, Nat.beq_refl, K3, R30, Ks, dcC, c, K10, pd, nI_0, q1, Rs3, Ks2, Es2, iaK20, i30, i300, i31, i32, ia0, ia1, ia2, ic0, ic1, ic2, i30', i300', i31', i32', ia0', ia1', ia2', ic0', ic1', ic2', f1, f4, z2, nI_1]
    · rw [p] at op pd
      obtain ⟨l2, q2, a1, a2, a3⟩ := ih (i + 1) acc late q (by omega) hq
      refine ⟨l2, q2, ?_, ?_, ?_⟩
      · rw [if_neg (show ¬ (v 7 / 2 ^ i % 2 = 0 ∧ d (3 * i) ≤ 60) by omega), Nat.zero_add, ← a1]
        simp only [oB_some, dR_some, cond_true, cond_false, if_true, if_false, Bool.true_and, Bool.and_true, Nat.beq_refl, M147, dcM, c, op, show ¬ (1 = 0) by decide, nI_1]
      · rw [← a2]
        simp only [oB_some, dR_some, cond_true, cond_false, if_true, if_false, Bool.true_and, Bool.and_true, Nat.beq_refl, K3, R30, Ks, dcC, c, K10, pd, show ¬ nI 1 = 0 by decide, nI_1]
      · rw [← a3]
        simp only [oB_some, dR_some, cond_true, cond_false, if_true, if_false, Bool.true_and, Bool.and_true, Nat.beq_refl, K3, R30, Ks, dcC, c, K10, pd, show ¬ nI 1 = 0 by decide, nI_1]
theorem owed_both {h : Hp} {s : Nat} {r d b : Nat → Nat} {dc bc : Nat} {lw : Option ((Nat → Int32) × Nat)} {v u w lg bk z : Nat → Nat} {A x : Nat} (I : AINV h s r d b dc bc lw v u w lg bk z A x) (y : Int32) : QRY h (FX11_owed [vR (some 0), vI y]) (FX12_owed [vR (some 147), vI y]) := by
  obtain ⟨K0, R01, R02, R04, R05, K3, R30, Ks, Rs2, Rs3, Rs4, Ks1, Es1, Ks2, Es2, Ks3, Es3, K10, R108, K11, E11, K14, K98, td, dcC, bcC, Ev, Eu⟩ := cfa I
  have hm := hom I
  have J := ainv_t I
  obtain ⟨M147, R18, K152, E152, R20, K154, E154, R22, K156, E156, R32, K160, E160, dcM, bcM, Ew⟩ := mfa J
  have M0 := (mfa I).1
  have b5 : bc ≤ 5 := I.2.1.2.2.2.1.2.2.2.2.1.2
  have nz : ¬ nI bc = 0 := nI_nz I.2.1.2.2.2.2.1 (by omega)
  obtain ⟨l2, q2, a1, a2, a3⟩ := owed_38 I J y dc 0 0 0 (-1) (by omega) (Or.inl rfl)
  have ob := owed_c I (W := 60) (by omega) dc 0 0 (by omega)
  rw [show nI 0 = (0 : Int32) from rfl] at a1 a2 a3 ob
  rw [show nI 60 = (60 : Int32) from rfl] at ob
  by_cases c1 : y < 0
  · have t0 : ¬ y = 0 := fun e => by rw [e] at c1; revert c1; decide
    have t1 : ¬ y = 1 := fun e => by rw [e] at c1; revert c1; decide
    have t2 : ¬ y = 2 := fun e => by rw [e] at c1; revert c1; decide
    refine QRY.id (res := -1000000) ?_ ?_
    · rw [tX11_owed]; simp only [oB_some, dR_some, cond_true, cond_false, if_true, if_false, Bool.true_and, Bool.and_true, Nat.beq_refl, K0, hm, t0, t1, t2]
    · rw [tX12_owed]; simp only [oB_some, dR_some, cond_true, cond_false, if_true, if_false, Bool.true_and, Bool.and_true, Nat.beq_refl, M0, M147, bcM, nz, isIn_02, c1]
  by_cases c2 : (2 : Int32) < y
  · have t0 : ¬ y = 0 := fun e => by rw [e] at c2; revert c2; decide
    have t1 : ¬ y = 1 := fun e => by rw [e] at c2; revert c2; decide
    have t2 : ¬ y = 2 := fun e => by rw [e] at c2; revert c2; decide
    refine QRY.id (res := -1000000) ?_ ?_
    · rw [tX11_owed]; simp only [oB_some, dR_some, cond_true, cond_false, if_true, if_false, Bool.true_and, Bool.and_true, Nat.beq_refl, K0, hm, t0, t1, t2]
    · rw [tX12_owed]; simp only [oB_some, dR_some, cond_true, cond_false, if_true, if_false, Bool.true_and, Bool.and_true, Nat.beq_refl, M0, M147, bcM, nz, isIn_02, c1, c2]
  · refine QRY.id (res := if y = 0 then nI (0 + osm d v 60 dc 0) else if y = 1 then l2 else q2) ?_ ?_
    · obtain ⟨j, hj, e⟩ := nI_of2 (M := 2) (n := 2) (by decide) c1 (Int32.not_lt.mp c2)
      subst e
      rw [tX11_owed]
      rcases (show j = 0 ∨ j = 1 ∨ j = 2 by omega) with z | z | z
      · subst z
        simp only [oB_some, dR_some, cond_true, cond_false, if_true, if_false, Bool.true_and, Bool.and_true, Nat.beq_refl, K0, hm, show nI 0 = (0 : Int32) from rfl, R01, R02, K3, tX10_owedBy, ob]
      · subst z
        simp only [oB_some, dR_some, cond_true, cond_false, if_true, if_false, Bool.true_and, Bool.and_true, Nat.beq_refl, K0, hm, show nI 1 = (1 : Int32) from rfl, ne10, R01, R02, K3, tX10_lateDebts, a2]
      · subst z
        simp only [oB_some, dR_some, cond_true, cond_false, if_true, if_false, Bool.true_and, Bool.and_true, Nat.beq_refl, K0, hm, show nI 2 = (2 : Int32) from rfl, ne20, show ¬ (2 : Int32) = 1 by decide, R01, R02, K3, tX10_nextDebt, a3]
    · rw [tX12_owed]; simp only [oB_some, dR_some, cond_true, cond_false, if_true, if_false, Bool.true_and, Bool.and_true, Nat.beq_refl, M0, M147, bcM, nz, isIn_02, c1, c2, ne10]; exact a1
/-! which debts to pay -/
def psm (d v : Nat → Nat) (S : Nat) : Nat → Nat → Nat
  | 0, _ => 0
  | k + 1, i => (if S / 2 ^ i % 2 = 0 then 0 else ow d i (v 9)) + psm d v S k (i + 1)
def gsm (d v : Nat → Nat) (S : Nat) : Nat → Nat → Nat
  | 0, _ => 0
  | k + 1, i => (if v 7 / 2 ^ i % 2 = 0 ∧ S / 2 ^ i % 2 = 0 ∧ d (3 * i) ≤ v 9 then d (3 * i + 2) else 0) + gsm d v S k (i + 1)
def mayF (v : Nat → Nat) (S : Nat) : Nat → Nat → Prop
  | 0, _ => True
  | k + 1, i => (S / 2 ^ i % 2 = 0 ∨ v 7 / 2 ^ i % 2 = 0) ∧ mayF v S k (i + 1)
theorem psm_le {d v : Nat → Nat} {S : Nat} (hd : ∀ k, d k ≤ 99) (h9 : v 9 ≤ 5000) : ∀ k i, psm d v S k i ≤ 500000 * k := by
  intro k
  induction k with
  | zero => intro i; exact Nat.le_refl _
  | succ k ih =>
    intro i
    have a := ih (i + 1)
    have c := ow_le (i := i) hd h9
    show (if S / 2 ^ i % 2 = 0 then 0 else ow d i (v 9)) + psm d v S k (i + 1) ≤ _
    split <;> omega
theorem gsm_le {d v : Nat → Nat} {S : Nat} (hd : ∀ k, d k ≤ 99) : ∀ k i, gsm d v S k i ≤ 99 * k := by
  intro k
  induction k with
  | zero => intro i; exact Nat.le_refl _
  | succ k ih =>
    intro i
    have a := ih (i + 1)
    have c := hd (3 * i + 2)
    show (if v 7 / 2 ^ i % 2 = 0 ∧ S / 2 ^ i % 2 = 0 ∧ d (3 * i) ≤ v 9 then d (3 * i + 2) else 0) + gsm d v S k (i + 1) ≤ _
    split <;> omega
theorem price_c {h : Hp} {s : Nat} {r d b : Nat → Nat} {dc bc : Nat} {lw : Option ((Nat → Int32) × Nat)} {v u w lg bk z : Nat → Nat} {A x : Nat} (I : AINV h s r d b dc bc lw v u w lg bk z A x) {S : Nat} (hS : S < 64) : ∀ k i acc, i + k = dc → Run kX10_priceOf 5 [some (vR (some 3)), some (vR (some 10)), some (vI (nI S)), some (vI (nI acc)), some (vI (nI i))] [] h = some (rI (nI (acc + psm d v S k i)), h) := by
  obtain ⟨K0, R01, R02, R04, R05, K3, R30, Ks, Rs2, Rs3, Rs4, Ks1, Es1, Ks2, Es2, Ks3, Es3, K10, R108, K11, E11, K14, K98, td, dcC, bcC, Ev, Eu⟩ := cfa I
  have d6 : dc ≤ 6 := I.2.1.2.2.2.1.2.2.2.2.1.1
  intro k
  induction k with
  | zero =>
    intro i acc e
    have c : nI dc ≤ nI i := nI_le (by omega) (by omega)
    rw [tX10_priceOf_5]; simp only [oB_some, dR_some, cond_true, cond_false, if_true, if_false, Bool.true_and, Bool.and_true, Nat.beq_refl, K3, R30, Ks, dcC, c]
    rfl
  | succ k ih =>
    intro i acc e
    have c : ¬ nI dc ≤ nI i := nI_ge (by omega) (by omega)
    have hi : i < dc := by omega
    have bt := (bt6 S hS i (by omega)).1
    show _ = some (rI (nI (acc + ((if S / 2 ^ i % 2 = 0 then 0 else ow d i (v 9)) + psm d v S k (i + 1)))), h)
    rw [tX10_priceOf_5]
    rcases (show S / 2 ^ i % 2 = 0 ∨ S / 2 ^ i % 2 = 1 by omega) with p | p
    · rw [p] at bt
      rw [if_pos p, Nat.zero_add, ← ih (i + 1) acc (by omega)]
      simp only [oB_some, dR_some, cond_true, cond_false, if_true, if_false, Bool.true_and, Bool.and_true, Nat.beq_refl, K3, R30, Ks, dcC, c, bt, nI_0, nI_1]
    · rw [p] at bt
      rw [if_neg (show ¬ S / 2 ^ i % 2 = 0 by omega), ← Nat.add_assoc, ← ih (i + 1) _ (by omega)]
      simp only [oB_some, dR_some, cond_true, cond_false, if_true, if_false, Bool.true_and, Bool.and_true, Nat.beq_refl, K3, R30, Ks, dcC, c, bt, show ¬ nI 1 = 0 by decide, K10, Ev, owes_now I hi, nI_1, nI_add]
theorem grow_c {h : Hp} {s : Nat} {r d b : Nat → Nat} {dc bc : Nat} {lw : Option ((Nat → Int32) × Nat)} {v u w lg bk z : Nat → Nat} {A x : Nat} (I : AINV h s r d b dc bc lw v u w lg bk z A x) {S : Nat} (hS : S < 64) : ∀ k i acc, i + k = dc → Run kX10_growthWithout 5 [some (vR (some 3)), some (vR (some 10)), some (vI (nI S)), some (vI (nI acc)), some (vI (nI i))] [] h = some (rI (nI (acc + gsm d v S k i)), h) := by
  obtain ⟨K0, R01, R02, R04, R05, K3, R30, Ks, Rs2, Rs3, Rs4, Ks1, Es1, Ks2, Es2, Ks3, Es3, K10, R108, K11, E11, K14, K98, td, dcC, bcC, Ev, Eu⟩ := cfa I
  have d6 : dc ≤ 6 := I.2.1.2.2.2.1.2.2.2.2.1.1
  have dC := I.2.1.2.2.1.2.2.2.2.2.1
  have d99 := I.2.1.2.2.1.2.2.2.2.2.2.2.2.1
  have v9 := I.2.2.1.2.1.2.2.2.2.2.2.2.1
  intro k
  induction k with
  | zero =>
    intro i acc e
    have c : nI dc ≤ nI i := nI_le (by omega) (by omega)
    rw [tX10_growthWithout_5]; simp only [oB_some, dR_some, cond_true, cond_false, if_true, if_false, Bool.true_and, Bool.and_true, Nat.beq_refl, K3, R30, Ks, dcC, c]
    rfl
  | succ k ih =>
    intro i acc e
    have c : ¬ nI dc ≤ nI i := nI_ge (by omega) (by omega)
    have hi : i < dc := by omega
    obtain ⟨i30, i300, i31, i32, ia0, ia1, ia2, ic0, ic1, ic2⟩ := ix3 (i := i) (N := 18) (by omega) (by omega)
    have f1 := dC (3 * i) (by omega)
    have f2 := dC (3 * i + 2) (by omega)
    have f9 := d99 (3 * i)
    have bt := (bt6 S hS i (by omega)).1
    have pd := paid_now I (i := i) (by omega)
    have q : (nI (v 9) < nI (d (3 * i))) = (v 9 < d (3 * i)) := nI_nlt' (by omega) (by omega)
    show _ = some (rI (nI (acc + ((if v 7 / 2 ^ i % 2 = 0 ∧ S / 2 ^ i % 2 = 0 ∧ d (3 * i) ≤ v 9 then d (3 * i + 2) else 0) + gsm d v S k (i + 1)))), h)
    rw [tX10_growthWithout_5]
    rcases (show v 7 / 2 ^ i % 2 = 0 ∨ v 7 / 2 ^ i % 2 = 1 by omega) with p | p
    · rcases (show S / 2 ^ i % 2 = 0 ∨ S / 2 ^ i % 2 = 1 by omega) with p2 | p2
      · rw [p2] at bt
        by_cases z : v 9 < d (3 * i)
        · rw [if_neg (show ¬ (v 7 / 2 ^ i % 2 = 0 ∧ S / 2 ^ i % 2 = 0 ∧ d (3 * i) ≤ v 9) by omega), Nat.zero_add, ← ih (i + 1) acc (by omega)]
          simp only [oB_some, dR_some, cond_true, cond_false, if_true, if_false, Bool.true_and, Bool.and_true, Nat.beq_refl, K3, R30, Ks, dcC, c, K10, pd, p, bt, nI_0, Rs3, Ks2, Es2, iaK20, i30, i300, i31, i32, ia0, ia1, ia2, ic0, ic1, ic2, f1, Ev, q, z, nI_1]
        · rw [if_pos (show v 7 / 2 ^ i % 2 = 0 ∧ S / 2 ^ i % 2 = 0 ∧ d (3 * i) ≤ v 9 from ⟨p, p2, by omega⟩), ← Nat.add_assoc, ← ih (i + 1) _ (by omega)]
          simp only [oB_some, dR_some, cond_true, cond_false, if_true, if_false, Bool.true_and, Bool.and_true, Nat.beq_refl, K3, R30, Ks, dcC, c, K10, pd, p, bt, nI_0, Rs3, Ks2, Es2, iaK20, i30, i300, i31, i32, ia0, ia1, ia2, ic0, ic1, ic2, f1, f2, Ev, q, z, nI_1, nI_add]
      · rw [p2] at bt
        rw [if_neg (show ¬ (v 7 / 2 ^ i % 2 = 0 ∧ S / 2 ^ i % 2 = 0 ∧ d (3 * i) ≤ v 9) by omega), Nat.zero_add, ← ih (i + 1) acc (by omega)]
        simp only [oB_some, dR_some, cond_true, cond_false, if_true, if_false, Bool.true_and, Bool.and_true, Nat.beq_refl, K3, R30, Ks, dcC, c, K10, pd, p, bt, nI_0, show ¬ nI 1 = 0 by decide, nI_1]
    · rw [if_neg (show ¬ (v 7 / 2 ^ i % 2 = 0 ∧ S / 2 ^ i % 2 = 0 ∧ d (3 * i) ≤ v 9) by omega), Nat.zero_add, ← ih (i + 1) acc (by omega)]
      simp only [oB_some, dR_some, cond_true, cond_false, if_true, if_false, Bool.true_and, Bool.and_true, Nat.beq_refl, K3, R30, Ks, dcC, c, K10, pd, p, show ¬ nI 1 = 0 by decide, nI_1]
theorem price_now {h : Hp} {s : Nat} {r d b : Nat → Nat} {dc bc : Nat} {lw : Option ((Nat → Int32) × Nat)} {v u w lg bk z : Nat → Nat} {A x : Nat} (I : AINV h s r d b dc bc lw v u w lg bk z A x) {S : Nat} (hS : S < 64) : FX10_priceOf [vR (some 3), vR (some 10), vI (nI S)] h = some (rI (nI (psm d v S dc 0)), h) := by
  rw [tX10_priceOf, show (0 : Int32) = nI 0 from rfl, price_c I hS dc 0 0 (by omega), Nat.zero_add]
theorem grow_now {h : Hp} {s : Nat} {r d b : Nat → Nat} {dc bc : Nat} {lw : Option ((Nat → Int32) × Nat)} {v u w lg bk z : Nat → Nat} {A x : Nat} (I : AINV h s r d b dc bc lw v u w lg bk z A x) {S : Nat} (hS : S < 64) : FX10_growthWithout [vR (some 3), vR (some 10), vI (nI S)] h = some (rI (nI (gsm d v S dc 0)), h) := by
  rw [tX10_growthWithout, show (0 : Int32) = nI 0 from rfl, grow_c I hS dc 0 0 (by omega), Nat.zero_add]
/-- a set is better to pay than another -/
def btr (d v : Nat → Nat) (dc S B : Nat) : Prop := gsm d v S dc 0 < gsm d v B dc 0 ∨ (gsm d v S dc 0 = gsm d v B dc 0 ∧ psm d v S dc 0 < psm d v B dc 0)
theorem better_c {h : Hp} {s : Nat} {r d b : Nat → Nat} {dc bc : Nat} {lw : Option ((Nat → Int32) × Nat)} {v u w lg bk z : Nat → Nat} {A x : Nat} (I : AINV h s r d b dc bc lw v u w lg bk z A x) {S B : Nat} (hS : S < 64) (hB : B < 64) : (btr d v dc S B → FX10_paysBetter [vR (some 3), vR (some 10), vI (nI S), vI (nI B)] h = some (rI 1, h)) ∧ (¬ btr d v dc S B → FX10_paysBetter [vR (some 3), vR (some 10), vI (nI S), vI (nI B)] h = some (rI 0, h)) := by
  obtain ⟨K0, R01, R02, R04, R05, K3, R30, Ks, Rs2, Rs3, Rs4, Ks1, Es1, Ks2, Es2, Ks3, Es3, K10, R108, K11, E11, K14, K98, td, dcC, bcC, Ev, Eu⟩ := cfa I
  have d6 : dc ≤ 6 := I.2.1.2.2.2.1.2.2.2.2.1.1
  have d99 := I.2.1.2.2.1.2.2.2.2.2.2.2.2.1
  have v9 := I.2.2.1.2.1.2.2.2.2.2.2.2.1
  have a1 := gsm_le (d := d) (v := v) (S := S) d99 dc 0
  have a2 := gsm_le (d := d) (v := v) (S := B) d99 dc 0
  have a3 := psm_le (d := d) (v := v) (S := S) d99 (by omega) dc 0
  have a4 := psm_le (d := d) (v := v) (S := B) d99 (by omega) dc 0
  have q1 : (nI (gsm d v S dc 0) = nI (gsm d v B dc 0)) = (gsm d v S dc 0 = gsm d v B dc 0) := nI_neq' (by omega) (by omega)
  have q2 : (nI (gsm d v B dc 0) ≤ nI (gsm d v S dc 0)) = (gsm d v B dc 0 ≤ gsm d v S dc 0) := nI_nle' (by omega) (by omega)
  have q3 : (nI (psm d v B dc 0) ≤ nI (psm d v S dc 0)) = (psm d v B dc 0 ≤ psm d v S dc 0) := nI_nle' (by omega) (by omega)
  have key : FX10_paysBetter [vR (some 3), vR (some 10), vI (nI S), vI (nI B)] h = some (rI (if gsm d v S dc 0 = gsm d v B dc 0 then (if psm d v B dc 0 ≤ psm d v S dc 0 then 0 else 1) else if gsm d v B dc 0 ≤ gsm d v S dc 0 then 0 else 1), h) := by
    rw [tX10_paysBetter]
    simp only [oB_some, dR_some, cond_true, cond_false, if_true, if_false, Bool.true_and, Bool.and_true, Nat.beq_refl, K3, grow_now I hS, grow_now I hB, price_now I hS, price_now I hB, q1, q2, q3, isZ0, isZ1]
    by_cases c1 : gsm d v S dc 0 = gsm d v B dc 0
    · by_cases c2 : psm d v B dc 0 ≤ psm d v S dc 0
      · simp only [eq_true c1, c2, if_true]
      · simp only [eq_true c1, c2, if_true, if_false]
    · by_cases c2 : gsm d v B dc 0 ≤ gsm d v S dc 0
      · simp only [c1, c2, if_true, if_false]
      · simp only [c1, c2, if_false]
  rw [key]
  unfold btr
  refine ⟨fun z => ?_, fun z => ?_⟩
  · by_cases c1 : gsm d v S dc 0 = gsm d v B dc 0
    · rw [if_pos c1, if_neg (by omega)]
    · rw [if_neg c1, if_neg (by omega)]
  · by_cases c1 : gsm d v S dc 0 = gsm d v B dc 0
    · rw [if_pos c1, if_pos (by omega)]
    · rw [if_neg c1, if_pos (by omega)]
