/-! ===== PURE: paying, by both ===== -/
def mayB (P S : Nat) : Nat → Nat → Bool
  | 0, _ => true
  | k + 1, i => (Nat.beq (S / 2 ^ i % 2) 0 || Nat.beq (P / 2 ^ i % 2) 0) && mayB P S k (i + 1)
theorem may_and : ∀ dc, dc ≤ 6 → ∀ S, S < 2 ^ dc → ∀ P, P < 64 → (decide (nI S &&& nI P = 0)) = mayB P S dc 0 := by decide +kernel
theorem shl_dc : ∀ dc, dc ≤ 6 → (1 <<< (nI dc &&& 31) : Int32) = nI (2 ^ dc) := by decide +kernel
theorem pow_dc : ∀ dc, dc ≤ 6 → 2 ^ dc ≤ 64 := by decide
noncomputable def payK (g : Hp) (x1 x2 x3 x4 : Int32) (S : Nat) (o6 o7 o8 o9 : Option EV) : Option (RV × Hp) := Run kX12_paying 34 [some (vR (some 147)), some (vI x1), some (vI x2), some (vI x3), some (vI x4), some (vI (nI (S + 1))), o6, o7, o8, o9] [] g
noncomputable def payD (g : Hp) (x1 x2 x3 x4 : Int32) (S G P : Nat) (o6 o7 o8 o9 : Option EV) : Option (RV × Hp) :=
  if x2 = -1 then payK g x1 (nI S) (nI G) (nI P) S o6 o7 o8 o9 else if x3 < nI G then payK g x1 x2 x3 x4 S o6 o7 o8 o9 else if nI G = x3 then (if nI P < x4 then payK g x1 (nI S) (nI G) (nI P) S o6 o7 o8 o9 else payK g x1 x2 x3 x4 S o6 o7 o8 o9) else payK g x1 (nI S) (nI G) (nI P) S o6 o7 o8 o9
theorem pay_57 {g : Hp} {s : Nat} {r d b : Nat → Nat} {dc bc : Nat} {lw : Option ((Nat → Int32) × Nat)} {v u w lg bk z : Nat → Nat} {A x : Nat} (J : AINV g s r d b dc bc lw v u w lg bk z A x) {S : Nat} (hS : S < 64) (x1 x2 x3 x4 : Int32) : ∀ k i ga pa (m0 : Bool), i + k = dc → ∃ o6 o7 o8 o9, Run kX12_paying 57 [some (vR (some 147)), some (vI x1), some (vI x2), some (vI x3), some (vI x4), some (vI (nI S)), some (vI (nI ga)), some (vI (nI pa)), some (vI (bif m0 then 1 else 0)), some (vI (nI i))] [] g =
    bif m0 && mayB (v 7) S k i then (if nI (pa + psm d v S k i) ≤ nI (v 4) then payD g x1 x2 x3 x4 S (ga + gsm d v S k i) (pa + psm d v S k i) o6 o7 o8 o9 else payK g x1 x2 x3 x4 S o6 o7 o8 o9) else payK g x1 x2 x3 x4 S o6 o7 o8 o9 := by
  obtain ⟨M147, R18, K152, E152, R20, K154, E154, R22, K156, E156, R32, K160, E160, dcM, bcM, Ew⟩ := mfa J
  have d6 : dc ≤ 6 := J.2.1.2.2.2.1.2.2.2.2.1.1
  have dM := J.2.1.2.2.2.1.2.2.2.2.2.2.2.1
  have d99 := J.2.1.2.2.1.2.2.2.2.2.2.2.2.1
  have k4 := J.2.2.1.2.2.2.1
  have w4 : w 4 = v 4 := k4.1 4 (by omega)
  have w7 : w 7 = v 9 := k4.2.1
  have v9 := J.2.2.1.2.1.2.2.2.2.2.2.2.1
  intro k
  induction k with
  | zero =>
    intro i ga pa m0 e
    have c : nI dc ≤ nI i := nI_le (by omega) (by omega)
    refine ⟨some (vI (nI ga)), some (vI (nI pa)), some (vI (bif m0 then 1 else 0)), some (vI (nI i)), ?_⟩
    show _ = bif m0 && true then (if nI (pa + 0) ≤ nI (v 4) then payD g x1 x2 x3 x4 S (ga + 0) (pa + 0) _ _ _ _ else _) else _
    rw [Nat.add_zero, Nat.add_zero, Bool.and_true, tX12_paying_57]
    cases m0 with
    | false => simp only [oB_some, dR_some, cond_true, cond_false, if_true, if_false, Bool.true_and, Bool.and_true, Nat.beq_refl, M147, dcM, c, nI_1]; rfl
    | true =>
      by_cases z : nI pa ≤ nI (v 4)
      · simp only [oB_some, dR_some, cond_true, cond_false, if_true, if_false, Bool.true_and, Bool.and_true, Nat.beq_refl, M147, dcM, c, ne10, R32, K160, E160, iaK20, ib4, tc4, Ew, w4, z, nI_1]
        rfl
      · simp only [oB_some, dR_some, cond_true, cond_false, if_true, if_false, Bool.true_and, Bool.and_true, Nat.beq_refl, M147, dcM, c, ne10, R32, K160, E160, iaK20, ib4, tc4, Ew, w4, z, nI_1]
        rfl
  | succ k ih =>
    intro i ga pa m0 e
    have c : ¬ nI dc ≤ nI i := nI_ge (by omega) (by omega)
    have hi : i < dc := by omega
    obtain ⟨i30, i300, i31, i32, ia0, ia1, ia2, ic0, ic1, ic2⟩ := ix3 (i := i) (N := 18) (by omega) (by omega)
    have f1 := dM (3 * i) (by omega)
    have f2 := dM (3 * i + 2) (by omega)
    have f9 := d99 (3 * i)
    have bt := (bt6 S hS i (by omega)).1
    have op := open_m J (i := i) (by omega)
    have q : (nI (v 9) < nI (d (3 * i))) = (v 9 < d (3 * i)) := nI_nlt' (by omega) (by omega)
    have s1 : psm d v S (k + 1) i = (if S / 2 ^ i % 2 = 0 then 0 else ow d i (v 9)) + psm d v S k (i + 1) := rfl
    have s2 : gsm d v S (k + 1) i = (if v 7 / 2 ^ i % 2 = 0 ∧ S / 2 ^ i % 2 = 0 ∧ d (3 * i) ≤ v 9 then d (3 * i + 2) else 0) + gsm d v S k (i + 1) := rfl
    have s3 : mayB (v 7) S (k + 1) i = ((Nat.beq (S / 2 ^ i % 2) 0 || Nat.beq (v 7 / 2 ^ i % 2) 0) && mayB (v 7) S k (i + 1)) := rfl
    rw [s1, s2, s3, tX12_paying_57, tX12_has]
    rcases (show S / 2 ^ i % 2 = 0 ∨ S / 2 ^ i % 2 = 1 by omega) with p2 | p2
    · rw [p2] at bt
      rcases (show v 7 / 2 ^ i % 2 = 0 ∨ v 7 / 2 ^ i % 2 = 1 by omega) with p | p
      · rw [p] at op
        by_cases z : v 9 < d (3 * i)
        · obtain ⟨o6, o7, o8, o9, a⟩ := ih (i + 1) ga pa m0 (by omega)
          refine ⟨o6, o7, o8, o9, ?_⟩
          rw [if_pos p2, if_neg (show ¬ (v 7 / 2 ^ i % 2 = 0 ∧ S / 2 ^ i % 2 = 0 ∧ d (3 * i) ≤ v 9) by omega), Nat.zero_add, Nat.zero_add, p2, show Nat.beq 0 0 = true from rfl, Bool.true_or, Bool.true_and, ← a]
          simp only [oB_some, dR_some, cond_true, cond_false, if_true, if_false, Bool.true_and, Bool.and_true, Nat.beq_refl, M147, dcM, c, bt, nI_0, ne01, isZ0, op, ne10, R32, K160, E160, iaK20, ib7, tc7, Ew, w7, R20, K154, E154, i30, i300, i31, i32, ia0, ia1, ia2, ic0, ic1, ic2, f1, q, z, nI_1, Int32.add_zero]
        · obtain ⟨o6, o7, o8, o9, a⟩ := ih (i + 1) (ga + d (3 * i + 2)) pa m0 (by omega)
          refine ⟨o6, o7, o8, o9, ?_⟩
          rw [if_pos p2, if_pos (show v 7 / 2 ^ i % 2 = 0 ∧ S / 2 ^ i % 2 = 0 ∧ d (3 * i) ≤ v 9 by omega), Nat.zero_add, ← Nat.add_assoc, p2, show Nat.beq 0 0 = true from rfl, Bool.true_or, Bool.true_and, ← a]
          simp only [oB_some, dR_some, cond_true, cond_false, if_true, if_false, Bool.true_and, Bool.and_true, Nat.beq_refl, M147, dcM, c, bt, nI_0, ne01, isZ0, op, ne10, R32, K160, E160, iaK20, ib7, tc7, Ew, w7, R20, K154, E154, i30, i300, i31, i32, ia0, ia1, ia2, ic0, ic1, ic2, f1, f2, q, z, nI_1, nI_add]
      · rw [p] at op
        obtain ⟨o6, o7, o8, o9, a⟩ := ih (i + 1) ga pa m0 (by omega)
        refine ⟨o6, o7, o8, o9, ?_⟩
        rw [if_pos p2, if_neg (show ¬ (v 7 / 2 ^ i % 2 = 0 ∧ S / 2 ^ i % 2 = 0 ∧ d (3 * i) ≤ v 9) by omega), Nat.zero_add, Nat.zero_add, p2, show Nat.beq 0 0 = true from rfl, Bool.true_or, Bool.true_and, ← a]
        simp only [oB_some, dR_some, cond_true, cond_false, if_true, if_false, Bool.true_and, Bool.and_true, Nat.beq_refl, M147, dcM, c, bt, nI_0, ne01, isZ0, op, show ¬ (1 = 0) by decide, nI_1, Int32.add_zero]
    · rw [p2] at bt
      have n1 : nI 1 = (1 : Int32) := rfl
      rw [if_neg (show ¬ S / 2 ^ i % 2 = 0 by omega), if_neg (show ¬ (v 7 / 2 ^ i % 2 = 0 ∧ S / 2 ^ i % 2 = 0 ∧ d (3 * i) ≤ v 9) by omega), Nat.zero_add, ← Nat.add_assoc, p2, show Nat.beq 1 0 = false from rfl, Bool.false_or]
      rcases (show v 7 / 2 ^ i % 2 = 0 ∨ v 7 / 2 ^ i % 2 = 1 by omega) with p | p
      · rw [p] at op
        rw [p, show Nat.beq 0 0 = true from rfl, Bool.true_and]
        obtain ⟨o6, o7, o8, o9, a⟩ := ih (i + 1) ga (pa + ow d i (v 9)) m0 (by omega)
        refine ⟨o6, o7, o8, o9, ?_⟩
        rw [← a]
        cases m0 with
        | false => simp only [oB_some, dR_some, cond_true, cond_false, if_true, if_false, Bool.true_and, Bool.and_true, Nat.beq_refl, M147, dcM, c, bt, n1, isZ1, ne10, R32, owes_nowM J hi, nI_1, nI_add]
        | true => simp only [oB_some, dR_some, cond_true, cond_false, if_true, if_false, Bool.true_and, Bool.and_true, Nat.beq_refl, M147, dcM, c, bt, n1, isZ1, ne10, op, R32, owes_nowM J hi, nI_1, nI_add]
      · rw [p] at op
        rw [p, show Nat.beq 1 0 = false from rfl, Bool.false_and, Bool.and_false]
        obtain ⟨o6, o7, o8, o9, a⟩ := ih (i + 1) ga (pa + ow d i (v 9)) false (by omega)
        refine ⟨o6, o7, o8, o9, ?_⟩
        rw [Bool.false_and] at a
        rw [← a]
        cases m0 with
        | false => simp only [oB_some, dR_some, cond_true, cond_false, if_true, if_false, Bool.true_and, Bool.and_true, Nat.beq_refl, M147, dcM, c, bt, n1, isZ1, ne10, R32, owes_nowM J hi, nI_1, nI_add]
        | true => simp only [oB_some, dR_some, cond_true, cond_false, if_true, if_false, Bool.true_and, Bool.and_true, Nat.beq_refl, M147, dcM, c, bt, n1, isZ1, ne10, op, show ¬ (1 = 0) by decide, R32, owes_nowM J hi, nI_1, nI_add]
theorem payD_t {d v : Nat → Nat} {dc : Nat} (hd : ∀ k, d k ≤ 99) (h9 : v 9 ≤ 5000) (hdc : dc ≤ 6) (g : Hp) (y : Int32) {S B : Nat} (hB : B < 64) (o6 o7 o8 o9 : Option EV) : (btr d v dc S B → payD g y (nI B) (nI (gsm d v B dc 0)) (nI (psm d v B dc 0)) S (gsm d v S dc 0) (psm d v S dc 0) o6 o7 o8 o9 = payK g y (nI S) (nI (gsm d v S dc 0)) (nI (psm d v S dc 0)) S o6 o7 o8 o9) ∧ (¬ btr d v dc S B → payD g y (nI B) (nI (gsm d v B dc 0)) (nI (psm d v B dc 0)) S (gsm d v S dc 0) (psm d v S dc 0) o6 o7 o8 o9 = payK g y (nI B) (nI (gsm d v B dc 0)) (nI (psm d v B dc 0)) S o6 o7 o8 o9) := by
  have a1 := gsm_le (d := d) (v := v) (S := S) hd dc 0
  have a2 := gsm_le (d := d) (v := v) (S := B) hd dc 0
  have a3 := psm_le (d := d) (v := v) (S := S) hd h9 dc 0
  have a4 := psm_le (d := d) (v := v) (S := B) hd h9 dc 0
  have q1 : (nI (gsm d v S dc 0) = nI (gsm d v B dc 0)) = (gsm d v S dc 0 = gsm d v B dc 0) := nI_neq' (by omega) (by omega)
  have q2 : (nI (gsm d v B dc 0) < nI (gsm d v S dc 0)) = (gsm d v B dc 0 < gsm d v S dc 0) := nI_nlt' (by omega) (by omega)
  have q3 : (nI (psm d v S dc 0) < nI (psm d v B dc 0)) = (psm d v S dc 0 < psm d v B dc 0) := nI_nlt' (by omega) (by omega)
  have nb : ¬ nI B = -1 := nI_nm1 (by omega)
  have r1 : nI (gsm d v S dc 0) = nI (gsm d v B dc 0) ↔ gsm d v S dc 0 = gsm d v B dc 0 := Iff.of_eq q1
  have r2 : nI (gsm d v B dc 0) < nI (gsm d v S dc 0) ↔ gsm d v B dc 0 < gsm d v S dc 0 := Iff.of_eq q2
  have r3 : nI (psm d v S dc 0) < nI (psm d v B dc 0) ↔ psm d v S dc 0 < psm d v B dc 0 := Iff.of_eq q3
  unfold payD btr
  rw [if_neg nb]
  by_cases c1 : gsm d v B dc 0 < gsm d v S dc 0
  · rw [if_pos (r2.mpr c1)]
    exact ⟨fun z => by omega, fun _ => rfl⟩
  · rw [if_neg (fun q => c1 (r2.mp q))]
    by_cases c2 : gsm d v S dc 0 = gsm d v B dc 0
    · rw [if_pos (r1.mpr c2)]
      by_cases c3 : psm d v S dc 0 < psm d v B dc 0
      · rw [if_pos (r3.mpr c3)]
        exact ⟨fun _ => rfl, fun z => by omega⟩
      · rw [if_neg (fun q => c3 (r3.mp q))]
        exact ⟨fun z => by omega, fun _ => rfl⟩
    · rw [if_neg (fun q => c2 (r1.mp q))]
      exact ⟨fun _ => rfl, fun z => by omega⟩
theorem pay_loop {h : Hp} {s : Nat} {r d b : Nat → Nat} {dc bc : Nat} {lw : Option ((Nat → Int32) × Nat)} {v u w lg bk z : Nat → Nat} {A x : Nat} {g : Hp} (I : AINV h s r d b dc bc lw v u w lg bk z A x) (J : AINV g s r d b dc bc lw v u w lg bk z A x) (y : Int32) : ∀ k S B (o6 o7 o8 o9 : Option EV), S + k = 2 ^ dc → B < 2 ^ dc → ∃ C, C < 64 ∧ Run kX10_bestToPay 4 [some (vR (some 3)), some (vR (some 10)), some (vI (nI B)), some (vI (nI S))] [] h = some (rI (nI C), h) ∧ Run kX12_paying 34 [some (vR (some 147)), some (vI y), some (vI (nI B)), some (vI (nI (gsm d v B dc 0))), some (vI (nI (psm d v B dc 0))), some (vI (nI S)), o6, o7, o8, o9] [] g = some (rI (if y = 0 then nI C else nI (gsm d v C dc 0)), g) := by
  obtain ⟨K0, R01, R02, R04, R05, K3, R30, Ks, Rs2, Rs3, Rs4, Ks1, Es1, Ks2, Es2, Ks3, Es3, K10, R108, K11, E11, K14, K98, td, dcC, bcC, Ev, Eu⟩ := cfa I
  obtain ⟨M147, R18, K152, E152, R20, K154, E154, R22, K156, E156, R32, K160, E160, dcM, bcM, Ew⟩ := mfa J
  have d6 : dc ≤ 6 := J.2.1.2.2.2.1.2.2.2.2.1.1
  have d99 := J.2.1.2.2.1.2.2.2.2.2.2.2.2.1
  have v9 := J.2.2.1.2.1.2.2.2.2.2.2.2.1
  have v4 := J.2.2.1.2.1.2.2.2.2.1
  have v7 := J.2.2.1.2.1.2.2.2.2.2.2.1
  have p64 := pow_dc dc d6
  have sh := shl_dc dc d6
  intro k
  induction k with
  | zero =>
    intro S B o6 o7 o8 o9 e hB
    have c : nI (2 ^ dc) ≤ nI S := nI_le (by omega) (by omega)
    refine ⟨B, by omega, ?_, ?_⟩
    · rw [tX10_bestToPay_4]; simp only [oB_some, dR_some, cond_true, cond_false, if_true, if_false, Bool.true_and, Bool.and_true, Nat.beq_refl, K3, R30, Ks, dcC, sh, c]
    · rw [tX12_paying_34]
      by_cases y0 : y = 0
      · simp only [oB_some, dR_some, cond_true, cond_false, if_true, if_false, Bool.true_and, Bool.and_true, Nat.beq_refl, M147, dcM, sh, c, y0]
      · simp only [oB_some, dR_some, cond_true, cond_false, if_true, if_false, Bool.true_and, Bool.and_true, Nat.beq_refl, M147, dcM, sh, c, y0]
  | succ k ih =>
    intro S B o6 o7 o8 o9 e hB
    have c : ¬ nI (2 ^ dc) ≤ nI S := nI_ge (by omega) (by omega)
    have hS : S < 2 ^ dc := by omega
    have ma := may_and dc d6 S hS (v 7) v7
    obtain ⟨q6, q7, q8, q9, a⟩ := pay_57 J (S := S) (by omega) y (nI B) (nI (gsm d v B dc 0)) (nI (psm d v B dc 0)) dc 0 0 0 true (by omega)
    rw [Nat.zero_add, Nat.zero_add, Bool.true_and, ← ma] at a
    have b1 := psm_le (d := d) (v := v) (S := S) d99 (by omega) dc 0
    have q1 : (nI (v 4) < nI (psm d v S dc 0)) = (v 4 < psm d v S dc 0) := nI_nlt' (by omega) (by omega)
    have q2 : (nI (psm d v S dc 0) ≤ nI (v 4)) = (psm d v S dc 0 ≤ v 4) := nI_nle' (by omega) (by omega)
    have keep := ih (S + 1) B q6 q7 q8 q9 (by omega) hB
    have take := ih (S + 1) S q6 q7 q8 q9 (by omega) hS
    have dt := payD_t (v := v) d99 (by omega) d6 g y (S := S) (B := B) (by omega) q6 q7 q8 q9
    have bc' := better_c I (S := S) (B := B) (by omega) (by omega)
    have a' : Run kX12_paying 57 [some (vR (some 147)), some (vI y), some (vI (nI B)), some (vI (nI (gsm d v B dc 0))), some (vI (nI (psm d v B dc 0))), some (vI (nI S)), some (vI 0), some (vI 0), some (vI 1), some (vI 0)] [] g = _ := a
    rw [tX10_bestToPay_4, tX12_paying_34]
    simp only [oB_some, dR_some, cond_true, cond_false, if_true, if_false, Bool.true_and, Bool.and_true, Nat.beq_refl, K3, R30, Ks, dcC, sh, c, K10, Ev, M147, dcM, a', q2]
    by_cases m : nI S &&& nI (v 7) = 0
    · by_cases z : v 4 < psm d v S dc 0
      · have z' : ¬ psm d v S dc 0 ≤ v 4 := by omega
        simp only [oB_some, dR_some, cond_true, cond_false, if_true, if_false, Bool.true_and, Bool.and_true, Nat.beq_refl, m, decide_true, price_now I (S := S) (by omega), q1, z, z', K10, Ev, nI_1]
        exact keep
      · have z' : psm d v S dc 0 ≤ v 4 := by omega
        by_cases bb : btr d v dc S B
        · simp only [oB_some, dR_some, cond_true, cond_false, if_true, if_false, Bool.true_and, Bool.and_true, Nat.beq_refl, m, decide_true, price_now I (S := S) (by omega), q1, z, z', K10, Ev, nI_1, K3, bc'.1 bb, ne10, dt.1 bb]
          exact take
        · simp only [oB_some, dR_some, cond_true, cond_false, if_true, if_false, Bool.true_and, Bool.and_true, Nat.beq_refl, m, decide_true, price_now I (S := S) (by omega), q1, z, z', K10, Ev, nI_1, K3, bc'.2 bb, dt.2 bb]
          exact keep
    · simp only [oB_some, dR_some, cond_true, cond_false, if_true, if_false, Bool.true_and, Bool.and_true, Nat.beq_refl, m, decide_false, nI_1]
      exact keep
theorem psm_0 (d v : Nat → Nat) : ∀ k i, psm d v 0 k i = 0 := by
  intro k
  induction k with
  | zero => intro i; rfl
  | succ k ih =>
    intro i
    show (if 0 / 2 ^ i % 2 = 0 then 0 else ow d i (v 9)) + psm d v 0 k (i + 1) = 0
    rw [ih, Nat.zero_div, if_pos rfl]
theorem paying_both {h : Hp} {s : Nat} {r d b : Nat → Nat} {dc bc : Nat} {lw : Option ((Nat → Int32) × Nat)} {v u w lg bk z : Nat → Nat} {A x : Nat} (I : AINV h s r d b dc bc lw v u w lg bk z A x) (y : Int32) : QRY h (FX11_paying [vR (some 0), vI y]) (FX12_paying [vR (some 147), vI y]) := by
  obtain ⟨K0, R01, R02, R04, R05, K3, R30, Ks, Rs2, Rs3, Rs4, Ks1, Es1, Ks2, Es2, Ks3, Es3, K10, R108, K11, E11, K14, K98, td, dcC, bcC, Ev, Eu⟩ := cfa I
  have hm := hom I
  have J := ainv_t I
  obtain ⟨M147, R18, K152, E152, R20, K154, E154, R22, K156, E156, R32, K160, E160, dcM, bcM, Ew⟩ := mfa J
  have M0 := (mfa I).1
  have b5 : bc ≤ 5 := I.2.1.2.2.2.1.2.2.2.2.1.2
  have d6 : dc ≤ 6 := J.2.1.2.2.2.1.2.2.2.2.1.1
  have nz : ¬ nI bc = 0 := nI_nz I.2.1.2.2.2.2.1 (by omega)
  have v4 := J.2.2.1.2.1.2.2.2.2.1
  have v7 := J.2.2.1.2.1.2.2.2.2.2.2.1
  have pp : 0 < 2 ^ dc := Nat.pow_pos (by decide)
  have p64 := pow_dc dc d6
  by_cases c1 : y < 0
  · refine QRY.id (res := -1) ?_ ?_
    · rw [tX11_paying]; simp only [oB_some, dR_some, cond_true, cond_false, if_true, if_false, Bool.true_and, Bool.and_true, Nat.beq_refl, K0, hm, within11, c1]
    · rw [tX12_paying]; simp only [oB_some, dR_some, cond_true, cond_false, if_true, if_false, Bool.true_and, Bool.and_true, Nat.beq_refl, M0, M147, bcM, nz, isIn_01, c1]
  by_cases c2 : (1 : Int32) < y
  · refine QRY.id (res := -1) ?_ ?_
    · rw [tX11_paying]; simp only [oB_some, dR_some, cond_true, cond_false, if_true, if_false, Bool.true_and, Bool.and_true, Nat.beq_refl, K0, hm, within11, c1, c2]
    · rw [tX12_paying]; simp only [oB_some, dR_some, cond_true, cond_false, if_true, if_false, Bool.true_and, Bool.and_true, Nat.beq_refl, M0, M147, bcM, nz, isIn_01, c1, c2]
  · obtain ⟨q6, q7, q8, q9, a⟩ := pay_57 J (S := 0) (by omega) y (-1) 0 0 dc 0 0 0 true (by omega)
    have ma := may_and dc d6 0 pp (v 7) v7
    rw [show (nI 0 &&& nI (v 7) : Int32) = 0 from Int32.zero_and, show decide ((0 : Int32) = 0) = true from rfl] at ma
    rw [Nat.zero_add, Nat.zero_add, Bool.true_and, ← ma, psm_0, cond_true, if_pos (nI_le (by omega) (by omega))] at a
    unfold payD at a
    rw [if_pos rfl] at a
    obtain ⟨C, hC, e1, e2⟩ := pay_loop I J y (2 ^ dc - 1) 1 0 q6 q7 q8 q9 (by omega) pp
    rw [psm_0] at e2
    have a' : Run kX12_paying 57 [some (vR (some 147)), some (vI y), some (vI (-1)), some (vI 0), some (vI 0), some (vI 0), some (vI 0), some (vI 0), some (vI 1), some (vI 0)] [] (sI h 147 0 0) = some (rI (if y = 0 then nI C else nI (gsm d v C dc 0)), sI h 147 0 0) := a.trans e2
    have c0 : ¬ nI (2 ^ dc) ≤ (0 : Int32) := nI_nle pp (by omega)
    have b1 : FX10_bestToPay [vR (some 3), vR (some 10)] h = some (rI (nI C), h) := by rw [tX10_bestToPay]; exact e1
    refine QRY.id (res := if y = 0 then nI C else nI (gsm d v C dc 0)) ?_ ?_
    · rw [tX11_paying]
      by_cases y0 : y = 0
      · rw [y0] at c1 c2
        simp only [oB_some, dR_some, cond_true, cond_false, if_true, if_false, Bool.true_and, Bool.and_true, Nat.beq_refl, K0, hm, within11, c1, c2, ne10, R01, R02, K3, b1, y0]
      · simp only [oB_some, dR_some, cond_true, cond_false, if_true, if_false, Bool.true_and, Bool.and_true, Nat.beq_refl, K0, hm, within11, c1, c2, ne10, R01, R02, K3, b1, y0, grow_now I hC]
    · rw [tX12_paying]; simp only [oB_some, dR_some, cond_true, cond_false, if_true, if_false, Bool.true_and, Bool.and_true, Nat.beq_refl, M0, M147, bcM, nz, isIn_01, c1, c2, ne10, tX12_paying_34, dcM, shl_dc dc d6, c0, a']
