/-! ===== PURE: pieces, best, weaves, moon, owed, paying: by both ===== -/
def gnF (b : Nat → Nat) (i : Nat) : Int32 := 3 * nI (b (3 * i + 1)) - nI (b (3 * i))
theorem gain_c {h : Hp} {s : Nat} {r d b : Nat → Nat} {dc bc : Nat} {lw : Option ((Nat → Int32) × Nat)} {v u w lg bk z : Nat → Nat} {A x : Nat} (I : AINV h s r d b dc bc lw v u w lg bk z A x) {i : Nat} (hi : i < bc) : FX0_gainByCut [vR (some s), vI (nI i)] h = some (rI (gnF b i), h) := by
  obtain ⟨K0, R01, R02, R04, R05, K3, R30, Ks, Rs2, Rs3, Rs4, Ks1, Es1, Ks2, Es2, Ks3, Es3, K10, R108, K11, E11, K14, K98, td, dcC, bcC, Ev, Eu⟩ := cfa I
  have b5 : bc ≤ 5 := I.2.1.2.2.2.1.2.2.2.2.1.2
  have bC := I.2.1.2.2.1.2.2.2.2.2.2.1
  obtain ⟨i30, i300, i31, i32, ia0, ia1, ia2, ic0, ic1, ic2⟩ := ix3 (i := i) (N := 15) (by omega) (by omega)
  rw [tX0_gainByCut]
  simp only [oB_some, dR_some, cond_true, cond_false, if_true, if_false, Bool.true_and, Bool.and_true, Nat.beq_refl, Ks, Rs4, Ks3, Es3, iaK20, i30, i300, i31, i32, ia0, ia1, ia2, ic0, ic1, ic2, bC (3 * i) (by omega), bC (3 * i + 1) (by omega)]
  rfl
theorem piece_m {h : Hp} {s : Nat} {r d b : Nat → Nat} {dc bc : Nat} {lw : Option ((Nat → Int32) × Nat)} {v u w lg bk z : Nat → Nat} {A x : Nat} (I : AINV h s r d b dc bc lw v u w lg bk z A x) {i : Nat} (hi : i < bc) : FX12_piece [vR (some 147), vI (nI i)] h = some (rI (gnF b i), h) := by
  obtain ⟨M147, R18, K152, E152, R20, K154, E154, R22, K156, E156, R32, K160, E160, dcM, bcM, Ew⟩ := mfa I
  have b5 : bc ≤ 5 := I.2.1.2.2.2.1.2.2.2.2.1.2
  have bM := I.2.1.2.2.2.1.2.2.2.2.2.2.2.2.1
  obtain ⟨i30, i300, i31, i32, ia0, ia1, ia2, ic0, ic1, ic2⟩ := ix3 (i := i) (N := 15) (by omega) (by omega)
  rw [tX12_piece]
  simp only [oB_some, dR_some, cond_true, cond_false, if_true, if_false, Bool.true_and, Bool.and_true, Nat.beq_refl, M147, R22, K156, E156, iaK20, i30, i300, i31, i32, ia0, ia1, ia2, ic0, ic1, ic2, bM (3 * i) (by omega), bM (3 * i + 1) (by omega)]
  rfl
theorem piec_loop {h : Hp} {s : Nat} {r d b : Nat → Nat} {dc bc : Nat} {lw : Option ((Nat → Int32) × Nat)} {v u w lg bk z : Nat → Nat} {A x : Nat} {g : Hp} (I : AINV h s r d b dc bc lw v u w lg bk z A x) (J : AINV g s r d b dc bc lw v u w lg bk z A x) (y : Int32) : ∀ k i m, i + k = bc → m < bc → ∃ res, Run kX11_pieces 24 [some (vR (some 0)), some (vI y), some (vI (nI m)), some (vI (nI i))] [] h = some (rI res, h) ∧ Run kX12_pieces 30 [some (vR (some 147)), some (vI y), some (vI (nI m)), some (vI (nI i))] [] g = some (rI res, g) := by
  obtain ⟨K0, R01, R02, R04, R05, K3, R30, Ks, Rs2, Rs3, Rs4, Ks1, Es1, Ks2, Es2, Ks3, Es3, K10, R108, K11, E11, K14, K98, td, dcC, bcC, Ev, Eu⟩ := cfa I
  obtain ⟨M147, R18, K152, E152, R20, K154, E154, R22, K156, E156, R32, K160, E160, dcM, bcM, Ew⟩ := mfa J
  have b5 : bc ≤ 5 := I.2.1.2.2.2.1.2.2.2.2.1.2
  intro k
  induction k with
  | zero =>
    intro i m e hm
    have c : nI bc ≤ nI i := nI_le (by omega) (by omega)
    by_cases q : y = 0
    · refine ⟨nI m, ?_, ?_⟩
      · rw [tX11_pieces_24]; simp only [oB_some, dR_some, cond_true, cond_false, if_true, if_false, Bool.true_and, Bool.and_true, Nat.beq_refl, K0, R01, K3, R30, Ks, bcC, c, q]
      · rw [tX12_pieces_30]; simp only [oB_some, dR_some, cond_true, cond_false, if_true, if_false, Bool.true_and, Bool.and_true, Nat.beq_refl, M147, bcM, c, q]
    · refine ⟨gnF b m, ?_, ?_⟩
      · rw [tX11_pieces_24]; simp only [oB_some, dR_some, cond_true, cond_false, if_true, if_false, Bool.true_and, Bool.and_true, Nat.beq_refl, K0, R01, K3, R30, Ks, bcC, c, q, gain_c I hm]
      · rw [tX12_pieces_30]; simp only [oB_some, dR_some, cond_true, cond_false, if_true, if_false, Bool.true_and, Bool.and_true, Nat.beq_refl, M147, bcM, c, q, piece_m J hm]
  | succ k ih =>
    intro i m e hm
    have c : ¬ nI bc ≤ nI i := nI_ge (by omega) (by omega)
    have hi : i < bc := by omega
    rw [tX11_pieces_24, tX12_pieces_30]
    simp only [oB_some, dR_some, cond_true, cond_false, if_true, if_false, Bool.true_and, Bool.and_true, Nat.beq_refl, K0, R01, K3, R30, Ks, bcC, c, gain_c I hm, gain_c I hi, M147, bcM, piece_m J hm, piece_m J hi, nI_1]
    by_cases q : gnF b i ≤ gnF b m
    · simp only [q, if_true]; exact ih (i + 1) m (by omega) hm
    · simp only [q, if_false]; exact ih (i + 1) i (by omega) hi
theorem pieces_both {h : Hp} {s : Nat} {r d b : Nat → Nat} {dc bc : Nat} {lw : Option ((Nat → Int32) × Nat)} {v u w lg bk z : Nat → Nat} {A x : Nat} (I : AINV h s r d b dc bc lw v u w lg bk z A x) (y : Int32) : QRY h (FX11_pieces [vR (some 0), vI y]) (FX12_pieces [vR (some 147), vI y]) := by
  obtain ⟨K0, R01, R02, R04, R05, K3, R30, Ks, Rs2, Rs3, Rs4, Ks1, Es1, Ks2, Es2, Ks3, Es3, K10, R108, K11, E11, K14, K98, td, dcC, bcC, Ev, Eu⟩ := cfa I
  have hm := hom I
  have J := ainv_t I
  obtain ⟨M147, R18, K152, E152, R20, K154, E154, R22, K156, E156, R32, K160, E160, dcM, bcM, Ew⟩ := mfa J
  have M0 := (mfa I).1
  have b5 : bc ≤ 5 := I.2.1.2.2.2.1.2.2.2.2.1.2
  have b0 := I.2.1.2.2.2.2.1
  have nz : ¬ nI bc = 0 := nI_nz b0 (by omega)
  by_cases c1 : y < 0
  · refine QRY.id (res := -1000000) ?_ ?_
    · rw [tX11_pieces]; simp only [oB_some, dR_some, cond_true, cond_false, if_true, if_false, Bool.true_and, Bool.and_true, Nat.beq_refl, K0, hm, within11, c1]
    · rw [tX12_pieces]; simp only [oB_some, dR_some, cond_true, cond_false, if_true, if_false, Bool.true_and, Bool.and_true, Nat.beq_refl, M0, M147, bcM, nz, isIn_01, c1]
  by_cases c2 : (1 : Int32) < y
  · refine QRY.id (res := -1000000) ?_ ?_
    · rw [tX11_pieces]; simp only [oB_some, dR_some, cond_true, cond_false, if_true, if_false, Bool.true_and, Bool.and_true, Nat.beq_refl, K0, hm, within11, c1, c2]
    · rw [tX12_pieces]; simp only [oB_some, dR_some, cond_true, cond_false, if_true, if_false, Bool.true_and, Bool.and_true, Nat.beq_refl, M0, M147, bcM, nz, isIn_01, c1, c2]
  · obtain ⟨res, e1, e2⟩ := piec_loop I J y (bc - 1) 1 0 (by omega) (by omega)
    refine QRY.id (res := res) ?_ ?_
    · rw [tX11_pieces]; simp only [oB_some, dR_some, cond_true, cond_false, if_true, if_false, Bool.true_and, Bool.and_true, Nat.beq_refl, K0, hm, within11, c1, c2, ne10]; exact e1
    · rw [tX12_pieces]; simp only [oB_some, dR_some, cond_true, cond_false, if_true, if_false, Bool.true_and, Bool.and_true, Nat.beq_refl, M0, M147, bcM, nz, isIn_01, c1, c2, ne10]; exact e2
theorem wants_now {h : Hp} {s : Nat} {r d b : Nat → Nat} {dc bc : Nat} {lw : Option ((Nat → Int32) × Nat)} {v u w lg bk z : Nat → Nat} {A x : Nat} (I : AINV h s r d b dc bc lw v u w lg bk z A x) {i : Nat} (hi : i < bc) : FX10_wants [vR (some 3), vR (some 10), vI (nI i)] h = some (rI (nI (b (3 * i + 2)) - nI (u i)), h) := by
  obtain ⟨⟨C, P, D, L, U, RL⟩, ⟨j1, j2, W, M, j5, j6, j7⟩, ⟨⟨n1, n2, _⟩, k2, _⟩, _⟩ := I
  have := wants_c (v := v) (u := u) W L hi
  rw [LN_self n1 n2] at this
  exact this
theorem wants_nowM {h : Hp} {s : Nat} {r d b : Nat → Nat} {dc bc : Nat} {lw : Option ((Nat → Int32) × Nat)} {v u w lg bk z : Nat → Nat} {A x : Nat} (I : AINV h s r d b dc bc lw v u w lg bk z A x) {i : Nat} (hi : i < bc) : FX12_wants [vR (some 147), vR (some 160), vI (nI i)] h = some (rI (nI (b (3 * i + 2)) - nI (u i)), h) := by
  obtain ⟨⟨C, P, D, L, U, RL⟩, ⟨j1, j2, W, M, j5, j6, j7⟩, ⟨_, k2, k3, k4, k5⟩, _⟩ := I
  have := wants_m (w := w) M RL hi
  rw [RN_self k3, k4.2.2.2.1 i (by have := M.2.2.2.2.1.2; omega)] at this
  exact this
theorem best_loop {h : Hp} {s : Nat} {r d b : Nat → Nat} {dc bc : Nat} {lw : Option ((Nat → Int32) × Nat)} {v u w lg bk z : Nat → Nat} {A x : Nat} {g : Hp} (I : AINV h s r d b dc bc lw v u w lg bk z A x) (J : AINV g s r d b dc bc lw v u w lg bk z A x) : ∀ k i (q : Int32) (o4 : Option EV), i + k = bc → (q = -1 ∨ ∃ m, m < bc ∧ q = nI m) → ∃ res, Run kX10_bestBuyer 4 [some (vR (some 3)), some (vR (some 10)), some (vI q), some (vI (nI i)), o4] [] h = some (rI res, h) ∧ Run kX12_bestBuyer 4 [some (vR (some 147)), some (vI q), some (vI (nI i))] [] g = some (rI res, g) ∧ (res = -1 ∨ ∃ m, m < bc ∧ res = nI m) := by
  obtain ⟨K0, R01, R02, R04, R05, K3, R30, Ks, Rs2, Rs3, Rs4, Ks1, Es1, Ks2, Es2, Ks3, Es3, K10, R108, K11, E11, K14, K98, td, dcC, bcC, Ev, Eu⟩ := cfa I
  obtain ⟨M147, R18, K152, E152, R20, K154, E154, R22, K156, E156, R32, K160, E160, dcM, bcM, Ew⟩ := mfa J
  have b5 : bc ≤ 5 := I.2.1.2.2.2.1.2.2.2.2.1.2
  have bC := I.2.1.2.2.1.2.2.2.2.2.2.1
  have bM := J.2.1.2.2.2.1.2.2.2.2.2.2.2.2.1
  intro k
  induction k with
  | zero =>
    intro i q o4 e hq
    have c : nI bc ≤ nI i := nI_le (by omega) (by omega)
    refine ⟨q, ?_, ?_, hq⟩
    · rw [tX10_bestBuyer_4]; simp only [oB_some, dR_some, cond_true, cond_false, if_true, if_false, Bool.true_and, Bool.and_true, Nat.beq_refl, K3, R30, Ks, bcC, c]
    · rw [tX12_bestBuyer_4]; simp only [oB_some, dR_some, cond_true, cond_false, if_true, if_false, Bool.true_and, Bool.and_true, Nat.beq_refl, M147, bcM, c]
  | succ k ih =>
    intro i q o4 e hq
    have c : ¬ nI bc ≤ nI i := nI_ge (by omega) (by omega)
    have hi : i < bc := by omega
    obtain ⟨i30, i300, i31, i32, ia0, ia1, ia2, ic0, ic1, ic2⟩ := ix3 (i := i) (N := 15) (by omega) (by omega)
    rw [tX10_bestBuyer_4, tX12_bestBuyer_4]
    by_cases q1 : q = -1
    · by_cases z1 : nI (b (3 * i + 2)) - nI (u i) ≤ 0
      · simp only [oB_some, dR_some, cond_true, cond_false, if_true, if_false, Bool.true_and, Bool.and_true, Nat.beq_refl, K3, R30, Ks, bcC, c, q1, ne10, wants_now I hi, z1, M147, bcM, R32, wants_nowM J hi, nI_1]
        exact ih (i + 1) (-1) _ (by omega) (Or.inl rfl)
      · simp only [oB_some, dR_some, cond_true, cond_false, if_true, if_false, Bool.true_and, Bool.and_true, Nat.beq_refl, K3, R30, Ks, bcC, c, q1, ne10, wants_now I hi, z1, M147, bcM, R32, wants_nowM J hi, nI_1]
        exact ih (i + 1) (nI i) _ (by omega) (Or.inr ⟨i, hi, rfl⟩)
    · obtain ⟨m, hm, em⟩ := hq.resolve_left q1
      subst em
      obtain ⟨i30', i300', i31', i32', ia0', ia1', ia2', ic0', ic1', ic2'⟩ := ix3 (i := m) (N := 15) (by omega) (by omega)
      have f1 := bC (3 * i) (by omega)
      have f2 := bC (3 * m) (by omega)
      have f3 := bM (3 * i) (by omega)
      have f4 := bM (3 * m) (by omega)
      by_cases z1 : nI (b (3 * i + 2)) - nI (u i) ≤ 0
      · by_cases z2 : nI (b (3 * i)) ≤ nI (b (3 * m))
        · simp only [oB_some, dR_some, cond_true, cond_false, if_true, if_false, Bool.true_and, Bool.and_true, Nat.beq_refl, K3, R30, Ks, bcC, c, q1, Rs4, Ks3, Es3, iaK20, i30, i300, i31, i32, ia0, ia1, ia2, ic0, ic1, ic2, i30', i300', i31', i32', ia0', ia1', ia2', ic0', ic1', ic2', f1, f2, z2, M147, bcM, R32, wants_nowM J hi, z1, nI_1]
          exact ih (i + 1) (nI m) _ (by omega) (Or.inr ⟨m, hm, rfl⟩)
        · simp only [oB_some, dR_some, cond_true, cond_false, if_true, if_false, Bool.true_and, Bool.and_true, Nat.beq_refl, K3, R30, Ks, bcC, c, q1, Rs4, Ks3, Es3, iaK20, i30, i300, i31, i32, ia0, ia1, ia2, ic0, ic1, ic2, i30', i300', i31', i32', ia0', ia1', ia2', ic0', ic1', ic2', f1, f2, z2, ne10, wants_now I hi, M147, bcM, R32, wants_nowM J hi, z1, nI_1]
          exact ih (i + 1) (nI m) _ (by omega) (Or.inr ⟨m, hm, rfl⟩)
      · by_cases z2 : nI (b (3 * i)) ≤ nI (b (3 * m))
        · simp only [oB_some, dR_some, cond_true, cond_false, if_true, if_false, Bool.true_and, Bool.and_true, Nat.beq_refl, K3, R30, Ks, bcC, c, q1, Rs4, Ks3, Es3, iaK20, i30, i300, i31, i32, ia0, ia1, ia2, ic0, ic1, ic2, i30', i300', i31', i32', ia0', ia1', ia2', ic0', ic1', ic2', f1, f2, z2, M147, bcM, R32, wants_nowM J hi, z1, R22, K156, E156, f3, f4, nI_1]
          exact ih (i + 1) (nI m) _ (by omega) (Or.inr ⟨m, hm, rfl⟩)
        · simp only [oB_some, dR_some, cond_true, cond_false, if_true, if_false, Bool.true_and, Bool.and_true, Nat.beq_refl, K3, R30, Ks, bcC, c, q1, Rs4, Ks3, Es3, iaK20, i30, i300, i31, i32, ia0, ia1, ia2, ic0, ic1, ic2, i30', i300', i31', i32', ia0', ia1', ia2', ic0', ic1', ic2', f1, f2, z2, ne10, wants_now I hi, M147, bcM, R32, wants_nowM J hi, z1, R22, K156, E156, f3, f4, nI_1]
          exact ih (i + 1) (nI i) _ (by omega) (Or.inr ⟨i, hi, rfl⟩)
theorem best_now {h : Hp} {s : Nat} {r d b : Nat → Nat} {dc bc : Nat} {lw : Option ((Nat → Int32) × Nat)} {v u w lg bk z : Nat → Nat} {A x : Nat} {g : Hp} (I : AINV h s r d b dc bc lw v u w lg bk z A x) (J : AINV g s r d b dc bc lw v u w lg bk z A x) : ∃ res, FX11_best [vR (some 0)] h = some (rI res, h) ∧ FX12_bestBuyer [vR (some 147)] g = some (rI res, g) ∧ (res = -1 ∨ ∃ m, m < bc ∧ res = nI m) := by
  obtain ⟨K0, R01, R02, R04, R05, K3, R30, Ks, Rs2, Rs3, Rs4, Ks1, Es1, Ks2, Es2, Ks3, Es3, K10, R108, K11, E11, K14, K98, td, dcC, bcC, Ev, Eu⟩ := cfa I
  have hm := hom I
  obtain ⟨res, e1, e2, e3⟩ := best_loop I J bc 0 (-1) none (by omega) (Or.inl rfl)
  refine ⟨res, ?_, ?_, e3⟩
  · rw [tX11_best]; simp only [oB_some, dR_some, cond_true, cond_false, if_true, if_false, Bool.true_and, Bool.and_true, Nat.beq_refl, K0, hm, R01, R02, K3, tX10_bestBuyer]
    rw [show (0 : Int32) = nI 0 from rfl, e1]; rfl
  · rw [tX12_bestBuyer]; exact e2
theorem best_both {h : Hp} {s : Nat} {r d b : Nat → Nat} {dc bc : Nat} {lw : Option ((Nat → Int32) × Nat)} {v u w lg bk z : Nat → Nat} {A x : Nat} (I : AINV h s r d b dc bc lw v u w lg bk z A x) : QRY h (FX11_best [vR (some 0)]) (FX12_best [vR (some 147)]) := by
  have J := ainv_t I
  have M147 := (mfa J).1
  have M0 := (mfa I).1
  obtain ⟨res, e1, e2, _⟩ := best_now I J
  refine QRY.id (res := res) e1 ?_
  rw [tX12_best]; simp only [oB_some, dR_some, cond_true, cond_false, if_true, if_false, Bool.true_and, Bool.and_true, Nat.beq_refl, M0, M147, e2]
theorem weaves_both {h : Hp} {s : Nat} {r d b : Nat → Nat} {dc bc : Nat} {lw : Option ((Nat → Int32) × Nat)} {v u w lg bk z : Nat → Nat} {A x : Nat} (I : AINV h s r d b dc bc lw v u w lg bk z A x) : QRY h (FX11_weaves [vR (some 0)]) (FX12_weaves [vR (some 147)]) := by
  obtain ⟨K0, R01, R02, R04, R05, K3, R30, Ks, Rs2, Rs3, Rs4, Ks1, Es1, Ks2, Es2, Ks3, Es3, K10, R108, K11, E11, K14, K98, td, dcC, bcC, Ev, Eu⟩ := cfa I
  have J := ainv_t I
  obtain ⟨M147, R18, K152, E152, R20, K154, E154, R22, K156, E156, R32, K160, E160, dcM, bcM, Ew⟩ := mfa J
  have M0 := (mfa I).1
  have b5 : bc ≤ 5 := I.2.1.2.2.2.1.2.2.2.2.1.2
  have rC := I.2.1.2.2.1.2.2.2.2.1
  have rM := J.2.1.2.2.2.1.2.2.2.2.2.2.1
  have bC := I.2.1.2.2.1.2.2.2.2.2.2.1
  have bM := J.2.1.2.2.2.1.2.2.2.2.2.2.2.2.1
  have g9 : r 2 ≤ 9 := I.2.1.2.2.2.2.2.1.2.2.2.1
  have i72 : inb 2 7 = true := by decide
  have i74 : inb 4 7 = true := by decide
  have rC2 := rC 2 (by decide)
  have rC4 := rC 4 (by decide)
  have rM2 := rM 2 (by decide)
  have rM4 := rM 4 (by decide)
  obtain ⟨res, e1, e2, e3⟩ := best_now I J
  by_cases q1 : res = -1
  · refine QRY.id (res := -1) ?_ ?_
    · rw [tX11_weaves]; simp only [oB_some, dR_some, cond_true, cond_false, if_true, if_false, Bool.true_and, Bool.and_true, Nat.beq_refl, K0, e1, q1]
    · rw [tX12_weaves]; simp only [oB_some, dR_some, cond_true, cond_false, if_true, if_false, Bool.true_and, Bool.and_true, Nat.beq_refl, M0, M147, e2, q1]
  obtain ⟨m, hm, em⟩ := e3.resolve_left q1
  subst em
  obtain ⟨i30, i300, i31, i32, ia0, ia1, ia2, ic0, ic1, ic2⟩ := ix3 (i := m) (N := 15) (by omega) (by omega)
  have f1 := bC (3 * m) (by omega)
  have f2 := bM (3 * m) (by omega)
  by_cases g0 : r 2 = 0
  · rw [g0] at rC2 rM2
    have p0 : ¬ (0 : Int32) < nI 0 := by decide
    by_cases z2 : nI (b (3 * m)) ≤ nI (r 4) * 1
    · refine QRY.id (res := 0) ?_ ?_
      · rw [tX11_weaves]; simp only [oB_some, dR_some, cond_true, cond_false, if_true, if_false, Bool.true_and, Bool.and_true, Nat.beq_refl, K0, e1, q1, R01, K3, R30, Ks, Rs2, Ks1, Es1, iaK20, i72, tc2, rC2, p0, Rs4, Ks3, Es3, i30, i300, i31, i32, ia0, ia1, ia2, ic0, ic1, ic2, f1, i74, tc4, rC4, z2]
      · rw [tX12_weaves]; simp only [oB_some, dR_some, cond_true, cond_false, if_true, if_false, Bool.true_and, Bool.and_true, Nat.beq_refl, M0, M147, e2, q1, R18, K152, E152, iaK20, i72, tc2, rM2, nI_0, R22, K156, E156, i30, i300, i31, i32, ia0, ia1, ia2, ic0, ic1, ic2, f2, i74, tc4, rM4, z2]
    · refine QRY.id (res := 1) ?_ ?_
      · rw [tX11_weaves]; simp only [oB_some, dR_some, cond_true, cond_false, if_true, if_false, Bool.true_and, Bool.and_true, Nat.beq_refl, K0, e1, q1, R01, K3, R30, Ks, Rs2, Ks1, Es1, iaK20, i72, tc2, rC2, p0, Rs4, Ks3, Es3, i30, i300, i31, i32, ia0, ia1, ia2, ic0, ic1, ic2, f1, i74, tc4, rC4, z2]
      · rw [tX12_weaves]; simp only [oB_some, dR_some, cond_true, cond_false, if_true, if_false, Bool.true_and, Bool.and_true, Nat.beq_refl, M0, M147, e2, q1, R18, K152, E152, iaK20, i72, tc2, rM2, nI_0, R22, K156, E156, i30, i300, i31, i32, ia0, ia1, ia2, ic0, ic1, ic2, f2, i74, tc4, rM4, z2]
  · have p0 : (0 : Int32) < nI (r 2) := by rw [nI_0lt (by omega)]; omega
    have nz : ¬ nI (r 2) = 0 := nI_nz (by omega) (by omega)
    obtain ⟨h2, t2, O2⟩ := takes_now I
    have I2 := ainv_ag I (ag_only O2 (fun a ha => by unfold frC; simp at ha; omega) (by simp))
    have J2 := ainv_t I2
    obtain ⟨res', e1', e2', _⟩ := best_now I J2
    have er : res' = nI m := by rw [e1'] at e1; simpa using congrArg (fun o => o.map (fun p => p.1.1)) e1
    subst er
    obtain ⟨h4, t4, O4⟩ := takes_nowM J2
    have J4 := ainv_ag J2 (ag_mq (x := x) (O4.mq [] []) (by simp) (by simp))
    obtain ⟨K0', R01', R02', R04', R05', K3', R30', Ks', Rs2', Rs3', Rs4', Ks1', Es1', Ks2', Es2', Ks3', Es3', K10', R108', K11', E11', K14', K98', td', dcC', bcC', Ev', Eu'⟩ := cfa I2
    obtain ⟨M147', R18', K152', E152', R20', K154', E154', R22', K156', E156', R32', K160', E160', dcM', bcM', Ew'⟩ := mfa J2
    obtain ⟨M147p, R18p, K152p, E152p, R20p, K154p, E154p, R22p, K156p, E156p, R32p, K160p, E160p, dcMp, bcMp, Ewp⟩ := mfa J4
    have M0' := (mfa I2).1
    have f1' := I2.2.1.2.2.1.2.2.2.2.2.2.1 (3 * m) (by omega)
    have rC4' := I2.2.1.2.2.1.2.2.2.2.1 4 (by decide)
    have rM2' := J2.2.1.2.2.2.1.2.2.2.2.2.2.1 2 (by decide)
    have rM2p := J4.2.1.2.2.2.1.2.2.2.2.2.2.1 2 (by decide)
    have rM4p := J4.2.1.2.2.2.1.2.2.2.2.2.2.1 4 (by decide)
    have f2p := J4.2.1.2.2.2.1.2.2.2.2.2.2.2.2.1 (3 * m) (by omega)
    by_cases z2 : nI (b (3 * m)) ≤ nI (r 4) * ((nI (TK lw r (v 0) (v 2) (v 10) (v 9) (v 4)) + nI (r 2) - 1) / nI (r 2))
    · refine ⟨0, h2, h4, ?_, ?_, O2.mono (by decide), (mq_t h2).trans (O4.mq _ _)⟩
      · rw [tX11_weaves]; simp only [oB_some, dR_some, cond_true, cond_false, if_true, if_false, Bool.true_and, Bool.and_true, Nat.beq_refl, K0, e1', q1, R01, R02, K3, R30, Ks, Rs2, Ks1, Es1, iaK20, i72, tc2, rC2, p0, t2, nz, K0', R01', K3', R30', Ks', Rs2', Ks1', Es1', Rs4', Ks3', Es3', i30, i300, i31, i32, ia0, ia1, ia2, ic0, ic1, ic2, f1', i74, tc4, rC4', z2]
      · rw [tX12_weaves]; simp only [oB_some, dR_some, cond_true, cond_false, if_true, if_false, Bool.true_and, Bool.and_true, Nat.beq_refl, M0', M147', e2', q1, R18', K152', E152', iaK20, i72, tc2, rM2', nz, R32', t4, M147p, R18p, K152p, E152p, rM2p, R22p, K156p, E156p, i30, i300, i31, i32, ia0, ia1, ia2, ic0, ic1, ic2, f2p, i74, tc4, rM4p, z2]
    · refine ⟨1, h2, h4, ?_, ?_, O2.mono (by decide), (mq_t h2).trans (O4.mq _ _)⟩
      · rw [tX11_weaves]; simp only [oB_some, dR_some, cond_true, cond_false, if_true, if_false, Bool.true_and, Bool.and_true, Nat.beq_refl, K0, e1', q1, R01, R02, K3, R30, Ks, Rs2, Ks1, Es1, iaK20, i72, tc2, rC2, p0, t2, nz, K0', R01', K3', R30', Ks', Rs2', Ks1', Es1', Rs4', Ks3', Es3', i30, i300, i31, i32, ia0, ia1, ia2, ic0, ic1, ic2, f1', i74, tc4, rC4', z2]
      · rw [tX12_weaves]; simp only [oB_some, dR_some, cond_true, cond_false, if_true, if_false, Bool.true_and, Bool.and_true, Nat.beq_refl, M0', M147', e2', q1, R18', K152', E152', iaK20, i72, tc2, rM2', nz, R32', t4, M147p, R18p, K152p, E152p, rM2p, R22p, K156p, E156p, i30, i300, i31, i32, ia0, ia1, ia2, ic0, ic1, ic2, f2p, i74, tc4, rM4p, z2]
/-! debts that are owed -/
def osm (d v : Nat → Nat) (W : Nat) : Nat → Nat → Nat
  | 0, _ => 0
  | k + 1, i => (if v 7 / 2 ^ i % 2 = 0 ∧ d (3 * i) ≤ W then ow d i (v 9) else 0) + osm d v W k (i + 1)
theorem osm_le {d v : Nat → Nat} {W : Nat} (hd : ∀ k, d k ≤ 99) (h9 : v 9 ≤ 5000) : ∀ k i, osm d v W k i ≤ 500000 * k := by
  intro k
  induction k with
  | zero => intro i; exact Nat.le_refl _
  | succ k ih =>
    intro i
    have a := ih (i + 1)
    have c := ow_le (i := i) hd h9
    show (if v 7 / 2 ^ i % 2 = 0 ∧ d (3 * i) ≤ W then ow d i (v 9) else 0) + osm d v W k (i + 1) ≤ _
    split <;> omega
theorem owes_now {h : Hp} {s : Nat} {r d b : Nat → Nat} {dc bc : Nat} {lw : Option ((Nat → Int32) × Nat)} {v u w lg bk z : Nat → Nat} {A x : Nat} (I : AINV h s r d b dc bc lw v u w lg bk z A x) {i : Nat} (hi : i < dc) : FX10_owes [vR (some 3), vI (nI i), vI (nI (v 9))] h = some (rI (nI (ow d i (v 9))), h) := owes_c I.2.1.2.2.1 hi (by have := I.2.2.1.2.1.2.2.2.2.2.2.2.1; omega)
theorem owes_nowM {h : Hp} {s : Nat} {r d b : Nat → Nat} {dc bc : Nat} {lw : Option ((Nat → Int32) × Nat)} {v u w lg bk z : Nat → Nat} {A x : Nat} (I : AINV h s r d b dc bc lw v u w lg bk z A x) {i : Nat} (hi : i < dc) : FX12_debtNow [vR (some 147), vR (some 160), vI (nI i)] h = some (rI (nI (ow d i (v 9))), h) := by
  obtain ⟨⟨C, P, D, L, U, RL⟩, ⟨j1, j2, W, M, j5, j6, j7⟩, ⟨_, k2, k3, k4, k5⟩, _⟩ := I
  have h9 := k2.2.2.2.2.2.2.2.1
  have := debtNow_m (w := w) M RL hi (by have := k4.2.1; omega)
  rw [RN_self k3, k4.2.1] at this
  exact this
theorem open_m {h : Hp} {s : Nat} {r d b : Nat → Nat} {dc bc : Nat} {lw : Option ((Nat → Int32) × Nat)} {v u w lg bk z : Nat → Nat} {A x : Nat} (I : AINV h s r d b dc bc lw v u w lg bk z A x) {i : Nat} (hi : i < 6) : FX12_isOpen [vR (some 147), vI (nI i)] h = some (rI (if v 7 / 2 ^ i % 2 = 0 then 1 else 0), h) := by
  obtain ⟨M147, R18, K152, E152, R20, K154, E154, R22, K156, E156, R32, K160, E160, dcM, bcM, Ew⟩ := mfa I
  have w8 := I.2.2.1.2.2.2.1.2.2.1 i hi
  have i8 : (8 : Int32) + nI i = nI (8 + i) := nI_add 8 i
  have ib8 : inb (nI (8 + i)) 381 = true := inb_nI (by omega) (by omega)
  have cl8 : (nI (8 + i)).toNatClampNeg = 8 + i := nI_clamp (by omega)
  rw [tX12_isOpen]
  rcases (show v 7 / 2 ^ i % 2 = 0 ∨ v 7 / 2 ^ i % 2 = 1 by omega) with p | p
  · simp only [oB_some, dR_some, cond_true, cond_false, if_true, if_false, Bool.true_and, Bool.and_true, Nat.beq_refl, M147, R32, K160, E160, iaK20, i8, ib8, cl8, Ew, w8, p, nI_0, isZ1]
  · simp only [oB_some, dR_some, cond_true, cond_false, if_true, if_false, Bool.true_and, Bool.and_true, Nat.beq_refl, M147, R32, K160, E160, iaK20, i8, ib8, cl8, Ew, w8, p, show ¬ nI 1 = 0 by decide, isZ0, show ¬ (1 = 0) by decide]
theorem owed_c {h : Hp} {s : Nat} {r d b : Nat → Nat} {dc bc : Nat} {lw : Option ((Nat → Int32) × Nat)} {v u w lg bk z : Nat → Nat} {A x : Nat} (I : AINV h s r d b dc bc lw v u w lg bk z A x) {W : Nat} (hW : W < 2 ^ 30) : ∀ k i acc, i + k = dc → Run kX10_owedBy 5 [some (vR (some 3)), some (vR (some 10)), some (vI (nI W)), some (vI (nI acc)), some (vI (nI i))] [] h = some (rI (nI (acc + osm d v W k i)), h) := by
  obtain ⟨K0, R01, R02, R04, R05, K3, R30, Ks, Rs2, Rs3, Rs4, Ks1, Es1, Ks2, Es2, Ks3, Es3, K10, R108, K11, E11, K14, K98, td, dcC, bcC, Ev, Eu⟩ := cfa I
  have d6 : dc ≤ 6 := I.2.1.2.2.2.1.2.2.2.2.1.1
  have dC := I.2.1.2.2.1.2.2.2.2.2.1
  have d99 := I.2.1.2.2.1.2.2.2.2.2.2.2.2.1
  intro k
  induction k with
  | zero =>
    intro i acc e
    have c : nI dc ≤ nI i := nI_le (by omega) (by omega)
    rw [tX10_owedBy_5]; simp only [oB_some, dR_some, cond_true, cond_false, if_true, if_false, Bool.true_and, Bool.and_true, Nat.beq_refl, K3, R30, Ks, dcC, c]
    rfl
  | succ k ih =>
    intro i acc e
    have c : ¬ nI dc ≤ nI i := nI_ge (by omega) (by omega)
    have hi : i < dc := by omega
    obtain ⟨i30, i300, i31, i32, ia0, ia1, ia2, ic0, ic1, ic2⟩ := ix3 (i := i) (N := 18) (by omega) (by omega)
    have f1 := dC (3 * i) (by omega)
    have f9 := d99 (3 * i)
    have q : (nI W < nI (d (3 * i))) = (W < d (3 * i)) := nI_nlt' (by omega) (by omega)
    have pd := paid_now I (i := i) (by omega)
    show _ = some (rI (nI (acc + ((if v 7 / 2 ^ i % 2 = 0 ∧ d (3 * i) ≤ W then ow d i (v 9) else 0) + osm d v W k (i + 1)))), h)
    rw [tX10_owedBy_5]
    rcases (show v 7 / 2 ^ i % 2 = 0 ∨ v 7 / 2 ^ i % 2 = 1 by omega) with p | p
    · by_cases z : W < d (3 * i)
      · rw [if_neg (show ¬ (v 7 / 2 ^ i % 2 = 0 ∧ d (3 * i) ≤ W) by omega), Nat.zero_add, ← ih (i + 1) acc (by omega)]
        simp only [oB_some, dR_some, cond_true, cond_false, if_true, if_false, Bool.true_and, Bool.and_true, Nat.beq_refl, K3, R30, Ks, dcC, c, K10, pd, p, nI_0, Rs3, Ks2, Es2, iaK20, i30, i300, i31, i32, ia0, ia1, ia2, ic0, ic1, ic2, f1, q, z, nI_1]
      · rw [if_pos (show v 7 / 2 ^ i % 2 = 0 ∧ d (3 * i) ≤ W from ⟨p, by omega⟩), ← Nat.add_assoc, ← ih (i + 1) _ (by omega)]
        simp only [oB_some, dR_some, cond_true, cond_false, if_true, if_false, Bool.true_and, Bool.and_true, Nat.beq_refl, K3, R30, Ks, dcC, c, K10, pd, p, nI_0, Rs3, Ks2, Es2, iaK20, i30, i300, i31, i32, ia0, ia1, ia2, ic0, ic1, ic2, f1, q, z, Ev, owes_now I hi, nI_1, nI_add]
    · rw [if_neg (show ¬ (v 7 / 2 ^ i % 2 = 0 ∧ d (3 * i) ≤ W) by omega), Nat.zero_add, ← ih (i + 1) acc (by omega)]
      simp only [oB_some, dR_some, cond_true, cond_false, if_true, if_false, Bool.true_and, Bool.and_true, Nat.beq_refl, K3, R30, Ks, dcC, c, K10, pd, p, show ¬ nI 1 = 0 by decide, nI_1]
theorem moon_26 {g : Hp} {s : Nat} {r d b : Nat → Nat} {dc bc : Nat} {lw : Option ((Nat → Int32) × Nat)} {v u w lg bk z : Nat → Nat} {A x : Nat} (J : AINV g s r d b dc bc lw v u w lg bk z A x) {j : Nat} (hj : j ≤ 60) : ∀ k i acc, i + k = dc → ∃ o3, Run kX12_moon 26 [some (vR (some 147)), some (vI (nI j)), some (vI (nI acc)), some (vI (nI i))] [] g = if nI (acc + osm d v (v 9 + j) k i) ≤ nI (v 4 + r 4 * j) then Run kX12_moon 16 [some (vR (some 147)), some (vI (nI (j + 1))), some (vI (nI (acc + osm d v (v 9 + j) k i))), o3] [] g else some (rI (nI (v 9 + j)), g) := by
  obtain ⟨M147, R18, K152, E152, R20, K154, E154, R22, K156, E156, R32, K160, E160, dcM, bcM, Ew⟩ := mfa J
  have d6 : dc ≤ 6 := J.2.1.2.2.2.1.2.2.2.2.1.1
  have dM := J.2.1.2.2.2.1.2.2.2.2.2.2.2.1
  have d99 := J.2.1.2.2.1.2.2.2.2.2.2.2.2.1
  have k4 := J.2.2.1.2.2.2.1
  have w4 : w 4 = v 4 := k4.1 4 (by omega)
  have w7 : w 7 = v 9 := k4.2.1
  have v9 := J.2.2.1.2.1.2.2.2.2.2.2.2.1
  have rM4 := J.2.1.2.2.2.1.2.2.2.2.2.2.1 4 (by decide)
  have i74 : inb 4 7 = true := by decide
  intro k
  induction k with
  | zero =>
    intro i acc e
    have c : nI dc ≤ nI i := nI_le (by omega) (by omega)
    refine ⟨some (vI (nI i)), ?_⟩
    show _ = if nI (acc + 0) ≤ _ then Run kX12_moon 16 [_, _, some (vI (nI (acc + 0))), _] [] g else _
    rw [Nat.add_zero, tX12_moon_26]
    simp only [oB_some, dR_some, cond_true, cond_false, if_true, if_false, Bool.true_and, Bool.and_true, Nat.beq_refl, M147, dcM, c, R32, K160, E160, iaK20, ib4, tc4, Ew, w4, R18, K152, E152, i74, rM4, pk_mul, nI_add, ib7, tc7, w7, nI_1, Nat.mul_comm]
  | succ k ih =>
    intro i acc e
    have c : ¬ nI dc ≤ nI i := nI_ge (by omega) (by omega)
    have hi : i < dc := by omega
    obtain ⟨i30, i300, i31, i32, ia0, ia1, ia2, ic0, ic1, ic2⟩ := ix3 (i := i) (N := 18) (by omega) (by omega)
    have f1 := dM (3 * i) (by omega)
    have f9 := d99 (3 * i)
    have q : (nI (v 9 + j) < nI (d (3 * i))) = (v 9 + j < d (3 * i)) := nI_nlt' (by omega) (by omega)
    have op := open_m J (i := i) (by omega)
    have st : osm d v (v 9 + j) (k + 1) i = (if v 7 / 2 ^ i % 2 = 0 ∧ d (3 * i) ≤ v 9 + j then ow d i (v 9) else 0) + osm d v (v 9 + j) k (i + 1) := rfl
    rw [st, tX12_moon_26]
    rcases (show v 7 / 2 ^ i % 2 = 0 ∨ v 7 / 2 ^ i % 2 = 1 by omega) with p | p
    · rw [p] at op
      by_cases z : v 9 + j < d (3 * i)
      · obtain ⟨o3, a⟩ := ih (i + 1) acc (by omega)
        refine ⟨o3, ?_⟩
        rw [if_neg (show ¬ (v 7 / 2 ^ i % 2 = 0 ∧ d (3 * i) ≤ v 9 + j) by omega), Nat.zero_add, ← a]
        simp only [oB_some, dR_some, cond_true, cond_false, if_true, if_false, Bool.true_and, Bool.and_true, Nat.beq_refl, M147, dcM, c, op, ne10, R20, K154, E154, iaK20, i30, i300, i31, i32, ia0, ia1, ia2, ic0, ic1, ic2, f1, R32, K160, E160, ib7, tc7, Ew, w7, nI_add, q, z, nI_1]
      · obtain ⟨o3, a⟩ := ih (i + 1) (acc + ow d i (v 9)) (by omega)
        refine ⟨o3, ?_⟩
        rw [if_pos (show v 7 / 2 ^ i % 2 = 0 ∧ d (3 * i) ≤ v 9 + j by omega), ← Nat.add_assoc, ← a]
        simp only [oB_some, dR_some, cond_true, cond_false, if_true, if_false, Bool.true_and, Bool.and_true, Nat.beq_refl, M147, dcM, c, op, ne10, R20, K154, E154, iaK20, i30, i300, i31, i32, ia0, ia1, ia2, ic0, ic1, ic2, f1, R32, K160, E160, ib7, tc7, Ew, w7, nI_add, q, z, owes_nowM J hi, nI_1]
    · rw [p] at op
      obtain ⟨o3, a⟩ := ih (i + 1) acc (by omega)
      refine ⟨o3, ?_⟩
      rw [if_neg (show ¬ (v 7 / 2 ^ i % 2 = 0 ∧ d (3 * i) ≤ v 9 + j) by omega), Nat.zero_add, ← a]
      simp only [oB_some, dR_some, cond_true, cond_false, if_true, if_false, Bool.true_and, Bool.and_true, Nat.beq_refl, M147, dcM, c, op, show ¬ (1 = 0) by decide, nI_1]
theorem moon_loop {h : Hp} {s : Nat} {r d b : Nat → Nat} {dc bc : Nat} {lw : Option ((Nat → Int32) × Nat)} {v u w lg bk z : Nat → Nat} {A x : Nat} {g : Hp} (I : AINV h s r d b dc bc lw v u w lg bk z A x) (J : AINV g s r d b dc bc lw v u w lg bk z A x) : ∀ k j (o2 p2 p3 : Option EV), j + k = 61 → ∃ res, Run kX11_moon 11 [some (vR (some 0)), some (vI (nI j)), o2] [] h = some (rI res, h) ∧ Run kX12_moon 16 [some (vR (some 147)), some (vI (nI j)), p2, p3] [] g = some (rI res, g) := by
  obtain ⟨K0, R01, R02, R04, R05, K3, R30, Ks, Rs2, Rs3, Rs4, Ks1, Es1, Ks2, Es2, Ks3, Es3, K10, R108, K11, E11, K14, K98, td, dcC, bcC, Ev, Eu⟩ := cfa I
  have rC4 := I.2.1.2.2.1.2.2.2.2.1 4 (by decide)
  have i74 : inb 4 7 = true := by decide
  have v9 := J.2.2.1.2.1.2.2.2.2.2.2.2.1
  intro k
  induction k with
  | zero =>
    intro j o2 p2 p3 e
    have c : (60 : Int32) < nI j := nI_lt (a := 60) (by omega) (by omega)
    refine ⟨-1, ?_, ?_⟩
    · rw [tX11_moon_11]; simp only [c, if_true]
    · rw [tX12_moon_16]; simp only [c, if_true]
  | succ k ih =>
    intro j o2 p2 p3 e
    have c : ¬ (60 : Int32) < nI j := nI_nlt (a := 60) (by omega) (by omega)
    have ob := owed_c I (W := v 9 + j) (by omega) dc 0 0 (by omega)
    obtain ⟨o3, mo⟩ := moon_26 J (j := j) (by omega) dc 0 0 (by omega)
    rw [tX11_moon_11, tX12_moon_16]
    rw [show (0 : Int32) = nI 0 from rfl, mo]
    simp only [oB_some, dR_some, cond_true, cond_false, if_true, if_false, Bool.true_and, Bool.and_true, Nat.beq_refl, c, K0, R01, R02, K10, K3, R30, Ks, Rs2, Ks1, Es1, iaK20, i74, tc4, rC4, Ev, pk_mul, nI_add, tX10_owedBy]
    rw [show (0 : Int32) = nI 0 from rfl, ob]
    simp only [oB_some, dR_some, cond_true, cond_false, if_true, if_false, Bool.true_and, Bool.and_true, Nat.beq_refl, nI_1]
    by_cases z : nI (0 + osm d v (v 9 + j) dc 0) ≤ nI (v 4 + r 4 * j)
    · simp only [z, if_true]
      exact ih (j + 1) _ _ _ (by omega)
    · simp only [z, if_false, K0, R02, K10, Ev, dR_some, if_true, nI_add]
      exact ⟨_, rfl, rfl⟩
theorem moon_both {h : Hp} {s : Nat} {r d b : Nat → Nat} {dc bc : Nat} {lw : Option ((Nat → Int32) × Nat)} {v u w lg bk z : Nat → Nat} {A x : Nat} (I : AINV h s r d b dc bc lw v u w lg bk z A x) : QRY h (FX11_moon [vR (some 0)]) (FX12_moon [vR (some 147)]) := by
  obtain ⟨K0, R01, R02, R04, R05, K3, R30, Ks, Rs2, Rs3, Rs4, Ks1, Es1, Ks2, Es2, Ks3, Es3, K10, R108, K11, E11, K14, K98, td, dcC, bcC, Ev, Eu⟩ := cfa I
  have hm := hom I
  have J := ainv_t I
  obtain ⟨M147, R18, K152, E152, R20, K154, E154, R22, K156, E156, R32, K160, E160, dcM, bcM, Ew⟩ := mfa J
  have M0 := (mfa I).1
  have b5 : bc ≤ 5 := I.2.1.2.2.2.1.2.2.2.2.1.2
  have nz : ¬ nI bc = 0 := nI_nz I.2.1.2.2.2.2.1 (by omega)
  obtain ⟨res, e1, e2⟩ := moon_loop I J 61 0 none none none (by omega)
  refine QRY.id (res := res) ?_ ?_
  · rw [tX11_moon]; simp only [oB_some, dR_some, cond_true, cond_false, if_true, if_false, Bool.true_and, Bool.and_true, Nat.beq_refl, K0, hm]; exact e1
  · rw [tX12_moon]; simp only [oB_some, dR_some, cond_true, cond_false, if_true, if_false, Bool.true_and, Bool.and_true, Nat.beq_refl, M0, M147, bcM, nz]; exact e2
