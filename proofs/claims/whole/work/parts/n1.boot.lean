/-! ===== the constructor of the class ===== -/
set_option maxRecDepth 20000 in
theorem b9_1 {h0 : Hp} (B : h0.1 = (0, 0)) : FX9_init [vR (some 1)] (Zb h0 2) = some (rV, (Zb h0 4)) := by
  have n2 : nw (Zb h0 2) 20 (Int32.toNatClampNeg 240) (Int32.toNatClampNeg 240) = (Zb h0 3) := z_nw (by decide +kernel)
  have N2 : hN (Zb h0 2) = 2 := zNn B (by decide +kernel)
  have g240 : (decide ((240 : Int32) < 0) || decide (1000000 < (Int32.toNatClampNeg 240))) = false := by decide +kernel
  have K3_1 : hK (Zb h0 3) 1 = 9 := zK B (by decide +kernel)
  have r3 : sR (Zb h0 3) 1 0 (some 2) = (Zb h0 4) := z_sR (by decide +kernel)
  rw [tX9_init]
  simp only [oB_some, dR_some, cond_true, cond_false, if_true, if_false, Bool.true_and, Bool.and_true, Nat.beq_refl, n2, N2, g240, K3_1, r3]
set_option maxRecDepth 20000 in
theorem b0_4 {h0 : Hp} (B : h0.1 = (0, 0)) : FX0_init [vR (some 4)] (Zb h0 7) = some (rV, (Zb h0 13)) := by
  have n7 : nw (Zb h0 7) 20 (Int32.toNatClampNeg 7) (Int32.toNatClampNeg 7) = (Zb h0 8) := z_nw (by decide +kernel)
  have N7 : hN (Zb h0 7) = 5 := zNn B (by decide +kernel)
  have g7 : (decide ((7 : Int32) < 0) || decide (1000000 < (Int32.toNatClampNeg 7))) = false := by decide +kernel
  have K8_4 : hK (Zb h0 8) 4 = 0 := zK B (by decide +kernel)
  have r8 : sR (Zb h0 8) 4 2 (some 5) = (Zb h0 9) := z_sR (by decide +kernel)
  have n9 : nw (Zb h0 9) 20 (Int32.toNatClampNeg 18) (Int32.toNatClampNeg 18) = (Zb h0 10) := z_nw (by decide +kernel)
  have N9 : hN (Zb h0 9) = 6 := zNn B (by decide +kernel)
  have g18 : (decide ((18 : Int32) < 0) || decide (1000000 < (Int32.toNatClampNeg 18))) = false := by decide +kernel
  have K10_4 : hK (Zb h0 10) 4 = 0 := zK B (by decide +kernel)
  have r10 : sR (Zb h0 10) 4 3 (some 6) = (Zb h0 11) := z_sR (by decide +kernel)
  have n11 : nw (Zb h0 11) 20 (Int32.toNatClampNeg 15) (Int32.toNatClampNeg 15) = (Zb h0 12) := z_nw (by decide +kernel)
  have N11 : hN (Zb h0 11) = 7 := zNn B (by decide +kernel)
  have g15 : (decide ((15 : Int32) < 0) || decide (1000000 < (Int32.toNatClampNeg 15))) = false := by decide +kernel
  have K12_4 : hK (Zb h0 12) 4 = 0 := zK B (by decide +kernel)
  have r12 : sR (Zb h0 12) 4 4 (some 7) = (Zb h0 13) := z_sR (by decide +kernel)
  rw [tX0_init]
  simp only [oB_some, dR_some, cond_true, cond_false, if_true, if_false, Bool.true_and, Bool.and_true, Nat.beq_refl, n7, N7, g7, K8_4, r8, n9, N9, g18, K10_4, r10, n11, N11, g15, K12_4, r12]
set_option maxRecDepth 20000 in
theorem b10_3 {h0 : Hp} (B : h0.1 = (0, 0)) : FX10_init [vR (some 3)] (Zb h0 6) = some (rV, (Zb h0 18)) := by
  have n6 : nw (Zb h0 6) 0 0 (nF 0) = (Zb h0 7) := z_nw (by decide +kernel)
  have N6 : hN (Zb h0 6) = 4 := zNn B (by decide +kernel)
  have K7_4 : hK (Zb h0 7) 4 = 0 := zK B (by decide +kernel)
  have K13_3 : hK (Zb h0 13) 3 = 10 := zK B (by decide +kernel)
  have r13 : sR (Zb h0 13) 3 0 (some 4) = (Zb h0 14) := z_sR (by decide +kernel)
  have n14 : nw (Zb h0 14) 20 (Int32.toNatClampNeg 6) (Int32.toNatClampNeg 6) = (Zb h0 15) := z_nw (by decide +kernel)
  have N14 : hN (Zb h0 14) = 8 := zNn B (by decide +kernel)
  have g6 : (decide ((6 : Int32) < 0) || decide (1000000 < (Int32.toNatClampNeg 6))) = false := by decide +kernel
  have K15_3 : hK (Zb h0 15) 3 = 10 := zK B (by decide +kernel)
  have r15 : sR (Zb h0 15) 3 2 (some 8) = (Zb h0 16) := z_sR (by decide +kernel)
  have n16 : nw (Zb h0 16) 20 (Int32.toNatClampNeg 64) (Int32.toNatClampNeg 64) = (Zb h0 17) := z_nw (by decide +kernel)
  have N16 : hN (Zb h0 16) = 9 := zNn B (by decide +kernel)
  have g64 : (decide ((64 : Int32) < 0) || decide (1000000 < (Int32.toNatClampNeg 64))) = false := by decide +kernel
  have K17_3 : hK (Zb h0 17) 3 = 10 := zK B (by decide +kernel)
  have r17 : sR (Zb h0 17) 3 3 (some 9) = (Zb h0 18) := z_sR (by decide +kernel)
  rw [tX10_init]
  simp only [oB_some, dR_some, cond_true, cond_false, if_true, if_false, Bool.true_and, Bool.and_true, Nat.beq_refl, n6, N6, K7_4, b0_4 B, K13_3, r13, n14, N14, g6, K15_3, r15, n16, N16, g64, K17_3, r17]
set_option maxRecDepth 20000 in
theorem b4_10 {h0 : Hp} (B : h0.1 = (0, 0)) : FX4_init [vR (some 10)] (Zb h0 20) = some (rV, (Zb h0 22)) := by
  have n20 : nw (Zb h0 20) 20 (Int32.toNatClampNeg 5) (Int32.toNatClampNeg 5) = (Zb h0 21) := z_nw (by decide +kernel)
  have N20 : hN (Zb h0 20) = 11 := zNn B (by decide +kernel)
  have g5 : (decide ((5 : Int32) < 0) || decide (1000000 < (Int32.toNatClampNeg 5))) = false := by decide +kernel
  have K21_10 : hK (Zb h0 21) 10 = 4 := zK B (by decide +kernel)
  have r21 : sR (Zb h0 21) 10 8 (some 11) = (Zb h0 22) := z_sR (by decide +kernel)
  rw [tX4_init]
  simp only [oB_some, dR_some, cond_true, cond_false, if_true, if_false, Bool.true_and, Bool.and_true, Nat.beq_refl, n20, N20, g5, K21_10, r21]
set_option maxRecDepth 20000 in
theorem b4_12 {h0 : Hp} (B : h0.1 = (0, 0)) : FX4_init [vR (some 12)] (Zb h0 24) = some (rV, (Zb h0 26)) := by
  have n24 : nw (Zb h0 24) 20 (Int32.toNatClampNeg 5) (Int32.toNatClampNeg 5) = (Zb h0 25) := z_nw (by decide +kernel)
  have N24 : hN (Zb h0 24) = 13 := zNn B (by decide +kernel)
  have g5 : (decide ((5 : Int32) < 0) || decide (1000000 < (Int32.toNatClampNeg 5))) = false := by decide +kernel
  have K25_12 : hK (Zb h0 25) 12 = 4 := zK B (by decide +kernel)
  have r25 : sR (Zb h0 25) 12 8 (some 13) = (Zb h0 26) := z_sR (by decide +kernel)
  rw [tX4_init]
  simp only [oB_some, dR_some, cond_true, cond_false, if_true, if_false, Bool.true_and, Bool.and_true, Nat.beq_refl, n24, N24, g5, K25_12, r25]
theorem b5_q0_0 : ∀ q, q < 41 → lA[30 + 4 * q]? = some (0, 4, 0, nF 4) := by decide +kernel
theorem b5_q0_1 : ∀ q, q < 41 → lA[30 + 4 * q + 1]? = some (0, 20, 5, 5) := by decide +kernel
theorem b5_q0_2 : ∀ q, q < 41 → lA[30 + 4 * q + 2]? = some (1, 16 + 2 * q, 8, 17 + 2 * q) := by decide +kernel
theorem b5_q0_3 : ∀ q, q < 41 → lA[30 + 4 * q + 3]? = some (1, 15, q, 16 + 2 * q) := by decide +kernel
theorem b5_q0 : ∀ q, q < 41 → (lA[30 + 4 * q]? = some (0, 4, 0, nF 4) ∧ lA[30 + 4 * q + 1]? = some (0, 20, 5, 5) ∧ lA[30 + 4 * q + 2]? = some (1, 16 + 2 * q, 8, 17 + 2 * q) ∧ lA[30 + 4 * q + 3]? = some (1, 15, q, 16 + 2 * q)) := fun q hq => ⟨b5_q0_0 q hq, b5_q0_1 q hq, b5_q0_2 q hq, b5_q0_3 q hq⟩
theorem b5_q1 : ∀ q, q < 41 → hN (zz (30 + 4 * q)) = 16 + 2 * q := by decide +kernel
theorem b5_q2 : ∀ q, q < 41 → hN (zz (30 + 4 * q + 1)) = 17 + 2 * q := by decide +kernel
theorem b5_q3 : ∀ q, q < 41 → hN (zz (30 + 4 * q + 2)) = 18 + 2 * q := by decide +kernel
theorem b5_q4 : ∀ q, q < 41 → hN (zz (30 + 4 * q + 3)) = 18 + 2 * q := by decide +kernel
theorem b5_q5 : ∀ q, q < 41 → hK (zz (30 + 4 * q)) 14 = 5 := by decide +kernel
theorem b5_q6 : ∀ q, q < 41 → hR (zz (30 + 4 * q)) 14 0 = some 15 := by decide +kernel
theorem b5_q7 : ∀ q, q < 41 → hK (zz (30 + 4 * q + 1)) (16 + 2 * q) = 4 := by decide +kernel
theorem b5_q8 : ∀ q, q < 41 → hK (zz (30 + 4 * q + 2)) (16 + 2 * q) = 4 := by decide +kernel
theorem b5_q9 : ∀ q, q < 41 → hK (zz (30 + 4 * q + 3)) (16 + 2 * q) = 4 := by decide +kernel
theorem b5_q10 : ∀ q, q < 41 → hK (zz (30 + 4 * q + 3)) 15 = 34 := by decide +kernel
theorem b5_q11 : ∀ q, q < 41 → hE (zz (30 + 4 * q + 3)) 15 = 41 := by decide +kernel
theorem b5_q : ∀ q, q < 41 → (lA[30 + 4 * q]? = some (0, 4, 0, nF 4) ∧ lA[30 + 4 * q + 1]? = some (0, 20, 5, 5) ∧ lA[30 + 4 * q + 2]? = some (1, 16 + 2 * q, 8, 17 + 2 * q) ∧ lA[30 + 4 * q + 3]? = some (1, 15, q, 16 + 2 * q)) ∧ hN (zz (30 + 4 * q)) = 16 + 2 * q ∧ hN (zz (30 + 4 * q + 1)) = 17 + 2 * q ∧ hN (zz (30 + 4 * q + 2)) = 18 + 2 * q ∧ hN (zz (30 + 4 * q + 3)) = 18 + 2 * q ∧ hK (zz (30 + 4 * q)) 14 = 5 ∧ hR (zz (30 + 4 * q)) 14 0 = some 15 ∧ hK (zz (30 + 4 * q + 1)) (16 + 2 * q) = 4 ∧ hK (zz (30 + 4 * q + 2)) (16 + 2 * q) = 4 ∧ hK (zz (30 + 4 * q + 3)) (16 + 2 * q) = 4 ∧ hK (zz (30 + 4 * q + 3)) 15 = 34 ∧ hE (zz (30 + 4 * q + 3)) 15 = 41 := fun q hq => ⟨b5_q0 q hq, b5_q1 q hq, b5_q2 q hq, b5_q3 q hq, b5_q4 q hq, b5_q5 q hq, b5_q6 q hq, b5_q7 q hq, b5_q8 q hq, b5_q9 q hq, b5_q10 q hq, b5_q11 q hq⟩
theorem b5_loop {h0 : Hp} (B : h0.1 = (0, 0)) : ∀ n q, q + n = 41 → Run kX5_init 15 [some (vR (some 14)), some (vI (nI q))] [] (Zb h0 (30 + 4 * q)) = some (rV, Zb h0 194) := by
  intro n
  induction n with
  | zero =>
    intro q e
    have e' : q = 41 := by omega
    subst e'
    refine (tX5_init_15 _ _ _).trans ?_
    rw [if_pos (by decide)]
  | succ n ih =>
    intro q e
    obtain ⟨⟨c1, c2, c3, c4⟩, N0, N1, N2, N3, k1, r1, k2, k3, k4, k5, e5⟩ := b5_q q (by omega)
    have l : ¬ (41 : Int32) ≤ nI q := by rw [show (41 : Int32) = nI 41 from rfl, nI_nle' (by omega) (by omega)]; omega
    have n1 := z_nw (h0 := h0) c1
    have n2 := z_nw (h0 := h0) c2
    have n3 := z_sR (h0 := h0) c3
    have n4 := z_sR (h0 := h0) c4
    have M0 := zNn B N0
    have M1 := zNn B N1
    have K1 := zK B ⟨by omega, k1⟩
    have R1 := zR B ⟨by omega, r1⟩
    have K2 := zK B ⟨by omega, k2⟩
    have K3 := zK B ⟨by omega, k3⟩
    have K4 := zK B ⟨by omega, k4⟩
    have K5 := zK B ⟨by omega, k5⟩
    have E5 := zE B ⟨by omega, e5⟩
    have g5 : (decide ((5 : Int32) < 0) || decide (1000000 < 5)) = false := by decide
    have f4 : FX4_init [vR (some (16 + 2 * q))] (Zb h0 (30 + 4 * q + 1)) = some (rV, Zb h0 (30 + 4 * q + 3)) := by
      rw [tX4_init]
      simp only [oB_some, dR_some, cond_true, cond_false, if_true, if_false, Bool.true_and, Bool.and_true, Nat.beq_refl, show Int32.toNatClampNeg 5 = 5 from rfl, g5, n2, M1, K3, n3]
    have ib : inb (nI q) 41 = true := inb_nI (by omega) (by omega)
    have cl : (nI q).toNatClampNeg = q := nI_clamp (by omega)
    refine (tX5_init_15 _ _ _).trans ?_
    simp only [oB_some, dR_some, cond_true, cond_false, if_true, if_false, Bool.true_and, Bool.and_true, Nat.beq_refl, l, K1, n1, M0, K2, f4, R1, K5, E5, ib, K4, cl, n4, nI_1]
    exact ih (q + 1) (by omega)

set_option maxRecDepth 20000 in
theorem b5_14 {h0 : Hp} (B : h0.1 = (0, 0)) : FX5_init [vR (some 14)] (Zb h0 28) = some (rV, (Zb h0 194)) := by
  have n28 : nw (Zb h0 28) 34 (Int32.toNatClampNeg 41) (Int32.toNatClampNeg 41) = (Zb h0 29) := z_nw (by decide +kernel)
  have N28 : hN (Zb h0 28) = 15 := zNn B (by decide +kernel)
  have g41 : (decide ((41 : Int32) < 0) || decide (1000000 < (Int32.toNatClampNeg 41))) = false := by decide +kernel
  have K29_14 : hK (Zb h0 29) 14 = 5 := zK B (by decide +kernel)
  have r29 : sR (Zb h0 29) 14 0 (some 15) = (Zb h0 30) := z_sR (by decide +kernel)
  rw [tX5_init]
  simp only [oB_some, dR_some, cond_true, cond_false, if_true, if_false, Bool.true_and, Bool.and_true, Nat.beq_refl, n28, N28, g41, K29_14, r29]
  exact b5_loop B 41 0 rfl
set_option maxRecDepth 20000 in
theorem b3_98 {h0 : Hp} (B : h0.1 = (0, 0)) : FX3_init [vR (some 98)] (Zb h0 196) = some (rV, (Zb h0 200)) := by
  have n196 : nw (Zb h0 196) 20 (Int32.toNatClampNeg 300) (Int32.toNatClampNeg 300) = (Zb h0 197) := z_nw (by decide +kernel)
  have N196 : hN (Zb h0 196) = 99 := zNn B (by decide +kernel)
  have g300 : (decide ((300 : Int32) < 0) || decide (1000000 < (Int32.toNatClampNeg 300))) = false := by decide +kernel
  have K197_98 : hK (Zb h0 197) 98 = 3 := zK B (by decide +kernel)
  have r197 : sR (Zb h0 197) 98 0 (some 99) = (Zb h0 198) := z_sR (by decide +kernel)
  have n198 : nw (Zb h0 198) 20 (Int32.toNatClampNeg 180) (Int32.toNatClampNeg 180) = (Zb h0 199) := z_nw (by decide +kernel)
  have N198 : hN (Zb h0 198) = 100 := zNn B (by decide +kernel)
  have g180 : (decide ((180 : Int32) < 0) || decide (1000000 < (Int32.toNatClampNeg 180))) = false := by decide +kernel
  have K199_98 : hK (Zb h0 199) 98 = 3 := zK B (by decide +kernel)
  have r199 : sR (Zb h0 199) 98 1 (some 100) = (Zb h0 200) := z_sR (by decide +kernel)
  rw [tX3_init]
  simp only [oB_some, dR_some, cond_true, cond_false, if_true, if_false, Bool.true_and, Bool.and_true, Nat.beq_refl, n196, N196, g300, K197_98, r197, n198, N198, g180, K199_98, r199]
set_option maxRecDepth 20000 in
theorem b7_101 {h0 : Hp} (B : h0.1 = (0, 0)) : FX7_init [vR (some 101)] (Zb h0 202) = some (rV, (Zb h0 206)) := by
  have K202_101 : hK (Zb h0 202) 101 = 7 := zK B (by decide +kernel)
  have l202 : sL (Zb h0 202) 101 1 (1) = (Zb h0 203) := z_sL (v := 1) (by decide +kernel) (by decide +kernel)
  have K203_101 : hK (Zb h0 203) 101 = 7 := zK B (by decide +kernel)
  have l203 : sL (Zb h0 203) 101 2 (1) = (Zb h0 204) := z_sL (v := 1) (by decide +kernel) (by decide +kernel)
  have n204 : nw (Zb h0 204) 20 (Int32.toNatClampNeg 30) (Int32.toNatClampNeg 30) = (Zb h0 205) := z_nw (by decide +kernel)
  have N204 : hN (Zb h0 204) = 102 := zNn B (by decide +kernel)
  have g30 : (decide ((30 : Int32) < 0) || decide (1000000 < (Int32.toNatClampNeg 30))) = false := by decide +kernel
  have K205_101 : hK (Zb h0 205) 101 = 7 := zK B (by decide +kernel)
  have r205 : sR (Zb h0 205) 101 4 (some 102) = (Zb h0 206) := z_sR (by decide +kernel)
  rw [tX7_init]
  simp only [oB_some, dR_some, cond_true, cond_false, if_true, if_false, Bool.true_and, Bool.and_true, Nat.beq_refl, K202_101, l202, K203_101, l203, n204, N204, g30, K205_101, r205]
theorem b8_q0_0 : ∀ q, q < 9 → lA[217 + 4 * q]? = some (0, 4, 0, nF 4) := by decide +kernel
theorem b8_q0_1 : ∀ q, q < 9 → lA[217 + 4 * q + 1]? = some (0, 20, 5, 5) := by decide +kernel
theorem b8_q0_2 : ∀ q, q < 9 → lA[217 + 4 * q + 2]? = some (1, 108 + 2 * q, 8, 109 + 2 * q) := by decide +kernel
theorem b8_q0_3 : ∀ q, q < 9 → lA[217 + 4 * q + 3]? = some (1, 104, q, 108 + 2 * q) := by decide +kernel
theorem b8_q0 : ∀ q, q < 9 → (lA[217 + 4 * q]? = some (0, 4, 0, nF 4) ∧ lA[217 + 4 * q + 1]? = some (0, 20, 5, 5) ∧ lA[217 + 4 * q + 2]? = some (1, 108 + 2 * q, 8, 109 + 2 * q) ∧ lA[217 + 4 * q + 3]? = some (1, 104, q, 108 + 2 * q)) := fun q hq => ⟨b8_q0_0 q hq, b8_q0_1 q hq, b8_q0_2 q hq, b8_q0_3 q hq⟩
theorem b8_q1 : ∀ q, q < 9 → hN (zz (217 + 4 * q)) = 108 + 2 * q := by decide +kernel
theorem b8_q2 : ∀ q, q < 9 → hN (zz (217 + 4 * q + 1)) = 109 + 2 * q := by decide +kernel
theorem b8_q3 : ∀ q, q < 9 → hN (zz (217 + 4 * q + 2)) = 110 + 2 * q := by decide +kernel
theorem b8_q4 : ∀ q, q < 9 → hN (zz (217 + 4 * q + 3)) = 110 + 2 * q := by decide +kernel
theorem b8_q5 : ∀ q, q < 9 → hK (zz (217 + 4 * q)) 103 = 8 := by decide +kernel
theorem b8_q6 : ∀ q, q < 9 → hR (zz (217 + 4 * q)) 103 1 = some 104 := by decide +kernel
theorem b8_q7 : ∀ q, q < 9 → hK (zz (217 + 4 * q + 1)) (108 + 2 * q) = 4 := by decide +kernel
theorem b8_q8 : ∀ q, q < 9 → hK (zz (217 + 4 * q + 2)) (108 + 2 * q) = 4 := by decide +kernel
theorem b8_q9 : ∀ q, q < 9 → hK (zz (217 + 4 * q + 3)) (108 + 2 * q) = 4 := by decide +kernel
theorem b8_q10 : ∀ q, q < 9 → hK (zz (217 + 4 * q + 3)) 104 = 34 := by decide +kernel
theorem b8_q11 : ∀ q, q < 9 → hE (zz (217 + 4 * q + 3)) 104 = 9 := by decide +kernel
theorem b8_q12 : ∀ q, q < 9 → hK (zz (217 + 4 * q)) 104 = 34 := by decide +kernel
theorem b8_q13 : ∀ q, q < 9 → hE (zz (217 + 4 * q)) 104 = 9 := by decide +kernel
theorem b8_q : ∀ q, q < 9 → (lA[217 + 4 * q]? = some (0, 4, 0, nF 4) ∧ lA[217 + 4 * q + 1]? = some (0, 20, 5, 5) ∧ lA[217 + 4 * q + 2]? = some (1, 108 + 2 * q, 8, 109 + 2 * q) ∧ lA[217 + 4 * q + 3]? = some (1, 104, q, 108 + 2 * q)) ∧ hN (zz (217 + 4 * q)) = 108 + 2 * q ∧ hN (zz (217 + 4 * q + 1)) = 109 + 2 * q ∧ hN (zz (217 + 4 * q + 2)) = 110 + 2 * q ∧ hN (zz (217 + 4 * q + 3)) = 110 + 2 * q ∧ hK (zz (217 + 4 * q)) 103 = 8 ∧ hR (zz (217 + 4 * q)) 103 1 = some 104 ∧ hK (zz (217 + 4 * q + 1)) (108 + 2 * q) = 4 ∧ hK (zz (217 + 4 * q + 2)) (108 + 2 * q) = 4 ∧ hK (zz (217 + 4 * q + 3)) (108 + 2 * q) = 4 ∧ hK (zz (217 + 4 * q + 3)) 104 = 34 ∧ hE (zz (217 + 4 * q + 3)) 104 = 9 ∧ hK (zz (217 + 4 * q)) 104 = 34 ∧ hE (zz (217 + 4 * q)) 104 = 9 := fun q hq => ⟨b8_q0 q hq, b8_q1 q hq, b8_q2 q hq, b8_q3 q hq, b8_q4 q hq, b8_q5 q hq, b8_q6 q hq, b8_q7 q hq, b8_q8 q hq, b8_q9 q hq, b8_q10 q hq, b8_q11 q hq, b8_q12 q hq, b8_q13 q hq⟩
theorem b8_loop {h0 : Hp} (B : h0.1 = (0, 0)) : ∀ n q (o : Option EV), q + n = 9 → Run kX8_init 47 [some (vR (some 103)), o, some (vI (nI q))] [] (Zb h0 (217 + 4 * q)) = some (rV, Zb h0 253) := by
  intro n
  induction n with
  | zero =>
    intro q o e
    have e' : q = 9 := by omega
    subst e'
    have K1 : hK (Zb h0 (217 + 4 * 9)) 103 = 8 := zK B (by decide +kernel)
    have R1 : hR (Zb h0 (217 + 4 * 9)) 103 1 = some 104 := zR B (by decide +kernel)
    have K2 : hK (Zb h0 (217 + 4 * 9)) 104 = 34 := zK B (by decide +kernel)
    have E2 : hE (Zb h0 (217 + 4 * 9)) 104 = 9 := zE B (by decide +kernel)
    refine (tX8_init_47 _ _ _ _).trans ?_
    simp only [oB_some, dR_some, cond_true, cond_false, if_true, if_false, Bool.true_and, Bool.and_true, Nat.beq_refl, K1, R1, K2, E2, show alK 34 = true from rfl, show (Int32.ofNat 9 ≤ nI 9) = True from eq_true (by decide)]
  | succ n ih =>
    intro q o e
    obtain ⟨⟨c1, c2, c3, c4⟩, N0, N1, N2, N3, k1, r1, k2, k3, k4, k5, e5, k6, e6⟩ := b8_q q (by omega)
    have l : ¬ Int32.ofNat 9 ≤ nI q := by rw [show Int32.ofNat 9 = nI 9 from rfl, nI_nle' (by omega) (by omega)]; omega
    have n1 := z_nw (h0 := h0) c1
    have n2 := z_nw (h0 := h0) c2
    have n3 := z_sR (h0 := h0) c3
    have n4 := z_sR (h0 := h0) c4
    have M0 := zNn B N0
    have M1 := zNn B N1
    have K1 := zK B ⟨by omega, k1⟩
    have R1 := zR B ⟨by omega, r1⟩
    have K2 := zK B ⟨by omega, k2⟩
    have K3 := zK B ⟨by omega, k3⟩
    have K4 := zK B ⟨by omega, k4⟩
    have K5 := zK B ⟨by omega, k5⟩
    have E5 := zE B ⟨by omega, e5⟩
    have K6 := zK B ⟨by omega, k6⟩
    have E6 := zE B ⟨by omega, e6⟩
    have g5 : (decide ((5 : Int32) < 0) || decide (1000000 < 5)) = false := by decide
    have f4 : FX4_init [vR (some (108 + 2 * q))] (Zb h0 (217 + 4 * q + 1)) = some (rV, Zb h0 (217 + 4 * q + 3)) := by
      rw [tX4_init]
      simp only [oB_some, dR_some, cond_true, cond_false, if_true, if_false, Bool.true_and, Bool.and_true, Nat.beq_refl, show Int32.toNatClampNeg 5 = 5 from rfl, g5, n2, M1, K3, n3]
    have ib : inb (nI q) 9 = true := inb_nI (by omega) (by omega)
    have cl : (nI q).toNatClampNeg = q := nI_clamp (by omega)
    refine (tX8_init_47 _ _ _ _).trans ?_
    simp only [oB_some, dR_some, cond_true, cond_false, if_true, if_false, Bool.true_and, Bool.and_true, Nat.beq_refl, l, K1, R1, K6, E6, show alK 34 = true from rfl, n1, M0, K2, f4, K5, E5, ib, K4, cl, n4, nI_1]
    exact ih (q + 1) none (by omega)

set_option maxRecDepth 20000 in
theorem b8_103 {h0 : Hp} (B : h0.1 = (0, 0)) : FX8_init [vR (some 103), vR (some 3)] (Zb h0 208) = some (rV, (Zb h0 253)) := by
  have n208 : nw (Zb h0 208) 34 (Int32.toNatClampNeg 9) (Int32.toNatClampNeg 9) = (Zb h0 209) := z_nw (by decide +kernel)
  have N208 : hN (Zb h0 208) = 104 := zNn B (by decide +kernel)
  have g9 : (decide ((9 : Int32) < 0) || decide (1000000 < (Int32.toNatClampNeg 9))) = false := by decide +kernel
  have K209_103 : hK (Zb h0 209) 103 = 8 := zK B (by decide +kernel)
  have r209 : sR (Zb h0 209) 103 1 (some 104) = (Zb h0 210) := z_sR (by decide +kernel)
  have n210 : nw (Zb h0 210) 23 (Int32.toNatClampNeg 189) (Int32.toNatClampNeg 189) = (Zb h0 211) := z_nw (by decide +kernel)
  have N210 : hN (Zb h0 210) = 105 := zNn B (by decide +kernel)
  have g189 : (decide ((189 : Int32) < 0) || decide (1000000 < (Int32.toNatClampNeg 189))) = false := by decide +kernel
  have K211_103 : hK (Zb h0 211) 103 = 8 := zK B (by decide +kernel)
  have r211 : sR (Zb h0 211) 103 6 (some 105) = (Zb h0 212) := z_sR (by decide +kernel)
  have n212 : nw (Zb h0 212) 23 (Int32.toNatClampNeg 189) (Int32.toNatClampNeg 189) = (Zb h0 213) := z_nw (by decide +kernel)
  have N212 : hN (Zb h0 212) = 106 := zNn B (by decide +kernel)
  have K213_103 : hK (Zb h0 213) 103 = 8 := zK B (by decide +kernel)
  have r213 : sR (Zb h0 213) 103 7 (some 106) = (Zb h0 214) := z_sR (by decide +kernel)
  have n214 : nw (Zb h0 214) 20 (Int32.toNatClampNeg 2116) (Int32.toNatClampNeg 2116) = (Zb h0 215) := z_nw (by decide +kernel)
  have N214 : hN (Zb h0 214) = 107 := zNn B (by decide +kernel)
  have g2116 : (decide ((2116 : Int32) < 0) || decide (1000000 < (Int32.toNatClampNeg 2116))) = false := by decide +kernel
  have K215_103 : hK (Zb h0 215) 103 = 8 := zK B (by decide +kernel)
  have r215 : sR (Zb h0 215) 103 8 (some 107) = (Zb h0 216) := z_sR (by decide +kernel)
  have K216_103 : hK (Zb h0 216) 103 = 8 := zK B (by decide +kernel)
  have r216 : sR (Zb h0 216) 103 0 (some 3) = (Zb h0 217) := z_sR (by decide +kernel)
  rw [tX8_init]
  simp only [oB_some, dR_some, cond_true, cond_false, if_true, if_false, Bool.true_and, Bool.and_true, Nat.beq_refl, n208, N208, g9, K209_103, r209, n210, N210, g189, K211_103, r211, n212, N212, K213_103, r213, n214, N214, g2116, K215_103, r215, K216_103, r216]
  exact b8_loop B 9 0 _ rfl
set_option maxRecDepth 20000 in
theorem b4_126 {h0 : Hp} (B : h0.1 = (0, 0)) : FX4_init [vR (some 126)] (Zb h0 255) = some (rV, (Zb h0 257)) := by
  have n255 : nw (Zb h0 255) 20 (Int32.toNatClampNeg 5) (Int32.toNatClampNeg 5) = (Zb h0 256) := z_nw (by decide +kernel)
  have N255 : hN (Zb h0 255) = 127 := zNn B (by decide +kernel)
  have g5 : (decide ((5 : Int32) < 0) || decide (1000000 < (Int32.toNatClampNeg 5))) = false := by decide +kernel
  have K256_126 : hK (Zb h0 256) 126 = 4 := zK B (by decide +kernel)
  have r256 : sR (Zb h0 256) 126 8 (some 127) = (Zb h0 257) := z_sR (by decide +kernel)
  rw [tX4_init]
  simp only [oB_some, dR_some, cond_true, cond_false, if_true, if_false, Bool.true_and, Bool.and_true, Nat.beq_refl, n255, N255, g5, K256_126, r256]
set_option maxRecDepth 20000 in
theorem b3_128 {h0 : Hp} (B : h0.1 = (0, 0)) : FX3_init [vR (some 128)] (Zb h0 259) = some (rV, (Zb h0 263)) := by
  have n259 : nw (Zb h0 259) 20 (Int32.toNatClampNeg 300) (Int32.toNatClampNeg 300) = (Zb h0 260) := z_nw (by decide +kernel)
  have N259 : hN (Zb h0 259) = 129 := zNn B (by decide +kernel)
  have g300 : (decide ((300 : Int32) < 0) || decide (1000000 < (Int32.toNatClampNeg 300))) = false := by decide +kernel
  have K260_128 : hK (Zb h0 260) 128 = 3 := zK B (by decide +kernel)
  have r260 : sR (Zb h0 260) 128 0 (some 129) = (Zb h0 261) := z_sR (by decide +kernel)
  have n261 : nw (Zb h0 261) 20 (Int32.toNatClampNeg 180) (Int32.toNatClampNeg 180) = (Zb h0 262) := z_nw (by decide +kernel)
  have N261 : hN (Zb h0 261) = 130 := zNn B (by decide +kernel)
  have g180 : (decide ((180 : Int32) < 0) || decide (1000000 < (Int32.toNatClampNeg 180))) = false := by decide +kernel
  have K262_128 : hK (Zb h0 262) 128 = 3 := zK B (by decide +kernel)
  have r262 : sR (Zb h0 262) 128 1 (some 130) = (Zb h0 263) := z_sR (by decide +kernel)
  rw [tX3_init]
  simp only [oB_some, dR_some, cond_true, cond_false, if_true, if_false, Bool.true_and, Bool.and_true, Nat.beq_refl, n259, N259, g300, K260_128, r260, n261, N261, g180, K262_128, r262]
set_option maxRecDepth 20000 in
theorem b0_131 {h0 : Hp} (B : h0.1 = (0, 0)) : FX0_init [vR (some 131)] (Zb h0 265) = some (rV, (Zb h0 271)) := by
  have n265 : nw (Zb h0 265) 20 (Int32.toNatClampNeg 7) (Int32.toNatClampNeg 7) = (Zb h0 266) := z_nw (by decide +kernel)
  have N265 : hN (Zb h0 265) = 132 := zNn B (by decide +kernel)
  have g7 : (decide ((7 : Int32) < 0) || decide (1000000 < (Int32.toNatClampNeg 7))) = false := by decide +kernel
  have K266_131 : hK (Zb h0 266) 131 = 0 := zK B (by decide +kernel)
  have r266 : sR (Zb h0 266) 131 2 (some 132) = (Zb h0 267) := z_sR (by decide +kernel)
  have n267 : nw (Zb h0 267) 20 (Int32.toNatClampNeg 18) (Int32.toNatClampNeg 18) = (Zb h0 268) := z_nw (by decide +kernel)
  have N267 : hN (Zb h0 267) = 133 := zNn B (by decide +kernel)
  have g18 : (decide ((18 : Int32) < 0) || decide (1000000 < (Int32.toNatClampNeg 18))) = false := by decide +kernel
  have K268_131 : hK (Zb h0 268) 131 = 0 := zK B (by decide +kernel)
  have r268 : sR (Zb h0 268) 131 3 (some 133) = (Zb h0 269) := z_sR (by decide +kernel)
  have n269 : nw (Zb h0 269) 20 (Int32.toNatClampNeg 15) (Int32.toNatClampNeg 15) = (Zb h0 270) := z_nw (by decide +kernel)
  have N269 : hN (Zb h0 269) = 134 := zNn B (by decide +kernel)
  have g15 : (decide ((15 : Int32) < 0) || decide (1000000 < (Int32.toNatClampNeg 15))) = false := by decide +kernel
  have K270_131 : hK (Zb h0 270) 131 = 0 := zK B (by decide +kernel)
  have r270 : sR (Zb h0 270) 131 4 (some 134) = (Zb h0 271) := z_sR (by decide +kernel)
  rw [tX0_init]
  simp only [oB_some, dR_some, cond_true, cond_false, if_true, if_false, Bool.true_and, Bool.and_true, Nat.beq_refl, n265, N265, g7, K266_131, r266, n267, N267, g18, K268_131, r268, n269, N269, g15, K270_131, r270]
set_option maxRecDepth 20000 in
theorem b2_135 {h0 : Hp} (B : h0.1 = (0, 0)) : FX2_init [vR (some 135), vR (some 1)] (Zb h0 273) = some (rV, (Zb h0 276)) := by
  have n273 : nw (Zb h0 273) 20 (Int32.toNatClampNeg 240) (Int32.toNatClampNeg 240) = (Zb h0 274) := z_nw (by decide +kernel)
  have N273 : hN (Zb h0 273) = 136 := zNn B (by decide +kernel)
  have g240 : (decide ((240 : Int32) < 0) || decide (1000000 < (Int32.toNatClampNeg 240))) = false := by decide +kernel
  have K274_135 : hK (Zb h0 274) 135 = 2 := zK B (by decide +kernel)
  have r274 : sR (Zb h0 274) 135 1 (some 136) = (Zb h0 275) := z_sR (by decide +kernel)
  have K275_135 : hK (Zb h0 275) 135 = 2 := zK B (by decide +kernel)
  have r275 : sR (Zb h0 275) 135 0 (some 1) = (Zb h0 276) := z_sR (by decide +kernel)
  rw [tX2_init]
  simp only [oB_some, dR_some, cond_true, cond_false, if_true, if_false, Bool.true_and, Bool.and_true, Nat.beq_refl, n273, N273, g240, K274_135, r274, K275_135, r275]
theorem b6_q0_0 : ∀ q, q < 4 → lA[283 + 4 * q]? = some (0, 6, 0, nF 6) := by decide +kernel
theorem b6_q0_1 : ∀ q, q < 4 → lA[283 + 4 * q + 1]? = some (0, 20, 48, 48) := by decide +kernel
theorem b6_q0_2 : ∀ q, q < 4 → lA[283 + 4 * q + 2]? = some (1, 139 + 2 * q, 0, 140 + 2 * q) := by decide +kernel
theorem b6_q0_3 : ∀ q, q < 4 → lA[283 + 4 * q + 3]? = some (1, 138, q, 139 + 2 * q) := by decide +kernel
theorem b6_q0 : ∀ q, q < 4 → (lA[283 + 4 * q]? = some (0, 6, 0, nF 6) ∧ lA[283 + 4 * q + 1]? = some (0, 20, 48, 48) ∧ lA[283 + 4 * q + 2]? = some (1, 139 + 2 * q, 0, 140 + 2 * q) ∧ lA[283 + 4 * q + 3]? = some (1, 138, q, 139 + 2 * q)) := fun q hq => ⟨b6_q0_0 q hq, b6_q0_1 q hq, b6_q0_2 q hq, b6_q0_3 q hq⟩
theorem b6_q1 : ∀ q, q < 4 → hN (zz (283 + 4 * q)) = 139 + 2 * q := by decide +kernel
theorem b6_q2 : ∀ q, q < 4 → hN (zz (283 + 4 * q + 1)) = 140 + 2 * q := by decide +kernel
theorem b6_q3 : ∀ q, q < 4 → hN (zz (283 + 4 * q + 2)) = 141 + 2 * q := by decide +kernel
theorem b6_q4 : ∀ q, q < 4 → hN (zz (283 + 4 * q + 3)) = 141 + 2 * q := by decide +kernel
theorem b6_q5 : ∀ q, q < 4 → hK (zz (283 + 4 * q)) 0 = 11 := by decide +kernel
theorem b6_q6 : ∀ q, q < 4 → hR (zz (283 + 4 * q)) 0 16 = some 138 := by decide +kernel
theorem b6_q7 : ∀ q, q < 4 → hK (zz (283 + 4 * q + 1)) (139 + 2 * q) = 6 := by decide +kernel
theorem b6_q8 : ∀ q, q < 4 → hK (zz (283 + 4 * q + 2)) (139 + 2 * q) = 6 := by decide +kernel
theorem b6_q9 : ∀ q, q < 4 → hK (zz (283 + 4 * q + 3)) (139 + 2 * q) = 6 := by decide +kernel
theorem b6_q10 : ∀ q, q < 4 → hK (zz (283 + 4 * q + 3)) 138 = 36 := by decide +kernel
theorem b6_q11 : ∀ q, q < 4 → hE (zz (283 + 4 * q + 3)) 138 = 4 := by decide +kernel
theorem b6_q12 : ∀ q, q < 4 → hK (zz (283 + 4 * q)) 138 = 36 := by decide +kernel
theorem b6_q13 : ∀ q, q < 4 → hE (zz (283 + 4 * q)) 138 = 4 := by decide +kernel
theorem b6_q : ∀ q, q < 4 → (lA[283 + 4 * q]? = some (0, 6, 0, nF 6) ∧ lA[283 + 4 * q + 1]? = some (0, 20, 48, 48) ∧ lA[283 + 4 * q + 2]? = some (1, 139 + 2 * q, 0, 140 + 2 * q) ∧ lA[283 + 4 * q + 3]? = some (1, 138, q, 139 + 2 * q)) ∧ hN (zz (283 + 4 * q)) = 139 + 2 * q ∧ hN (zz (283 + 4 * q + 1)) = 140 + 2 * q ∧ hN (zz (283 + 4 * q + 2)) = 141 + 2 * q ∧ hN (zz (283 + 4 * q + 3)) = 141 + 2 * q ∧ hK (zz (283 + 4 * q)) 0 = 11 ∧ hR (zz (283 + 4 * q)) 0 16 = some 138 ∧ hK (zz (283 + 4 * q + 1)) (139 + 2 * q) = 6 ∧ hK (zz (283 + 4 * q + 2)) (139 + 2 * q) = 6 ∧ hK (zz (283 + 4 * q + 3)) (139 + 2 * q) = 6 ∧ hK (zz (283 + 4 * q + 3)) 138 = 36 ∧ hE (zz (283 + 4 * q + 3)) 138 = 4 ∧ hK (zz (283 + 4 * q)) 138 = 36 ∧ hE (zz (283 + 4 * q)) 138 = 4 := fun q hq => ⟨b6_q0 q hq, b6_q1 q hq, b6_q2 q hq, b6_q3 q hq, b6_q4 q hq, b6_q5 q hq, b6_q6 q hq, b6_q7 q hq, b6_q8 q hq, b6_q9 q hq, b6_q10 q hq, b6_q11 q hq, b6_q12 q hq, b6_q13 q hq⟩
theorem b6_loop {h0 : Hp} (B : h0.1 = (0, 0)) : ∀ n q, q + n = 4 → Run kX11_init 172 [some (vR (some 0)), some (vI (nI q))] [] (Zb h0 (283 + 4 * q)) = some (rV, Zb h0 299) := by
  intro n
  induction n with
  | zero =>
    intro q e
    have e' : q = 4 := by omega
    subst e'
    have K1 : hK (Zb h0 (283 + 4 * 4)) 0 = 11 := zK B (by decide +kernel)
    have R1 : hR (Zb h0 (283 + 4 * 4)) 0 16 = some 138 := zR B (by decide +kernel)
    have K2 : hK (Zb h0 (283 + 4 * 4)) 138 = 36 := zK B (by decide +kernel)
    have E2 : hE (Zb h0 (283 + 4 * 4)) 138 = 4 := zE B (by decide +kernel)
    refine (tX11_init_172 _ _ _).trans ?_
    simp only [oB_some, dR_some, cond_true, cond_false, if_true, if_false, Bool.true_and, Bool.and_true, Nat.beq_refl, K1, R1, K2, E2, show alK 36 = true from rfl, show (Int32.ofNat 4 ≤ nI 4) = True from eq_true (by decide)]
  | succ n ih =>
    intro q e
    obtain ⟨⟨c1, c2, c3, c4⟩, N0, N1, N2, N3, k1, r1, k2, k3, k4, k5, e5, k6, e6⟩ := b6_q q (by omega)
    have l : ¬ Int32.ofNat 4 ≤ nI q := by rw [show Int32.ofNat 4 = nI 4 from rfl, nI_nle' (by omega) (by omega)]; omega
    have n1 := z_nw (h0 := h0) c1
    have n2 := z_nw (h0 := h0) c2
    have n3 := z_sR (h0 := h0) c3
    have n4 := z_sR (h0 := h0) c4
    have M0 := zNn B N0
    have M1 := zNn B N1
    have K1 := zK B ⟨by omega, k1⟩
    have R1 := zR B ⟨by omega, r1⟩
    have K2 := zK B ⟨by omega, k2⟩
    have K3 := zK B ⟨by omega, k3⟩
    have K4 := zK B ⟨by omega, k4⟩
    have K5 := zK B ⟨by omega, k5⟩
    have E5 := zE B ⟨by omega, e5⟩
    have K6 := zK B ⟨by omega, k6⟩
    have E6 := zE B ⟨by omega, e6⟩
    have g5 : (decide ((48 : Int32) < 0) || decide (1000000 < 48)) = false := by decide
    have f4 : FX6_init [vR (some (139 + 2 * q))] (Zb h0 (283 + 4 * q + 1)) = some (rV, Zb h0 (283 + 4 * q + 3)) := by
      rw [tX6_init]
      simp only [oB_some, dR_some, cond_true, cond_false, if_true, if_false, Bool.true_and, Bool.and_true, Nat.beq_refl, show Int32.toNatClampNeg 48 = 48 from rfl, g5, n2, M1, K3, n3]
    have ib : inb (nI q) 4 = true := inb_nI (by omega) (by omega)
    have cl : (nI q).toNatClampNeg = q := nI_clamp (by omega)
    refine (tX11_init_172 _ _ _).trans ?_
    simp only [oB_some, dR_some, cond_true, cond_false, if_true, if_false, Bool.true_and, Bool.and_true, Nat.beq_refl, l, K1, R1, K6, E6, show alK 36 = true from rfl, n1, M0, K2, f4, K5, E5, ib, K4, cl, n4, nI_1]
    exact ih (q + 1) (by omega)

set_option maxRecDepth 20000 in
theorem b11_0 {h0 : Hp} (B : h0.1 = (0, 0)) : FX11_init [vR (some 0)] (Zb h0 1) = some (rV, (Zb h0 299)) := by
  have n1 : nw (Zb h0 1) 9 0 (nF 9) = (Zb h0 2) := z_nw (by decide +kernel)
  have N1 : hN (Zb h0 1) = 1 := zNn B (by decide +kernel)
  have K2_1 : hK (Zb h0 2) 1 = 9 := zK B (by decide +kernel)
  have K4_0 : hK (Zb h0 4) 0 = 11 := zK B (by decide +kernel)
  have r4 : sR (Zb h0 4) 0 0 (some 1) = (Zb h0 5) := z_sR (by decide +kernel)
  have n5 : nw (Zb h0 5) 10 0 (nF 10) = (Zb h0 6) := z_nw (by decide +kernel)
  have N5 : hN (Zb h0 5) = 3 := zNn B (by decide +kernel)
  have K6_3 : hK (Zb h0 6) 3 = 10 := zK B (by decide +kernel)
  have K18_0 : hK (Zb h0 18) 0 = 11 := zK B (by decide +kernel)
  have r18 : sR (Zb h0 18) 0 1 (some 3) = (Zb h0 19) := z_sR (by decide +kernel)
  have n19 : nw (Zb h0 19) 4 0 (nF 4) = (Zb h0 20) := z_nw (by decide +kernel)
  have N19 : hN (Zb h0 19) = 10 := zNn B (by decide +kernel)
  have K20_10 : hK (Zb h0 20) 10 = 4 := zK B (by decide +kernel)
  have K22_0 : hK (Zb h0 22) 0 = 11 := zK B (by decide +kernel)
  have r22 : sR (Zb h0 22) 0 2 (some 10) = (Zb h0 23) := z_sR (by decide +kernel)
  have n23 : nw (Zb h0 23) 4 0 (nF 4) = (Zb h0 24) := z_nw (by decide +kernel)
  have N23 : hN (Zb h0 23) = 12 := zNn B (by decide +kernel)
  have K24_12 : hK (Zb h0 24) 12 = 4 := zK B (by decide +kernel)
  have K26_0 : hK (Zb h0 26) 0 = 11 := zK B (by decide +kernel)
  have r26 : sR (Zb h0 26) 0 3 (some 12) = (Zb h0 27) := z_sR (by decide +kernel)
  have n27 : nw (Zb h0 27) 5 0 (nF 5) = (Zb h0 28) := z_nw (by decide +kernel)
  have N27 : hN (Zb h0 27) = 14 := zNn B (by decide +kernel)
  have K28_14 : hK (Zb h0 28) 14 = 5 := zK B (by decide +kernel)
  have K194_0 : hK (Zb h0 194) 0 = 11 := zK B (by decide +kernel)
  have r194 : sR (Zb h0 194) 0 4 (some 14) = (Zb h0 195) := z_sR (by decide +kernel)
  have n195 : nw (Zb h0 195) 3 0 (nF 3) = (Zb h0 196) := z_nw (by decide +kernel)
  have N195 : hN (Zb h0 195) = 98 := zNn B (by decide +kernel)
  have K196_98 : hK (Zb h0 196) 98 = 3 := zK B (by decide +kernel)
  have K200_0 : hK (Zb h0 200) 0 = 11 := zK B (by decide +kernel)
  have r200 : sR (Zb h0 200) 0 5 (some 98) = (Zb h0 201) := z_sR (by decide +kernel)
  have n201 : nw (Zb h0 201) 7 0 (nF 7) = (Zb h0 202) := z_nw (by decide +kernel)
  have N201 : hN (Zb h0 201) = 101 := zNn B (by decide +kernel)
  have K202_101 : hK (Zb h0 202) 101 = 7 := zK B (by decide +kernel)
  have K206_0 : hK (Zb h0 206) 0 = 11 := zK B (by decide +kernel)
  have r206 : sR (Zb h0 206) 0 6 (some 101) = (Zb h0 207) := z_sR (by decide +kernel)
  have n207 : nw (Zb h0 207) 8 0 (nF 8) = (Zb h0 208) := z_nw (by decide +kernel)
  have N207 : hN (Zb h0 207) = 103 := zNn B (by decide +kernel)
  have K208_103 : hK (Zb h0 208) 103 = 8 := zK B (by decide +kernel)
  have K208_0 : hK (Zb h0 208) 0 = 11 := zK B (by decide +kernel)
  have q208 : hR (Zb h0 208) 0 1 = some 3 := zR B (by decide +kernel)
  have K253_0 : hK (Zb h0 253) 0 = 11 := zK B (by decide +kernel)
  have r253 : sR (Zb h0 253) 0 7 (some 103) = (Zb h0 254) := z_sR (by decide +kernel)
  have n254 : nw (Zb h0 254) 4 0 (nF 4) = (Zb h0 255) := z_nw (by decide +kernel)
  have N254 : hN (Zb h0 254) = 126 := zNn B (by decide +kernel)
  have K255_126 : hK (Zb h0 255) 126 = 4 := zK B (by decide +kernel)
  have K257_0 : hK (Zb h0 257) 0 = 11 := zK B (by decide +kernel)
  have r257 : sR (Zb h0 257) 0 8 (some 126) = (Zb h0 258) := z_sR (by decide +kernel)
  have n258 : nw (Zb h0 258) 3 0 (nF 3) = (Zb h0 259) := z_nw (by decide +kernel)
  have N258 : hN (Zb h0 258) = 128 := zNn B (by decide +kernel)
  have K259_128 : hK (Zb h0 259) 128 = 3 := zK B (by decide +kernel)
  have K263_0 : hK (Zb h0 263) 0 = 11 := zK B (by decide +kernel)
  have r263 : sR (Zb h0 263) 0 9 (some 128) = (Zb h0 264) := z_sR (by decide +kernel)
  have n264 : nw (Zb h0 264) 0 0 (nF 0) = (Zb h0 265) := z_nw (by decide +kernel)
  have N264 : hN (Zb h0 264) = 131 := zNn B (by decide +kernel)
  have K265_131 : hK (Zb h0 265) 131 = 0 := zK B (by decide +kernel)
  have K271_0 : hK (Zb h0 271) 0 = 11 := zK B (by decide +kernel)
  have r271 : sR (Zb h0 271) 0 11 (some 131) = (Zb h0 272) := z_sR (by decide +kernel)
  have n272 : nw (Zb h0 272) 2 0 (nF 2) = (Zb h0 273) := z_nw (by decide +kernel)
  have N272 : hN (Zb h0 272) = 135 := zNn B (by decide +kernel)
  have K273_135 : hK (Zb h0 273) 135 = 2 := zK B (by decide +kernel)
  have K273_0 : hK (Zb h0 273) 0 = 11 := zK B (by decide +kernel)
  have q273 : hR (Zb h0 273) 0 0 = some 1 := zR B (by decide +kernel)
  have K276_0 : hK (Zb h0 276) 0 = 11 := zK B (by decide +kernel)
  have r276 : sR (Zb h0 276) 0 12 (some 135) = (Zb h0 277) := z_sR (by decide +kernel)
  have n277 : nw (Zb h0 277) 31 (Int32.toNatClampNeg 4) (Int32.toNatClampNeg 4) = (Zb h0 278) := z_nw (by decide +kernel)
  have N277 : hN (Zb h0 277) = 137 := zNn B (by decide +kernel)
  have g4 : (decide ((4 : Int32) < 0) || decide (1000000 < (Int32.toNatClampNeg 4))) = false := by decide +kernel
  have K278_0 : hK (Zb h0 278) 0 = 11 := zK B (by decide +kernel)
  have r278 : sR (Zb h0 278) 0 13 (some 137) = (Zb h0 279) := z_sR (by decide +kernel)
  have K279_0 : hK (Zb h0 279) 0 = 11 := zK B (by decide +kernel)
  have i279 : sI (Zb h0 279) 0 15 (-1) = (Zb h0 280) := z_sI (v := 0) (by decide +kernel) (by decide +kernel)
  have n280 : nw (Zb h0 280) 36 (Int32.toNatClampNeg 4) (Int32.toNatClampNeg 4) = (Zb h0 281) := z_nw (by decide +kernel)
  have N280 : hN (Zb h0 280) = 138 := zNn B (by decide +kernel)
  have K281_0 : hK (Zb h0 281) 0 = 11 := zK B (by decide +kernel)
  have r281 : sR (Zb h0 281) 0 16 (some 138) = (Zb h0 282) := z_sR (by decide +kernel)
  have K282_0 : hK (Zb h0 282) 0 = 11 := zK B (by decide +kernel)
  have i282 : sI (Zb h0 282) 0 18 (2) = (Zb h0 283) := z_sI (v := 3) (by decide +kernel) (by decide +kernel)
  rw [tX11_init]
  simp only [oB_some, dR_some, cond_true, cond_false, if_true, if_false, Bool.true_and, Bool.and_true, Nat.beq_refl, n1, N1, K2_1, b9_1 B, K4_0, r4, n5, N5, K6_3, b10_3 B, K18_0, r18, n19, N19, K20_10, b4_10 B, K22_0, r22, n23, N23, K24_12, b4_12 B, K26_0, r26, n27, N27, K28_14, b5_14 B, K194_0, r194, n195, N195, K196_98, b3_98 B, K200_0, r200, n201, N201, K202_101, b7_101 B, K206_0, r206, n207, N207, K208_103, K208_0, q208, b8_103 B, K253_0, r253, n254, N254, K255_126, b4_126 B, K257_0, r257, n258, N258, K259_128, b3_128 B, K263_0, r263, n264, N264, K265_131, b0_131 B, K271_0, r271, n272, N272, K273_135, K273_0, q273, b2_135 B, K276_0, r276, n277, N277, g4, K278_0, r278, K279_0, i279, n280, N280, K281_0, r281, K282_0, i282]
  exact b6_loop B 4 0 rfl
