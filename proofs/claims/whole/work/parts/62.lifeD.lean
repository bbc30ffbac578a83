/-! ===== PURE: a life's acts in the class: selling, a week ===== -/
theorem sub_0lt {a b : Nat} (ha : a < 2 ^ 30) (hb : b < 2 ^ 30) : ((0 : Int32) < nI a - nI b) = (b < a) := by
  by_cases c : b ≤ a
  · rw [pk_sub c, nI_0lt (by omega)]
    exact propext ⟨fun z => by omega, fun z => by omega⟩
  · have n := pk_sneg (a := a) (b := b) hb (by omega)
    refine propext ⟨fun z => ?_, fun z => by omega⟩
    have z1 := Int32.lt_iff_toInt_lt.mp z
    have z2 := Int32.lt_iff_toInt_lt.mp n
    omega
theorem ix_cases (x : Int32) {n : Nat} (hn : n < 2 ^ 31) : (x < 0) ∨ (¬ x < 0 ∧ nI n - 1 < x ∧ ∀ i, x = nI i → i < 2 ^ 31 → n ≤ i) ∨ (∃ i, i < n ∧ x = nI i ∧ ¬ x < 0 ∧ ¬ nI n - 1 < x) := by
  rcases pk_ix x (n := n) hn with c | c | ⟨i, hi, c⟩
  · exact Or.inl c
  · right; left
    have c1 : ¬ x < 0 := by
      intro z
      have z1 := Int32.lt_iff_toInt_lt.mp z
      have z2 := Int32.le_iff_toInt_le.mp c
      rw [nI_toInt (by omega)] at z2
      have z3 : (0 : Int32).toInt = 0 := by decide
      omega
    refine ⟨c1, ?_, fun i e hb => ?_⟩
    · by_cases z0 : n = 0
      · subst z0
        have : nI 0 - 1 < (0 : Int32) := by decide
        exact Int32.lt_of_lt_of_le this (Int32.not_lt.mp c1)
      · rw [nI_s1 (by omega)]
        refine Int32.lt_of_lt_of_le ?_ c
        rw [nI_nlt' (by omega) (by omega)]; omega
    · rw [e, nI_nle' hn hb] at c
      exact c
  · right; right
    subst c
    refine ⟨i, hi, rfl, nI_pos (by omega), ?_⟩
    rw [nI_s1 (by omega), nI_nlt' (by omega) (by omega)]; omega
def sellOK (b v u : Nat → Nat) (bc i w : Nat) : Prop := i < bc ∧ w ≤ 1 ∧ u i < b (3 * i + 2) ∧ 0 < v (5 + w) ∧ v 4 + b (3 * i + w) ≤ 9999
def sellV (b v : Nat → Nat) (i w : Nat) : Nat → Nat := up1 (up1 v (5 + w) (v (5 + w) - 1)) 4 (v 4 + b (3 * i + w))
theorem wants_c {h : Hp} {s a i : Nat} {r d b v u : Nat → Nat} {dc bc : Nat} (W : WH h s r d b dc bc) (L : LL h a s) (hi : i < bc) : FX10_wants [vR (some 3), vR (some a), vI (nI i)] (LN h a v u) = some (rI (nI (b (3 * i + 2)) - nI (u i)), LN h a v u) := by
  obtain ⟨_, _, ⟨g1, g2⟩, ⟨f5, f6⟩, _, _, hb, _⟩ := W.LN L v u
  obtain ⟨⟨w1, w2⟩, ⟨l1, l2, l3, l4, _, _, ⟨l5, l6⟩, l7, l8⟩, _⟩ := W
  obtain ⟨L1, L2, L3, L4, _⟩ := L
  have e0 : (3 : Int32) * nI i = nI (3 * i) := pk_mul 3 i
  have e2 : nI (3 * i) + 2 = nI (3 * i + 2) := nI_add _ 2
  have b2 : inb (nI (3 * i + 2)) 15 = true := inb_nI (by omega) (by omega)
  have c2 : (nI (3 * i + 2)).toNatClampNeg = 3 * i + 2 := nI_clamp (by omega)
  have b1 : inb (nI i) 5 = true := inb_nI (by omega) (by omega)
  have c1 : (nI i).toNatClampNeg = i := nI_clamp (by omega)
  have hb' := hb (3 * i + 2) (by omega)
  rw [tX10_wants]
  simp only [oB_some, dR_some, cond_true, cond_false, if_true, if_false, Bool.true_and, Bool.and_true, Nat.beq_refl, LN_K, LN_R, LN_E, w1, w2, l1, l4, l5, l6, iaK20, e0, e2, b2, c2, hb', L1, L2, L3, L4, b1, c1, LN_s]
theorem sell_c {h : Hp} {s a : Nat} {r d b v u : Nat → Nat} {dc bc : Nat} (W : WH h s r d b dc bc) (L : LL h a s) (h4 : v 4 ≤ 100000) (h5 : v 5 < 2 ^ 30) (h6 : v 6 < 2 ^ 30) (hu : ∀ k, k < 5 → u k < 2 ^ 30) (x y : Int32) :
    (∃ i w, x = nI i ∧ y = nI w ∧ sellOK b v u bc i w ∧ FX10_sellPiece [vR (some 3), vR (some a), vI x, vI y] (LN h a v u) = some (rI 1, LN h a (sellV b v i w) (up1 u i (u i + 1)))) ∨
    ((∀ i w, x = nI i → y = nI w → i < 2 ^ 31 → w < 2 ^ 31 → ¬ sellOK b v u bc i w) ∧ FX10_sellPiece [vR (some 3), vR (some a), vI x, vI y] (LN h a v u) = some (rI 0, LN h a v u)) := by
  have W0 := W
  have L0 := L
  obtain ⟨_, _, ⟨g1, g2⟩, ⟨f5, f6⟩, _, _, hb, _, _, bb⟩ := W.LN L v u
  obtain ⟨⟨w1, w2⟩, ⟨l1, l2, l3, l4, _, _, ⟨l5, l6⟩, l7, l8⟩, _⟩ := W
  obtain ⟨L1, L2, L3, L4, _⟩ := L
  rw [tX10_sellPiece]
  rcases ix_cases x (n := bc) (by omega) with c | ⟨c1, c2, c3⟩ | ⟨i, hi, c, c1, c2⟩
  · right
    refine ⟨fun i w e _ hb' _ _ => nI_pos hb' (by rw [← e]; exact c), ?_⟩
    simp only [oB_some, dR_some, cond_true, cond_false, if_true, if_false, Bool.true_and, Bool.and_true, Nat.beq_refl, LN_K, LN_R, w1, w2, l1, f6, within11, c, isZ0]
  · right
    refine ⟨fun i w e _ hb' _ P => ?_, ?_⟩
    · have := P.1
      have := c3 i e hb'
      omega
    · simp only [oB_some, dR_some, cond_true, cond_false, if_true, if_false, Bool.true_and, Bool.and_true, Nat.beq_refl, LN_K, LN_R, w1, w2, l1, f6, within11, c1, c2, isZ0]
  · rcases ix_cases y (n := 2) (by omega) with d0 | ⟨d1, d2, d3⟩ | ⟨w, hw, d0, d1, d2⟩
    · right
      refine ⟨fun i w _ e _ hb' _ => nI_pos hb' (by rw [← e]; exact d0), ?_⟩
      simp only [oB_some, dR_some, cond_true, cond_false, if_true, if_false, Bool.true_and, Bool.and_true, Nat.beq_refl, LN_K, LN_R, w1, w2, l1, f6, within11, c1, c2, d0, isZ0, show ¬ (1 : Int32) = 0 by decide]
    · right
      have d2' : (1 : Int32) < y := d2
      refine ⟨fun i w _ e _ hb' P => ?_, ?_⟩
      · have := P.2.1
        have := d3 w e hb'
        omega
      · simp only [oB_some, dR_some, cond_true, cond_false, if_true, if_false, Bool.true_and, Bool.and_true, Nat.beq_refl, LN_K, LN_R, w1, w2, l1, f6, within11, c1, c2, d1, d2', isZ0, show ¬ (1 : Int32) = 0 by decide]
    · subst c
      subst d0
      have d2' : ¬ (1 : Int32) < nI w := d2
      have e0 : (3 : Int32) * nI i = nI (3 * i) := pk_mul 3 i
      have e2 : nI (3 * i) + nI w = nI (3 * i + w) := nI_add _ _
      have b2 : inb (nI (3 * i + w)) 15 = true := inb_nI (by omega) (by omega)
      have k2 : (nI (3 * i + w)).toNatClampNeg = 3 * i + w := nI_clamp (by omega)
      have b1 : inb (nI i) 5 = true := inb_nI (by omega) (by omega)
      have k1 : (nI i).toNatClampNeg = i := nI_clamp (by omega)
      have hb' := hb (3 * i + w) (by omega)
      have bb1 := bb (3 * i + 2)
      have bb2 := bb (3 * i + w)
      have wt := wants_c (v := v) (u := u) W0 L0 hi
      have s0 := sub_0lt (a := b (3 * i + 2)) (b := u i) (by omega) (hu i (by omega))
      have m1 : nI (v 4) + nI (b (3 * i + w)) = nI (v 4 + b (3 * i + w)) := nI_add _ _
      have m2 : (nI (v 4 + b (3 * i + w)) ≤ (9999 : Int32)) = (v 4 + b (3 * i + w) ≤ 9999) := nI_nle' (b := 9999) (by omega) (by omega)
      have same : ∀ i' w', nI i = nI i' → nI w = nI w' → i' < 2 ^ 31 → w' < 2 ^ 31 → i = i' ∧ w = w' := fun i' w' a1 a2 a3 a4 => ⟨(nI_eq (by omega) a3).mp a1, (nI_eq (by omega) a4).mp a2⟩
      have z5 : (nI (v 5) ≤ (0 : Int32)) = (v 5 = 0) := nI_le0 (by omega)
      have z6 : (nI (v 6) ≤ (0 : Int32)) = (v 6 = 0) := nI_le0 (by omega)
      have no : ¬ sellOK b v u bc i w → (∀ i' w', nI i = nI i' → nI w = nI w' → i' < 2 ^ 31 → w' < 2 ^ 31 → ¬ sellOK b v u bc i' w') := fun ng i' w' a1 a2 a3 a4 P => by
        obtain ⟨q1, q2⟩ := same i' w' a1 a2 a3 a4
        subst q1 q2
        exact ng P
      by_cases k : u i < b (3 * i + 2)
      · have w01 : w = 0 ∨ w = 1 := by omega
        rcases w01 with ew | ew
        · have hz : (nI w = 0) = True := eq_true (by rw [ew]; rfl)
          by_cases z : v 5 = 0
          · right
            refine ⟨no (fun P => by have := P.2.2.2.1; rw [ew] at this; simp only [Nat.add_zero] at this; omega), ?_⟩
            simp only [oB_some, dR_some, cond_true, cond_false, if_true, if_false, Bool.true_and, Bool.and_true, Nat.beq_refl, hK_sI, hR_sI, hE_sI, w1, w2, l1, l4, l5, l6, f6, within11, c1, c2, d1, d2', show ¬ (1 : Int32) = 0 by decide, wt, s0, k, LN_K, LN_R, LN_E, L1, L2, L3, L4, iaK20, e0, e2, b2, k2, b1, k1, hb', LN_a, LN_s, hz, z, show nI 0 ≤ 0 by decide, isZ0]
          · have z2 : 0 < v 5 := by omega
            by_cases q : v 4 + b (3 * i + w) ≤ 9999
            · left
              refine ⟨i, w, rfl, rfl, ⟨hi, by omega, k, by rw [ew]; exact z2, q⟩, ?_⟩
              simp only [oB_some, dR_some, cond_true, cond_false, if_true, if_false, Bool.true_and, Bool.and_true, Nat.beq_refl, hK_sI, hR_sI, hE_sI, w1, w2, l1, l4, l5, l6, f6, within11, c1, c2, d1, d2', show ¬ (1 : Int32) = 0 by decide, wt, s0, k, LN_K, LN_R, LN_E, L1, L2, L3, L4, iaK20, e0, e2, b2, k2, b1, k1, hb', LN_a, LN_s, hz, z5, z, m1, m2, q, nI_s1 z2, LN_w, LN_ws, nI_1, isZ1]
              unfold sellV
              rw [ew]
            · right
              refine ⟨no (fun P => q P.2.2.2.2), ?_⟩
              simp only [oB_some, dR_some, cond_true, cond_false, if_true, if_false, Bool.true_and, Bool.and_true, Nat.beq_refl, hK_sI, hR_sI, hE_sI, w1, w2, l1, l4, l5, l6, f6, within11, c1, c2, d1, d2', show ¬ (1 : Int32) = 0 by decide, wt, s0, k, LN_K, LN_R, LN_E, L1, L2, L3, L4, iaK20, e0, e2, b2, k2, b1, k1, hb', LN_a, LN_s, hz, z5, z, m1, m2, q, isZ0]
        · have hz : (nI w = 0) = False := eq_false (by rw [ew]; decide)
          by_cases z : v 6 = 0
          · right
            refine ⟨no (fun P => by have := P.2.2.2.1; rw [ew] at this; simp only [show 5 + 1 = 6 from rfl] at this; omega), ?_⟩
            simp only [oB_some, dR_some, cond_true, cond_false, if_true, if_false, Bool.true_and, Bool.and_true, Nat.beq_refl, hK_sI, hR_sI, hE_sI, w1, w2, l1, l4, l5, l6, f6, within11, c1, c2, d1, d2', show ¬ (1 : Int32) = 0 by decide, wt, s0, k, LN_K, LN_R, LN_E, L1, L2, L3, L4, iaK20, e0, e2, b2, k2, b1, k1, hb', LN_a, LN_s, hz, z, show nI 0 ≤ 0 by decide, isZ0]
          · have z2 : 0 < v 6 := by omega
            by_cases q : v 4 + b (3 * i + w) ≤ 9999
            · left
              refine ⟨i, w, rfl, rfl, ⟨hi, by omega, k, by rw [ew]; exact z2, q⟩, ?_⟩
              simp only [oB_some, dR_some, cond_true, cond_false, if_true, if_false, Bool.true_and, Bool.and_true, Nat.beq_refl, hK_sI, hR_sI, hE_sI, w1, w2, l1, l4, l5, l6, f6, within11, c1, c2, d1, d2', show ¬ (1 : Int32) = 0 by decide, wt, s0, k, LN_K, LN_R, LN_E, L1, L2, L3, L4, iaK20, e0, e2, b2, k2, b1, k1, hb', LN_a, LN_s, hz, z6, z, m1, m2, q, nI_s1 z2, LN_w, LN_ws, nI_1, isZ1]
              unfold sellV
              rw [ew]
            · right
              refine ⟨no (fun P => q P.2.2.2.2), ?_⟩
              simp only [oB_some, dR_some, cond_true, cond_false, if_true, if_false, Bool.true_and, Bool.and_true, Nat.beq_refl, hK_sI, hR_sI, hE_sI, w1, w2, l1, l4, l5, l6, f6, within11, c1, c2, d1, d2', show ¬ (1 : Int32) = 0 by decide, wt, s0, k, LN_K, LN_R, LN_E, L1, L2, L3, L4, iaK20, e0, e2, b2, k2, b1, k1, hb', LN_a, LN_s, hz, z6, z, m1, m2, q, isZ0]
      · right
        refine ⟨no (fun P => k P.2.2.1), ?_⟩
        simp only [oB_some, dR_some, cond_true, cond_false, if_true, if_false, Bool.true_and, Bool.and_true, Nat.beq_refl, hK_sI, hR_sI, hE_sI, w1, w2, l1, l4, l5, l6, f6, within11, c1, c2, d1, d2', show ¬ (1 : Int32) = 0 by decide, wt, s0, k, LN_K, LN_R, LN_E, L1, L2, L3, L4, iaK20, e0, e2, b2, k2, b1, k1, hb', LN_a, LN_s, isZ0]
