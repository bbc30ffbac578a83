/-! ===== PURE: a life's acts in the reference, over a row of Nats ===== -/
def RN (h : Hp) (o : Nat) (w : Nat → Nat) : Hp := wA h o (nR w)
theorem RN_K (h : Hp) (o : Nat) (w : Nat → Nat) (x : Nat) : hK (RN h o w) x = hK h x := rfl
theorem RN_E (h : Hp) (o : Nat) (w : Nat → Nat) (x : Nat) : hE (RN h o w) x = hE h x := rfl
theorem RN_R (h : Hp) (o : Nat) (w : Nat → Nat) (x y : Nat) : hR (RN h o w) x y = hR h x y := rfl
theorem RN_a (h : Hp) (o : Nat) (w : Nat → Nat) (k : Nat) : hI (RN h o w) o k = nI (w k) := by unfold RN; rw [wA_I]; rfl
theorem RN_o (h : Hp) {o x : Nat} (w : Nat → Nat) (h1 : x ≠ o) : hI (RN h o w) x = hI h x := by unfold RN; rw [wA_O _ _ h1]
theorem RN_w (h : Hp) (o : Nat) (w : Nat → Nat) (k x : Nat) : sI (RN h o w) o k (nI x) = RN h o (up1 w k x) := by
  unfold RN; rw [sI_ws, nR_up]
/-- the reference's house -/
def MW (h : Hp) (r d b : Nat → Nat) (dc bc : Nat) : Prop :=
  hK h 147 = 12 ∧ (hR h 147 18 = some 152 ∧ hK h 152 = 20 ∧ hE h 152 = 7) ∧ (hR h 147 20 = some 154 ∧ hK h 154 = 20 ∧ hE h 154 = 18) ∧ (hR h 147 22 = some 156 ∧ hK h 156 = 20 ∧ hE h 156 = 15) ∧ (dc ≤ 6 ∧ bc ≤ 5) ∧ (hI h 147 26 = nI dc ∧ hI h 147 27 = nI bc) ∧ (∀ k, k < 7 → hI h 152 k = nI (r k)) ∧ (∀ k, k < 3 * dc → hI h 154 k = nI (d k)) ∧ (∀ k, k < 3 * bc → hI h 156 k = nI (b k)) ∧
  (∀ k, r k ≤ 60) ∧ (∀ k, d k ≤ 99) ∧ (∀ k, b k ≤ 60)
def RLo (h : Hp) (o : Nat) : Prop := hK h o = 20 ∧ hE h o = 381 ∧ o ≠ 147 ∧ o ≠ 152 ∧ o ≠ 154 ∧ o ≠ 156
theorem MW.RN {h : Hp} {o : Nat} {r d b : Nat → Nat} {dc bc : Nat} (W : MW h r d b dc bc) (L : RLo h o) (w : Nat → Nat) : MW (RN h o w) r d b dc bc := by
  obtain ⟨w1, w2, w3, w4, w5, w6, w7, w8, w9, w10⟩ := W
  obtain ⟨_, _, n1, n2, n3, n4⟩ := L
  refine ⟨w1, w2, w3, w4, w5, ?_, ?_, ?_, ?_, w10⟩
  · rw [RN_o h w (Ne.symm n1)]; exact w6
  · rw [RN_o h w (Ne.symm n2)]; exact w7
  · rw [RN_o h w (Ne.symm n3)]; exact w8
  · rw [RN_o h w (Ne.symm n4)]; exact w9
theorem tc0 : Int32.toNatClampNeg 0 = 0 := by decide
theorem tc1 : Int32.toNatClampNeg 1 = 1 := by decide
theorem tc2 : Int32.toNatClampNeg 2 = 2 := by decide
theorem tc3 : Int32.toNatClampNeg 3 = 3 := by decide
theorem tc4 : Int32.toNatClampNeg 4 = 4 := by decide
theorem tc5 : Int32.toNatClampNeg 5 = 5 := by decide
theorem tc6 : Int32.toNatClampNeg 6 = 6 := by decide
theorem tc7 : Int32.toNatClampNeg 7 = 7 := by decide
theorem tc19 : Int32.toNatClampNeg 19 = 19 := by decide
theorem tc200 : Int32.toNatClampNeg 200 = 200 := by decide
theorem ib0 : inb 0 381 = true := by decide
theorem ib1 : inb 1 381 = true := by decide
theorem ib2 : inb 2 381 = true := by decide
theorem ib3 : inb 3 381 = true := by decide
theorem ib4 : inb 4 381 = true := by decide
theorem ib5 : inb 5 381 = true := by decide
theorem ib6 : inb 6 381 = true := by decide
theorem ib7 : inb 7 381 = true := by decide
theorem ib19 : inb 19 381 = true := by decide
theorem ib200 : inb 200 381 = true := by decide
theorem cuts_m {h : Hp} {o : Nat} {w : Nat → Nat} (L : RLo h o) (h5 : 0 < w 5) : FX12_cuts [vR (some o)] (RN h o w) = some (rV, RN h o (up1 (up1 w 5 (w 5 - 1)) 6 (w 6 + 3))) := by
  obtain ⟨L1, L2, _⟩ := L
  have e : nI (w 6) + 3 = nI (w 6 + 3) := nI_add _ 3
  rw [tX12_cuts]
  simp only [oB_some, dR_some, cond_true, cond_false, if_true, if_false, Bool.true_and, Bool.and_true, Nat.beq_refl, hK_sI, hE_sI, RN_K, RN_E, L1, L2, iaK20, ib5, ib6, tc5, tc6, RN_a, nI_s1 h5, RN_w, up1_o w (w 5 - 1) (show (6 : Nat) ≠ 5 by decide), e]
theorem nI_leC {n : Nat} {x : Int32} (h : nI n ≤ x) (hn : n < 2 ^ 31) : ∀ i, x = nI i → i < 2 ^ 31 → n ≤ i := fun i e hb => by
  rw [e, nI_nle' hn hb] at h
  exact h
theorem ix_m (x : Int32) {n : Nat} (hn : n < 2 ^ 31) : (x < 0) ∨ (¬ x < 0 ∧ nI n ≤ x ∧ ∀ i, x = nI i → i < 2 ^ 31 → n ≤ i) ∨ (∃ i, i < n ∧ x = nI i ∧ ¬ x < 0 ∧ ¬ nI n ≤ x) := by
  rcases pk_ix x (n := n) hn with c | c | ⟨i, hi, c⟩
  · exact Or.inl c
  · right; left
    refine ⟨?_, c, nI_leC c hn⟩
    intro z
    have z1 := Int32.lt_iff_toInt_lt.mp z
    have z2 := Int32.le_iff_toInt_le.mp c
    rw [nI_toInt (by omega)] at z2
    have z3 : (0 : Int32).toInt = 0 := by decide
    omega
  · right; right
    subst c
    refine ⟨i, hi, rfl, nI_pos (by omega), ?_⟩
    rw [nI_nle' (by omega) (by omega)]; omega
theorem debtOn_m {h : Hp} {i wk : Nat} {r d b : Nat → Nat} {dc bc : Nat} (W : MW h r d b dc bc) (hi : i < dc) (hw : wk ≤ 5000) : FX12_debtOn [vR (some 147), vI (nI i), vI (nI wk)] h = some (rI (nI (ow d i wk)), h) := by
  obtain ⟨w1, _, ⟨w2, w3, w4⟩, _, ⟨g1, g2⟩, _, _, hd, _, _, bd, _⟩ := W
  have e0 : (3 : Int32) * nI i = nI (3 * i) := pk_mul 3 i
  have e1 : nI (3 * i) + 1 = nI (3 * i + 1) := nI_1 _
  have e2 : nI (3 * i) + 2 = nI (3 * i + 2) := nI_add _ 2
  have b0 : inb (nI (3 * i)) 18 = true := inb_nI (by omega) (by omega)
  have b1 : inb (nI (3 * i + 1)) 18 = true := inb_nI (by omega) (by omega)
  have b2 : inb (nI (3 * i + 2)) 18 = true := inb_nI (by omega) (by omega)
  have c0 : (nI (3 * i)).toNatClampNeg = 3 * i := nI_clamp (by omega)
  have c1 : (nI (3 * i + 1)).toNatClampNeg = 3 * i + 1 := nI_clamp (by omega)
  have c2 : (nI (3 * i + 2)).toNatClampNeg = 3 * i + 2 := nI_clamp (by omega)
  have d0 := bd (3 * i)
  rw [tX12_debtOn]
  simp only [oB_some, dR_some, cond_true, cond_false, if_true, if_false, Bool.true_and, Bool.and_true, Nat.beq_refl, w1, w2, w3, w4, iaK20, e0, e1, e2, b0, b1, b2, c0, c1, c2, hd (3 * i) (show 3 * i < 3 * dc by omega), hd (3 * i + 1) (show 3 * i + 1 < 3 * dc by omega), hd (3 * i + 2) (show 3 * i + 2 < 3 * dc by omega), mx0 (a := wk) (b := d (3 * i)) (by omega) (by omega), pk_mul, nI_add]
  unfold ow
  rw [Nat.mul_comm (d (3 * i + 2))]
theorem debtNow_m {h : Hp} {o i : Nat} {r d b w : Nat → Nat} {dc bc : Nat} (W : MW h r d b dc bc) (L : RLo h o) (hi : i < dc) (hw : w 7 ≤ 5000) : FX12_debtNow [vR (some 147), vR (some o), vI (nI i)] (RN h o w) = some (rI (nI (ow d i (w 7))), RN h o w) := by
  have V := W.RN L w
  obtain ⟨L1, L2, _⟩ := L
  have w1 := W.1
  rw [tX12_debtNow]
  simp only [oB_some, dR_some, cond_true, cond_false, if_true, if_false, Bool.true_and, Bool.and_true, Nat.beq_refl, RN_K, RN_E, L1, L2, w1, iaK20, ib7, tc7, RN_a, debtOn_m V hi hw]
def payOKm (d w : Nat → Nat) (dc i : Nat) : Prop := i < dc ∧ w (8 + i) = 0 ∧ ow d i (w 7) ≤ w 4
theorem canPay_m {h : Hp} {o : Nat} {r d b w : Nat → Nat} {dc bc : Nat} (W : MW h r d b dc bc) (L : RLo h o) (h8 : ∀ i, i < 6 → w (8 + i) ≤ 1) (h4 : w 4 ≤ 100000) (h7 : w 7 ≤ 5000) (x : Int32) :
    (∃ i, x = nI i ∧ payOKm d w dc i ∧ FX12_canPay [vR (some 147), vR (some o), vI x] (RN h o w) = some (rI 1, RN h o w)) ∨
    ((∀ i, x = nI i → i < 2 ^ 31 → ¬ payOKm d w dc i) ∧ FX12_canPay [vR (some 147), vR (some o), vI x] (RN h o w) = some (rI 0, RN h o w)) := by
  have W0 := W
  have L0 := L
  obtain ⟨_, _, _, _, ⟨g1, g2⟩, ⟨f5, f6⟩, _, _, _, _, bd, _⟩ := W.RN L w
  have w1 := W.1
  obtain ⟨L1, L2, _⟩ := L
  rw [tX12_canPay, tX12_isDebt]
  rcases ix_m x (n := dc) (by omega) with c | ⟨c1, c2, c3⟩ | ⟨i, hi, c, c1, c2⟩
  · right
    refine ⟨fun i e hb _ => nI_pos hb (by rw [← e]; exact c), ?_⟩
    simp only [oB_some, dR_some, cond_true, cond_false, if_true, if_false, Bool.true_and, Bool.and_true, Nat.beq_refl, RN_K, w1, c, isZ0]
  · right
    refine ⟨fun i e hb P => ?_, ?_⟩
    · have := P.1
      have := c3 i e hb
      omega
    · simp only [oB_some, dR_some, cond_true, cond_false, if_true, if_false, Bool.true_and, Bool.and_true, Nat.beq_refl, RN_K, w1, f5, c1, c2, isZ0]
  · subst c
    have e8 : (8 : Int32) + nI i = nI (8 + i) := nI_add 8 i
    have b8 : inb (nI (8 + i)) 381 = true := inb_nI (by omega) (by omega)
    have k8 : (nI (8 + i)).toNatClampNeg = 8 + i := nI_clamp (by omega)
    have h8' := h8 i (by omega)
    have dn := debtNow_m W0 L0 hi h7
    have owl := ow_le (i := i) (wk := w 7) bd h7
    have q1 : (nI (w 4) < nI (ow d i (w 7))) = (w 4 < ow d i (w 7)) := nI_nlt' (by omega) (by omega)
    by_cases z : w (8 + i) = 0
    · by_cases m : w 4 < ow d i (w 7)
      · right
        refine ⟨fun j e' hb P => ?_, ?_⟩
        · have : i = j := (nI_eq (by omega) hb).mp e'
          subst this
          have := P.2.2
          omega
        · simp only [oB_some, dR_some, cond_true, cond_false, if_true, if_false, Bool.true_and, Bool.and_true, Nat.beq_refl, RN_K, RN_E, L1, L2, w1, f5, c1, c2, isZ1, isZ0, show ¬ (1 : Int32) = 0 by decide, iaK20, e8, b8, k8, RN_a, z, nI_0, ib4, tc4, dn, q1, m]
      · left
        refine ⟨i, rfl, ⟨hi, z, by omega⟩, ?_⟩
        simp only [oB_some, dR_some, cond_true, cond_false, if_true, if_false, Bool.true_and, Bool.and_true, Nat.beq_refl, RN_K, RN_E, L1, L2, w1, f5, c1, c2, isZ1, isZ0, show ¬ (1 : Int32) = 0 by decide, iaK20, e8, b8, k8, RN_a, z, nI_0, ib4, tc4, dn, q1, m]
    · right
      have q : ¬ nI (w (8 + i)) = 0 := nI_nz (by omega) (by omega)
      refine ⟨fun j e' hb P => ?_, ?_⟩
      · have : i = j := (nI_eq (by omega) hb).mp e'
        subst this
        exact z P.2.1
      · simp only [oB_some, dR_some, cond_true, cond_false, if_true, if_false, Bool.true_and, Bool.and_true, Nat.beq_refl, RN_K, RN_E, L1, L2, w1, f5, c1, c2, isZ1, isZ0, show ¬ (1 : Int32) = 0 by decide, iaK20, e8, b8, k8, RN_a, q]
def payVm (d w : Nat → Nat) (i : Nat) : Nat → Nat := up1 (up1 w 4 (w 4 - ow d i (w 7))) (8 + i) 1
theorem pays_m {h : Hp} {o i : Nat} {r d b w : Nat → Nat} {dc bc : Nat} (W : MW h r d b dc bc) (L : RLo h o) (P : payOKm d w dc i) (h7 : w 7 ≤ 5000) : FX12_pays [vR (some 147), vR (some o), vI (nI i)] (RN h o w) = some (rV, RN h o (payVm d w i)) := by
  have dn := debtNow_m W L P.1 h7
  have hdc := W.2.2.2.2.1.1
  have w1 := W.1
  obtain ⟨L1, L2, _⟩ := L
  have hi := P.1
  have e8 : (8 : Int32) + nI i = nI (8 + i) := nI_add 8 i
  have b8 : inb (nI (8 + i)) 381 = true := inb_nI (by omega) (by omega)
  have k8 : (nI (8 + i)).toNatClampNeg = 8 + i := nI_clamp (by omega)
  have q2 : nI (w 4) - nI (ow d i (w 7)) = nI (w 4 - ow d i (w 7)) := pk_sub P.2.2
  rw [tX12_pays]
  simp only [oB_some, dR_some, cond_true, cond_false, if_true, if_false, Bool.true_and, Bool.and_true, Nat.beq_refl, RN_K, RN_E, L1, L2, w1, iaK20, ib4, tc4, RN_a, dn, q2, RN_w, e8, b8, k8]
  rw [show (1 : Int32) = nI 1 from rfl, RN_w]
  rfl
theorem wants_m {h : Hp} {o i : Nat} {r d b w : Nat → Nat} {dc bc : Nat} (W : MW h r d b dc bc) (L : RLo h o) (hi : i < bc) : FX12_wants [vR (some 147), vR (some o), vI (nI i)] (RN h o w) = some (rI (nI (b (3 * i + 2)) - nI (w (14 + i))), RN h o w) := by
  obtain ⟨_, _, _, _, ⟨g1, g2⟩, ⟨f5, f6⟩, _, _, hb, _⟩ := W.RN L w
  obtain ⟨w1, _, _, ⟨w2, w3, w4⟩, _⟩ := W
  obtain ⟨L1, L2, _⟩ := L
  have e0 : (3 : Int32) * nI i = nI (3 * i) := pk_mul 3 i
  have e2 : nI (3 * i) + 2 = nI (3 * i + 2) := nI_add _ 2
  have b2 : inb (nI (3 * i + 2)) 15 = true := inb_nI (by omega) (by omega)
  have c2 : (nI (3 * i + 2)).toNatClampNeg = 3 * i + 2 := nI_clamp (by omega)
  have e8 : (14 : Int32) + nI i = nI (14 + i) := nI_add 14 i
  have b1 : inb (nI (14 + i)) 381 = true := inb_nI (by omega) (by omega)
  have c1 : (nI (14 + i)).toNatClampNeg = 14 + i := nI_clamp (by omega)
  have hb' := hb (3 * i + 2) (by omega)
  rw [tX12_wants]
  simp only [oB_some, dR_some, cond_true, cond_false, if_true, if_false, Bool.true_and, Bool.and_true, Nat.beq_refl, RN_K, RN_R, RN_E, w1, w2, w3, w4, L1, L2, iaK20, e0, e2, b2, c2, hb', e8, b1, c1, RN_a]
theorem sub_le0 {a b : Nat} (ha : a < 2 ^ 30) (hb : b < 2 ^ 30) : (nI a - nI b ≤ (0 : Int32)) = (a ≤ b) := by
  have q := sub_0lt (a := a) (b := b) ha hb
  refine propext ⟨fun z => ?_, fun z => ?_⟩
  · have : ¬ (0 : Int32) < nI a - nI b := Int32.not_lt.mpr z
    rw [q] at this
    omega
  · apply Int32.not_lt.mp
    rw [q]; omega
/-- what is sold of in the reference's row -/
abbrev sdm (w : Nat → Nat) : Nat → Nat := fun i => w (14 + i)
theorem canSell_m {h : Hp} {o : Nat} {r d b w : Nat → Nat} {dc bc : Nat} (W : MW h r d b dc bc) (L : RLo h o) (h4 : w 4 ≤ 100000) (h5 : w 5 < 2 ^ 30) (h6 : w 6 < 2 ^ 30) (hu : ∀ i, i < 5 → w (14 + i) < 2 ^ 30) (x y : Int32) :
    (∃ i k, x = nI i ∧ y = nI k ∧ sellOK b w (sdm w) bc i k ∧ FX12_canSell [vR (some 147), vR (some o), vI x, vI y] (RN h o w) = some (rI 1, RN h o w)) ∨
    ((∀ i k, x = nI i → y = nI k → i < 2 ^ 31 → k < 2 ^ 31 → ¬ sellOK b w (sdm w) bc i k) ∧ FX12_canSell [vR (some 147), vR (some o), vI x, vI y] (RN h o w) = some (rI 0, RN h o w)) := by
  have W0 := W
  have L0 := L
  obtain ⟨_, _, _, _, ⟨g1, g2⟩, ⟨f5, f6⟩, _, _, hb, _, _, bb⟩ := W.RN L w
  obtain ⟨w1, _, _, ⟨w2, w3, w4⟩, _⟩ := W
  obtain ⟨L1, L2, _⟩ := L
  have iny : FX12_isIn [vL y.toInt64, vL 0, vL 1] (RN h o w) = some (rI (if y < 0 then 0 else if 1 < y then 0 else 1), RN h o w) := isIn_sp y 0 1 _
  rw [tX12_canSell, tX12_isBuyer]
  rcases ix_m x (n := bc) (by omega) with c | ⟨c1, c2, c3⟩ | ⟨i, hi, c, c1, c2⟩
  · right
    refine ⟨fun i k e _ hb' _ _ => nI_pos hb' (by rw [← e]; exact c), ?_⟩
    simp only [oB_some, dR_some, cond_true, cond_false, if_true, if_false, Bool.true_and, Bool.and_true, Nat.beq_refl, RN_K, w1, c, isZ0]
  · right
    refine ⟨fun i k e _ hb' _ P => ?_, ?_⟩
    · have := P.1
      have := c3 i e hb'
      omega
    · simp only [oB_some, dR_some, cond_true, cond_false, if_true, if_false, Bool.true_and, Bool.and_true, Nat.beq_refl, RN_K, w1, f6, c1, c2, isZ0]
  · rcases ix_cases y (n := 2) (by omega) with d0 | ⟨d1, d2, d3⟩ | ⟨k, hk, d0, d1, d2⟩
    · right
      refine ⟨fun i k _ e _ hb' _ => nI_pos hb' (by rw [← e]; exact d0), ?_⟩
      simp only [oB_some, dR_some, cond_true, cond_false, if_true, if_false, Bool.true_and, Bool.and_true, Nat.beq_refl, RN_K, w1, f6, c1, c2, isZ0, isZ1, show ¬ (1 : Int32) = 0 by decide, iny, d0]
    · right
      have d2' : (1 : Int32) < y := d2
      refine ⟨fun i k _ e _ hb' P => ?_, ?_⟩
      · have := P.2.1
        have := d3 k e hb'
        omega
      · simp only [oB_some, dR_some, cond_true, cond_false, if_true, if_false, Bool.true_and, Bool.and_true, Nat.beq_refl, RN_K, w1, f6, c1, c2, isZ0, isZ1, show ¬ (1 : Int32) = 0 by decide, iny, d1, d2']
    · subst c
      subst d0
      have d2' : ¬ (1 : Int32) < nI k := d2
      have e0 : (3 : Int32) * nI i = nI (3 * i) := pk_mul 3 i
      have e2 : nI (3 * i) + nI k = nI (3 * i + k) := nI_add _ _
      have b2 : inb (nI (3 * i + k)) 15 = true := inb_nI (by omega) (by omega)
      have k2 : (nI (3 * i + k)).toNatClampNeg = 3 * i + k := nI_clamp (by omega)
      have e5 : (5 : Int32) + nI k = nI (5 + k) := nI_add 5 k
      have b5 : inb (nI (5 + k)) 381 = true := inb_nI (by omega) (by omega)
      have k5 : (nI (5 + k)).toNatClampNeg = 5 + k := nI_clamp (by omega)
      have hb' := hb (3 * i + k) (by omega)
      have bb1 := bb (3 * i + 2)
      have bb2 := bb (3 * i + k)
      have wt := wants_m (w := w) W0 L0 hi
      have s0 := sub_le0 (a := b (3 * i + 2)) (b := w (14 + i)) (by omega) (hu i (by omega))
      have m1 : nI (w 4) + nI (b (3 * i + k)) = nI (w 4 + b (3 * i + k)) := nI_add _ _
      have m2 : ((9999 : Int32) < nI (w 4 + b (3 * i + k))) = (9999 < w 4 + b (3 * i + k)) := nI_nlt' (a := 9999) (by omega) (by omega)
      have w01 : k = 0 ∨ k = 1 := by omega
      have lv : w (5 + k) < 2 ^ 30 := by rcases w01 with e | e <;> subst e <;> assumption
      have z5 : (nI (w (5 + k)) ≤ (0 : Int32)) = (w (5 + k) = 0) := nI_le0 (by omega)
      have no : ¬ sellOK b w (sdm w) bc i k → (∀ i' w', nI i = nI i' → nI k = nI w' → i' < 2 ^ 31 → w' < 2 ^ 31 → ¬ sellOK b w (sdm w) bc i' w') := fun ng i' w' a1 a2 a3 a4 P => by
        have q1 := (nI_eq (a := i) (b := i') (by omega) a3).mp a1
        have q2 := (nI_eq (a := k) (b := w') (by omega) a4).mp a2
        subst q1 q2
        exact ng P
      by_cases z : w (5 + k) = 0
      · right
        refine ⟨no (fun P => by have := P.2.2.2.1; omega), ?_⟩
        simp only [oB_some, dR_some, cond_true, cond_false, if_true, if_false, Bool.true_and, Bool.and_true, Nat.beq_refl, RN_K, RN_E, w1, f6, c1, c2, isZ0, isZ1, show ¬ (1 : Int32) = 0 by decide, iny, d1, d2', L1, L2, iaK20, e5, b5, k5, RN_a, z, show nI 0 ≤ 0 by decide]
      · by_cases q : b (3 * i + 2) ≤ w (14 + i)
        · right
          refine ⟨no (fun P => by have : w (14 + i) < b (3 * i + 2) := P.2.2.1; omega), ?_⟩
          simp only [oB_some, dR_some, cond_true, cond_false, if_true, if_false, Bool.true_and, Bool.and_true, Nat.beq_refl, RN_K, RN_E, w1, f6, c1, c2, isZ0, isZ1, show ¬ (1 : Int32) = 0 by decide, iny, d1, d2', L1, L2, iaK20, e5, b5, k5, RN_a, z5, z, wt, s0, q]
        · by_cases m : 9999 < w 4 + b (3 * i + k)
          · right
            refine ⟨no (fun P => by have := P.2.2.2.2; omega), ?_⟩
            simp only [oB_some, dR_some, cond_true, cond_false, if_true, if_false, Bool.true_and, Bool.and_true, Nat.beq_refl, RN_K, RN_E, RN_R, w1, w2, w3, w4, f6, c1, c2, isZ0, isZ1, show ¬ (1 : Int32) = 0 by decide, iny, d1, d2', L1, L2, iaK20, e0, e2, b2, k2, e5, b5, k5, ib4, tc4, RN_a, z5, z, wt, s0, q, hb', m1, m2, m]
          · left
            refine ⟨i, k, rfl, rfl, ⟨hi, by omega, by show w (14 + i) < b (3 * i + 2); omega, by omega, by omega⟩, ?_⟩
            simp only [oB_some, dR_some, cond_true, cond_false, if_true, if_false, Bool.true_and, Bool.and_true, Nat.beq_refl, RN_K, RN_E, RN_R, w1, w2, w3, w4, f6, c1, c2, isZ0, isZ1, show ¬ (1 : Int32) = 0 by decide, iny, d1, d2', L1, L2, iaK20, e0, e2, b2, k2, e5, b5, k5, ib4, tc4, RN_a, z5, z, wt, s0, q, hb', m1, m2, m]
def sellVm (b w : Nat → Nat) (i k : Nat) : Nat → Nat := up1 (up1 (up1 w (5 + k) (w (5 + k) - 1)) (14 + i) (w (14 + i) + 1)) 4 (w 4 + b (3 * i + k))
theorem sells_m {h : Hp} {o i k : Nat} {r d b w : Nat → Nat} {dc bc : Nat} (W : MW h r d b dc bc) (L : RLo h o) (P : sellOK b w (sdm w) bc i k) : FX12_sells [vR (some 147), vR (some o), vI (nI i), vI (nI k)] (RN h o w) = some (rV, RN h o (sellVm b w i k)) := by
  have V := fun w' => W.RN L w'
  obtain ⟨p1, p2, p3, p4, p5⟩ := P
  have g2 := W.2.2.2.2.1.2
  obtain ⟨w1, _, _, ⟨w2, w3, w4⟩, _⟩ := W
  obtain ⟨L1, L2, _⟩ := L
  have e0 : (3 : Int32) * nI i = nI (3 * i) := pk_mul 3 i
  have e2 : nI (3 * i) + nI k = nI (3 * i + k) := nI_add _ _
  have b2 : inb (nI (3 * i + k)) 15 = true := inb_nI (by omega) (by omega)
  have k2 : (nI (3 * i + k)).toNatClampNeg = 3 * i + k := nI_clamp (by omega)
  have e5 : (5 : Int32) + nI k = nI (5 + k) := nI_add 5 k
  have b5 : inb (nI (5 + k)) 381 = true := inb_nI (by omega) (by omega)
  have k5 : (nI (5 + k)).toNatClampNeg = 5 + k := nI_clamp (by omega)
  have e8 : (14 : Int32) + nI i = nI (14 + i) := nI_add 14 i
  have b8 : inb (nI (14 + i)) 381 = true := inb_nI (by omega) (by omega)
  have k8 : (nI (14 + i)).toNatClampNeg = 14 + i := nI_clamp (by omega)
  have a1 : ∀ x, up1 w (5 + k) x (14 + i) = w (14 + i) := fun x => up1_o _ _ (by omega)
  have a2 : ∀ x y, up1 (up1 w (5 + k) x) (14 + i) y 4 = w 4 := fun x y => by rw [up1_o _ _ (by omega), up1_o _ _ (by omega)]
  have hb' : ∀ w', hI (RN h o w') 156 (3 * i + k) = nI (b (3 * i + k)) := fun w' => (V w').2.2.2.2.2.2.2.2.1 (3 * i + k) (by omega)
  have m1 : nI (w 4) + nI (b (3 * i + k)) = nI (w 4 + b (3 * i + k)) := nI_add _ _
  rw [tX12_sells]
  simp only [oB_some, dR_some, cond_true, cond_false, if_true, if_false, Bool.true_and, Bool.and_true, Nat.beq_refl, RN_K, RN_E, RN_R, w1, w2, w3, w4, L1, L2, iaK20, e0, e2, b2, k2, e5, b5, k5, e8, b8, k8, ib4, tc4, RN_a, nI_s1 p4, RN_w, a1, nI_1, a2, hb', m1]
  rfl
