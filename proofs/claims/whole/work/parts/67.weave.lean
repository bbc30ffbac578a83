/-! ===== PURE: what a bolt takes as one function; a week of weaving in the reference ===== -/
noncomputable def TK (lw : Option ((Nat → Int32) × Nat)) (r : Nat → Nat) (x0 x2 x3 x4 x5 : Nat) : Nat := match lw with
  | none => r 3
  | some (c, s) => ck (lawV c (LT x0 (r 3) x2 x3 x4 x5) s)
/-- the law that holds, in both -/
def LWS (h : Hp) : Option ((Nat → Int32) × Nat) → Prop
  | none => hR h 3 1 = none ∧ hI h 147 34 = -1
  | some (c, s) => ∃ l cd li n t, hR h 3 1 = some l ∧ WL h l cd s ∧ (∀ q, q < s → hI h cd q = c q) ∧ (172 < cd ∧ cd < PRE) ∧ LK n s t c ∧ LM h li n t
theorem TK_le {lw : Option ((Nat → Int32) × Nat)} {r : Nat → Nat} (hr : r 3 ≤ 60) (x0 x2 x3 x4 x5 : Nat) : TK lw r x0 x2 x3 x4 x5 ≤ 60 := by
  cases lw with
  | none => exact hr
  | some p => exact (ck_sp _).2
theorem takes_c {h : Hp} {s a : Nat} {r d b v u : Nat → Nat} {dc bc : Nat} {lw : Option ((Nat → Int32) × Nat)} (W : WH h s r d b dc bc) (M : MW h r d b dc bc) (L : LL h a s) (hs : s ≠ 7) (ha : a < 147) (w8 : hR h 3 2 = some 8) (w9 : hR h 3 3 = some 9) (Q : LWS h lw) :
    ∃ h2, FX10_takes [vR (some 3), vR (some a)] (LN h a v u) = some (rI (nI (TK lw r (v 0) (v 2) (v 10) (v 9) (v 4))), LN h2 a v u) ∧ Only h h2 [8, 9] := by
  cases lw with
  | none => exact ⟨h, takes_c0 W L Q.1, Only.refl _ _⟩
  | some p =>
    obtain ⟨c, N⟩ := p
    obtain ⟨l, cd, li, n, t, q1, q2, q3, q4, q5, q6⟩ := Q
    obtain ⟨fv, _, _, _, O⟩ := takesBy_l (x1 := v 0) (x2 := v 2) (x3 := v 10) (x4 := v 9) (x5 := v 4) M q5 q6
    have O' := lawV_sp O
    obtain ⟨f, g, e⟩ := takes_cl (v := v) (u := u) W L hs w8 w9 q1 q2 q3 ⟨by omega, by omega, by omega⟩ O'
    exact ⟨_, e, (only_wA h f (by simp)).trans (only_wA _ g (by simp))⟩
theorem takes_m {h : Hp} {o : Nat} {r d b w : Nat → Nat} {dc bc : Nat} {lw : Option ((Nat → Int32) × Nat)} (M : MW h r d b dc bc) (L : RLo h o) (ho : 160 ≤ o ∧ o < 172) (Q : LWS h lw) :
    ∃ h', FX12_takes_ [vR (some 147), vR (some o)] (RN h o w) = some (rI (nI (TK lw r (w 0) (w 2) (w 19) (w 7) (w 4))), h') ∧ Mo (RN h o w) h' := by
  have M' := M.RN L w
  have w1 := M.1
  have L0 := L
  obtain ⟨L1, L2, L3, _⟩ := L
  have P := PRE_big
  cases lw with
  | none =>
    refine ⟨_, ?_, Mo.refl _⟩
    have e34 : hI (RN h o w) 147 34 = -1 := by rw [RN_o _ _ (Ne.symm L3)]; exact Q.2
    rw [tX12_takes_]
    simp only [oB_some, dR_some, cond_true, cond_false, if_true, if_false, Bool.true_and, Bool.and_true, Nat.beq_refl, RN_K, RN_E, L1, L2, w1, iaK20, ib0, ib2, ib19, ib7, ib4, tc0, tc2, tc19, tc7, tc4, RN_a, takesBy_0 M' e34]
    rfl
  | some p =>
    obtain ⟨c, N⟩ := p
    obtain ⟨l, cd, li, n, t, q1, q2, q3, q4, q5, q6⟩ := Q
    have q6' : LM (RN h o w) li n t := by
      obtain ⟨⟨m1, m2⟩, m3, m4, ⟨m9, m10⟩, m11, m12, m15, m16⟩ := q6
      refine ⟨⟨by rw [RN_o _ _ (Ne.symm L3)]; exact m1, m2⟩, m3, m4, ⟨by rw [RN_o _ _ (by omega)]; exact m9, m10⟩, ?_, m12, ?_, ?_⟩
      · rw [RN_o _ _ (by omega)]; exact m11
      · unfold StL; rw [RN_o _ _ (by omega)]; exact m15
      · unfold StL; rw [RN_o _ _ (by omega)]; exact m16
    obtain ⟨fv, h', e, mo, O⟩ := takesBy_l (x1 := w 0) (x2 := w 2) (x3 := w 19) (x4 := w 7) (x5 := w 4) M' q5 q6'
    refine ⟨h', ?_, mo⟩
    have eq : fv = lawV c (LT (w 0) (r 3) (w 2) (w 19) (w 7) (w 4)) N := wo_unique q2 q3 (by omega) O (lawV_sp O)
    rw [tX12_takes_]
    simp only [oB_some, dR_some, cond_true, cond_false, if_true, if_false, Bool.true_and, Bool.and_true, Nat.beq_refl, RN_K, RN_E, L1, L2, w1, iaK20, ib0, ib2, ib19, ib7, ib4, tc0, tc2, tc19, tc7, tc4, RN_a, e]
    rw [eq]
    rfl
theorem mo_RN {h h' : Hp} {o : Nat} {w : Nat → Nat} (A : Mo (RN h o w) h') (h1 : o ≠ 147) (h2 : o ≠ 151) : h' = RN h' o w := by
  have e := A.2.2.2.2.2.2.1 o h1 h2
  unfold RN
  have : hI h' o = nR w := by rw [e]; exact wA_I _ _ _
  rw [← this, wA_self]
theorem Mo.MW {h h' : Hp} {r d b : Nat → Nat} {dc bc : Nat} (A : Mo h h') (W : MW h r d b dc bc) : MW h' r d b dc bc := by
  obtain ⟨a1, a2, a3, a4, a5, a6, a7, a8⟩ := A
  obtain ⟨w1, ⟨w2, w3, w4⟩, ⟨x2, x3, x4⟩, ⟨y2, y3, y4⟩, w5, ⟨z1, z2⟩, w7, w8, w9, w10⟩ := W
  refine ⟨by rw [a3]; exact w1, ⟨by rw [a6 _ _ (by omega)]; exact w2, by rw [a3]; exact w3, by rw [a4]; exact w4⟩, ⟨by rw [a6 _ _ (by omega)]; exact x2, by rw [a3]; exact x3, by rw [a4]; exact x4⟩, ⟨by rw [a6 _ _ (by omega)]; exact y2, by rw [a3]; exact y3, by rw [a4]; exact y4⟩, w5, ⟨?_, ?_⟩, ?_, ?_, ?_, w10⟩
  · rw [a8 26 (by simp)]; exact z1
  · rw [a8 27 (by simp)]; exact z2
  · rw [a7 152 (by omega) (by omega)]; exact w7
  · rw [a7 154 (by omega) (by omega)]; exact w8
  · rw [a7 156 (by omega) (by omega)]; exact w9
theorem Mo.RLo {h h' : Hp} {o : Nat} (A : Mo h h') (L : RLo h o) : RLo h' o := by
  obtain ⟨a1, a2, a3, a4, _⟩ := A
  obtain ⟨l1, l2, l3⟩ := L
  exact ⟨by rw [a3]; exact l1, by rw [a4]; exact l2, l3⟩
/-- weaving in the reference's row -/
def wvM (w : Nat → Nat) (tk : Nat) : Nat → Nat :=
  if w 3 = 0 then up1 (up1 (up1 (up1 (up1 (up1 (up1 w (20 + 3 * w 19) (w 7)) (20 + 3 * w 19 + 1) (w 0)) (20 + 3 * w 19 + 2) tk) 19 (w 19 + 1)) 0 (w 0 - tk)) 5 (w 5 + 1)) 2 (w 2 + 1)
  else up1 (up1 (up1 (up1 (up1 (up1 w (20 + 3 * w 19) (w 7)) (20 + 3 * w 19 + 1) (w 0)) (20 + 3 * w 19 + 2) tk) 19 (w 19 + 1)) 0 (w 0 - tk)) 5 (w 5 + 1)
theorem weaves_m {h h' : Hp} {o tk : Nat} {w : Nat → Nat} (w1 : hK h 147 = 12) (L : RLo h' o) (T : FX12_takes_ [vR (some 147), vR (some o)] (RN h o w) = some (rI (nI tk), RN h' o w)) (h19 : w 19 < 60) (ht : tk ≤ w 0) (h3 : w 3 < 2 ^ 31) :
    FX12_weavesOne [vR (some 147), vR (some o)] (RN h o w) = some (rV, RN h' o (wvM w tk)) := by
  obtain ⟨L1, L2, _⟩ := L
  have e0 : (3 : Int32) * nI (w 19) = nI (3 * w 19) := pk_mul 3 _
  have e1 : (20 : Int32) + nI (3 * w 19) = nI (20 + 3 * w 19) := nI_add 20 _
  have e2 : nI (20 + 3 * w 19) + 1 = nI (20 + 3 * w 19 + 1) := nI_1 _
  have e3 : nI (20 + 3 * w 19) + 2 = nI (20 + 3 * w 19 + 2) := nI_add _ 2
  have b1 : inb (nI (20 + 3 * w 19)) 381 = true := inb_nI (by omega) (by omega)
  have b2 : inb (nI (20 + 3 * w 19 + 1)) 381 = true := inb_nI (by omega) (by omega)
  have b3 : inb (nI (20 + 3 * w 19 + 2)) 381 = true := inb_nI (by omega) (by omega)
  have k1 : (nI (20 + 3 * w 19)).toNatClampNeg = 20 + 3 * w 19 := nI_clamp (by omega)
  have k2 : (nI (20 + 3 * w 19 + 1)).toNatClampNeg = 20 + 3 * w 19 + 1 := nI_clamp (by omega)
  have k3 : (nI (20 + 3 * w 19 + 2)).toNatClampNeg = 20 + 3 * w 19 + 2 := nI_clamp (by omega)
  have a0 : up1 w (20 + 3 * w 19) (w 7) 0 = w 0 := up1_o _ _ (by omega)
  have a19 : up1 (up1 (up1 w (20 + 3 * w 19) (w 7)) (20 + 3 * w 19 + 1) (w 0)) (20 + 3 * w 19 + 2) tk 19 = w 19 := by rw [up1_o _ _ (by omega), up1_o _ _ (by omega), up1_o _ _ (by omega)]
  have a00 : up1 (up1 (up1 (up1 w (20 + 3 * w 19) (w 7)) (20 + 3 * w 19 + 1) (w 0)) (20 + 3 * w 19 + 2) tk) 19 (w 19 + 1) 0 = w 0 := by rw [up1_o _ _ (by omega), up1_o _ _ (by omega), up1_o _ _ (by omega), up1_o _ _ (by omega)]
  have a5 : up1 (up1 (up1 (up1 (up1 w (20 + 3 * w 19) (w 7)) (20 + 3 * w 19 + 1) (w 0)) (20 + 3 * w 19 + 2) tk) 19 (w 19 + 1)) 0 (w 0 - tk) 5 = w 5 := by rw [up1_o _ _ (by omega), up1_o _ _ (by omega), up1_o _ _ (by omega), up1_o _ _ (by omega), up1_o _ _ (by omega)]
  have a3 : up1 (up1 (up1 (up1 (up1 (up1 w (20 + 3 * w 19) (w 7)) (20 + 3 * w 19 + 1) (w 0)) (20 + 3 * w 19 + 2) tk) 19 (w 19 + 1)) 0 (w 0 - tk)) 5 (w 5 + 1) 3 = w 3 := by rw [up1_o _ _ (by omega), up1_o _ _ (by omega), up1_o _ _ (by omega), up1_o _ _ (by omega), up1_o _ _ (by omega), up1_o _ _ (by omega)]
  have a2 : up1 (up1 (up1 (up1 (up1 (up1 w (20 + 3 * w 19) (w 7)) (20 + 3 * w 19 + 1) (w 0)) (20 + 3 * w 19 + 2) tk) 19 (w 19 + 1)) 0 (w 0 - tk)) 5 (w 5 + 1) 2 = w 2 := by rw [up1_o _ _ (by omega), up1_o _ _ (by omega), up1_o _ _ (by omega), up1_o _ _ (by omega), up1_o _ _ (by omega), up1_o _ _ (by omega)]
  have sb : nI (w 0) - nI tk = nI (w 0 - tk) := pk_sub ht
  rw [tX12_weavesOne]
  unfold wvM
  by_cases c : w 3 = 0
  · simp only [oB_some, dR_some, cond_true, cond_false, if_true, if_false, Bool.true_and, Bool.and_true, Nat.beq_refl, RN_K, RN_E, w1, T, L1, L2, iaK20, ib0, ib2, ib3, ib5, ib7, ib19, tc0, tc2, tc3, tc5, tc7, tc19, RN_a, RN_w, e0, e1, e2, e3, b1, b2, b3, k1, k2, k3, a0, a19, a00, a5, a3, a2, sb, nI_1, c, nI_0]
  · have q : ¬ nI (w 3) = 0 := nI_nz (by omega) (by omega)
    simp only [oB_some, dR_some, cond_true, cond_false, if_true, if_false, Bool.true_and, Bool.and_true, Nat.beq_refl, RN_K, RN_E, w1, T, L1, L2, iaK20, ib0, ib2, ib3, ib5, ib7, ib19, tc0, tc2, tc3, tc5, tc7, tc19, RN_a, RN_w, e0, e1, e2, e3, b1, b2, b3, k1, k2, k3, a0, a19, a00, a5, a3, a2, sb, nI_1, c, q]
theorem wvM_s {w : Nat → Nat} {tk k : Nat} (h19 : w 19 < 60) (hk : k < 20 ∨ 200 ≤ k) (h0 : k ≠ 0) (h2 : k ≠ 2) (h5 : k ≠ 5) (h9 : k ≠ 19) : wvM w tk k = w k := by
  unfold wvM
  by_cases c : w 3 = 0
  · rw [if_pos c, up1_o _ _ h2, up1_o _ _ h5, up1_o _ _ h0, up1_o _ _ h9, up1_o _ _ (by omega), up1_o _ _ (by omega), up1_o _ _ (by omega)]
  · rw [if_neg c, up1_o _ _ h5, up1_o _ _ h0, up1_o _ _ h9, up1_o _ _ (by omega), up1_o _ _ (by omega), up1_o _ _ (by omega)]
theorem wvM_0 {w : Nat → Nat} {tk : Nat} : wvM w tk 0 = w 0 - tk := by
  unfold wvM
  by_cases c : w 3 = 0
  · rw [if_pos c, up1_o _ _ (by decide), up1_o _ _ (by decide), up1_s]
  · rw [if_neg c, up1_o _ _ (by decide), up1_s]
theorem wvM_2 {w : Nat → Nat} {tk : Nat} (h19 : w 19 < 60) : wvM w tk 2 = if w 3 = 0 then w 2 + 1 else w 2 := by
  unfold wvM
  by_cases c : w 3 = 0
  · rw [if_pos c, if_pos c, up1_s]
  · rw [if_neg c, if_neg c, up1_o _ _ (by decide), up1_o _ _ (by decide), up1_o _ _ (by decide), up1_o _ _ (by omega), up1_o _ _ (by omega), up1_o _ _ (by omega)]
theorem goWeek_w {h h' : Hp} {o tk : Nat} {r d b w : Nat → Nat} {dc bc : Nat} (w1 : hK h 147 = 12) (W : MW h' r d b dc bc) (L : RLo h' o) (T : FX12_takes_ [vR (some 147), vR (some o)] (RN h o w) = some (rI (nI tk), RN h' o w)) (h19 : w 19 < 60) (ht : tk ≤ w 0) (h0 : ∀ k, k ≤ 4 → w k < 2 ^ 29) (h200 : w 200 ≤ 60) :
    FX12_goWeek [vR (some 147), vR (some o), vI 1] (RN h o w) = some (rV, RN h' o (wkM (wvM w tk) r 1)) := by
  have h00 := h0 0 (by omega)
  have h01 := h0 1 (by omega)
  have h02 := h0 2 (by omega)
  have h03 := h0 3 (by omega)
  have v := weaves_m w1 L T h19 ht (by omega)
  have e := gw_e (w := wvM w tk) (dd := 1) (o3 := none) W L (by omega) (by rw [wvM_0]; omega) (by rw [wvM_s h19 (by omega) (by decide) (by decide) (by decide) (by decide)]; omega) (by rw [wvM_2 h19]; by_cases c : w 3 = 0 <;> simp only [c, if_true, if_false] <;> omega) (by rw [wvM_s h19 (by omega) (by decide) (by decide) (by decide) (by decide)]; exact h200)
  rw [show nI 1 = 1 from rfl] at e
  rw [tX12_goWeek]
  simp only [oB_some, dR_some, cond_true, cond_false, if_true, if_false, Bool.true_and, Bool.and_true, Nat.beq_refl, show ¬ (1 : Int32) = 0 by decide, show ¬ (1 : Int32) = 2 by decide, RN_K, w1, v]
  exact e
/-- may a week pass so, in the reference's row -/
def canM (w : Nat → Nat) (dd tk : Nat) : Prop := (dd = 1 → w 1 = 0 ∧ w 19 < 60 ∧ tk < w 0) ∧ (dd = 3 → w 1 = 0)
theorem canWeave_m {h h' : Hp} {o tk : Nat} {w : Nat → Nat} (w1 : hK h 147 = 12) (L : RLo h o) (T : FX12_takes_ [vR (some 147), vR (some o)] (RN h o w) = some (rI (nI tk), h')) (h0 : ∀ k, k ≤ 19 → w k < 2 ^ 29) (ht : tk ≤ 60) :
    (canM w 1 tk → FX12_canWeave [vR (some 147), vR (some o)] (RN h o w) = some (rI 1, h')) ∧ (¬ canM w 1 tk → ∃ h2, FX12_canWeave [vR (some 147), vR (some o)] (RN h o w) = some (rI 0, h2) ∧ (h2 = h' ∨ h2 = RN h o w)) := by
  obtain ⟨L1, L2, _⟩ := L
  have h00 := h0 0 (by omega)
  have h01 := h0 1 (by omega)
  have h19 := h0 19 (by omega)
  have q19 : ((60 : Int32) ≤ nI (w 19)) = (60 ≤ w 19) := nI_nle' (a := 60) (by omega) (by omega)
  have q0 : (nI (w 0) ≤ nI tk) = (w 0 ≤ tk) := nI_nle' (by omega) (by omega)
  rw [tX12_canWeave]
  refine ⟨fun C => ?_, fun C => ?_⟩
  · obtain ⟨c1, c2, c3⟩ := C.1 rfl
    simp only [oB_some, dR_some, cond_true, cond_false, if_true, if_false, Bool.true_and, Bool.and_true, Nat.beq_refl, RN_K, RN_E, L1, L2, w1, iaK20, ib1, tc1, ib19, tc19, ib0, tc0, RN_a, c1, nI_0, q19, show ¬ 60 ≤ w 19 by omega, T, q0, show ¬ w 0 ≤ tk by omega, isZ1]
  · unfold canM at C
    by_cases c1 : w 1 = 0
    · by_cases c2 : 60 ≤ w 19
      · refine ⟨_, ?_, Or.inr rfl⟩
        simp only [oB_some, dR_some, cond_true, cond_false, if_true, if_false, Bool.true_and, Bool.and_true, Nat.beq_refl, RN_K, RN_E, L1, L2, w1, iaK20, ib1, tc1, ib19, tc19, RN_a, c1, nI_0, q19, c2, isZ0]
      · have c3 : w 0 ≤ tk := by
          apply Nat.le_of_not_lt
          intro z
          exact C ⟨fun _ => ⟨c1, by omega, z⟩, fun z => by omega⟩
        refine ⟨h', ?_, Or.inl rfl⟩
        simp only [oB_some, dR_some, cond_true, cond_false, if_true, if_false, Bool.true_and, Bool.and_true, Nat.beq_refl, RN_K, RN_E, L1, L2, w1, iaK20, ib1, tc1, ib19, tc19, ib0, tc0, RN_a, c1, nI_0, q19, c2, T, q0, c3, isZ0]
    · have q1 : ¬ nI (w 1) = 0 := nI_nz (by omega) (by omega)
      refine ⟨_, ?_, Or.inr rfl⟩
      simp only [oB_some, dR_some, cond_true, cond_false, if_true, if_false, Bool.true_and, Bool.and_true, Nat.beq_refl, RN_K, RN_E, L1, L2, iaK20, ib1, tc1, RN_a, q1, isZ0]
theorem canDo_m {h h' : Hp} {o tk dd : Nat} {w : Nat → Nat} (w1 : hK h 147 = 12) (L : RLo h o) (hd : dd ≤ 3) (T : FX12_takes_ [vR (some 147), vR (some o)] (RN h o w) = some (rI (nI tk), h')) (h0 : ∀ k, k ≤ 19 → w k < 2 ^ 29) (ht : tk ≤ 60) :
    (canM w dd tk → ∃ h2, FX12_canDo [vR (some 147), vR (some o), vI (nI dd)] (RN h o w) = some (rI 1, h2) ∧ (h2 = h' ∨ h2 = RN h o w)) ∧ (¬ canM w dd tk → ∃ h2, FX12_canDo [vR (some 147), vR (some o), vI (nI dd)] (RN h o w) = some (rI 0, h2) ∧ (h2 = h' ∨ h2 = RN h o w)) := by
  have cw := canWeave_m w1 L T h0 ht
  obtain ⟨L1, L2, _⟩ := L
  have h01 := h0 1 (by omega)
  rw [tX12_canDo]
  rcases (show dd = 0 ∨ dd = 1 ∨ dd = 2 ∨ dd = 3 by omega) with e | e | e | e <;> subst e
  · refine ⟨fun _ => ⟨_, ?_, Or.inr rfl⟩, fun C => absurd ⟨fun z => by omega, fun z => by omega⟩ C⟩
    simp only [oB_some, dR_some, cond_true, cond_false, if_true, if_false, Bool.true_and, Bool.and_true, Nat.beq_refl, show ¬ nI 0 = 1 by decide, show ¬ nI 0 = 3 by decide, isZ1]
  · refine ⟨fun C => ⟨h', ?_, Or.inl rfl⟩, fun C => ?_⟩
    · simp only [oB_some, dR_some, cond_true, cond_false, if_true, if_false, Bool.true_and, Bool.and_true, Nat.beq_refl, show nI 1 = 1 from rfl, RN_K, w1, cw.1 C, isZ1]
    · obtain ⟨h2, e, z⟩ := cw.2 C
      refine ⟨h2, ?_, z⟩
      simp only [oB_some, dR_some, cond_true, cond_false, if_true, if_false, Bool.true_and, Bool.and_true, Nat.beq_refl, show nI 1 = 1 from rfl, RN_K, w1, e, isZ0]
  · refine ⟨fun _ => ⟨_, ?_, Or.inr rfl⟩, fun C => absurd ⟨fun z => by omega, fun z => by omega⟩ C⟩
    simp only [oB_some, dR_some, cond_true, cond_false, if_true, if_false, Bool.true_and, Bool.and_true, Nat.beq_refl, show ¬ nI 2 = 1 by decide, show ¬ nI 2 = 3 by decide, isZ1]
  · refine ⟨fun C => ⟨_, ?_, Or.inr rfl⟩, fun C => ⟨_, ?_, Or.inr rfl⟩⟩
    · have c1 := C.2 rfl
      simp only [oB_some, dR_some, cond_true, cond_false, if_true, if_false, Bool.true_and, Bool.and_true, Nat.beq_refl, show ¬ (3 : Int32) = 1 by decide, show nI 3 = 3 from rfl, RN_K, RN_E, L1, L2, iaK20, ib1, tc1, RN_a, c1, nI_0, isZ1]
    · have c1 : ¬ w 1 = 0 := fun z => C ⟨fun z => by omega, fun _ => z⟩
      have q1 : ¬ nI (w 1) = 0 := nI_nz (by omega) (by omega)
      simp only [oB_some, dR_some, cond_true, cond_false, if_true, if_false, Bool.true_and, Bool.and_true, Nat.beq_refl, show ¬ (3 : Int32) = 1 by decide, show nI 3 = 3 from rfl, RN_K, RN_E, L1, L2, iaK20, ib1, tc1, RN_a, q1, isZ0]
