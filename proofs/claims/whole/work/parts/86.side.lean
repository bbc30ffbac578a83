/-! ===== PURE: lives apart: a week, copies; stands, bears ===== -/
def SVb (N : Nat) (v u : Nat → Nat) : Prop := v 0 ≤ 60 ∧ v 1 ≤ 1 ∧ v 2 ≤ 9 + v 10 ∧ v 3 ≤ 1 ∧ v 4 ≤ 9999 ∧ 3 * v 5 + v 6 ≤ 3 * v 10 ∧ v 7 < 64 ∧ v 9 ≤ N ∧ v 10 ≤ 60 ∧ v 11 ≤ 999 ∧ v 12 ≤ 60 ∧ ∀ i, i < 5 → u i ≤ 60
theorem sv_bv {v u : Nat → Nat} (B : BV v u) : SVb 999 v u := by
  obtain ⟨b0, b1, b2, b3, b4, b5, b7, b9, b10, b11, b12, bu⟩ := B
  exact ⟨b0, b1, b2.1, b3, b4, b5, b7, b9, b10, by omega, b12, bu⟩
theorem sv_mono {N N' : Nat} {v u : Nat → Nat} (B : SVb N v u) (h : N ≤ N') : SVb N' v u := by
  obtain ⟨b0, b1, b2, b3, b4, b5, b7, b9, b10, b11, b12, bu⟩ := B
  exact ⟨b0, b1, b2, b3, b4, b5, b7, by omega, b10, b11, b12, bu⟩
theorem sv_bound {N : Nat} {v u : Nat → Nat} (B : SVb N v u) (hN : N ≤ 5000) : ∀ k, k ≤ 12 → k ≠ 8 → v k < 2 ^ 29 := by
  obtain ⟨b0, b1, b2, b3, b4, b5, b7, b9, b10, b11, b12, bu⟩ := B
  intro k hk h8
  rcases (show k = 0 ∨ k = 1 ∨ k = 2 ∨ k = 3 ∨ k = 4 ∨ k = 5 ∨ k = 6 ∨ k = 7 ∨ k = 9 ∨ k = 10 ∨ k = 11 ∨ k = 12 by omega) with e | e | e | e | e | e | e | e | e | e | e | e <;> subst e <;> omega
theorem sv_mr {N : Nat} {v u w : Nat → Nat} (B : SVb N v u) (hN : N ≤ 5000) (M : MR v u w) : ∀ k, k ≤ 19 → w k < 2 ^ 29 := by
  have bb := sv_bound B hN
  have bu := B.2.2.2.2.2.2.2.2.2.2.2
  obtain ⟨m1, m2, m3, m4, m5⟩ := M
  intro k hk
  by_cases c6 : k ≤ 6
  · rw [m1 k c6]; exact bb k (by omega) (by omega)
  by_cases c7 : k = 7
  · subst c7; rw [m2]; exact bb 9 (by omega) (by omega)
  by_cases c13 : k ≤ 13
  · have := m3 (k - 8) (by omega)
    rw [show 8 + (k - 8) = k by omega] at this
    rw [this]; omega
  by_cases c18 : k ≤ 18
  · have := m4 (k - 14) (by omega)
    rw [show 14 + (k - 14) = k by omega] at this
    have b := bu (k - 14) (by omega)
    rw [this]; omega
  · have : k = 19 := by omega
    subst this; rw [m5]; exact bb 10 (by omega) (by omega)
theorem sv_day {lw : Option ((Nat → Int32) × Nat)} {r d b v u : Nat → Nat} {dd N : Nat} (B : SVb N v u) (H : BH r d b) (C : canW v dd (TK lw r (v 0) (v 2) (v 10) (v 9) (v 4))) : SVb (N + 1) (dayV lw r v dd) u := by
  obtain ⟨b0, b1, b2, b3, b4, b5, b7, b9, b10, b11, b12, bu⟩ := B
  obtain ⟨r0, r1, r1', r2, r3, r3', _⟩ := H
  have ht := TK_le (lw := lw) (r := r) (by omega) (v 0) (v 2) (v 10) (v 9) (v 4)
  have key : ∀ V : Nat → Nat, V 0 ≤ 60 → V 1 ≤ 1 → V 2 ≤ 9 + V 10 → V 3 ≤ 1 → V 4 ≤ 9999 → 3 * V 5 + V 6 ≤ 3 * V 10 → V 7 < 64 → V 9 = v 9 → V 10 ≤ 60 → V 11 ≤ 999 → V 12 ≤ 60 → SVb (N + 1) (wkE V r dd) u := by
    intro V k0 k1 k2 k3 k4 k5 k7 k9 k10 k11 k12
    have o : ∀ k, k ≠ 0 → k ≠ 1 → k ≠ 9 → wkE V r dd k = V k := fun k a b c => wkE_o a b c
    refine ⟨wkE_0 k0 r1', wkE_1 k1, ?_, ?_, ?_, ?_, ?_, ?_, ?_, ?_, ?_, bu⟩
    · rw [o 2 (by decide) (by decide) (by decide), o 10 (by decide) (by decide) (by decide)]; exact k2
    · rw [o 3 (by decide) (by decide) (by decide)]; exact k3
    · rw [o 4 (by decide) (by decide) (by decide)]; exact k4
    · rw [o 5 (by decide) (by decide) (by decide), o 6 (by decide) (by decide) (by decide), o 10 (by decide) (by decide) (by decide)]; exact k5
    · rw [o 7 (by decide) (by decide) (by decide)]; exact k7
    · rw [wkE_9]; omega
    · rw [o 10 (by decide) (by decide) (by decide)]; exact k10
    · rw [o 11 (by decide) (by decide) (by decide)]; exact k11
    · rw [o 12 (by decide) (by decide) (by decide)]; exact k12
  unfold dayV
  by_cases c1 : dd = 1
  · obtain ⟨c2, c3, c4⟩ := C.1 c1
    rw [if_pos c1]
    refine key _ ?_ ?_ ?_ ?_ ?_ ?_ ?_ ?_ ?_ ?_ ?_
    · rw [bolt_0]; omega
    · rw [bolt_o (by decide) (by decide) (by decide) (by decide) (by decide)]; exact b1
    · rw [bolt_2, bolt_10]; by_cases c : v 3 = 0 <;> simp only [c, if_true, if_false] <;> omega
    · rw [bolt_o (by decide) (by decide) (by decide) (by decide) (by decide)]; exact b3
    · rw [bolt_o (by decide) (by decide) (by decide) (by decide) (by decide)]; exact b4
    · rw [bolt_5, bolt_10, bolt_o (by decide) (by decide) (by decide) (by decide) (by decide)]; omega
    · rw [bolt_o (by decide) (by decide) (by decide) (by decide) (by decide)]; exact b7
    · rw [bolt_o (by decide) (by decide) (by decide) (by decide) (by decide)]
    · rw [bolt_10]; omega
    · rw [bolt_o (by decide) (by decide) (by decide) (by decide) (by decide)]; exact b11
    · rw [bolt_12]; exact ht
  · rw [if_neg c1]
    have q2 := deed_2 (v := v) (r := r) (dd := dd)
    refine key _ ?_ ?_ ?_ ?_ ?_ ?_ ?_ ?_ ?_ ?_ ?_
    · rw [deed_o (by decide) (by decide)]; exact b0
    · rw [deed_o (by decide) (by decide)]; exact b1
    · rw [deed_o (k := 10) (by decide) (by decide)]; omega
    · rw [deed_o (by decide) (by decide)]; exact b3
    · exact deed_4 b4
    · rw [deed_o (by decide) (by decide), deed_o (by decide) (by decide), deed_o (by decide) (by decide)]; exact b5
    · rw [deed_o (by decide) (by decide)]; exact b7
    · rw [deed_o (by decide) (by decide)]
    · rw [deed_o (by decide) (by decide)]; exact b10
    · rw [deed_o (by decide) (by decide)]; exact b11
    · rw [deed_o (by decide) (by decide)]; exact b12
theorem mr_dayS {lw : Option ((Nat → Int32) × Nat)} {r v u w : Nat → Nat} {dd : Nat} (M : MR v u w) (C : canW v dd (TK lw r (v 0) (v 2) (v 10) (v 9) (v 4))) : MR (dayV lw r v dd) u (dayM lw r w dd) := by
  have tkE : TK lw r (w 0) (w 2) (w 19) (w 7) (w 4) = TK lw r (v 0) (v 2) (v 10) (v 9) (v 4) := by rw [M.1 0 (by omega), M.1 2 (by omega), M.2.2.2.2, M.2.1, M.1 4 (by omega)]
  unfold dayV dayM
  by_cases c : dd = 1
  · rw [if_pos c, if_pos c, tkE]
    exact mr_end (mr_bolt M (C.1 c).2.1)
  · rw [if_neg c, if_neg c]
    exact mr_end (mr_deed M)
theorem lgW_200 {w : Nat → Nat} {dd : Nat} (h : w 200 ≤ 60) : lgW w dd 200 ≤ 60 := by
  have a : ∀ f : Nat → Nat, lgP f dd 200 = f 200 + 1 := fun f => by unfold lgP; rw [up1_s]
  unfold lgW
  by_cases c : w 200 = 60
  · rw [if_pos c, a, show shF w 200 = 59 by unfold shF; rw [up1_s]]; omega
  · rw [if_neg c, a]; omega
theorem dayM_200 {lw : Option ((Nat → Int32) × Nat)} {r w : Nat → Nat} {dd : Nat} (h : w 200 ≤ 60) (h19 : dd = 1 → w 19 < 60) : dayM lw r w dd 200 ≤ 60 := by
  unfold dayM
  by_cases c : dd = 1
  · rw [if_pos c]
    unfold wkM
    refine lgW_200 ?_
    rw [up1_o _ _ (by decide), growV_o (by decide) (by decide), wvM_s (h19 c) (by omega) (by decide) (by decide) (by decide) (by decide)]; exact h
  · rw [if_neg c]
    unfold wkM
    refine lgW_200 ?_
    rw [up1_o _ _ (by decide), growV_o (by decide) (by decide), deed_o (by decide) (by decide)]; exact h
/-- a week of a life apart -/
theorem pass_s {h : Hp} {s : Nat} {r d b : Nat → Nat} {dc bc : Nat} {lw : Option ((Nat → Int32) × Nat)} {V U : Nat → Nat} {a dd N : Nat} (I : STc h s r d b dc bc lw) (L : LL h a s) (ha : a < 147) (e1 : hI h a = nR V) (e2 : hI h (a + 1) = nR U) (B : SVb N V U) (hN : N ≤ 5000) (hd : dd ≤ 3) :
    (canW V dd (TK lw r (V 0) (V 2) (V 10) (V 9) (V 4)) → ∃ h', FX10_passWeek [vR (some 3), vR (some a), vI (nI dd)] h = some (rI 1, h') ∧ Only h h' [8, 9, a, a + 1] ∧ hI h' a = nR (dayV lw r V dd) ∧ hI h' (a + 1) = nR U) ∧
    (¬ canW V dd (TK lw r (V 0) (V 2) (V 10) (V 9) (V 4)) → ∃ h', FX10_passWeek [vR (some 3), vR (some a), vI (nI dd)] h = some (rI 0, h') ∧ Only h h' [8, 9]) := by
  obtain ⟨⟨C, P, D, _, _, RL⟩, ⟨j1, j2, W, M, j5, j6, j7⟩⟩ := I
  have hv := sv_bound B hN
  have self : LN h a V U = h := LN_self e1 e2
  have ht := TK_le (lw := lw) (W.2.2.2.2.2.2.2.1 3) (V 0) (V 2) (V 10) (V 9) (V 4)
  by_cases c1 : dd = 1
  · subst c1
    obtain ⟨h2, T, O2⟩ := takes_c (v := V) (u := U) W M L (by omega) ha C.2.2.2.2.2.1 C.2.2.2.2.2.2 j7
    have W2 := wh_fr W O2 (by simp; omega) (by simp; omega) (by simp; omega) (by simp; omega)
    have L2 := ll_fr L O2
    have pw := pass_w W.1.1 W2 L2 hv ht T
    rw [self] at pw
    refine ⟨fun c => ?_, fun c => ?_⟩
    · have p1 := pw.1 c
      refine ⟨_, p1, (O2.mono (fun x hx => by simp at hx ⊢; omega)).trans (only_LN _ _ _ (by simp) (by simp)), ?_, ?_⟩
      · rw [LN_ra]; unfold dayV; rw [if_pos rfl]
      · rw [LN_rs]
    · have p1 := pw.2 c
      have z : LN h2 a V U = h2 := LN_self (by rw [O2.I (by have := L.2.2.2.2; simp; omega)]; exact e1) (by rw [O2.I (by have := L.2.2.2.2; simp; omega)]; exact e2)
      rw [z] at p1
      exact ⟨h2, p1, O2⟩
  · have pc := pass_c (v := V) (u := U) W L hd c1 hv
    rw [self] at pc
    have eq : canW V dd (TK lw r (V 0) (V 2) (V 10) (V 9) (V 4)) ↔ canW V dd 0 := by
      unfold canW
      exact ⟨fun z => ⟨fun q => absurd q c1, z.2⟩, fun z => ⟨fun q => absurd q c1, z.2⟩⟩
    refine ⟨fun c => ?_, fun c => ?_⟩
    · refine ⟨_, pc.1 (eq.mp c), only_LN _ _ _ (by simp) (by simp), ?_, ?_⟩
      · rw [LN_ra]; unfold dayV; rw [if_neg c1]
      · rw [LN_rs]
    · exact ⟨h, pc.2 (fun q => c (eq.mpr q)), Only.refl _ _⟩
/-- which weeks a row apart may have -/
theorem can_s {h : Hp} {s : Nat} {r d b : Nat → Nat} {dc bc : Nat} {lw : Option ((Nat → Int32) × Nat)} {V U ww : Nat → Nat} {o dd N : Nat} (J : STc h s r d b dc bc lw) (L : RLo h o) (ho : 160 ≤ o ∧ o < 172) (e : hI h o = nR ww) (M' : MR V U ww) (B : SVb N V U) (hN : N ≤ 5000) (hd : dd ≤ 3) :
    (canW V dd (TK lw r (V 0) (V 2) (V 10) (V 9) (V 4)) → ∃ h2, FX12_canDo [vR (some 147), vR (some o), vI (nI dd)] h = some (rI 1, h2) ∧ Mo h h2) ∧ (¬ canW V dd (TK lw r (V 0) (V 2) (V 10) (V 9) (V 4)) → ∃ h2, FX12_canDo [vR (some 147), vR (some o), vI (nI dd)] h = some (rI 0, h2) ∧ Mo h h2) := by
  obtain ⟨_, ⟨j1, j2, W, M, j5, j6, j7⟩⟩ := J
  have self : RN h o ww = h := RN_self e
  have hw := sv_mr B hN M'
  have tkE : TK lw r (ww 0) (ww 2) (ww 19) (ww 7) (ww 4) = TK lw r (V 0) (V 2) (V 10) (V 9) (V 4) := by rw [M'.1 0 (by omega), M'.1 2 (by omega), M'.2.2.2.2, M'.2.1, M'.1 4 (by omega)]
  obtain ⟨h', T, mo⟩ := takes_m (w := ww) M L ho j7
  have ht := TK_le (lw := lw) (M.2.2.2.2.2.2.2.2.2.1 3) (ww 0) (ww 2) (ww 19) (ww 7) (ww 4)
  have c := canDo_m (dd := dd) M.1 L hd T hw ht
  rw [self] at c mo
  rw [tkE] at c
  refine ⟨fun C => ?_, fun C => ?_⟩
  · obtain ⟨h2, e2, z⟩ := c.1 ((mr_can M').mpr C)
    refine ⟨h2, e2, ?_⟩
    rcases z with z | z
    · rw [z]; exact mo
    · rw [z]; exact Mo.refl _
  · obtain ⟨h2, e2, z⟩ := c.2 (fun q => C ((mr_can M').mp q))
    refine ⟨h2, e2, ?_⟩
    rcases z with z | z
    · rw [z]; exact mo
    · rw [z]; exact Mo.refl _
theorem canWv_s {h : Hp} {s : Nat} {r d b : Nat → Nat} {dc bc : Nat} {lw : Option ((Nat → Int32) × Nat)} {V U ww : Nat → Nat} {o N : Nat} (J : STc h s r d b dc bc lw) (L : RLo h o) (ho : 160 ≤ o ∧ o < 172) (e : hI h o = nR ww) (M' : MR V U ww) (B : SVb N V U) (hN : N ≤ 5000) :
    (canW V 1 (TK lw r (V 0) (V 2) (V 10) (V 9) (V 4)) → ∃ h2, FX12_canWeave [vR (some 147), vR (some o)] h = some (rI 1, h2) ∧ Mo h h2) ∧ (¬ canW V 1 (TK lw r (V 0) (V 2) (V 10) (V 9) (V 4)) → ∃ h2, FX12_canWeave [vR (some 147), vR (some o)] h = some (rI 0, h2) ∧ Mo h h2) := by
  obtain ⟨_, ⟨j1, j2, W, M, j5, j6, j7⟩⟩ := J
  have self : RN h o ww = h := RN_self e
  have hw := sv_mr B hN M'
  have tkE : TK lw r (ww 0) (ww 2) (ww 19) (ww 7) (ww 4) = TK lw r (V 0) (V 2) (V 10) (V 9) (V 4) := by rw [M'.1 0 (by omega), M'.1 2 (by omega), M'.2.2.2.2, M'.2.1, M'.1 4 (by omega)]
  obtain ⟨h', T, mo⟩ := takes_m (w := ww) M L ho j7
  have ht := TK_le (lw := lw) (M.2.2.2.2.2.2.2.2.2.1 3) (ww 0) (ww 2) (ww 19) (ww 7) (ww 4)
  have c := canWeave_m M.1 L T hw ht
  rw [self] at c mo
  rw [tkE] at c
  refine ⟨fun C => ⟨h', c.1 ((mr_can M').mpr C), mo⟩, fun C => ?_⟩
  obtain ⟨h2, e2, z⟩ := c.2 (fun q => C ((mr_can M').mp q))
  refine ⟨h2, e2, ?_⟩
  rcases z with z | z
  · rw [z]; exact mo
  · rw [z]; exact Mo.refl _
theorem week_s {h : Hp} {s : Nat} {r d b : Nat → Nat} {dc bc : Nat} {lw : Option ((Nat → Int32) × Nat)} {V U ww : Nat → Nat} {o dd N : Nat} (J : STc h s r d b dc bc lw) (L : RLo h o) (ho : 160 ≤ o ∧ o < 172) (e : hI h o = nR ww) (M' : MR V U ww) (B : SVb N V U) (hN : N ≤ 5000) (hd : dd ≤ 3) (h200 : ww 200 ≤ 60) (C : canW V dd (TK lw r (V 0) (V 2) (V 10) (V 9) (V 4))) :
    ∃ h' ww', FX12_goWeek [vR (some 147), vR (some o), vI (nI dd)] h = some (rV, h') ∧ hI h' o = nR ww' ∧ Mq h h' [o] [] ∧ MR (dayV lw r V dd) U ww' ∧ ww' 200 ≤ 60 := by
  obtain ⟨_, ⟨j1, j2, W, M, j5, j6, j7⟩⟩ := J
  have tkE : TK lw r (ww 0) (ww 2) (ww 19) (ww 7) (ww 4) = TK lw r (V 0) (V 2) (V 10) (V 9) (V 4) := by rw [M'.1 0 (by omega), M'.1 2 (by omega), M'.2.2.2.2, M'.2.1, M'.1 4 (by omega)]
  obtain ⟨h', e1, e2, q⟩ := day_m (dd := dd) M L ho j7 e hd (sv_mr B hN M') h200 (by rw [tkE]; exact (mr_can M').mpr C)
  exact ⟨h', dayM lw r ww dd, e1, e2, q, mr_dayS M' C, dayM_200 h200 (fun c => by rw [M'.2.2.2.2]; exact (C.1 c).2.1)⟩
/-! copies of rows -/
def cpW (w f : Nat → Nat) (i : Nat) : Nat → Nat := fun k => if k < i then w k else f k
theorem cpW_s (w f : Nat → Nat) (i : Nat) : up1 (cpW w f i) i (w i) = cpW w f (i + 1) := by
  funext k
  unfold up1 cpW
  by_cases e : k = i
  · subst e; simp
  · by_cases c : k < i
    · simp [e, c, show k < i + 1 by omega]
    · simp [e, c, show ¬ k < i + 1 by omega]
theorem copy_14 {h : Hp} {o1 o2 : Nat} {w f : Nat → Nat} (L1 : RLo h o1) (L2 : RLo h o2) (ne : o1 ≠ o2) (e : hI h o1 = nR w) {n : Nat} (hn : n ≤ 381) : ∀ k i, i + k = n → Run kX12_copy 14 [some (vR (some o1)), some (vR (some o2)), some (vI (nI n)), some (vI (nI i))] [] (RN h o2 (cpW w f i)) = some (rV, RN h o2 (cpW w f n)) := by
  intro k
  induction k with
  | zero =>
    intro i ei
    have c : nI n ≤ nI i := nI_le (by omega) (by omega)
    rw [tX12_copy_14]; simp only [c, if_true]
    rw [show i = n by omega]
  | succ k ih =>
    intro i ei
    have c : ¬ nI n ≤ nI i := nI_ge (by omega) (by omega)
    have b : inb (nI i) 381 = true := inb_nI (by omega) (by omega)
    have cl : (nI i).toNatClampNeg = i := nI_clamp (by omega)
    have wi : hI (RN h o2 (cpW w f i)) o1 i = nI (w i) := by rw [RN_o _ _ ne, e]; rfl
    rw [tX12_copy_14]
    simp only [oB_some, dR_some, cond_true, cond_false, if_true, if_false, Bool.true_and, Bool.and_true, Nat.beq_refl, c, RN_K, RN_E, L1.1, L1.2.1, L2.1, L2.2.1, iaK20, b, cl, wi, RN_w, cpW_s, nI_1]
    exact ih (i + 1) (by omega)
theorem copy_m {h : Hp} {o1 o2 : Nat} {w : Nat → Nat} (L1 : RLo h o1) (L2 : RLo h o2) (ne : o1 ≠ o2) (e : hI h o1 = nR w) (h200 : w 200 ≤ 60) : ∃ ww, FX12_copy [vR (some o1), vR (some o2)] h = some (rV, RN h o2 ww) ∧ ∀ k, k < 201 + 3 * w 200 → ww k = w k := by
  obtain ⟨f, hf, _⟩ := nR_all (hI h o2)
  refine ⟨cpW w f (201 + 3 * w 200), ?_, fun k hk => by unfold cpW; rw [if_pos hk]⟩
  have w2 : hI h o1 200 = nI (w 200) := by rw [e]; rfl
  have a := copy_14 (f := f) L1 L2 ne e (n := 201 + 3 * w 200) (by omega) (201 + 3 * w 200) 0 (by omega)
  rw [show cpW w f 0 = f from funext fun k => by unfold cpW; rw [if_neg (by omega)], RN_self hf] at a
  rw [tX12_copy]
  simp only [oB_some, dR_some, cond_true, cond_false, if_true, if_false, Bool.true_and, Bool.and_true, Nat.beq_refl, L1.1, L1.2.1, iaK20, ib200, tc200, w2]
  rw [show (201 : Int32) + 3 * nI (w 200) = nI (201 + 3 * w 200) by rw [show (3 : Int32) * nI (w 200) = nI (3 * w 200) from pk_mul 3 (w 200)]; exact nI_add 201 _]
  exact a
/-- the lives apart, where they lie -/
def LSd (h : Hp) : Prop := hR h 0 3 = some 12 ∧ LPl h 12 ∧ hR h 147 33 = some 161 ∧ RLo h 161
theorem ls_only {h h' : Hp} {l : List Nat} (S : LSd h) (O : Only h h' l) : LSd h' := by
  unfold LSd LPl RLo; rw [O.K, O.E, O.R]; exact S
theorem ls_mq {h h' : Hp} {l ks : List Nat} (S : LSd h) (Q : Mq h h' l ks) : LSd h' := by
  obtain ⟨_, _, a3, a4, _, a6, _⟩ := Q
  unfold LSd LPl RLo; rw [a3, a4, a6 0 3 (by omega), a6 12 8 (by omega), a6 147 33 (by omega)]; exact S
theorem ll_12 {h : Hp} {s : Nat} (S : LSd h) (hs : s = 4 ∨ s = 131) : LL h 12 s := ⟨S.2.1.1, S.2.1.2.1, S.2.1.2.2.1, S.2.1.2.2.2, by omega⟩
theorem mr_ext {v u w v' u' w' : Nat → Nat} (M : MR v u w) (e1 : ∀ k, k ≤ 12 → k ≠ 8 → v' k = v k) (e2 : ∀ k, k < 5 → u' k = u k) (e3 : ∀ k, k ≤ 19 → w' k = w k) : MR v' u' w' := by
  obtain ⟨m1, m2, m3, m4, m5⟩ := M
  refine ⟨fun k hk => ?_, ?_, fun i hi => ?_, fun i hi => ?_, ?_⟩
  · rw [e3 k (by omega), e1 k (by omega) (by omega)]; exact m1 k hk
  · rw [e3 7 (by omega), e1 9 (by omega) (by omega)]; exact m2
  · rw [e3 (8 + i) (by omega), e1 7 (by omega) (by omega)]; exact m3 i hi
  · rw [e3 (14 + i) (by omega), e2 i hi]; exact m4 i hi
  · rw [e3 19 (by omega), e1 10 (by omega) (by omega)]; exact m5
theorem sv_ext {N : Nat} {v u v' u' : Nat → Nat} (B : SVb N v u) (e1 : ∀ k, k ≤ 12 → k ≠ 8 → v' k = v k) (e2 : ∀ k, k < 5 → u' k = u k) : SVb N v' u' := by
  obtain ⟨b0, b1, b2, b3, b4, b5, b7, b9, b10, b11, b12, bu⟩ := B
  refine ⟨?_, ?_, ?_, ?_, ?_, ?_, ?_, ?_, ?_, ?_, ?_, fun i hi => ?_⟩
  · rw [e1 0 (by omega) (by omega)]; exact b0
  · rw [e1 1 (by omega) (by omega)]; exact b1
  · rw [e1 2 (by omega) (by omega), e1 10 (by omega) (by omega)]; exact b2
  · rw [e1 3 (by omega) (by omega)]; exact b3
  · rw [e1 4 (by omega) (by omega)]; exact b4
  · rw [e1 5 (by omega) (by omega), e1 6 (by omega) (by omega), e1 10 (by omega) (by omega)]; exact b5
  · rw [e1 7 (by omega) (by omega)]; exact b7
  · rw [e1 9 (by omega) (by omega)]; exact b9
  · rw [e1 10 (by omega) (by omega)]; exact b10
  · rw [e1 11 (by omega) (by omega)]; exact b11
  · rw [e1 12 (by omega) (by omega)]; exact b12
  · rw [e2 i hi]; exact bu i hi
/-- both lay a copy of now apart -/
theorem apart_c {h : Hp} {s : Nat} {r d b : Nat → Nat} {dc bc : Nat} {lw : Option ((Nat → Int32) × Nat)} {v u w lg bk z : Nat → Nat} {A x : Nat} (I : AINV h s r d b dc bc lw v u w lg bk z A x) (S : LSd h) : ∃ h' V U, FX4_copyFrom [vR (some 12), vR (some 10)] h = some (rV, h') ∧ Only h h' [12, 13] ∧ hI h' 12 = nR V ∧ hI h' 13 = nR U ∧ (∀ k, k ≤ 12 → k ≠ 8 → V k = v k) ∧ ∀ k, k < 5 → U k = u k := by
  have n0 := I.2.2.1.1
  have k2 := I.2.2.1.2.1
  obtain ⟨h', e, O, C1, C2⟩ := copy_g I.1.2.1.2.2 S.2.1 (by decide) (by decide) (by decide) (now_cla n0) k2.2.1 k2.2.2.2.1
  obtain ⟨V, hV, eV⟩ := row_rep C1
  obtain ⟨U, hU, eU⟩ := row_rep5 C2
  exact ⟨h', V, U, e, O, hV, hU, eV, eU⟩
theorem apart_m {h : Hp} {s : Nat} {r d b : Nat → Nat} {dc bc : Nat} {lw : Option ((Nat → Int32) × Nat)} {v u w lg bk z : Nat → Nat} {A x : Nat} (J : AINV h s r d b dc bc lw v u w lg bk z A x) (S : LSd h) : ∃ ww, FX12_copy [vR (some 160), vR (some 161)] h = some (rV, RN h 161 ww) ∧ ∀ k, k ≤ 200 → ww k = w k := by
  obtain ⟨ww, e, f⟩ := copy_m J.1.2.2.2.2.2 S.2.2.2 (by decide) J.2.2.1.2.2.1 (lb_200 J.2.2.1.2.2.2.2)
  exact ⟨ww, e, fun k hk => f k (by omega)⟩
