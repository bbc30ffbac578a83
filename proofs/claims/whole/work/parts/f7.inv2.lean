/-! ===== the invariant's parts under frames ===== -/
theorem lm_fn {PR PI : Nat → Nat → Prop} {h h' : Hp} {i n : Nat} {t : Nat → Int32} (F : FRSH h) (Y' : LAYO h') (E : FN PR PI h h') (M : LM (sI h 147 34 (nI i)) i n t) (n1 : ∀ j, j < 240 → ¬ PI 149 (240 * i + j)) (n2 : ¬ PI 150 i) : LM (sI h' 147 34 (nI i)) i n t := by
  obtain ⟨⟨y1, y1'⟩, _, _, ⟨y4, y4'⟩, y5, _, _, _⟩ := M
  obtain ⟨_, b2, b3, b4, _, _, b7, b8, _⟩ := Y'.2.2.2.2.2.2.2.2.2.2.2.2.2.2.2.2.2.2.2
  have PB := PRE_big
  rw [hI_oth _ _ _ _ _ (by decide)] at y4
  refine ⟨⟨hI_same _ _ _ _, y1'⟩, b2, b3, ⟨?_, y4'⟩, fun j hj => ?_, b4, ?_, ?_⟩
  · rw [hI_oth _ _ _ _ _ (by decide), E.I F (by omega) n2]; exact y4
  · have := y5 j hj
    rw [hI_oth _ _ _ _ _ (by decide)] at this
    rw [hI_oth _ _ _ _ _ (by decide), E.I F (by omega) (n1 j (by omega))]
    exact this
  · exact stl_fr b7 rfl rfl (hI_row _ _ _ _ (by omega))
  · exact stl_fr b8 rfl rfl (hI_row _ _ _ _ (by omega))
theorem lwi_fn {PR PI : Nat → Nat → Prop} {h h' : Hp} {i N : Nat} {c : Nat → Int32} (F : FRSH h) (Y : LAYO h) (Y' : LAYO h') (E : FN PR PI h h') (c1 : ∀ a k, PR a k → PR0 a k) (c2 : ∀ a k, PI a k → a ≤ 172) (Q : LWi h i c N) (n0 : ¬ PR 137 i) (n1 : ∀ j, j < 240 → ¬ PI 149 (240 * i + j)) (n2 : ¬ PI 150 i) : LWi h' i c N := by
  obtain ⟨l, cd, n, t, q1, q2, q3, q4, q5, q6⟩ := Q
  obtain ⟨W, oc⟩ := wl_fn F Y Y' E c1 q2 q4
  exact ⟨l, cd, n, t, (E.R F (by omega) n0).trans q1, W, fun q hq => (E.2.2.2.1 cd q (Or.inl oc) (fun z => by have := c2 _ _ z; omega)).trans (q3 q hq), q4, q5, lm_fn F Y' E q6 n1 n2⟩
theorem lm_34 {h : Hp} {i n : Nat} {t : Nat → Int32} (M : LM h i n t) : LM (sI h 147 34 (nI i)) i n t ∧ hI h 147 34 = nI i := by
  obtain ⟨⟨y1, y1'⟩, b2, b3, ⟨y4, y4'⟩, y5, b4, b7, b8⟩ := M
  have PB := PRE_big
  refine ⟨⟨⟨hI_same _ _ _ _, y1'⟩, b2, b3, ⟨?_, y4'⟩, fun j hj => ?_, b4, stl_fr b7 rfl rfl (hI_row _ _ _ _ (by omega)), stl_fr b8 rfl rfl (hI_row _ _ _ _ (by omega))⟩, y1⟩
  · rw [hI_oth _ _ _ _ _ (by decide)]; exact y4
  · rw [hI_oth _ _ _ _ _ (by decide)]; exact y5 j hj
theorem lm_back {h : Hp} {i n : Nat} {t : Nat → Int32} (M : LM (sI h 147 34 (nI i)) i n t) (e : hI h 147 34 = nI i) : LM h i n t := by
  have : sI h 147 34 (nI i) = h := by rw [← e, sI_wA, up1_self, wA_self]
  rw [this] at M; exact M
theorem lws_fn {PR PI : Nat → Nat → Prop} {h h' : Hp} {lw : Option ((Nat → Int32) × Nat)} (F : FRSH h) (Y : LAYO h) (Y' : LAYO h') (E : FN PR PI h h') (c1 : ∀ a k, PR a k → PR0 a k) (c2 : ∀ a k, PI a k → a ≤ 172) (L : LWS h lw) (n0 : ¬ PR 3 1) (n34 : ¬ PI 147 34) (n1 : ∀ i, hI h 147 34 = nI i → i < 4 → (∀ j, j < 240 → ¬ PI 149 (240 * i + j)) ∧ ¬ PI 150 i) : LWS h' lw := by
  cases lw with
  | none => exact ⟨(E.R F (by omega) n0).trans L.1, (E.I F (by omega) n34).trans L.2⟩
  | some q =>
    obtain ⟨c, s⟩ := q
    obtain ⟨l, cd, li, n, t, q1, q2, q3, q4, q5, q6⟩ := L
    obtain ⟨W, oc⟩ := wl_fn F Y Y' E c1 q2 q4
    obtain ⟨M, e34⟩ := lm_34 q6
    obtain ⟨m1, m2⟩ := n1 li e34 q6.1.2
    exact ⟨l, cd, li, n, t, (E.R F (by omega) n0).trans q1, W, fun q hq => (E.2.2.2.1 cd q (Or.inl oc) (fun z => by have := c2 _ _ z; omega)).trans (q3 q hq), q4, q5, lm_back (lm_fn F Y' E M m1 m2) ((E.I F (by omega) n34).trans e34)⟩
/-- the laws that were told, and which holds -/
def LWB (h : Hp) : Prop := ∃ nL, LWA h nL ∧ (hI h 147 34 = -1 ∨ ∃ li, li < nL ∧ hI h 147 34 = nI li)
theorem lwb_fn {PR PI : Nat → Nat → Prop} {h h' : Hp} (F : FRSH h) (Y : LAYO h) (Y' : LAYO h') (E : FN PR PI h h') (c1 : ∀ a k, PR a k → PR0 a k) (c2 : ∀ a k, PI a k → a ≤ 172) (L : LWB h) (n0 : ∀ i, ¬ PR 137 i) (n14 : ¬ PI 0 14) (n15 : ¬ PI 0 15) (n7 : ¬ PI 147 7) (n34 : ¬ PI 147 34) (n1 : ∀ k, ¬ PI 149 k) (n2 : ∀ k, ¬ PI 150 k) : LWB h' := by
  obtain ⟨nL, ⟨_, q2, q3, q4, q5, q6⟩, q7⟩ := L
  refine ⟨nL, ⟨Y'.2.2.2.2.2.2.2.2.2.2.2.2.2.2.2.2.2.2.1.2.2.2.2.2.2.2.2.2.1, (E.I F (by omega) n14).trans q2, (E.I F (by omega) n7).trans q3, q4, ?_, fun i hi => ?_⟩, ?_⟩
  · rw [E.I F (by omega) n15, E.I F (by omega) n34]; exact q5
  · obtain ⟨c, N, Q⟩ := q6 i hi
    exact ⟨c, N, lwi_fn F Y Y' E c1 c2 Q (n0 i) (fun j _ => n1 _) (n2 _)⟩
  · rw [E.I F (by omega) n34]; exact q7
theorem pln_fn {PR PI : Nat → Nat → Prop} {h h' : Hp} {pc : Nat} {pn : Nat → Nat} (F : FRSH h) (E : FN PR PI h h') (N : PLN h pc pn) (n17 : ¬ PI 0 17) (n30 : ¬ PI 147 30) (na : ∀ a k, 139 ≤ a → a ≤ 146 → ¬ PI a k) (nb : ∀ k, k < 192 → ¬ PI 158 k) (nc : ∀ k, k < 4 → ¬ PI 159 k) : PLN h' pc pn := by
  obtain ⟨n1, n2, n3, n4⟩ := N
  refine ⟨n1, (E.I F (by omega) n17).trans n2, (E.I F (by omega) n30).trans n3, fun p hp => ?_⟩
  obtain ⟨m1, m2, m3, m4, m5, m6⟩ := n4 p hp
  have i2 : hI h' (140 + 2 * p) = hI h (140 + 2 * p) := E.row F (by omega) (fun k => na _ k (by omega) (by omega))
  refine ⟨m1, m2, (E.I F (by omega) (na _ _ (by omega) (by omega))).trans m3, (E.I F (by omega) (nc _ (by omega))).trans m4, fun j hj => ?_, ?_⟩
  · rw [i2, E.I F (by omega) (nb _ (by omega))]; exact m5 j hj
  · rw [i2]; exact m6
theorem tst_fn {PR PI : Nat → Nat → Prop} {h h' : Hp} {tc : Nat} {so is : Nat → Nat} (F : FRSH h) (E : FN PR PI h h') (T : TST h tc so is) (na : ∀ k, k ≤ 2 → ¬ PI 101 k) (nb : ¬ PI 147 50) (nc : ∀ k, ¬ PI 166 k) (nd : ∀ k, ¬ PI 169 k) : TST h' tc so is := by
  obtain ⟨t1, t2, t3, t4, t5, t6⟩ := T
  have o : ∀ k, ¬ PI 101 k → hL h' 101 k = hL h 101 k := fun k p => E.2.2.2.2.1 k p
  refine ⟨t1, (E.I F (by omega) (na _ (by omega))).trans t2, (E.I F (by omega) nb).trans t3, (o _ (na _ (by omega))).trans t4, (o _ (na _ (by omega))).trans t5, fun k hk => ?_⟩
  obtain ⟨u1, u2, u3, u4⟩ := t6 k hk
  exact ⟨(E.I F (by omega) (nc _)).trans u1, u2, (E.I F (by omega) (nd _)).trans u3, u4⟩
theorem sgn_fn {PR PI : Nat → Nat → Prop} {h h' : Hp} {sc : Nat} {ss sm si : Nat → Nat} (F : FRSH h) (E : FN PR PI h h') (T : SGN h sc ss sm si) (na : ¬ PI 101 3) (nb : ¬ PI 147 51) (nc : ∀ k, ¬ PI 102 k) (nd : ∀ k, ¬ PI 167 k) (ne : ∀ k, ¬ PI 168 k) (nf : ∀ k, ¬ PI 170 k) : SGN h' sc ss sm si := by
  obtain ⟨t1, t2, t3, t4⟩ := T
  refine ⟨t1, (E.I F (by omega) na).trans t2, (E.I F (by omega) nb).trans t3, fun k hk => ?_⟩
  obtain ⟨⟨u1, u2, u3⟩, ⟨u4, u5, u6⟩, u7⟩ := t4 k hk
  exact ⟨⟨(E.I F (by omega) (nc _)).trans u1, (E.I F (by omega) (nc _)).trans u2, (E.I F (by omega) (nc _)).trans u3⟩, ⟨(E.I F (by omega) (nd _)).trans u4, (E.I F (by omega) (ne _)).trans u5, (E.I F (by omega) (nf _)).trans u6⟩, u7⟩
theorem img_fn {PR PI : Nat → Nat → Prop} {h h' : Hp} (F : FRSH h) (E : FN PR PI h h') (T : IMG h) (na : ¬ PI 0 10) (nb : ¬ PI 147 53) (nc : ∀ a k, 126 ≤ a → a ≤ 130 → ¬ PI a k) (nd : ∀ k, ¬ PI 171 k) : IMG h' := by
  have e1 := E.I F (by omega) na
  have e2 := E.I F (by omega) nb
  rcases T with ⟨t1, t2⟩ | ⟨t1, t2, iv, iu, ilg, ibk, iw, ⟨v1, v2⟩, v3, v4, v5, v6⟩
  · exact Or.inl ⟨e1.trans t1, e2.trans t2⟩
  · exact Or.inr ⟨e1.trans t1, e2.trans t2, iv, iu, ilg, ibk, iw, ⟨fun k h1 h2 => (E.I F (by omega) (nc _ _ (by omega) (by omega))).trans (v1 k h1 h2), fun k h1 => (E.I F (by omega) (nc _ _ (by omega) (by omega))).trans (v2 k h1)⟩, fun k h1 => (E.I F (by omega) (nc _ _ (by omega) (by omega))).trans (v3 k h1), fun k h1 => (E.I F (by omega) (nc _ _ (by omega) (by omega))).trans (v4 k h1), (E.row F (by omega) nd).trans v5, v6⟩
theorem sw_fn {PR PI : Nat → Nat → Prop} {h h' : Hp} {a1 a2 : Nat} (F : FRSH h) (Y' : LAYO h') (E : FN PR PI h h') (T : SW h a1 a2) (n6 : ¬ PR 103 6) (n7 : ¬ PR 103 7) : SW h' a1 a2 := by
  obtain ⟨t1, t2, t3, _⟩ := T
  have y := Y'.2.2.2.2.2.2.2.2.2.2.2.2.2.2.2.2.2.2.2.2.2.2.2.1
  exact ⟨(E.R F (by omega) n6).trans t1, (E.R F (by omega) n7).trans t2, t3, ⟨y.1, y.2.1⟩, y.2.2⟩
def RST (h : Hp) : Prop := LWB h ∧ (∃ pc pn, PLN h pc pn) ∧ (∃ tc so is, TST h tc so is) ∧ (∃ sc ss sm si, SGN h sc ss sm si) ∧ IMG h ∧ hI h 0 18 = hI h 147 35 ∧ (∃ a1 a2, SW h a1 a2) ∧ TPE h
/-- places on which the rest doesn't stand -/
def NR (a k : Nat) : Prop := a ≤ 172 ∧ (a ≠ 0 ∨ (k ≠ 10 ∧ k ≠ 14 ∧ k ≠ 15 ∧ k ≠ 17 ∧ k ≠ 18)) ∧ (a ≠ 1 ∨ k ≠ 1) ∧ a ≠ 2 ∧ (a ≠ 101 ∨ 3 < k) ∧ a ≠ 102 ∧ (a < 126 ∨ 130 < a) ∧ (a < 139 ∨ 146 < a) ∧ (a ≠ 147 ∨ (k ≠ 6 ∧ k ≠ 7 ∧ k ≠ 30 ∧ k ≠ 34 ∧ k ≠ 35 ∧ k ≠ 50 ∧ k ≠ 51 ∧ k ≠ 53)) ∧ a ≠ 148 ∧ a ≠ 149 ∧ a ≠ 150 ∧ (a ≠ 158 ∨ 192 ≤ k) ∧ (a ≠ 159 ∨ 4 ≤ k) ∧ (a < 166 ∨ 171 < a)
theorem rst_fn {PR PI : Nat → Nat → Prop} {h h' : Hp} (F : FRSH h) (Y : LAYO h) (Y' : LAYO h') (E : FN PR PI h h') (c1 : ∀ a k, PR a k → PR0 a k ∧ a ≠ 137 ∧ a ≠ 103) (c2 : ∀ a k, PI a k → NR a k) (R : RST h) : RST h' := by
  obtain ⟨r1, ⟨pc, pn, r2⟩, ⟨tc, so, is, r3⟩, ⟨sc, ss, sm, si, r4⟩, r5, r6, ⟨a1, a2, r7⟩, r8⟩ := R
  have c1' : ∀ a k, PR a k → PR0 a k := fun a k z => (c1 a k z).1
  have c2' : ∀ a k, PI a k → a ≤ 172 := fun a k z => (c2 a k z).1
  have no : ∀ {a k : Nat}, ¬ NR a k → ¬ PI a k := fun z y => z (c2 _ _ y)
  refine ⟨lwb_fn F Y Y' E c1' c2' r1 (fun i z => (c1 _ _ z).2.1 rfl) (no (by unfold NR; omega)) (no (by unfold NR; omega)) (no (by unfold NR; omega)) (no (by unfold NR; omega)) (fun k => no (by unfold NR; omega)) (fun k => no (by unfold NR; omega)), ⟨pc, pn, pln_fn F E r2 (no (by unfold NR; omega)) (no (by unfold NR; omega)) (fun a k z1 z2 => no (by unfold NR; omega)) (fun k z => no (by unfold NR; omega)) (fun k z => no (by unfold NR; omega))⟩, ⟨tc, so, is, tst_fn F E r3 (fun k z => no (by unfold NR; omega)) (no (by unfold NR; omega)) (fun k => no (by unfold NR; omega)) (fun k => no (by unfold NR; omega))⟩, ⟨sc, ss, sm, si, sgn_fn F E r4 (no (by unfold NR; omega)) (no (by unfold NR; omega)) (fun k => no (by unfold NR; omega)) (fun k => no (by unfold NR; omega)) (fun k => no (by unfold NR; omega)) (fun k => no (by unfold NR; omega))⟩, img_fn F E r5 (no (by unfold NR; omega)) (no (by unfold NR; omega)) (fun a k z1 z2 => no (by unfold NR; omega)) (fun k => no (by unfold NR; omega)), ?_, ⟨a1, a2, sw_fn F Y' E r7 (fun z => (c1 _ _ z).2.2 rfl) (fun z => (c1 _ _ z).2.2 rfl)⟩, tpe_fn F E r8 (no (by unfold NR; omega)) (no (by unfold NR; omega)) (fun k => no (by unfold NR; omega)) (fun k => no (by unfold NR; omega))⟩
  rw [E.I F (by omega) (no (by unfold NR; omega)), E.I F (by omega) (no (by unfold NR; omega))]
  exact r6
