/-! ===== the invariant ===== -/
theorem ly_CF {h : Hp} (Y : LAYO h) : CF h := Y.1
theorem ly_TapeL {h : Hp} (Y : LAYO h) : TapeL h := Y.2.1
theorem ly_PTL {h : Hp} (Y : LAYO h) : PTL h := Y.2.2.1
theorem ly_UL {h : Hp} (Y : LAYO h) : UL h := Y.2.2.2.1
theorem ly_ML {h : Hp} (Y : LAYO h) : ML h := Y.2.2.2.2.1
theorem ly_MR2 {h : Hp} (Y : LAYO h) : MR2 h := Y.2.2.2.2.2.1
theorem ly_LSd {h : Hp} (Y : LAYO h) : LSd h := Y.2.2.2.2.2.2.1
theorem ly_IMl {h : Hp} (Y : LAYO h) : IMl h := Y.2.2.2.2.2.2.2.1
theorem ly_PRl {h : Hp} (Y : LAYO h) : PRl h := Y.2.2.2.2.2.2.2.2.1
theorem ly_SRl {h : Hp} (Y : LAYO h) : SRl h := Y.2.2.2.2.2.2.2.2.2.1
theorem ly_T5 {h : Hp} (Y : LAYO h) : T5 h := Y.2.2.2.2.2.2.2.2.2.2.1
theorem ly_M6 {h : Hp} (Y : LAYO h) : M6 h := Y.2.2.2.2.2.2.2.2.2.2.2.1
theorem ly_PLl {h : Hp} (Y : LAYO h) : PLl h := Y.2.2.2.2.2.2.2.2.2.2.2.2.1
theorem ly_LwL {h : Hp} (Y : LAYO h) : LwL h := Y.2.2.2.2.2.2.2.2.2.2.2.2.2.1
theorem ly_SIt {h : Hp} (Y : LAYO h) : SIt h := Y.2.2.2.2.2.2.2.2.2.2.2.2.2.2.1
theorem ly_MIt {h : Hp} (Y : LAYO h) : MIt h := Y.2.2.2.2.2.2.2.2.2.2.2.2.2.2.2.1
theorem ly_PL {h : Hp} (Y : LAYO h) : PL h := Y.2.2.2.2.2.2.2.2.2.2.2.2.2.2.2.2.1
theorem ly_TEN {h : Hp} (Y : LAYO h) : TEN h := Y.2.2.2.2.2.2.2.2.2.2.2.2.2.2.2.2.2.1
theorem ly_LXa {h : Hp} (Y : LAYO h) : LXa h := Y.2.2.2.2.2.2.2.2.2.2.2.2.2.2.2.2.2.2.1
theorem ly_LXb {h : Hp} (Y : LAYO h) : LXb h := Y.2.2.2.2.2.2.2.2.2.2.2.2.2.2.2.2.2.2.2
/-- no house was told -/
def HM (h : Hp) (s : Nat) : Prop := hI h s 0 = 0 ∧ hI h 147 26 = 0 ∧ hI h 147 27 = 0 ∧ hI h 14 2 = 0 ∧ hI h 147 37 = 0 ∧ hI h 0 10 = 0 ∧ hI h 147 53 = 0 ∧ (∃ lw, LWS h lw) ∧ ∃ v u w lg bk z x, NowC h v u lg bk ∧ hI h 160 = nR w ∧ BV v u ∧ MR v u w ∧ LB v w lg bk ∧ hI h 162 = nR z ∧ hI h 14 1 = nI x ∧ x < 41
def HW (h : Hp) (s : Nat) : Prop := ((s = 4 ∧ hR h 0 11 = some 131) ∨ (s = 131 ∧ hR h 0 11 = some 4)) ∧ hR h 3 0 = some s
def HSE (h : Hp) : Prop := ∃ s, HW h s ∧ (HM h s ∨ ∃ r d b dc bc lw v u w lg bk z A x, AINV h s r d b dc bc lw v u w lg bk z A x)
def INV (h : Hp) : Prop := LAYO h ∧ FRSH h ∧ HSE h ∧ RST h
/-- places on which the house that is told and its life don't stand -/
def NH (s a k : Nat) : Prop := a ≤ 172 ∧ (a < s ∨ s + 3 < a) ∧ a ≠ 10 ∧ a ≠ 11 ∧ (a < 14 ∨ 100 < a) ∧ a ≠ 152 ∧ a ≠ 154 ∧ a ≠ 156 ∧ a ≠ 160 ∧ a ≠ 162 ∧ (a ≠ 147 ∨ (k ≠ 26 ∧ k ≠ 27 ∧ k ≠ 37))
def NHm (s a k : Nat) : Prop := a ≤ 172 ∧ (a < s ∨ s + 3 < a) ∧ a ≠ 10 ∧ a ≠ 11 ∧ a ≠ 14 ∧ a ≠ 99 ∧ a ≠ 100 ∧ a ≠ 152 ∧ a ≠ 154 ∧ a ≠ 156 ∧ a ≠ 160 ∧ a ≠ 162 ∧ (a ≠ 147 ∨ (k ≠ 26 ∧ k ≠ 27 ∧ k ≠ 37))
theorem nh_m {s a k : Nat} (z : NH s a k) : NHm s a k := by unfold NH at z; unfold NHm; omega
theorem ainv_fn {PR PI : Nat → Nat → Prop} {h h' : Hp} {s : Nat} {r d b : Nat → Nat} {dc bc : Nat} {lw lw' : Option ((Nat → Int32) × Nat)} {v u w lg bk z : Nat → Nat} {A x : Nat} (I : AINV h s r d b dc bc lw v u w lg bk z A x) (F : FRSH h) (Y' : LAYO h') (E : FN PR PI h h') (n30 : ¬ PR 3 0) (c : ∀ a k, PI a k → NH s a k) (L : LWS h' lw') : AINV h' s r d b dc bc lw' v u w lg bk z A x := by
  obtain ⟨_, ⟨i1, i2, W, M, i5, i6, _⟩, ⟨⟨n1, n2, n3, n4⟩, k2, k3, k4, k5⟩, ⟨p1, p2, p3, p4, p5', p6, V, U, pp, pq⟩⟩ := I
  have no : ∀ {a k : Nat}, ¬ NH s a k → ¬ PI a k := fun z y => z (c _ _ y)
  have Xa := ly_LXa Y'
  have X5 := ly_MR2 Y'
  have hl : HL h' s := by
    rcases i1 with z | z
    · rw [z]; exact Xa.2.2.2.2.2.2.1
    · rw [z]; exact Xa.2.2.2.2.2.2.2.1
  have ll : LL h' 10 s := by
    rcases i1 with z | z
    · rw [z]; exact Xa.2.2.2.1
    · rw [z]; exact Xa.2.2.2.2.1
  have rw' : ∀ a, a ≤ 172 → (∀ k, ¬ NH s a k) → hI h' a = hI h a := fun a z1 z2 => E.row F z1 (fun k => no (z2 k))
  obtain ⟨⟨W1, W2⟩, _, W4, W5, W6, W7, W8, W9⟩ := W
  obtain ⟨_, _, _, _, M5, M6, M7, M8, M9, M10⟩ := M
  have es : ∀ j, j ≤ 3 → hI h' (s + j) = hI h (s + j) := fun j hj => rw' _ (by omega) (fun k => by unfold NH; omega)
  have e0 : hI h' s = hI h s := es 0 (by omega)
  refine ⟨⟨ly_CF Y', ly_PTL Y', Xa.2.2.1, ll, ly_UL Y', Xa.2.2.2.2.2.1⟩, ⟨i1, by rw [e0]; exact i2, ⟨⟨Xa.2.1, (E.R F (by omega) n30).trans W2⟩, hl, W4, by rw [e0]; exact W5, by rw [es 1 (by omega)]; exact W6, by rw [es 2 (by omega)]; exact W7, by rw [es 3 (by omega)]; exact W8, W9⟩, ⟨X5.1, X5.2.1, X5.2.2.1, X5.2.2.2.1, M5, ?_, ?_, ?_, ?_, M10⟩, i5, i6, L⟩, ⟨⟨?_, ?_, ?_, ?_⟩, k2, ?_, k4, k5⟩, ⟨?_, ?_, ?_, ?_, p5', p6, V, U, fun j hj => ⟨?_, (pp j hj).2⟩, pq⟩⟩
  · rw [E.I F (by omega) (no (by unfold NH; omega)), E.I F (by omega) (no (by unfold NH; omega))]; exact M6
  · rw [rw' 152 (by omega) (fun k => by unfold NH; omega)]; exact M7
  · rw [rw' 154 (by omega) (fun k => by unfold NH; omega)]; exact M8
  · rw [rw' 156 (by omega) (fun k => by unfold NH; omega)]; exact M9
  · rw [rw' 10 (by omega) (fun k => by unfold NH; omega)]; exact n1
  · rw [rw' 11 (by omega) (fun k => by unfold NH; omega)]; exact n2
  · rw [rw' 99 (by omega) (fun k => by unfold NH; omega)]; exact n3
  · rw [rw' 100 (by omega) (fun k => by unfold NH; omega)]; exact n4
  · rw [rw' 160 (by omega) (fun k => by unfold NH; omega)]; exact k3
  · rw [rw' 162 (by omega) (fun k => by unfold NH; omega)]; exact p1
  · rw [E.I F (by omega) (no (by unfold NH; omega))]; exact p2
  · rw [rw' 14 (by omega) (fun k => by unfold NH; omega)]; exact p3
  · rw [rw' 14 (by omega) (fun k => by unfold NH; omega)]; exact p4
  · obtain ⟨u1, u2⟩ := (pp j hj).1
    have m : (x + 40 - j) % 41 < 41 := Nat.mod_lt _ (by omega)
    refine ⟨fun k z1 z2 => ?_, fun k z1 => ?_⟩
    · rw [rw' _ (by omega) (fun k => by unfold NH; omega)]; exact u1 k z1 z2
    · rw [rw' _ (by omega) (fun k => by unfold NH; omega)]; exact u2 k z1
theorem hm_fn {PR PI : Nat → Nat → Prop} {h h' : Hp} {s : Nat} (hs : s = 4 ∨ s = 131) (I : HM h s) (F : FRSH h) (E : FN PR PI h h') (c : ∀ a k, PI a k → NHm s a k) (n10 : ¬ PI 0 10) (n53 : ¬ PI 147 53) (L : ∃ lw, LWS h' lw) : HM h' s := by
  obtain ⟨i1, i2, i3, i4, i5, i6, i7, _, v, u, w, lg, bk, z, x, ⟨n1, n2, n3, n4⟩, k3, k2, k4, k5, q1, q2, q3⟩ := I
  have no : ∀ {a k : Nat}, ¬ NHm s a k → ¬ PI a k := fun z y => z (c _ _ y)
  have rw' : ∀ a, a ≤ 172 → (∀ k, ¬ NHm s a k) → hI h' a = hI h a := fun a z1 z2 => E.row F z1 (fun k => no (z2 k))
  refine ⟨?_, ?_, ?_, ?_, ?_, (E.I F (by omega) n10).trans i6, (E.I F (by omega) n53).trans i7, L, v, u, w, lg, bk, z, x, ⟨?_, ?_, ?_, ?_⟩, ?_, k2, k4, k5, ?_, ?_, q3⟩
  · rw [E.I F (by omega) (no (by unfold NHm; omega))]; exact i1
  · rw [E.I F (by omega) (no (by unfold NHm; omega))]; exact i2
  · rw [E.I F (by omega) (no (by unfold NHm; omega))]; exact i3
  · rw [E.I F (by omega) (no (by unfold NHm; omega))]; exact i4
  · rw [E.I F (by omega) (no (by unfold NHm; omega))]; exact i5
  · rw [rw' 10 (by omega) (fun k => by unfold NHm; omega)]; exact n1
  · rw [rw' 11 (by omega) (fun k => by unfold NHm; omega)]; exact n2
  · rw [rw' 99 (by omega) (fun k => by unfold NHm; omega)]; exact n3
  · rw [rw' 100 (by omega) (fun k => by unfold NHm; omega)]; exact n4
  · rw [rw' 160 (by omega) (fun k => by unfold NHm; omega)]; exact k3
  · rw [rw' 162 (by omega) (fun k => by unfold NHm; omega)]; exact q1
  · rw [rw' 14 (by omega) (fun k => by unfold NHm; omega)]; exact q2
theorem hw_s {h : Hp} {s : Nat} (W : HW h s) : s = 4 ∨ s = 131 := by
  rcases W.1 with ⟨z, _⟩ | ⟨z, _⟩
  · exact Or.inl z
  · exact Or.inr z
/-- a call that leaves the house and its life: the house's part stands -/
theorem hse_fn {PR PI : Nat → Nat → Prop} {h h' : Hp} (F : FRSH h) (Y : LAYO h) (Y' : LAYO h') (E : FN PR PI h h') (c1 : ∀ a k, PR a k → PR0 a k) (n30 : ¬ PR 3 0) (n11 : ¬ PR 0 11) (c2 : ∀ s, HW h s → ∀ a k, PI a k → NH s a k) (n10 : ¬ PI 0 10) (n53 : ¬ PI 147 53) (L : ∀ lw, LWS h lw → LWS h' lw) (H : HSE h) : HSE h' := by
  obtain ⟨s, W, H⟩ := H
  have W' : HW h' s := ⟨by rw [E.R F (by omega) n11]; exact W.1, (E.R F (by omega) n30).trans W.2⟩
  refine ⟨s, W', ?_⟩
  rcases H with H | ⟨r, d, b, dc, bc, lw, v, u, w, lg, bk, z, A, x, I⟩
  · obtain ⟨lw, l0⟩ := H.2.2.2.2.2.2.2.1
    exact Or.inl (hm_fn (hw_s W) H F E (fun a k z => nh_m (c2 s W a k z)) n10 n53 ⟨lw, L lw l0⟩)
  · exact Or.inr ⟨r, d, b, dc, bc, lw, v, u, w, lg, bk, z, A, x, ainv_fn I F Y' E n30 (c2 s W) (L lw I.2.1.2.2.2.2.2.2)⟩
theorem inv_fn {PI : Nat → Nat → Prop} {h h' : Hp} (I : INV h) (E : FN p5 PI h h') (c2 : ∀ a k, PI a k → NR a k) (c3 : ∀ s, HW h s → ∀ a k, PI a k → NH s a k) : INV h' := by
  obtain ⟨Y, F, H, R⟩ := I
  have q1 : ∀ a k, p5 a k → PR0 a k := fun a k z => by unfold p5 at z; unfold PR0; omega
  have q2 : ∀ a k, PI a k → a ≤ 172 := fun a k z => (c2 a k z).1
  have Y' : LAYO h' := LAYO_t (fn_leq F E q1 q2) Y
  have no : ∀ {a k : Nat}, ¬ NR a k → ¬ PI a k := fun z y => z (c2 _ _ y)
  refine ⟨Y', frsh_fn F E, hse_fn F Y Y' E q1 (by unfold p5; omega) (by unfold p5; omega) c3 (no (by unfold NR; omega)) (no (by unfold NR; omega)) (fun lw l => lws_fn F Y Y' E q1 q2 l (by unfold p5; omega) (no (by unfold NR; omega)) (fun i _ _ => ⟨fun j _ => no (by unfold NR; omega), no (by unfold NR; omega)⟩)) H, rst_fn F Y Y' E (fun a k z => ⟨q1 a k z, by unfold p5 at z; omega, by unfold p5 at z; omega⟩) c2 R⟩
/-- a call by both: the same answer, and the invariant again -/
def CI (h : Hp) (X Y : Hp → Option (RV × Hp)) : Prop := ∃ res h1 h2, X h = some (rI res, h1) ∧ Y h1 = some (rI res, h2) ∧ INV h2 ∧ hN h2 ≤ hN h + 2 ∧ hS h2 ≤ hS h + 300
def QP (a k : Nat) : Prop := a = 8 ∨ a = 9 ∨ a = 12 ∨ a = 13 ∨ (103 ≤ a ∧ a ≤ 125) ∨ a = 161 ∨ a = 163 ∨ a = 164 ∨ a = 165 ∨ a = 151 ∨ (a = 147 ∧ (k = 0 ∨ k = 39 ∨ k = 40 ∨ k = 44 ∨ (8 ≤ k ∧ k ≤ 17)))
theorem mq_qp : ∀ a k, mqP scrC scrM scrS a k → QP a k := by
  intro a k z
  unfold mqP scrC scrM scrS at z
  simp only [List.mem_cons, List.not_mem_nil, or_false] at z
  unfold QP
  omega
theorem ci_qry {h : Hp} {X Y : Hp → Option (RV × Hp)} (I : INV h) (Q : QRY h X Y) : CI h X Y := by
  obtain ⟨res, h1, h2, y1, y2, O, M⟩ := Q
  have E : FN p5 QP h h2 := (fn_mq O M).mono (fun _ _ z => z) mq_qp
  exact ⟨res, h1, h2, y1, y2, inv_fn I E (fun a k z => by unfold QP at z; unfold NR; omega) (fun s W a k z => by have := hw_s W; unfold QP at z; unfold NH; omega), E.1.2.1, E.1.2.2⟩
