/-! ===== PURE: the acts' invariant in four: what stands, the class's, the reference's, numbers ===== -/
def CST (h : Hp) (v u lg bk : Nat → Nat) (V U : Nat → Nat → Nat) (A x : Nat) : Prop := NowC h v u lg bk ∧ hI h 14 2 = nI A ∧ hI h 14 1 = nI x ∧ x < 41 ∧ A ≤ 40 ∧ ∀ j, j < A → CLa h (16 + 2 * ((x + 40 - j) % 41)) (V j) (U j)
def MST (h : Hp) (w z : Nat → Nat) (A : Nat) : Prop := hI h 160 = nR w ∧ hI h 162 = nR z ∧ hI h 147 37 = nI A
def PST (v u w lg bk : Nat → Nat) (V U : Nat → Nat → Nat) (z : Nat → Nat) (A : Nat) : Prop := BV v u ∧ MR v u w ∧ LB v w lg bk ∧ (∀ j, j < A → PJ (V j) (U j) v lg bk z A j) ∧ (∀ j, j + 1 < A → V (j + 1) 10 ≤ V j 10 ∧ V (j + 1) 11 ≤ V j 11 ∧ V j 11 ≤ V (j + 1) 11 + 1)
theorem ainv_split {h : Hp} {s : Nat} {r d b : Nat → Nat} {dc bc : Nat} {lw : Option ((Nat → Int32) × Nat)} {v u w lg bk z : Nat → Nat} {A x : Nat} (I : AINV h s r d b dc bc lw v u w lg bk z A x) : STc h s r d b dc bc lw ∧ ∃ V U, CST h v u lg bk V U A x ∧ MST h w z A ∧ PST v u w lg bk V U z A := by
  obtain ⟨a1, a2, ⟨n0, k2, k3, k4, k5⟩, ⟨l1, l2, l3, l4, l5, l6, V, U, P1, P2⟩⟩ := I
  exact ⟨⟨a1, a2⟩, V, U, ⟨n0, l3, l4, l5, l6, fun j hj => (P1 j hj).1⟩, ⟨k3, l1, l2⟩, k2, k4, k5, fun j hj => (P1 j hj).2, P2⟩
theorem ainv_join {h : Hp} {s : Nat} {r d b : Nat → Nat} {dc bc : Nat} {lw : Option ((Nat → Int32) × Nat)} {v u w lg bk z : Nat → Nat} {V U : Nat → Nat → Nat} {A x : Nat} (S : STc h s r d b dc bc lw) (C : CST h v u lg bk V U A x) (M : MST h w z A) (P : PST v u w lg bk V U z A) : AINV h s r d b dc bc lw v u w lg bk z A x := by
  obtain ⟨a1, a2⟩ := S
  obtain ⟨n0, l3, l4, l5, l6, P1⟩ := C
  obtain ⟨k3, l1, l2⟩ := M
  obtain ⟨k2, k4, k5, P3, P2⟩ := P
  exact ⟨a1, a2, ⟨n0, k2, k3, k4, k5⟩, ⟨l1, l2, l3, l4, l5, l6, V, U, fun j hj => ⟨P1 j hj, P3 j hj⟩, P2⟩⟩
def SG (h h' : Hp) : Prop := hK h' = hK h ∧ hE h' = hE h ∧ (∀ a k, (a ≠ 103 ∨ k = 0) → (a ≠ 147 ∨ k ≠ 5) → hR h' a k = hR h a k) ∧ (∀ a, (4 ≤ a ∧ a ≤ 7) ∨ (131 ≤ a ∧ a ≤ 134) ∨ a = 149 ∨ a = 150 ∨ a = 152 ∨ a = 154 ∨ a = 156 ∨ 172 < a → hI h' a = hI h a) ∧ (∀ k, k = 26 ∨ k = 27 ∨ k = 34 → hI h' 147 k = hI h 147 k)
theorem SG.refl (h : Hp) : SG h h := ⟨rfl, rfl, fun _ _ _ _ => rfl, fun _ _ => rfl, fun _ _ => rfl⟩
theorem SG.trans {h h' h'' : Hp} (P : SG h h') (Q : SG h' h'') : SG h h'' := by
  obtain ⟨p1, p2, p3, p4, p5⟩ := P
  obtain ⟨q1, q2, q3, q4, q5⟩ := Q
  exact ⟨q1.trans p1, q2.trans p2, fun a k e f => (q3 a k e f).trans (p3 a k e f), fun a e => (q4 a e).trans (p4 a e), fun k e => (q5 k e).trans (p5 k e)⟩
theorem sg_only {h h' : Hp} {l : List Nat} (O : Only h h' l) (hl : ∀ a ∈ l, a < 147 ∧ ¬ (4 ≤ a ∧ a ≤ 7) ∧ ¬ (131 ≤ a ∧ a ≤ 134)) : SG h h' :=
  ⟨O.K, O.E, fun _ _ _ _ => by rw [O.R], fun a c => O.I (fun z => by have := hl a z; omega), fun k _ => by rw [O.I (fun z => by have := hl _ z; omega)]⟩
theorem sg_mq {h h' : Hp} {l ks : List Nat} (Q : Mq h h' l ks) (hl : ∀ a ∈ l, 152 < a ∧ a < 172 ∧ a ≠ 154 ∧ a ≠ 156) (hk : ∀ k ∈ ks, k ≠ 26 ∧ k ≠ 27 ∧ k ≠ 34) : SG h h' := by
  obtain ⟨_, _, a3, a4, _, a6, a7, a8⟩ := Q
  exact ⟨a3, a4, fun a k _ f => a6 a k f, fun a c => a7 a (by omega) (by omega) (fun z => by have := hl a z; omega), fun k e => a8 k (by simp; omega) (fun z => by have := hk k z; omega)⟩
theorem sg_sL (h : Hp) (a k : Nat) (y : Int64) : SG h (sL h a k y) := ⟨rfl, rfl, fun _ _ _ _ => rfl, fun _ _ => rfl, fun _ _ => rfl⟩
theorem st_sg {h h' : Hp} {s : Nat} {r d b : Nat → Nat} {dc bc : Nat} {lw : Option ((Nat → Int32) × Nat)} (S : STc h s r d b dc bc lw) (G : SG h h') : STc h' s r d b dc bc lw := by
  obtain ⟨gK, gE, gR, gI, gS⟩ := G
  obtain ⟨⟨⟨c1, c2, c3, c4, c5, c6, c7⟩, ⟨⟨p1, p2, p3, p4⟩, p5, p6⟩, D, L, U, RL⟩, ⟨j1, j2, W, M, j5, j6, j7⟩⟩ := S
  have R : ∀ a k, a ≠ 103 → a ≠ 147 → hR h' a k = hR h a k := fun a k p q => gR a k (Or.inl p) (Or.inl q)
  have RM : ∀ k, k ≠ 5 → hR h' 147 k = hR h 147 k := fun k q => gR 147 k (Or.inl (by decide)) (Or.inr q)
  have lp : ∀ a, a ≠ 103 → a ≠ 147 → LPl h a → LPl h' a := fun a p q C => by unfold LPl; rw [gK, gE, R a 8 p q]; exact C
  obtain ⟨⟨w1, w2⟩, ⟨x1, x2, x3, x4, x5, x6, x7, x8⟩, w3, ⟨w4, w4'⟩, w5, w6, w7, w8⟩ := W
  obtain ⟨m1, ⟨m2, m2', m2''⟩, ⟨m3, m3', m3''⟩, ⟨m4, m4', m4''⟩, m5, ⟨m6, m6'⟩, m7, m8, m9, m10⟩ := M
  refine ⟨⟨⟨by rw [gK]; exact c1, by rw [R 0 1 (by decide) (by decide)]; exact c2, by rw [R 0 2 (by decide) (by decide)]; exact c3, by rw [R 0 4 (by decide) (by decide)]; exact c4, by rw [R 0 5 (by decide) (by decide)]; exact c5, by rw [R 3 2 (by decide) (by decide)]; exact c6, by rw [R 3 3 (by decide) (by decide)]; exact c7⟩, ⟨⟨by rw [gK]; exact p1, by rw [R 14 0 (by decide) (by decide)]; exact p2, by rw [gK]; exact p3, by rw [gE]; exact p4⟩, fun i hi => ⟨by rw [R 15 i (by decide) (by decide)]; exact (p5 i hi).1, lp _ (by omega) (by omega) (p5 i hi).2⟩, lp 10 (by decide) (by decide) p6⟩, ?_, ?_, ?_, ?_⟩, ⟨j1, ?_, ?_, ?_, j5, j6, ?_⟩⟩
  · unfold DP; rw [gK, gE, R 98 0 (by decide) (by decide), R 98 1 (by decide) (by decide)]; exact D
  · unfold LL; rw [gK, gE, R 10 8 (by decide) (by decide)]; exact L
  · unfold UL; rw [gK, gE, RM 32 (by decide), RM 36 (by decide)]; exact U
  · unfold RLo; rw [gK, gE]; exact RL
  · rw [gI s (by omega)]; exact j2
  · exact ⟨⟨by rw [gK]; exact w1, by rw [R 3 0 (by decide) (by decide)]; exact w2⟩, ⟨by rw [gK]; exact x1, by rw [R s 2 (by omega) (by omega)]; exact x2, by rw [R s 3 (by omega) (by omega)]; exact x3, by rw [R s 4 (by omega) (by omega)]; exact x4, by rw [gK, gE]; exact x5, by rw [gK, gE]; exact x6, by rw [gK, gE]; exact x7, x8⟩, w3, ⟨by rw [gI s (by omega)]; exact w4, by rw [gI s (by omega)]; exact w4'⟩, fun k hk => by rw [gI (s + 1) (by omega)]; exact w5 k hk, fun k hk => by rw [gI (s + 2) (by omega)]; exact w6 k hk, fun k hk => by rw [gI (s + 3) (by omega)]; exact w7 k hk, w8⟩
  · exact ⟨by rw [gK]; exact m1, ⟨by rw [RM 18 (by decide)]; exact m2, by rw [gK]; exact m2', by rw [gE]; exact m2''⟩, ⟨by rw [RM 20 (by decide)]; exact m3, by rw [gK]; exact m3', by rw [gE]; exact m3''⟩, ⟨by rw [RM 22 (by decide)]; exact m4, by rw [gK]; exact m4', by rw [gE]; exact m4''⟩, m5, ⟨by rw [gS 26 (by omega)]; exact m6, by rw [gS 27 (by omega)]; exact m6'⟩, fun k hk => by rw [gI 152 (by omega)]; exact m7 k hk, fun k hk => by rw [gI 154 (by omega)]; exact m8 k hk, fun k hk => by rw [gI 156 (by omega)]; exact m9 k hk, m10⟩
  · cases lw with
    | none => exact ⟨by rw [R 3 1 (by decide) (by decide)]; exact j7.1, by rw [gS 34 (by omega)]; exact j7.2⟩
    | some p =>
      obtain ⟨c, N⟩ := p
      obtain ⟨lb, cd, li, n, t, q1, q2, q3, q4, q5, q6⟩ := j7
      obtain ⟨v1, v2, v3, v4, v5⟩ := q2
      obtain ⟨⟨y1, y1'⟩, ⟨y2, y2', y2''⟩, ⟨y3, y3', y3''⟩, ⟨y4, y4'⟩, y5, ⟨y6, y6', y6''⟩, y7, y8⟩ := q6
      have n147 : lb ≠ 147 := fun e => by rw [e, m1] at v1; cases v1
      have st : ∀ a n' (b' : Nat → Nat), 172 < a → StL h a n' b' → StL h' a n' b' := fun a n' b' ha S => by
        unfold StL; rw [gK, gE, gI (a + 100) (by omega)]; exact S
      refine ⟨lb, cd, li, n, t, by rw [R 3 1 (by decide) (by decide)]; exact q1, ⟨by rw [gK]; exact v1, by rw [gR lb 0 (Or.inr rfl) (Or.inl n147)]; exact v2, by rw [gK]; exact v3, by rw [gE]; exact v4, by rw [gK, gE]; exact v5⟩, fun q hq => by rw [gI cd (by omega)]; exact q3 q hq, q4, q5, ⟨by rw [gS 34 (by omega)]; exact y1, y1'⟩, ⟨by rw [RM 2 (by decide)]; exact y2, by rw [gK]; exact y2', by rw [gE]; exact y2''⟩, ⟨by rw [RM 3 (by decide)]; exact y3, by rw [gK]; exact y3', by rw [gE]; exact y3''⟩, ⟨by rw [gI 150 (by omega)]; exact y4, y4'⟩, fun i hi => by rw [gI 149 (by omega)]; exact y5 i hi, ⟨by rw [RM 4 (by decide)]; exact y6, by rw [gK]; exact y6', by rw [gE]; exact y6''⟩, st _ _ _ (by unfold PRE; omega) y7, st _ _ _ (by unfold PRE; omega) y8⟩
theorem cst_fr {h h' : Hp} {v u lg bk : Nat → Nat} {V U : Nat → Nat → Nat} {A x : Nat} (C : CST h v u lg bk V U A x) (e : ∀ a, a = 10 ∨ a = 11 ∨ a = 14 ∨ a = 99 ∨ a = 100 ∨ (16 ≤ a ∧ a < 98 ∧ a ≠ 16 + 2 * x ∧ a ≠ 16 + 2 * x + 1) → hI h' a = hI h a) : CST h' v u lg bk V U A x := by
  obtain ⟨⟨n1, n2, n3, n4⟩, l3, l4, l5, l6, P1⟩ := C
  refine ⟨⟨by rw [e 10 (by omega)]; exact n1, by rw [e 11 (by omega)]; exact n2, by rw [e 99 (by omega)]; exact n3, by rw [e 100 (by omega)]; exact n4⟩, by rw [e 14 (by omega)]; exact l3, by rw [e 14 (by omega)]; exact l4, l5, l6, fun j hj => ?_⟩
  have lt : (x + 40 - j) % 41 < 41 := Nat.mod_lt _ (by omega)
  exact cla_fr (P1 j hj) (e _ (by omega)) (e _ (by omega))
theorem cst_only {h h' : Hp} {v u lg bk : Nat → Nat} {V U : Nat → Nat → Nat} {A x : Nat} {l : List Nat} (C : CST h v u lg bk V U A x) (O : Only h h' l) (hl : ∀ a ∈ l, frC x a) : CST h' v u lg bk V U A x :=
  have hx := C.2.2.2.1
  cst_fr C (fun a e => O.I (fun z => by have := hl a z; unfold frC at this; omega))
theorem cst_mq {h h' : Hp} {v u lg bk : Nat → Nat} {V U : Nat → Nat → Nat} {A x : Nat} {l ks : List Nat} (C : CST h v u lg bk V U A x) (Q : Mq h h' l ks) (hl : ∀ a ∈ l, 147 ≤ a) : CST h' v u lg bk V U A x :=
  cst_fr C (fun a e => Q.2.2.2.2.2.2.1 a (by omega) (by omega) (fun z => by have := hl a z; omega))
theorem mst_only {h h' : Hp} {w z : Nat → Nat} {A : Nat} {l : List Nat} (M : MST h w z A) (O : Only h h' l) (hl : ∀ a ∈ l, a < 147) : MST h' w z A := by
  obtain ⟨k3, l1, l2⟩ := M
  have n : ∀ a, 147 ≤ a → a ∉ l := fun a ha z => by have := hl a z; omega
  exact ⟨by rw [O.I (n _ (by omega))]; exact k3, by rw [O.I (n _ (by omega))]; exact l1, by rw [O.I (n _ (by omega))]; exact l2⟩
theorem mst_mq {h h' : Hp} {w z : Nat → Nat} {A : Nat} {l ks : List Nat} (M : MST h w z A) (Q : Mq h h' l ks) (h1 : 160 ∉ l) (h2 : 162 ∉ l) (h3 : 37 ∉ ks) : MST h' w z A := by
  obtain ⟨k3, l1, l2⟩ := M
  exact ⟨by rw [Q.2.2.2.2.2.2.1 160 (by omega) (by omega) h1]; exact k3, by rw [Q.2.2.2.2.2.2.1 162 (by omega) (by omega) h2]; exact l1, by rw [Q.2.2.2.2.2.2.2 37 (by simp) h3]; exact l2⟩
theorem pst_act {v u w v' u' w' lg lg' bk bk' z : Nat → Nat} {V U : Nat → Nat → Nat} {A : Nat} (P : PST v u w lg bk V U z A) (hA : A ≤ 40) (B' : BV v' u') (M' : MR v' u' w') (E' : LB v' w' lg' bk') (G : LGs v lg lg' bk bk') (h10 : v 10 ≤ v' 10) (h11 : v 11 ≤ v' 11) (h12 : v' 11 ≤ v 11 + 1) : PST v' u' w' lg' bk' (sh1 v V) (sh1 u U) (remZ z w A) (remA A) := by
  obtain ⟨k2, k4, k5, P3, P2⟩ := P
  have lift : ∀ j, j + 1 < remA A → j < A := fun j hj => by unfold remA at hj; by_cases c : A = 40 <;> simp only [c, if_true, if_false] at hj <;> omega
  refine ⟨B', M', E', fun j hj => ?_, fun j hj => ?_⟩
  · rcases j with _ | j
    · exact pj_new hA k2 k4 k5 G h10 h11 h12
    · exact pj_old hA (P3 j (lift j hj)) hj G h10 h11 h12
  · rcases j with _ | j
    · obtain ⟨_, _, _, q1, q2, q3⟩ := P3 0 (lift 0 hj)
      exact ⟨q1, q2, by show v 11 ≤ V 0 11 + 1; omega⟩
    · exact P2 j (by have := lift (j + 1) hj; omega)
/-- the class marks -/
theorem mark_s {h : Hp} {s : Nat} {r d b : Nat → Nat} {dc bc : Nat} {lw : Option ((Nat → Int32) × Nat)} {v u lg bk : Nat → Nat} {V U : Nat → Nat → Nat} {A x : Nat} (S : STc h s r d b dc bc lw) (C : CST h v u lg bk V U A x) (b1 : v 1 ≤ 1) (b3 : v 3 ≤ 1) : ∃ h8, FX5_mark [vR (some 14), vR (some 10)] h = some (rV, h8) ∧ Only h h8 [16 + 2 * x, 16 + 2 * x + 1] ∧ STc h8 s r d b dc bc lw ∧ CST h8 v u lg bk V U A x ∧ CLa h8 (16 + 2 * x) v u := by
  have hx := C.2.2.2.1
  obtain ⟨h8, e8, O8, C8⟩ := mark_c S.1.2.1 (now_cla C.1) b1 b3 hx C.2.2.1
  exact ⟨h8, e8, O8, st_sg S (sg_only O8 (fun a ha => by simp at ha; omega)), cst_only C O8 (fun a ha => by unfold frC; simp at ha; omega), C8⟩
/-- the class keeps what it marked -/
theorem com_s {h : Hp} {s : Nat} {r d b : Nat → Nat} {dc bc : Nat} {lw : Option ((Nat → Int32) × Nat)} {v u v' u' lg' bk' : Nat → Nat} {V U : Nat → Nat → Nat} {A x : Nat} (S : STc h s r d b dc bc lw) (C : CST h v' u' lg' bk' V U A x) (K : CLa h (16 + 2 * x) v u) : FX5_commit [vR (some 14)] h = some (rV, cmH h A x) ∧ Only h (cmH h A x) [14] ∧ STc (cmH h A x) s r d b dc bc lw ∧ CST (cmH h A x) v' u' lg' bk' (sh1 v V) (sh1 u U) (remA A) ((x + 1) % 41) := by
  obtain ⟨⟨n1, n2, n3, n4⟩, l3, l4, l5, l6, P1⟩ := C
  have O : Only h (cmH h A x) [14] := (only_sI _ _ _ (by simp)).trans (only_sI _ _ _ (by simp))
  have r13 : ∀ a, a ≠ 14 → hI (cmH h A x) a = hI h a := fun a ha => by unfold cmH; rw [hI_row _ _ _ _ ha, hI_row _ _ _ _ ha]
  refine ⟨commit_c S.1.2.1 l5 l6 l4 l3, O, st_sg S (sg_only O (fun a ha => by simp at ha; omega)), ⟨by rw [r13 _ (by decide)]; exact n1, by rw [r13 _ (by decide)]; exact n2, by rw [r13 _ (by decide)]; exact n3, by rw [r13 _ (by decide)]; exact n4⟩, ?_, ?_, Nat.mod_lt _ (by omega), remA_le l6, fun j hj => ?_⟩
  · unfold cmH; rw [hI_same]
  · unfold cmH; rw [hI_slot _ _ _ _ (by decide), hI_same]
  · rcases j with _ | j
    · rw [show ((x + 1) % 41 + 40 - 0) % 41 = x by omega]
      exact cla_fr K (r13 _ (by omega)) (r13 _ (by omega))
    · have jA : j < A := by unfold remA at hj; by_cases c : A = 40 <;> simp only [c, if_true, if_false] at hj <;> omega
      rw [show ((x + 1) % 41 + 40 - (j + 1)) % 41 = (x + 40 - j) % 41 by omega]
      exact cla_fr (P1 j jA) (r13 _ (by omega)) (r13 _ (by omega))
theorem remember_s {h : Hp} {s : Nat} {r d b : Nat → Nat} {dc bc : Nat} {lw : Option ((Nat → Int32) × Nat)} {w z : Nat → Nat} {A : Nat} (S : STc h s r d b dc bc lw) (M : MST h w z A) (hA : A ≤ 40) : ∃ h', FX12_remember [vR (some 147)] h = some (rV, h') ∧ MST h' w (remZ z w A) (remA A) ∧ Mq h h' [162] [37] ∧ STc h' s r d b dc bc lw := by
  obtain ⟨h', e, t1, t2, q⟩ := remember_m S.1.2.2.2.2.1 M.1 M.2.1 M.2.2 hA
  exact ⟨h', e, ⟨by rw [q.2.2.2.2.2.2.1 160 (by omega) (by omega) (by simp)]; exact M.1, t1, t2⟩, q, st_sg S (sg_mq q (fun a ha => by simp at ha; omega) (fun k hk => by simp at hk; omega))⟩
