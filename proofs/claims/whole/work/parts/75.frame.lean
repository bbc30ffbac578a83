/-! ===== PURE: what stands fast while the class, or the reference, acts ===== -/
theorem wl_only {h h' : Hp} {a cd N : Nat} {l : List Nat} (V : WL h a cd N) (O : Only h h' l) : WL h' a cd N := by
  unfold WL
  rw [O.K, O.R, O.E]; exact V
theorem stl_only {h h' : Hp} {s n : Nat} {b : Nat → Nat} {l : List Nat} (V : StL h s n b) (O : Only h h' l) (hl : s + 100 ∉ l) : StL h' s n b := by
  unfold StL
  rw [O.K, O.E, O.I hl]; exact V
theorem lm_only {h h' : Hp} {li n : Nat} {t : Nat → Int32} {l : List Nat} (V : LM h li n t) (O : Only h h' l) (hl : ∀ x ∈ l, x < 147) : LM h' li n t := by
  have P := PRE_big
  obtain ⟨m1, m2, m3, m4, m5, m6, m7, m8⟩ := V
  have n147 : 147 ∉ l := fun z => by have := hl _ z; omega
  have n149 : 149 ∉ l := fun z => by have := hl _ z; omega
  have n150 : 150 ∉ l := fun z => by have := hl _ z; omega
  refine ⟨by rw [O.I n147]; exact m1, by rw [O.R, O.K, O.E]; exact m2, by rw [O.R, O.K, O.E]; exact m3, by rw [O.I n150]; exact m4, by rw [O.I n149]; exact m5, by rw [O.R, O.K, O.E]; exact m6, stl_only m7 O (fun z => by have := hl _ z; omega), stl_only m8 O (fun z => by have := hl _ z; omega)⟩
theorem lws_only {h h' : Hp} {lw : Option ((Nat → Int32) × Nat)} {l : List Nat} (Q : LWS h lw) (O : Only h h' l) (hl : ∀ x ∈ l, x < 147) : LWS h' lw := by
  have n147 : 147 ∉ l := fun z => by have := hl _ z; omega
  cases lw with
  | none => exact ⟨by rw [O.R]; exact Q.1, by rw [O.I n147]; exact Q.2⟩
  | some p =>
    obtain ⟨c, N⟩ := p
    obtain ⟨lb, cd, li, n, t, q1, q2, q3, q4, q5, q6⟩ := Q
    exact ⟨lb, cd, li, n, t, by rw [O.R]; exact q1, wl_only q2 O, fun q hq => by rw [O.I (fun z => by have := hl _ z; omega)]; exact q3 q hq, q4, q5, lm_only q6 O hl⟩
theorem wl_mq {h h' : Hp} {a cd N : Nat} {l ks : List Nat} (V : WL h a cd N) (A : Mq h h' l ks) (ha : a ≠ 147) : WL h' a cd N := by
  obtain ⟨_, _, a3, a4, _, a6, _⟩ := A
  unfold WL
  rw [a3, a4, a6 a 0 (Or.inl ha)]; exact V
theorem stl_mq {h h' : Hp} {s n : Nat} {b : Nat → Nat} {l ks : List Nat} (V : StL h s n b) (A : Mq h h' l ks) (h1 : s + 100 ≠ 147) (h2 : s + 100 ≠ 151) (hl : s + 100 ∉ l) : StL h' s n b := by
  obtain ⟨_, _, a3, a4, _, _, a7, _⟩ := A
  unfold StL
  rw [a3, a4, a7 _ h1 h2 hl]; exact V
theorem lm_mq {h h' : Hp} {li n : Nat} {t : Nat → Int32} {l ks : List Nat} (V : LM h li n t) (A : Mq h h' l ks) (hk : 34 ∉ ks) (hl : ∀ x ∈ l, 152 ≤ x ∧ x < 172) : LM h' li n t := by
  have P := PRE_big
  have A0 := A
  obtain ⟨_, _, a3, a4, _, a6, a7, a8⟩ := A
  obtain ⟨m1, ⟨m2, m2', m2''⟩, ⟨m3, m3', m3''⟩, m4, m5, ⟨m6, m6', m6''⟩, m7, m8⟩ := V
  have n149 : 149 ∉ l := fun z => by have := hl _ z; omega
  have n150 : 150 ∉ l := fun z => by have := hl _ z; omega
  refine ⟨by rw [a8 34 (by simp) hk]; exact m1, ⟨by rw [a6 _ _ (by omega)]; exact m2, by rw [a3]; exact m2', by rw [a4]; exact m2''⟩, ⟨by rw [a6 _ _ (by omega)]; exact m3, by rw [a3]; exact m3', by rw [a4]; exact m3''⟩, by rw [a7 150 (by omega) (by omega) n150]; exact m4, by rw [a7 149 (by omega) (by omega) n149]; exact m5, ⟨by rw [a6 _ _ (by omega)]; exact m6, by rw [a3]; exact m6', by rw [a4]; exact m6''⟩, stl_mq m7 A0 (by omega) (by omega) (fun z => by have := hl _ z; omega), stl_mq m8 A0 (by omega) (by omega) (fun z => by have := hl _ z; omega)⟩
theorem lws_mq {h h' : Hp} {lw : Option ((Nat → Int32) × Nat)} {l ks : List Nat} (Q : LWS h lw) (A : Mq h h' l ks) (k12 : hK h 147 = 12) (hk : 34 ∉ ks) (hl : ∀ x ∈ l, 152 ≤ x ∧ x < 172) : LWS h' lw := by
  have A0 := A
  obtain ⟨_, _, a3, a4, _, a6, a7, a8⟩ := A
  cases lw with
  | none => exact ⟨by rw [a6 _ _ (by omega)]; exact Q.1, by rw [a8 34 (by simp) hk]; exact Q.2⟩
  | some p =>
    obtain ⟨c, N⟩ := p
    obtain ⟨lb, cd, li, n, t, q1, q2, q3, q4, q5, q6⟩ := Q
    have hlb : lb ≠ 147 := by
      intro z
      have z1 := q2.1
      rw [z, k12] at z1
      omega
    exact ⟨lb, cd, li, n, t, by rw [a6 _ _ (by omega)]; exact q1, wl_mq q2 A0 hlb, fun q hq => by rw [a7 _ (by omega) (by omega) (fun z => by have := hl _ z; omega)]; exact q3 q hq, q4, q5, lm_mq q6 A0 hk hl⟩
theorem wh_mq {h h' : Hp} {s : Nat} {r d b : Nat → Nat} {dc bc : Nat} {l ks : List Nat} (W : WH h s r d b dc bc) (A : Mq h h' l ks) (hs : s + 3 < 147) (hl : ∀ x ∈ l, 147 ≤ x) : WH h' s r d b dc bc := by
  obtain ⟨_, _, a3, a4, _, a6, a7, _⟩ := A
  obtain ⟨⟨w1, w1'⟩, ⟨l1, l2, l3, l4, l5, l6, l7, l8⟩, w3, w4, w5, w6, w7, w8⟩ := W
  have n : ∀ k, k ≤ 3 → s + k ∉ l := fun k hk z => by have := hl _ z; omega
  refine ⟨⟨by rw [a3]; exact w1, by rw [a6 _ _ (by omega)]; exact w1'⟩, ⟨by rw [a3]; exact l1, by rw [a6 _ _ (by omega)]; exact l2, by rw [a6 _ _ (by omega)]; exact l3, by rw [a6 _ _ (by omega)]; exact l4, by rw [a3, a4]; exact l5, by rw [a3, a4]; exact l6, by rw [a3, a4]; exact l7, l8⟩, w3, ?_, ?_, ?_, ?_, w8⟩
  · rw [a7 s (by omega) (by omega) (n 0 (by omega))]; exact w4
  · rw [a7 (s + 1) (by omega) (by omega) (n 1 (by omega))]; exact w5
  · rw [a7 (s + 2) (by omega) (by omega) (n 2 (by omega))]; exact w6
  · rw [a7 (s + 3) (by omega) (by omega) (n 3 (by omega))]; exact w7
theorem cf_mq {h h' : Hp} {l ks : List Nat} (L : CF h) (A : Mq h h' l ks) : CF h' := by
  obtain ⟨_, _, a3, a4, _, a6, a7, _⟩ := A
  unfold CF
  rw [a3, a6 0 1 (by omega), a6 0 2 (by omega), a6 0 4 (by omega), a6 0 5 (by omega), a6 3 2 (by omega), a6 3 3 (by omega)]; exact L
theorem ll_mq {h h' : Hp} {a s : Nat} {l ks : List Nat} (L : LL h a s) (A : Mq h h' l ks) (ha : a < 147) : LL h' a s := by
  obtain ⟨_, _, a3, a4, _, a6, a7, _⟩ := A
  unfold LL
  rw [a3, a4, a6 a 8 (by omega)]; exact L
theorem dp_mq {h h' : Hp} {g : Nat} {l ks : List Nat} (L : DP h g) (A : Mq h h' l ks) (hg : g < 147) : DP h' g := by
  obtain ⟨_, _, a3, a4, _, a6, a7, _⟩ := A
  unfold DP
  rw [a3, a4, a6 g 0 (by omega), a6 g 1 (by omega)]; exact L
theorem ptl_mq {h h' : Hp} {l ks : List Nat} (L : PTL h) (A : Mq h h' l ks) : PTL h' := by
  obtain ⟨_, _, a3, a4, _, a6, a7, _⟩ := A
  obtain ⟨⟨p1, p2, p3, p4⟩, p5, ⟨p6, p7, p8, p9⟩⟩ := L
  refine ⟨⟨by rw [a3]; exact p1, by rw [a6 _ _ (by omega)]; exact p2, by rw [a3]; exact p3, by rw [a4]; exact p4⟩, fun i hi => ?_, ⟨by rw [a3]; exact p6, by rw [a6 _ _ (by omega)]; exact p7, by rw [a3]; exact p8, by rw [a4]; exact p9⟩⟩
  obtain ⟨q1, ⟨q2, q3, q4, q5⟩⟩ := p5 i hi
  exact ⟨by rw [a6 _ _ (by omega)]; exact q1, by rw [a3]; exact q2, by rw [a6 _ _ (by omega)]; exact q3, by rw [a3]; exact q4, by rw [a4]; exact q5⟩
theorem ul_only {h h' : Hp} {l : List Nat} (L : UL h) (O : Only h h' l) : UL h' := by
  unfold UL
  rw [O.K, O.R, O.E]; exact L
theorem ul_mq {h h' : Hp} {l ks : List Nat} (L : UL h) (A : Mq h h' l ks) : UL h' := by
  obtain ⟨_, _, a3, a4, _, a6, a7, _⟩ := A
  unfold UL
  rw [a3, a4, a6 147 32 (by omega), a6 147 36 (by omega)]; exact L
theorem rlo_only {h h' : Hp} {o : Nat} {l : List Nat} (L : RLo h o) (O : Only h h' l) : RLo h' o := by
  unfold RLo
  rw [O.K, O.E]; exact L
