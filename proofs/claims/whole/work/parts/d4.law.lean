/-! ===== PURE: law, by both ===== -/
def AGL (x : Nat) (h h' : Hp) : Prop := hK h' = hK h ∧ hE h' = hE h ∧ (∀ a k, (a ≠ 103 ∨ k = 0) → (a ≠ 147 ∨ k ≠ 5) → ¬ (a = 3 ∧ k = 1) → hR h' a k = hR h a k) ∧ (∀ a, a ≠ 147 → a ≠ 151 → ¬ frC x a → ¬ frM a → hI h' a = hI h a) ∧ (∀ k, k = 26 ∨ k = 27 ∨ k = 37 → hI h' 147 k = hI h 147 k)
theorem ainv_agl {h : Hp} {s : Nat} {r d b : Nat → Nat} {dc bc : Nat} {lw : Option ((Nat → Int32) × Nat)} {v u w lg bk z : Nat → Nat} {A x : Nat} {h' : Hp} {lw' : Option ((Nat → Int32) × Nat)} (I : AINV h s r d b dc bc lw v u w lg bk z A x) (G : AGL x h h') (Q : LWS h' lw') : AINV h' s r d b dc bc lw' v u w lg bk z A x := by
  obtain ⟨gK, gE, gR, gI, gS⟩ := G
  obtain ⟨⟨⟨c1, c2, c3, c4, c5, c6, c7⟩, ⟨⟨p1, p2, p3, p4⟩, p5, p6⟩, D, L, U, RL⟩, ⟨j1, j2, W, M, j5, j6, j7⟩, ⟨⟨n1, n2, n3, n4⟩, k2, k3, k4, k5⟩, ⟨l1, l2, l3, l4, l5, l6, l7⟩⟩ := I
  have R : ∀ a k, a ≠ 103 → a ≠ 147 → ¬ (a = 3 ∧ k = 1) → hR h' a k = hR h a k := fun a k p q n => gR a k (Or.inl p) (Or.inl q) n
  have RM : ∀ k, k ≠ 5 → hR h' 147 k = hR h 147 k := fun k q => gR 147 k (Or.inl (by decide)) (Or.inr q) (by omega)
  have lp : ∀ a, a ≠ 103 → a ≠ 147 → LPl h a → LPl h' a := fun a p q C => by unfold LPl; rw [gK, gE, R a 8 p q (by omega)]; exact C
  have EC : ∀ a, a = s ∨ a = s + 1 ∨ a = s + 2 ∨ a = s + 3 ∨ a = 10 ∨ a = 11 ∨ a = 14 ∨ a = 99 ∨ a = 100 ∨ (∃ i, i < 41 ∧ i ≠ x ∧ (a = 16 + 2 * i ∨ a = 16 + 2 * i + 1)) → hI h' a = hI h a := fun a e => by
    refine gI a ?_ ?_ ?_ ?_
    · rcases e with e | e | e | e | e | e | e | e | e | ⟨i, e1, e2, e3⟩ <;> omega
    · rcases e with e | e | e | e | e | e | e | e | e | ⟨i, e1, e2, e3⟩ <;> omega
    · unfold frC
      rcases e with e | e | e | e | e | e | e | e | e | ⟨i, e1, e2, e3⟩ <;> omega
    · unfold frM
      rcases e with e | e | e | e | e | e | e | e | e | ⟨i, e1, e2, e3⟩ <;> omega
  have EM : ∀ a, a = 149 ∨ a = 150 ∨ a = 152 ∨ a = 154 ∨ a = 156 ∨ a = 160 ∨ a = 162 ∨ 172 < a → hI h' a = hI h a := fun a e => gI a (by omega) (by omega) (by unfold frC; omega) (by unfold frM; omega)
  obtain ⟨⟨w1, w2⟩, ⟨x1, x2, x3, x4, x5, x6, x7, x8⟩, w3, ⟨w4, w4'⟩, w5, w6, w7, w8⟩ := W
  obtain ⟨m1, ⟨m2, m2', m2''⟩, ⟨m3, m3', m3''⟩, ⟨m4, m4', m4''⟩, m5, ⟨m6, m6'⟩, m7, m8, m9, m10⟩ := M
  refine ⟨⟨⟨by rw [gK]; exact c1, by rw [R 0 1 (by decide) (by decide) (by omega)]; exact c2, by rw [R 0 2 (by decide) (by decide) (by omega)]; exact c3, by rw [R 0 4 (by decide) (by decide) (by omega)]; exact c4, by rw [R 0 5 (by decide) (by decide) (by omega)]; exact c5, by rw [R 3 2 (by decide) (by decide) (by omega)]; exact c6, by rw [R 3 3 (by decide) (by decide) (by omega)]; exact c7⟩, ⟨⟨by rw [gK]; exact p1, by rw [R 14 0 (by decide) (by decide) (by omega)]; exact p2, by rw [gK]; exact p3, by rw [gE]; exact p4⟩, fun i hi => ⟨by rw [R 15 i (by decide) (by decide) (by omega)]; exact (p5 i hi).1, lp _ (by omega) (by omega) (p5 i hi).2⟩, lp 10 (by decide) (by decide) p6⟩, ?_, ?_, ?_, ?_⟩, ⟨j1, ?_, ?_, ?_, j5, j6, ?_⟩, ⟨⟨?_, ?_, ?_, ?_⟩, k2, ?_, k4, k5⟩, ⟨?_, ?_, ?_, ?_, l5, l6, past_fr l7 l6 l5 (fun i hi ne => ⟨EC _ ?_, EC _ ?_⟩)⟩⟩
  · unfold DP; rw [gK, gE, R 98 0 (by decide) (by decide) (by omega), R 98 1 (by decide) (by decide) (by omega)]; exact D
  · unfold LL; rw [gK, gE, R 10 8 (by decide) (by decide) (by omega)]; exact L
  · unfold UL; rw [gK, gE, RM 32 (by decide), RM 36 (by decide)]; exact U
  · unfold RLo; rw [gK, gE]; exact RL
  · rw [EC s (by omega)]; exact j2
  · exact ⟨⟨by rw [gK]; exact w1, by rw [R 3 0 (by decide) (by decide) (by omega)]; exact w2⟩, ⟨by rw [gK]; exact x1, by rw [R s 2 (by omega) (by omega) (by omega)]; exact x2, by rw [R s 3 (by omega) (by omega) (by omega)]; exact x3, by rw [R s 4 (by omega) (by omega) (by omega)]; exact x4, by rw [gK, gE]; exact x5, by rw [gK, gE]; exact x6, by rw [gK, gE]; exact x7, x8⟩, w3, ⟨by rw [EC s (by omega)]; exact w4, by rw [EC s (by omega)]; exact w4'⟩, fun k hk => by rw [EC (s + 1) (by omega)]; exact w5 k hk, fun k hk => by rw [EC (s + 2) (by omega)]; exact w6 k hk, fun k hk => by rw [EC (s + 3) (by omega)]; exact w7 k hk, w8⟩
  · exact ⟨by rw [gK]; exact m1, ⟨by rw [RM 18 (by decide)]; exact m2, by rw [gK]; exact m2', by rw [gE]; exact m2''⟩, ⟨by rw [RM 20 (by decide)]; exact m3, by rw [gK]; exact m3', by rw [gE]; exact m3''⟩, ⟨by rw [RM 22 (by decide)]; exact m4, by rw [gK]; exact m4', by rw [gE]; exact m4''⟩, m5, ⟨by rw [gS 26 (by omega)]; exact m6, by rw [gS 27 (by omega)]; exact m6'⟩, fun k hk => by rw [EM 152 (by omega)]; exact m7 k hk, fun k hk => by rw [EM 154 (by omega)]; exact m8 k hk, fun k hk => by rw [EM 156 (by omega)]; exact m9 k hk, m10⟩
  · exact Q
  · rw [EC 10 (by omega)]; exact n1
  · rw [EC 11 (by omega)]; exact n2
  · rw [EC 99 (by omega)]; exact n3
  · rw [EC 100 (by omega)]; exact n4
  · rw [EM 160 (by omega)]; exact k3
  · rw [EM 162 (by omega)]; exact l1
  · rw [gS 37 (by omega)]; exact l2
  · rw [EC 14 (by omega)]; exact l3
  · rw [EC 14 (by omega)]; exact l4
  · exact Or.inr (Or.inr (Or.inr (Or.inr (Or.inr (Or.inr (Or.inr (Or.inr (Or.inr ⟨i, hi, ne, Or.inl rfl⟩))))))))
  · exact Or.inr (Or.inr (Or.inr (Or.inr (Or.inr (Or.inr (Or.inr (Or.inr (Or.inr ⟨i, hi, ne, Or.inr rfl⟩))))))))
