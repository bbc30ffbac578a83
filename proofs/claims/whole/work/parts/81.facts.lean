/-! ===== PURE: what stands fast for the acts' invariant; facts for simp; queries ===== -/
/-- cells of the class that the acts' invariant doesn't speak of -/
def frC (x a : Nat) : Prop := a < 4 ∨ a = 8 ∨ a = 9 ∨ a = 12 ∨ a = 13 ∨ (101 ≤ a ∧ a < 131) ∨ (135 ≤ a ∧ a < 147) ∨ a = 16 + 2 * x ∨ a = 16 + 2 * x + 1
/-- cells of the reference that it doesn't speak of -/
def frM (a : Nat) : Prop := a = 148 ∨ (152 < a ∧ a < 172 ∧ a ≠ 154 ∧ a ≠ 156 ∧ a ≠ 160 ∧ a ≠ 162)
def AG (x : Nat) (h h' : Hp) : Prop := hK h' = hK h ∧ hE h' = hE h ∧ (∀ a k, (a ≠ 103 ∨ k = 0) → (a ≠ 147 ∨ k ≠ 5) → hR h' a k = hR h a k) ∧ (∀ a, a ≠ 147 → a ≠ 151 → ¬ frC x a → ¬ frM a → hI h' a = hI h a) ∧ (∀ k, k = 26 ∨ k = 27 ∨ k = 34 ∨ k = 37 → hI h' 147 k = hI h 147 k)
theorem AG.refl (x : Nat) (h : Hp) : AG x h h := ⟨rfl, rfl, fun _ _ _ _ => rfl, fun _ _ _ _ _ => rfl, fun _ _ => rfl⟩
theorem AG.trans {x : Nat} {h h' h'' : Hp} (P : AG x h h') (Q : AG x h' h'') : AG x h h'' := by
  obtain ⟨p1, p2, p3, p4, p5⟩ := P
  obtain ⟨q1, q2, q3, q4, q5⟩ := Q
  exact ⟨q1.trans p1, q2.trans p2, fun a k e f => (q3 a k e f).trans (p3 a k e f), fun a e f g i => (q4 a e f g i).trans (p4 a e f g i), fun k e => (q5 k e).trans (p5 k e)⟩
theorem ag_only {x : Nat} {h h' : Hp} {l : List Nat} (O : Only h h' l) (hl : ∀ a ∈ l, frC x a) (h147 : 147 ∉ l) : AG x h h' :=
  ⟨O.K, O.E, fun _ _ _ _ => by rw [O.R], fun a _ _ c _ => O.I (fun z => c (hl a z)), fun k _ => by rw [O.I h147]⟩
theorem ag_mq {x : Nat} {h h' : Hp} {l ks : List Nat} (Q : Mq h h' l ks) (hl : ∀ a ∈ l, frM a) (hk : ∀ k ∈ ks, k ≠ 26 ∧ k ≠ 27 ∧ k ≠ 34 ∧ k ≠ 37) : AG x h h' := by
  obtain ⟨_, _, a3, a4, _, a6, a7, a8⟩ := Q
  exact ⟨a3, a4, fun a k _ f => a6 a k f, fun a e f _ c => a7 a e f (fun z => c (hl a z)), fun k e => a8 k (by simp; omega) (fun z => by have := hk k z; omega)⟩
theorem ainv_ag {h : Hp} {s : Nat} {r d b : Nat → Nat} {dc bc : Nat} {lw : Option ((Nat → Int32) × Nat)} {v u w lg bk z : Nat → Nat} {A x : Nat} {h' : Hp} (I : AINV h s r d b dc bc lw v u w lg bk z A x) (G : AG x h h') : AINV h' s r d b dc bc lw v u w lg bk z A x := by
  obtain ⟨gK, gE, gR, gI, gS⟩ := G
  obtain ⟨⟨⟨c1, c2, c3, c4, c5, c6, c7⟩, ⟨⟨p1, p2, p3, p4⟩, p5, p6⟩, D, L, U, RL⟩, ⟨j1, j2, W, M, j5, j6, j7⟩, ⟨⟨n1, n2, n3, n4⟩, k2, k3, k4, k5⟩, ⟨l1, l2, l3, l4, l5, l6, l7⟩⟩ := I
  have R : ∀ a k, a ≠ 103 → a ≠ 147 → hR h' a k = hR h a k := fun a k p q => gR a k (Or.inl p) (Or.inl q)
  have RM : ∀ k, k ≠ 5 → hR h' 147 k = hR h 147 k := fun k q => gR 147 k (Or.inl (by decide)) (Or.inr q)
  have lp : ∀ a, a ≠ 103 → a ≠ 147 → LPl h a → LPl h' a := fun a p q C => by unfold LPl; rw [gK, gE, R a 8 p q]; exact C
  have EC : ∀ a, a = s ∨ a = s + 1 ∨ a = s + 2 ∨ a = s + 3 ∨ a = 10 ∨ a = 11 ∨ a = 14 ∨ a = 99 ∨ a = 100 ∨ (∃ i, i < 41 ∧ i ≠ x ∧ (a = 16 + 2 * i ∨ a = 16 + 2 * i + 1)) → hI h' a = hI h a := fun a e => by
    refine gI a ?_ ?_ ?_ ?_
    · rcases e with e | e | e | e | e | e | e | e | e | ⟨i, e1, e2, e3⟩ <;> omega
    · rcases e with e | e | e | e | e | e | e | e | e | ⟨i, e1, e2, e3⟩ <;> omega
    · unfold frC
      rcases e with e | e | e | e | e | e | e | e | e | ⟨i, e1, e2, e3⟩ <;> omega
    · unfold frM
      rcases e with e | e | e | e | e | e | e | e | e | ⟨i, e1, e2, e3⟩ <;> omega
  have EM : ∀ a, a = 149 ∨ a = 150 ∨ a = 152 ∨ a = 154 ∨ a = 156 ∨ a = 160 ∨ a = 162 ∨ 172 < a → hI h' a = hI h a := fun a e => gI a (by omega) (by omega) (by unfold frC; omega) (by unfold frM; omega)
  obtain ⟨⟨w1, w2⟩, ⟨x1, x2, x3, x4, x5, x6, x7, x8⟩, w3, ⟨w4, w4'⟩, w5, w6, w7, w8⟩ := W
  obtain ⟨m1, ⟨m2, m2', m2''⟩, ⟨m3, m3', m3''⟩, ⟨m4, m4', m4''⟩, m5, ⟨m6, m6'⟩, m7, m8, m9, m10⟩ := M
  refine ⟨⟨⟨by rw [gK]; exact c1, by rw [R 0 1 (by decide) (by decide)]; exact c2, by rw [R 0 2 (by decide) (by decide)]; exact c3, by rw [R 0 4 (by decide) (by decide)]; exact c4, by rw [R 0 5 (by decide) (by decide)]; exact c5, by rw [R 3 2 (by decide) (by decide)]; exact c6, by rw [R 3 3 (by decide) (by decide)]; exact c7⟩, ⟨⟨by rw [gK]; exact p1, by rw [R 14 0 (by decide) (by decide)]; exact p2, by rw [gK]; exact p3, by rw [gE]; exact p4⟩, fun i hi => ⟨by rw [R 15 i (by decide) (by decide)]; exact (p5 i hi).1, lp _ (by omega) (by omega) (p5 i hi).2⟩, lp 10 (by decide) (by decide) p6⟩, ?_, ?_, ?_, ?_⟩, ⟨j1, ?_, ?_, ?_, j5, j6, ?_⟩, ⟨⟨?_, ?_, ?_, ?_⟩, k2, ?_, k4, k5⟩, ⟨?_, ?_, ?_, ?_, l5, l6, past_fr l7 l6 l5 (fun i hi ne => ⟨EC _ ?_, EC _ ?_⟩)⟩⟩
  · unfold DP; rw [gK, gE, R 98 0 (by decide) (by decide), R 98 1 (by decide) (by decide)]; exact D
  · unfold LL; rw [gK, gE, R 10 8 (by decide) (by decide)]; exact L
  · unfold UL; rw [gK, gE, RM 32 (by decide), RM 36 (by decide)]; exact U
  · unfold RLo; rw [gK, gE]; exact RL
  · rw [EC s (by omega)]; exact j2
  · exact ⟨⟨by rw [gK]; exact w1, by rw [R 3 0 (by decide) (by decide)]; exact w2⟩, ⟨by rw [gK]; exact x1, by rw [R s 2 (by omega) (by omega)]; exact x2, by rw [R s 3 (by omega) (by omega)]; exact x3, by rw [R s 4 (by omega) (by omega)]; exact x4, by rw [gK, gE]; exact x5, by rw [gK, gE]; exact x6, by rw [gK, gE]; exact x7, x8⟩, w3, ⟨by rw [EC s (by omega)]; exact w4, by rw [EC s (by omega)]; exact w4'⟩, fun k hk => by rw [EC (s + 1) (by omega)]; exact w5 k hk, fun k hk => by rw [EC (s + 2) (by omega)]; exact w6 k hk, fun k hk => by rw [EC (s + 3) (by omega)]; exact w7 k hk, w8⟩
  · exact ⟨by rw [gK]; exact m1, ⟨by rw [RM 18 (by decide)]; exact m2, by rw [gK]; exact m2', by rw [gE]; exact m2''⟩, ⟨by rw [RM 20 (by decide)]; exact m3, by rw [gK]; exact m3', by rw [gE]; exact m3''⟩, ⟨by rw [RM 22 (by decide)]; exact m4, by rw [gK]; exact m4', by rw [gE]; exact m4''⟩, m5, ⟨by rw [gS 26 (by omega)]; exact m6, by rw [gS 27 (by omega)]; exact m6'⟩, fun k hk => by rw [EM 152 (by omega)]; exact m7 k hk, fun k hk => by rw [EM 154 (by omega)]; exact m8 k hk, fun k hk => by rw [EM 156 (by omega)]; exact m9 k hk, m10⟩
  · cases lw with
    | none => exact ⟨by rw [R 3 1 (by decide) (by decide)]; exact j7.1, by rw [gS 34 (by omega)]; exact j7.2⟩
    | some p =>
      obtain ⟨c, N⟩ := p
      obtain ⟨lb, cd, li, n, t, q1, q2, q3, q4, q5, q6⟩ := j7
      obtain ⟨v1, v2, v3, v4, v5⟩ := q2
      obtain ⟨⟨y1, y1'⟩, ⟨y2, y2', y2''⟩, ⟨y3, y3', y3''⟩, ⟨y4, y4'⟩, y5, ⟨y6, y6', y6''⟩, y7, y8⟩ := q6
      have n147 : lb ≠ 147 := fun e => by rw [e, m1] at v1; cases v1
      have st : ∀ a n' (b' : Nat → Nat), 172 < a → StL h a n' b' → StL h' a n' b' := fun a n' b' ha S => by
        unfold StL; rw [gK, gE, EM (a + 100) (by omega)]; exact S
      refine ⟨lb, cd, li, n, t, by rw [R 3 1 (by decide) (by decide)]; exact q1, ⟨by rw [gK]; exact v1, by rw [gR lb 0 (Or.inr rfl) (Or.inl n147)]; exact v2, by rw [gK]; exact v3, by rw [gE]; exact v4, by rw [gK, gE]; exact v5⟩, fun q hq => by rw [EM cd (by omega)]; exact q3 q hq, q4, q5, ⟨by rw [gS 34 (by omega)]; exact y1, y1'⟩, ⟨by rw [RM 2 (by decide)]; exact y2, by rw [gK]; exact y2', by rw [gE]; exact y2''⟩, ⟨by rw [RM 3 (by decide)]; exact y3, by rw [gK]; exact y3', by rw [gE]; exact y3''⟩, ⟨by rw [EM 150 (by omega)]; exact y4, y4'⟩, fun i hi => by rw [EM 149 (by omega)]; exact y5 i hi, ⟨by rw [RM 4 (by decide)]; exact y6, by rw [gK]; exact y6', by rw [gE]; exact y6''⟩, st _ _ _ (by unfold PRE; omega) y7, st _ _ _ (by unfold PRE; omega) y8⟩
  · rw [EC 10 (by omega)]; exact n1
  · rw [EC 11 (by omega)]; exact n2
  · rw [EC 99 (by omega)]; exact n3
  · rw [EC 100 (by omega)]; exact n4
  · rw [EM 160 (by omega)]; exact k3
  · rw [EM 162 (by omega)]; exact l1
  · rw [gS 37 (by omega)]; exact l2
  · rw [EC 14 (by omega)]; exact l3
  · rw [EC 14 (by omega)]; exact l4
  · exact Or.inr (Or.inr (Or.inr (Or.inr (Or.inr (Or.inr (Or.inr (Or.inr (Or.inr ⟨i, hi, ne, Or.inl rfl⟩))))))))
  · exact Or.inr (Or.inr (Or.inr (Or.inr (Or.inr (Or.inr (Or.inr (Or.inr (Or.inr ⟨i, hi, ne, Or.inr rfl⟩))))))))
theorem ainv_t {h : Hp} {s : Nat} {r d b : Nat → Nat} {dc bc : Nat} {lw : Option ((Nat → Int32) × Nat)} {v u w lg bk z : Nat → Nat} {A x : Nat} (I : AINV h s r d b dc bc lw v u w lg bk z A x) : AINV (sI h 147 0 0) s r d b dc bc lw v u w lg bk z A x := ainv_m I (mq_sI h _ _ (by simp))
theorem cfa {h : Hp} {s : Nat} {r d b : Nat → Nat} {dc bc : Nat} {lw : Option ((Nat → Int32) × Nat)} {v u w lg bk z : Nat → Nat} {A x : Nat} (I : AINV h s r d b dc bc lw v u w lg bk z A x) : hK h 0 = 11 ∧ hR h 0 1 = some 3 ∧ hR h 0 2 = some 10 ∧ hR h 0 4 = some 14 ∧ hR h 0 5 = some 98 ∧ hK h 3 = 10 ∧ hR h 3 0 = some s ∧ hK h s = 0 ∧ hR h s 2 = some (s + 1) ∧ hR h s 3 = some (s + 2) ∧ hR h s 4 = some (s + 3) ∧ hK h (s + 1) = 20 ∧ hE h (s + 1) = 7 ∧ hK h (s + 2) = 20 ∧ hE h (s + 2) = 18 ∧ hK h (s + 3) = 20 ∧ hE h (s + 3) = 15 ∧ hK h 10 = 4 ∧ hR h 10 8 = some 11 ∧ hK h 11 = 20 ∧ hE h 11 = 5 ∧ hK h 14 = 5 ∧ hK h 98 = 3 ∧ hI h s 0 = 1 ∧ hI h s 5 = nI dc ∧ hI h s 6 = nI bc ∧ (∀ k, hI h 10 k = nI (v k)) ∧ (∀ k, hI h 11 k = nI (u k)) := by
  obtain ⟨⟨⟨c1, c2, c3, c4, c5, c6, c7⟩, ⟨⟨p1, p2, p3, p4⟩, p5, p6⟩, D, L, U, RL⟩, ⟨j1, j2, W, M, j5, j6, j7⟩, ⟨⟨n1, n2, n3, n4⟩, k2, k3, k4, k5⟩, ⟨l1, l2, l3, l4, l5, l6, l7⟩⟩ := I
  obtain ⟨⟨w1, w2⟩, ⟨x1, x2, x3, x4, ⟨x5, x5'⟩, ⟨x6, x6'⟩, ⟨x7, x7'⟩, x8⟩, w3, ⟨w4, w4'⟩, w5, w6, w7, w8⟩ := W
  exact ⟨c1, c2, c3, c4, c5, w1, w2, x1, x2, x3, x4, x5, x5', x6, x6', x7, x7', L.1, L.2.1, L.2.2.1, L.2.2.2.1, p1, D.1, j2, w4, w4', fun k => by rw [n1]; rfl, fun k => by rw [n2]; rfl⟩
theorem mfa {h : Hp} {s : Nat} {r d b : Nat → Nat} {dc bc : Nat} {lw : Option ((Nat → Int32) × Nat)} {v u w lg bk z : Nat → Nat} {A x : Nat} (I : AINV h s r d b dc bc lw v u w lg bk z A x) : hK h 147 = 12 ∧ hR h 147 18 = some 152 ∧ hK h 152 = 20 ∧ hE h 152 = 7 ∧ hR h 147 20 = some 154 ∧ hK h 154 = 20 ∧ hE h 154 = 18 ∧ hR h 147 22 = some 156 ∧ hK h 156 = 20 ∧ hE h 156 = 15 ∧ hR h 147 32 = some 160 ∧ hK h 160 = 20 ∧ hE h 160 = 381 ∧ hI h 147 26 = nI dc ∧ hI h 147 27 = nI bc ∧ (∀ k, hI h 160 k = nI (w k)) := by
  obtain ⟨⟨_, _, D, L, U, RL⟩, ⟨j1, j2, W, M, j5, j6, j7⟩, ⟨_, k2, k3, k4, k5⟩, _⟩ := I
  obtain ⟨m1, ⟨m2, m2', m2''⟩, ⟨m3, m3', m3''⟩, ⟨m4, m4', m4''⟩, m5, ⟨m6, m6'⟩, m7, m8, m9, m10⟩ := M
  exact ⟨m1, m2, m2', m2'', m3, m3', m3'', m4, m4', m4'', U.2.1, U.2.2.1, U.2.2.2.1, m6, m6', fun k => by rw [k3]; rfl⟩
theorem hom {h : Hp} {s : Nat} {r d b : Nat → Nat} {dc bc : Nat} {lw : Option ((Nat → Int32) × Nat)} {v u w lg bk z : Nat → Nat} {A x : Nat} (I : AINV h s r d b dc bc lw v u w lg bk z A x) : FX11_homeless [vR (some 0)] h = some (rI 0, h) := home_c I.1.1 I.2.1.2.2.1 I.2.1.2.1
theorem ix3 {i N : Nat} (hi : 3 * i + 2 < N) (hN : N < 1000) : (3 : Int32) * nI i = nI (3 * i) ∧ nI (3 * i) + 0 = nI (3 * i) ∧ nI (3 * i) + 1 = nI (3 * i + 1) ∧ nI (3 * i) + 2 = nI (3 * i + 2) ∧ inb (nI (3 * i)) N = true ∧ inb (nI (3 * i + 1)) N = true ∧ inb (nI (3 * i + 2)) N = true ∧ (nI (3 * i)).toNatClampNeg = 3 * i ∧ (nI (3 * i + 1)).toNatClampNeg = 3 * i + 1 ∧ (nI (3 * i + 2)).toNatClampNeg = 3 * i + 2 :=
  ⟨pk_mul 3 i, Int32.add_zero _, nI_1 _, nI_add _ 2, inb_nI (by omega) (by omega), inb_nI (by omega) (by omega), inb_nI (by omega) (by omega), nI_clamp (by omega), nI_clamp (by omega), nI_clamp (by omega)⟩
theorem ne10 : ¬ (1 : Int32) = 0 := by decide
theorem ne01 : ¬ (0 : Int32) = 1 := by decide
theorem ne100 : ¬ (100 : Int64) = 0 := by decide
theorem ne30 : ¬ (3 : Int32) = 0 := by decide
theorem ne20 : ¬ (2 : Int32) = 0 := by decide
theorem isIn_01 (y : Int32) (h : Hp) : FX12_isIn [vL y.toInt64, vL 0, vL 1] h = some (rI (if y < 0 then 0 else if 1 < y then 0 else 1), h) := isIn_sp y 0 1 h
theorem isIn_02 (y : Int32) (h : Hp) : FX12_isIn [vL y.toInt64, vL 0, vL 2] h = some (rI (if y < 0 then 0 else if 2 < y then 0 else 1), h) := isIn_sp y 0 2 h
theorem isIn_04 (y : Int32) (h : Hp) : FX12_isIn [vL y.toInt64, vL 0, vL 4] h = some (rI (if y < 0 then 0 else if 4 < y then 0 else 1), h) := isIn_sp y 0 4 h
theorem isIn_06 (y : Int32) (h : Hp) : FX12_isIn [vL y.toInt64, vL 0, vL 6] h = some (rI (if y < 0 then 0 else if 6 < y then 0 else 1), h) := isIn_sp y 0 6 h
theorem isIn_09 (y : Int32) (h : Hp) : FX12_isIn [vL y.toInt64, vL 0, vL 9] h = some (rI (if y < 0 then 0 else if 9 < y then 0 else 1), h) := isIn_sp y 0 9 h
theorem isIn_030 (y : Int32) (h : Hp) : FX12_isIn [vL y.toInt64, vL 0, vL 30] h = some (rI (if y < 0 then 0 else if 30 < y then 0 else 1), h) := isIn_sp y 0 30 h
theorem isIn_060 (y : Int32) (h : Hp) : FX12_isIn [vL y.toInt64, vL 0, vL 60] h = some (rI (if y < 0 then 0 else if 60 < y then 0 else 1), h) := isIn_sp y 0 60 h
theorem isIn_099 (y : Int32) (h : Hp) : FX12_isIn [vL y.toInt64, vL 0, vL 99] h = some (rI (if y < 0 then 0 else if 99 < y then 0 else 1), h) := isIn_sp y 0 99 h
theorem isIn_0100 (y : Int32) (h : Hp) : FX12_isIn [vL y.toInt64, vL 0, vL 100] h = some (rI (if y < 0 then 0 else if 100 < y then 0 else 1), h) := isIn_sp y 0 100 h
theorem isIn_199 (y : Int32) (h : Hp) : FX12_isIn [vL y.toInt64, vL 1, vL 99] h = some (rI (if y < 1 then 0 else if 99 < y then 0 else 1), h) := isIn_sp y 1 99 h
theorem isIn_160 (y : Int32) (h : Hp) : FX12_isIn [vL y.toInt64, vL 1, vL 60] h = some (rI (if y < 1 then 0 else if 60 < y then 0 else 1), h) := isIn_sp y 1 60 h
theorem isIn_19 (y : Int32) (h : Hp) : FX12_isIn [vL y.toInt64, vL 1, vL 9] h = some (rI (if y < 1 then 0 else if 9 < y then 0 else 1), h) := isIn_sp y 1 9 h
theorem isIn_18 (y : Int32) (h : Hp) : FX12_isIn [vL y.toInt64, vL 1, vL 8] h = some (rI (if y < 1 then 0 else if 8 < y then 0 else 1), h) := isIn_sp y 1 8 h
/-- a call that asks, and writes no more than its own scratch -/
def scrC : List Nat := [8, 9, 12, 13, 103, 107, 108, 109, 110, 111, 112, 113, 114, 115, 116, 117, 118, 119, 120, 121, 122, 123, 124, 125]
def scrM : List Nat := [161, 163, 164, 165]
def scrS : List Nat := [0, 39, 40, 44]
def QRY (h : Hp) (X Y : Hp → Option (RV × Hp)) : Prop := ∃ res h1 h2, X h = some (rI res, h1) ∧ Y h1 = some (rI res, h2) ∧ Only h h1 scrC ∧ Mq h1 h2 scrM scrS
theorem scr_c (x : Nat) : ∀ a ∈ scrC, frC x a := fun a ha => by unfold scrC at ha; unfold frC; simp at ha; omega
theorem qry_ag {x : Nat} {h h1 h2 : Hp} (O : Only h h1 scrC) (Q : Mq h1 h2 scrM scrS) : AG x h h2 :=
  (ag_only O (scr_c x) (by decide)).trans (ag_mq Q (fun a ha => by unfold scrM at ha; unfold frM; simp at ha; omega) (fun k hk => by unfold scrS at hk; simp at hk; omega))
theorem mq_t (h : Hp) : Mq h (sI h 147 0 0) scrM scrS := mq_sI h _ _ (by decide)
theorem QRY.id {h : Hp} {X Y : Hp → Option (RV × Hp)} {res : Int32} (e1 : X h = some (rI res, h)) (e2 : Y h = some (rI res, sI h 147 0 0)) : QRY h X Y := ⟨res, h, _, e1, e2, Only.refl _ _, mq_t h⟩
theorem takes_now {h : Hp} {s : Nat} {r d b : Nat → Nat} {dc bc : Nat} {lw : Option ((Nat → Int32) × Nat)} {v u w lg bk z : Nat → Nat} {A x : Nat} (I : AINV h s r d b dc bc lw v u w lg bk z A x) : ∃ h2, FX10_takes [vR (some 3), vR (some 10)] h = some (rI (nI (TK lw r (v 0) (v 2) (v 10) (v 9) (v 4))), h2) ∧ Only h h2 [8, 9] := by
  obtain ⟨⟨C, P, D, L, U, RL⟩, ⟨j1, j2, W, M, j5, j6, j7⟩, ⟨⟨n1, n2, n3, n4⟩, k2, k3, k4, k5⟩, _⟩ := I
  obtain ⟨h2, e, O⟩ := takes_c (v := v) (u := u) W M L (by omega) (by omega) C.2.2.2.2.2.1 C.2.2.2.2.2.2 j7
  rw [LN_self n1 n2] at e
  rw [LN_self (by rw [O.I (by simp)]; exact n1) (by rw [O.I (by simp)]; exact n2)] at e
  exact ⟨h2, e, O⟩
theorem takes_nowM {h : Hp} {s : Nat} {r d b : Nat → Nat} {dc bc : Nat} {lw : Option ((Nat → Int32) × Nat)} {v u w lg bk z : Nat → Nat} {A x : Nat} (I : AINV h s r d b dc bc lw v u w lg bk z A x) : ∃ h2, FX12_takes_ [vR (some 147), vR (some 160)] h = some (rI (nI (TK lw r (v 0) (v 2) (v 10) (v 9) (v 4))), h2) ∧ Mo h h2 := by
  obtain ⟨⟨C, P, D, L, U, RL⟩, ⟨j1, j2, W, M, j5, j6, j7⟩, ⟨_, k2, k3, k4, k5⟩, _⟩ := I
  obtain ⟨h2, e, O⟩ := takes_m (w := w) M RL (by omega) j7
  rw [RN_self k3] at e O
  rw [k4.1 0 (by omega), k4.1 2 (by omega), k4.2.2.2.2, k4.2.1, k4.1 4 (by omega)] at e
  exact ⟨h2, e, O⟩
/-- what stands while acts go on -/
def STc (h : Hp) (s : Nat) (r d b : Nat → Nat) (dc bc : Nat) (lw : Option ((Nat → Int32) × Nat)) : Prop :=
  (CF h ∧ PTL h ∧ DP h 98 ∧ LL h 10 s ∧ UL h ∧ RLo h 160) ∧
  ((s = 4 ∨ s = 131) ∧ hI h s 0 = 1 ∧ WH h s r d b dc bc ∧ MW h r d b dc bc ∧ 0 < bc ∧ BH r d b ∧ LWS h lw)
theorem stI {h : Hp} {s : Nat} {r d b : Nat → Nat} {dc bc : Nat} {lw : Option ((Nat → Int32) × Nat)} {v u w lg bk z : Nat → Nat} {A x : Nat} (I : AINV h s r d b dc bc lw v u w lg bk z A x) : STc h s r d b dc bc lw := ⟨I.1, I.2.1⟩
