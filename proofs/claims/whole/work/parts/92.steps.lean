/-! ===== PURE: steps of plans: run ===== -/
/-- plans, as both hold them -/
def PLl (h : Hp) : Prop := (hR h 0 16 = some 138 ∧ hK h 138 = 36 ∧ hE h 138 = 4) ∧ (∀ p, p < 4 → hR h 138 p = some (139 + 2 * p) ∧ hK h (139 + 2 * p) = 6 ∧ hR h (139 + 2 * p) 0 = some (140 + 2 * p) ∧ hK h (140 + 2 * p) = 20 ∧ hE h (140 + 2 * p) = 48) ∧ (hR h 147 24 = some 158 ∧ hK h 158 = 20 ∧ hE h 158 = 240) ∧ (hR h 147 25 = some 159 ∧ hK h 159 = 20 ∧ hE h 159 = 5)
def PLp (h : Hp) (p n : Nat) : Prop := 0 < n ∧ n ≤ 16 ∧ hI h (139 + 2 * p) 1 = nI n ∧ hI h 159 p = nI n ∧ (∀ j, j < 3 * n → hI h (140 + 2 * p) j = hI h 158 (48 * p + j)) ∧ (∀ i, i < n → stp (hI h (140 + 2 * p) (3 * i)) (hI h (140 + 2 * p) (3 * i + 1)))
def PLN (h : Hp) (pc : Nat) (pn : Nat → Nat) : Prop := pc ≤ 4 ∧ hI h 0 17 = nI pc ∧ hI h 147 30 = nI pc ∧ ∀ p, p < pc → PLp h p (pn p)
theorem pll_only {h h' : Hp} {l : List Nat} (P : PLl h) (O : Only h h' l) : PLl h' := by
  unfold PLl; rw [O.K, O.E, O.R]; exact P
theorem pll_mq {h h' : Hp} {l ks : List Nat} (P : PLl h) (Q : Mq h h' l ks) : PLl h' := by
  obtain ⟨_, _, a3, a4, _, a6, _⟩ := Q
  obtain ⟨⟨p1, p2⟩, p3, ⟨p4, p5⟩, ⟨p6, p7⟩⟩ := P
  refine ⟨⟨by rw [a6 0 16 (by omega)]; exact p1, by rw [a3, a4]; exact p2⟩, fun p hp => ?_, ⟨by rw [a6 147 24 (by omega)]; exact p4, by rw [a3, a4]; exact p5⟩, ⟨by rw [a6 147 25 (by omega)]; exact p6, by rw [a3, a4]; exact p7⟩⟩
  rw [a6 138 p (by omega), a6 (139 + 2 * p) 0 (by omega), a3, a4]; exact p3 p hp
theorem plp_fr {h h' : Hp} {p n : Nat} (P : PLp h p n) (e1 : hI h' (139 + 2 * p) = hI h (139 + 2 * p)) (e2 : hI h' (140 + 2 * p) = hI h (140 + 2 * p)) (e3 : hI h' 158 = hI h 158) (e4 : hI h' 159 = hI h 159) : PLp h' p n := by
  unfold PLp; rw [e1, e2, e3, e4]; exact P
theorem pln_only {h h' : Hp} {pc : Nat} {pn : Nat → Nat} {l : List Nat} (P : PLN h pc pn) (O : Only h h' l) (hl : ∀ a ∈ l, a ≠ 0 ∧ ¬ (139 ≤ a ∧ a ≤ 146) ∧ a < 147) : PLN h' pc pn := by
  obtain ⟨p1, p2, p3, p4⟩ := P
  have n : ∀ a, a = 0 ∨ (139 ≤ a ∧ a ≤ 146) ∨ 147 ≤ a → hI h' a = hI h a := fun a c => O.I (fun z => by have := hl a z; omega)
  exact ⟨p1, by rw [n 0 (by omega)]; exact p2, by rw [n 147 (by omega)]; exact p3, fun p hp => plp_fr (p4 p hp) (n _ (by omega)) (n _ (by omega)) (n _ (by omega)) (n _ (by omega))⟩
theorem pln_mq {h h' : Hp} {pc : Nat} {pn : Nat → Nat} {l ks : List Nat} (P : PLN h pc pn) (Q : Mq h h' l ks) (hl : ∀ a ∈ l, 159 < a) (hk : 30 ∉ ks) : PLN h' pc pn := by
  obtain ⟨_, _, _, _, _, _, a7, a8⟩ := Q
  obtain ⟨p1, p2, p3, p4⟩ := P
  have n : ∀ a, a < 147 ∨ (151 < a ∧ a < 160) → hI h' a = hI h a := fun a c => a7 a (by omega) (by omega) (fun z => by have := hl a z; omega)
  exact ⟨p1, by rw [n 0 (by omega)]; exact p2, by rw [a8 30 (by simp) hk]; exact p3, fun p hp => plp_fr (p4 p hp) (n _ (by omega)) (n _ (by omega)) (n _ (by omega)) (n _ (by omega))⟩
theorem part_c {h : Hp} {p i j : Nat} (P : PLl h) (hp : p < 4) (hi : i < 16) (hj : j < 3) : FX6_part [vR (some (139 + 2 * p)), vI (nI i), vI (nI j)] h = some (rI (hI h (140 + 2 * p) (3 * i + j)), h) := by
  obtain ⟨q1, q2, q3, q4, q5⟩ := P.2.1 p hp
  have e0 : (3 : Int32) * nI i = nI (3 * i) := pk_mul 3 i
  have e1 : nI (3 * i) + nI j = nI (3 * i + j) := nI_add _ _
  have b1 : inb (nI (3 * i + j)) 48 = true := inb_nI (by omega) (by omega)
  have c1 : (nI (3 * i + j)).toNatClampNeg = 3 * i + j := nI_clamp (by omega)
  rw [tX6_part]
  simp only [oB_some, dR_some, cond_true, cond_false, if_true, if_false, Bool.true_and, Bool.and_true, Nat.beq_refl, q2, q3, q4, q5, iaK20, e0, e1, b1, c1]
/-- a step that can be, and what it makes of a life and of a row -/
def stepR (lw : Option ((Nat → Int32) × Nat)) (r d b : Nat → Nat) (dc bc : Nat) (V U W : Nat → Nat) (kd a c : Int32) (V' U' W' : Nat → Nat) : Prop :=
  (kd = 0 ∧ ∃ dd, dd ≤ 3 ∧ a = nI dd ∧ V 9 < 999 ∧ canW V dd (TK lw r (V 0) (V 2) (V 10) (V 9) (V 4)) ∧ V' = dayV lw r V dd ∧ U' = U ∧ W' = dayM lw r W dd) ∨
  (kd = 1 ∧ 0 < V 5 ∧ V' = cutV V ∧ U' = U ∧ W' = cutV W) ∨
  (kd = 2 ∧ ∃ i k, a = nI i ∧ c = nI k ∧ sellOK b V U bc i k ∧ V' = sellV b V i k ∧ U' = up1 U i (U i + 1) ∧ W' = sellVm b W i k) ∨
  (kd = 3 ∧ ∃ i, a = nI i ∧ payOK d V dc i ∧ V' = payV d V i ∧ U' = U ∧ W' = payVm d W i)
theorem sv_cut {N : Nat} {v u : Nat → Nat} (B : SVb N v u) (h5 : 0 < v 5) : SVb N (cutV v) u := by
  obtain ⟨b0, b1, b2, b3, b4, b5, b7, b9, b10, b11, b12, bu⟩ := B
  have o : ∀ k, k ≠ 5 → k ≠ 6 → cutV v k = v k := fun k a c => by unfold cutV; rw [up1_o _ _ c, up1_o _ _ a]
  have e5 : cutV v 5 = v 5 - 1 := by unfold cutV; rw [up1_o _ _ (by decide), up1_s]
  have e6 : cutV v 6 = v 6 + 3 := by unfold cutV; rw [up1_s]
  refine ⟨?_, ?_, ?_, ?_, ?_, ?_, ?_, ?_, ?_, ?_, ?_, bu⟩
  · rw [o 0 (by decide) (by decide)]; exact b0
  · rw [o 1 (by decide) (by decide)]; exact b1
  · rw [o 2 (by decide) (by decide), o 10 (by decide) (by decide)]; exact b2
  · rw [o 3 (by decide) (by decide)]; exact b3
  · rw [o 4 (by decide) (by decide)]; exact b4
  · rw [e5, e6, o 10 (by decide) (by decide)]; omega
  · rw [o 7 (by decide) (by decide)]; exact b7
  · rw [o 9 (by decide) (by decide)]; exact b9
  · rw [o 10 (by decide) (by decide)]; exact b10
  · rw [o 11 (by decide) (by decide)]; exact b11
  · rw [o 12 (by decide) (by decide)]; exact b12
theorem sv_pay {N : Nat} {d v u : Nat → Nat} {i : Nat} (B : SVb N v u) (hi : i < 6) : SVb N (payV d v i) u := by
  obtain ⟨b0, b1, b2, b3, b4, b5, b7, b9, b10, b11, b12, bu⟩ := B
  have o : ∀ k, k ≠ 4 → k ≠ 7 → payV d v i k = v k := fun k a c => by unfold payV; rw [up1_o _ _ c, up1_o _ _ a]
  have e4 : payV d v i 4 = v 4 - ow d i (v 9) := by unfold payV; rw [up1_o _ _ (by decide), up1_s]
  have e7 : payV d v i 7 = v 7 ||| 2 ^ i := by unfold payV; rw [up1_s]
  refine ⟨?_, ?_, ?_, ?_, ?_, ?_, ?_, ?_, ?_, ?_, ?_, bu⟩
  · rw [o 0 (by decide) (by decide)]; exact b0
  · rw [o 1 (by decide) (by decide)]; exact b1
  · rw [o 2 (by decide) (by decide), o 10 (by decide) (by decide)]; exact b2
  · rw [o 3 (by decide) (by decide)]; exact b3
  · rw [e4]; omega
  · rw [o 5 (by decide) (by decide), o 6 (by decide) (by decide), o 10 (by decide) (by decide)]; exact b5
  · rw [e7]; exact (bt6 (v 7) b7 i hi).2.2
  · rw [o 9 (by decide) (by decide)]; exact b9
  · rw [o 10 (by decide) (by decide)]; exact b10
  · rw [o 11 (by decide) (by decide)]; exact b11
  · rw [o 12 (by decide) (by decide)]; exact b12
theorem sv_sell {N : Nat} {b v u : Nat → Nat} {bc i k : Nat} (B : SVb N v u) (P : sellOK b v u bc i k) (hb : ∀ k, b k ≤ 60) : SVb N (sellV b v i k) (up1 u i (u i + 1)) := by
  obtain ⟨b0, b1, b2, b3, b4, b5, b7, b9, b10, b11, b12, bu⟩ := B
  obtain ⟨p1, p2, p3, p4, p5⟩ := P
  have o : ∀ j, j ≠ 4 → j ≠ 5 + k → sellV b v i k j = v j := fun j a c => by unfold sellV; rw [up1_o _ _ a, up1_o _ _ c]
  have e4 : sellV b v i k 4 = v 4 + b (3 * i + k) := by unfold sellV; rw [up1_s]
  have e5 : sellV b v i k (5 + k) = v (5 + k) - 1 := by unfold sellV; rw [up1_o _ _ (by omega), up1_s]
  have hb3 := hb (3 * i + 2)
  refine ⟨?_, ?_, ?_, ?_, ?_, ?_, ?_, ?_, ?_, ?_, ?_, fun j hj => ?_⟩
  · rw [o 0 (by decide) (by omega)]; exact b0
  · rw [o 1 (by decide) (by omega)]; exact b1
  · rw [o 2 (by decide) (by omega), o 10 (by decide) (by omega)]; exact b2
  · rw [o 3 (by decide) (by omega)]; exact b3
  · rw [e4]; exact p5
  · rw [o 10 (by decide) (by omega)]
    rcases (show k = 0 ∨ k = 1 by omega) with e | e
    · subst e
      have z : sellV b v i 0 5 = v 5 - 1 := e5
      rw [z, o 6 (by decide) (by decide)]; omega
    · subst e
      have z : sellV b v i 1 6 = v 6 - 1 := e5
      rw [z, o 5 (by decide) (by decide)]; omega
  · rw [o 7 (by decide) (by omega)]; exact b7
  · rw [o 9 (by decide) (by omega)]; exact b9
  · rw [o 10 (by decide) (by omega)]; exact b10
  · rw [o 11 (by decide) (by omega)]; exact b11
  · rw [o 12 (by decide) (by omega)]; exact b12
  · by_cases c : j = i
    · subst c; rw [up1_s]; omega
    · rw [up1_o _ _ c]; exact bu j hj
/-- a step keeps bounds and relation -/
theorem step_keep {lw : Option ((Nat → Int32) × Nat)} {r d b : Nat → Nat} {dc bc : Nat} {V U W V' U' W' : Nat → Nat} {kd a c : Int32} (R : stepR lw r d b dc bc V U W kd a c V' U' W') (H : BH r d b) (hd : dc ≤ 6) (hb : bc ≤ 5) (B : SVb 999 V U) (M : MR V U W) (h200 : W 200 ≤ 60) : SVb 999 V' U' ∧ MR V' U' W' ∧ W' 200 ≤ 60 := by
  rcases R with ⟨_, dd, _, _, h9, C, e1, e2, e3⟩ | ⟨_, h5, e1, e2, e3⟩ | ⟨_, i, k, _, _, P, e1, e2, e3⟩ | ⟨_, i, _, P, e1, e2, e3⟩
  · subst e1 e2 e3
    have s1 := sv_day B H C
    refine ⟨?_, mr_dayS M C, dayM_200 h200 (fun q => by rw [M.2.2.2.2]; exact (C.1 q).2.1)⟩
    obtain ⟨b0, b1, b2, b3, b4, b5, b7, b9, b10, b11, b12, bu⟩ := s1
    exact ⟨b0, b1, b2, b3, b4, b5, b7, by rw [day_9]; omega, b10, b11, b12, bu⟩
  · subst e1 e2 e3
    exact ⟨sv_cut B h5, mr_cut M, by unfold cutV; rw [up1_o _ _ (by decide), up1_o _ _ (by decide)]; exact h200⟩
  · subst e1 e2 e3
    exact ⟨sv_sell B P H.2.2.2.2.2.2.2.2.2.2.1, mr_sell M (by have := P.1; omega) P.2.1, by unfold sellVm; rw [up1_o _ _ (by decide), up1_o _ _ (by have := P.1; omega), up1_o _ _ (by have := P.2.1; omega)]; exact h200⟩
  · subst e1 e2 e3
    exact ⟨sv_pay B (by have := P.1; omega), mr_pay M (by have := P.1; omega) B.2.2.2.2.2.2.1, by unfold payVm; rw [up1_o _ _ (by have := P.1; omega), up1_o _ _ (by decide)]; exact h200⟩
