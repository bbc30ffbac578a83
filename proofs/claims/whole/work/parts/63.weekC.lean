/-! ===== PURE: a week in the class ===== -/
def canW (v : Nat → Nat) (dd tk : Nat) : Prop := (dd = 1 → v 1 = 0 ∧ v 10 < 60 ∧ tk < v 0) ∧ (dd = 3 → v 1 = 0)
theorem canBe_y {h : Hp} {a s dd tk : Nat} {v u : Nat → Nat} (L : LL h a s) (hd : dd ≤ 3) (h0 : v 0 < 2 ^ 31) (h1 : v 1 < 2 ^ 31) (h10 : v 10 < 2 ^ 31) (ht : tk < 2 ^ 31) (C : canW v dd tk) : FX10_canBe [vR (some a), vI (nI dd), vI (nI tk)] (LN h a v u) = some (rI 1, LN h a v u) := by
  have L1 := L.1
  rw [tX10_canBe]
  rcases (show dd = 0 ∨ dd = 1 ∨ dd = 2 ∨ dd = 3 by omega) with e | e | e | e <;> subst e
  · simp only [oB_some, dR_some, cond_true, cond_false, if_true, if_false, Bool.true_and, Bool.and_true, Nat.beq_refl, show ¬ nI 0 = 1 by decide, show ¬ nI 0 = 3 by decide, isZ1]
  · obtain ⟨c1, c2, c3⟩ := C.1 rfl
    have q1 : ¬ (60 : Int32) ≤ nI (v 10) := by rw [show (60 : Int32) = nI 60 from rfl, nI_nle' (by omega) (by omega)]; omega
    have q2 : ¬ nI (v 0) ≤ nI tk := by rw [nI_nle' (by omega) (by omega)]; omega
    simp only [oB_some, dR_some, cond_true, cond_false, if_true, if_false, Bool.true_and, Bool.and_true, Nat.beq_refl, show nI 1 = 1 from rfl, LN_K, L1, LN_a, c1, nI_0, q1, q2, isZ1]
  · simp only [oB_some, dR_some, cond_true, cond_false, if_true, if_false, Bool.true_and, Bool.and_true, Nat.beq_refl, show ¬ nI 2 = 1 by decide, show ¬ nI 2 = 3 by decide, isZ1]
  · have c1 := C.2 rfl
    simp only [oB_some, dR_some, cond_true, cond_false, if_true, if_false, Bool.true_and, Bool.and_true, Nat.beq_refl, show ¬ (3 : Int32) = 1 by decide, show nI 3 = 3 from rfl, LN_K, L1, LN_a, c1, nI_0, isZ1]
theorem canBe_n {h : Hp} {a s dd tk : Nat} {v u : Nat → Nat} (L : LL h a s) (hd : dd ≤ 3) (h0 : v 0 < 2 ^ 31) (h1 : v 1 < 2 ^ 31) (h10 : v 10 < 2 ^ 31) (ht : tk < 2 ^ 31) (C : ¬ canW v dd tk) : FX10_canBe [vR (some a), vI (nI dd), vI (nI tk)] (LN h a v u) = some (rI 0, LN h a v u) := by
  have L1 := L.1
  rw [tX10_canBe]
  unfold canW at C
  rcases (show dd = 0 ∨ dd = 1 ∨ dd = 2 ∨ dd = 3 by omega) with e | e | e | e <;> subst e
  · exact absurd ⟨fun z => by omega, fun z => by omega⟩ C
  · by_cases c1 : v 1 = 0
    · by_cases c2 : v 10 < 60
      · have c3 : ¬ tk < v 0 := fun z => C ⟨fun _ => ⟨c1, c2, z⟩, fun z => by omega⟩
        have q1 : ¬ (60 : Int32) ≤ nI (v 10) := by rw [show (60 : Int32) = nI 60 from rfl, nI_nle' (by omega) (by omega)]; omega
        have q2 : nI (v 0) ≤ nI tk := nI_le (by omega) (by omega)
        simp only [oB_some, dR_some, cond_true, cond_false, if_true, if_false, Bool.true_and, Bool.and_true, Nat.beq_refl, show nI 1 = 1 from rfl, LN_K, L1, LN_a, c1, nI_0, q1, q2, isZ0]
      · have q1 : (60 : Int32) ≤ nI (v 10) := nI_le (a := 60) (by omega) (by omega)
        simp only [oB_some, dR_some, cond_true, cond_false, if_true, if_false, Bool.true_and, Bool.and_true, Nat.beq_refl, show nI 1 = 1 from rfl, LN_K, L1, LN_a, c1, nI_0, q1, isZ0]
    · have q1 : ¬ nI (v 1) = 0 := nI_nz (by omega) (by omega)
      simp only [oB_some, dR_some, cond_true, cond_false, if_true, if_false, Bool.true_and, Bool.and_true, Nat.beq_refl, show nI 1 = 1 from rfl, LN_K, L1, LN_a, q1, isZ0]
  · exact absurd ⟨fun z => by omega, fun z => by omega⟩ C
  · have c1 : ¬ v 1 = 0 := fun z => C ⟨fun z => by omega, fun _ => z⟩
    have q1 : ¬ nI (v 1) = 0 := nI_nz (by omega) (by omega)
    simp only [oB_some, dR_some, cond_true, cond_false, if_true, if_false, Bool.true_and, Bool.and_true, Nat.beq_refl, show ¬ (3 : Int32) = 1 by decide, show nI 3 = 3 from rfl, LN_K, L1, LN_a, q1, isZ0]
def mnN (a b : Nat) : Nat := if a < b then a else b
def growV (v r : Nat → Nat) (dd : Nat) : Nat → Nat := if v 1 = 0 then (if dd = 3 then up1 v 1 1 else if v 2 < r 6 then up1 v 0 (mnN (v 0 + r 2) (r 1)) else up1 v 1 1) else v
def wkE (v r : Nat → Nat) (dd : Nat) : Nat → Nat := up1 (growV v r dd) 9 (v 9 + 1)
theorem week_e {h : Hp} {s a dd : Nat} {r d b v u : Nat → Nat} {dc bc : Nat} {o3 : Option EV} (W : WH h s r d b dc bc) (L : LL h a s) (hd : dd ≤ 3) (h0 : v 0 < 2 ^ 30) (h1 : v 1 < 2 ^ 31) (h2 : v 2 < 2 ^ 31) :
    Run kX10_passWeek 89 [some (vR (some 3)), some (vR (some a)), some (vI (nI dd)), o3] [] (LN h a v u) = some (rI 1, LN h a (wkE v r dd) u) := by
  obtain ⟨_, _, _, _, hr, _, _, br, _⟩ := W.LN L v u
  obtain ⟨⟨w1, w2⟩, ⟨l1, l2, l3, l4, ⟨l5, l6⟩, _, _, l7, l8⟩, _⟩ := W
  obtain ⟨L1, L2, L3, L4, _⟩ := L
  have i6 : inb 6 7 = true := by decide
  have i1 : inb 1 7 = true := by decide
  have i2 : inb 2 7 = true := by decide
  have k6 : Int32.toNatClampNeg 6 = 6 := by decide
  have k1 : Int32.toNatClampNeg 1 = 1 := by decide
  have k2 : Int32.toNatClampNeg 2 = 2 := by decide
  have r6 := hr 6 (by omega)
  have r1 := hr 1 (by omega)
  have r2 := hr 2 (by omega)
  have b6 := br 6
  have b1 := br 1
  have b2 := br 2
  rw [tX10_passWeek_89]
  unfold wkE growV
  by_cases c1 : v 1 = 0
  · by_cases e3 : dd = 3
    · subst e3
      simp only [oB_some, dR_some, cond_true, cond_false, if_true, if_false, Bool.true_and, Bool.and_true, Nat.beq_refl, hK_sI, LN_K, L1, LN_a, c1, nI_0, show nI 3 = 3 from rfl, isZ1, show sI (LN h a v u) a 1 1 = LN h a (up1 v 1 1) u from LN_w h a v u 1 1, up1_o v 1 (show (9 : Nat) ≠ 1 by decide), nI_1, LN_w]
    · have n3 : ¬ nI dd = 3 := by rw [show (3 : Int32) = nI 3 from rfl, nI_neq' (by omega) (by omega)]; exact e3
      by_cases c2 : v 2 < r 6
      · have q : nI (v 2) < nI (r 6) := by rw [nI_nlt' (by omega) (by omega)]; exact c2
        have ad : nI (v 0) + nI (r 2) = nI (v 0 + r 2) := nI_add _ _
        have mm := mn' (a := v 0 + r 2) (b := r 1) (by omega) (by omega)
        simp only [oB_some, dR_some, cond_true, cond_false, if_true, if_false, Bool.true_and, Bool.and_true, Nat.beq_refl, hK_sI, LN_K, LN_R, LN_E, L1, LN_a, c1, nI_0, n3, e3, w1, w2, l1, l2, l5, l6, iaK20, i6, i1, i2, k6, k1, k2, r6, r1, r2, c2, q, ad, mm, isZ1, LN_w, up1_o v (if v 0 + r 2 < r 1 then v 0 + r 2 else r 1) (show (9 : Nat) ≠ 0 by decide), nI_1]
        rfl
      · have q : ¬ nI (v 2) < nI (r 6) := by rw [nI_nlt' (by omega) (by omega)]; exact c2
        simp only [oB_some, dR_some, cond_true, cond_false, if_true, if_false, Bool.true_and, Bool.and_true, Nat.beq_refl, hK_sI, LN_K, LN_R, LN_E, L1, LN_a, c1, nI_0, n3, e3, w1, w2, l1, l2, l5, l6, iaK20, i6, i1, i2, k6, k1, k2, r6, r1, r2, c2, q, isZ1, show sI (LN h a v u) a 1 1 = LN h a (up1 v 1 1) u from LN_w h a v u 1 1, up1_o v 1 (show (9 : Nat) ≠ 1 by decide), nI_1, LN_w]
  · have q1 : ¬ nI (v 1) = 0 := nI_nz (by omega) (by omega)
    simp only [oB_some, dR_some, cond_true, cond_false, if_true, if_false, Bool.true_and, Bool.and_true, Nat.beq_refl, hK_sI, LN_K, L1, LN_a, c1, q1, isZ1, nI_1, LN_w]
def bolt (v : Nat → Nat) (tk : Nat) : Nat → Nat := if v 3 = 0 then up1 (up1 (up1 (up1 (up1 v 12 tk) 0 (v 0 - tk)) 5 (v 5 + 1)) 10 (v 10 + 1)) 2 (v 2 + 1) else up1 (up1 (up1 (up1 v 12 tk) 0 (v 0 - tk)) 5 (v 5 + 1)) 10 (v 10 + 1)
theorem bolt_c {h : Hp} {s a tk : Nat} {v u : Nat → Nat} (L : LL h a s) (ht : tk ≤ v 0) (h3 : v 3 < 2 ^ 31) : FX4_addBolt [vR (some a), vI (nI tk)] (LN h a v u) = some (rV, LN h a (bolt v tk) u) := by
  have L1 := L.1
  have a0 : up1 v 12 tk 0 = v 0 := up1_o _ _ (by decide)
  have a5 : up1 (up1 v 12 tk) 0 (v 0 - tk) 5 = v 5 := by rw [up1_o _ _ (by decide), up1_o _ _ (by decide)]
  have a10 : up1 (up1 (up1 v 12 tk) 0 (v 0 - tk)) 5 (v 5 + 1) 10 = v 10 := by rw [up1_o _ _ (by decide), up1_o _ _ (by decide), up1_o _ _ (by decide)]
  have a3 : up1 (up1 (up1 (up1 v 12 tk) 0 (v 0 - tk)) 5 (v 5 + 1)) 10 (v 10 + 1) 3 = v 3 := by rw [up1_o _ _ (by decide), up1_o _ _ (by decide), up1_o _ _ (by decide), up1_o _ _ (by decide)]
  have a2 : up1 (up1 (up1 (up1 v 12 tk) 0 (v 0 - tk)) 5 (v 5 + 1)) 10 (v 10 + 1) 2 = v 2 := by rw [up1_o _ _ (by decide), up1_o _ _ (by decide), up1_o _ _ (by decide), up1_o _ _ (by decide)]
  have sb : nI (v 0) - nI tk = nI (v 0 - tk) := pk_sub ht
  rw [tX4_addBolt]
  unfold bolt
  by_cases c : v 3 = 0
  · simp only [oB_some, dR_some, cond_true, cond_false, if_true, if_false, Bool.true_and, Bool.and_true, Nat.beq_refl, hK_sI, LN_K, L1, LN_a, LN_w, a0, a5, a10, a3, a2, sb, nI_1, c, nI_0]
  · have q : ¬ nI (v 3) = 0 := nI_nz (by omega) (by omega)
    simp only [oB_some, dR_some, cond_true, cond_false, if_true, if_false, Bool.true_and, Bool.and_true, Nat.beq_refl, hK_sI, LN_K, L1, LN_a, LN_w, a0, a5, a10, a3, a2, sb, nI_1, c, q]
/-- the deed of a week, but for weaving -/
def deedV (v r : Nat → Nat) (dd : Nat) : Nat → Nat := if dd = 2 then up1 v 4 (mnN (v 4 + r 4) 9999) else if dd = 0 then up1 v 2 (v 2 - 1) else v
theorem pass_c {h : Hp} {s a dd : Nat} {r d b v u : Nat → Nat} {dc bc : Nat} (W : WH h s r d b dc bc) (L : LL h a s) (hd : dd ≤ 3) (h1 : dd ≠ 1) (h0 : ∀ k, k ≤ 12 → k ≠ 8 → v k < 2 ^ 29) :
    (canW v dd 0 → FX10_passWeek [vR (some 3), vR (some a), vI (nI dd)] (LN h a v u) = some (rI 1, LN h a (wkE (deedV v r dd) r dd) u)) ∧ (¬ canW v dd 0 → FX10_passWeek [vR (some 3), vR (some a), vI (nI dd)] (LN h a v u) = some (rI 0, LN h a v u)) := by
  have h00 := h0 0 (by omega) (by omega)
  have h01 := h0 1 (by omega) (by omega)
  have h02 := h0 2 (by omega) (by omega)
  have h04 := h0 4 (by omega) (by omega)
  have h010 := h0 10 (by omega) (by omega)
  have hr4 := W.2.2.2.2.2.2.2.1 4
  have n1 : ¬ nI dd = 1 := by rw [show (1 : Int32) = nI 1 from rfl, nI_neq' (by omega) (by omega)]; exact h1
  refine ⟨fun C => ?_, fun C => ?_⟩
  · have cb := canBe_y (u := u) L hd (by omega) (by omega) (by omega) (show 0 < 2 ^ 31 by omega) C
    rw [nI_0] at cb
    have W0 := W
    have L0 := L
    obtain ⟨_, _, _, _, hr, _⟩ := W.LN L v u
    obtain ⟨⟨w1, w2⟩, ⟨l1, l2, l3, l4, ⟨l5, l6⟩, _, _, l7, l8⟩, _⟩ := W
    obtain ⟨L1, _⟩ := L
    rw [tX10_passWeek]
    rcases (show dd = 0 ∨ dd = 2 ∨ dd = 3 by omega) with e | e | e <;> subst e
    · have := week_e (v := deedV v r 0) (u := u) (dd := 0) (o3 := some (vI 0)) W0 L0 (by omega) (by unfold deedV; simp only [show ¬ (0 : Nat) = 2 by decide, if_true, if_false]; rw [up1_o _ _ (by decide)]; omega) (by unfold deedV; simp only [show ¬ (0 : Nat) = 2 by decide, if_true, if_false]; rw [up1_o _ _ (by decide)]; omega) (by unfold deedV; simp only [show ¬ (0 : Nat) = 2 by decide, if_true, if_false]; rw [up1_s]; omega)
      have m := mx0 (a := v 2) (b := 1) (by omega) (by omega)
      rw [show nI 1 = 1 from rfl] at m
      rw [nI_0] at this cb ⊢
      simp only [oB_some, dR_some, cond_true, cond_false, if_true, if_false, Bool.true_and, Bool.and_true, Nat.beq_refl, cb, show ¬ (1 : Int32) = 0 by decide, show ¬ (0 : Int32) = 1 by decide, show ¬ (0 : Int32) = 2 by decide, LN_K, L1, LN_a, m, LN_w]
      exact this
    · have := week_e (v := deedV v r 2) (u := u) (dd := 2) (o3 := some (vI 0)) W0 L0 (by omega) (by unfold deedV; simp only [if_true]; rw [up1_o _ _ (by decide)]; omega) (by unfold deedV; simp only [if_true]; rw [up1_o _ _ (by decide)]; omega) (by unfold deedV; simp only [if_true]; rw [up1_o _ _ (by decide)]; omega)
      have ad : nI (v 4) + nI (r 4) = nI (v 4 + r 4) := nI_add _ _
      have mm := mn' (a := v 4 + r 4) (b := 9999) (by omega) (by omega)
      rw [show nI 9999 = 9999 from rfl] at mm
      have r4 := hr 4 (by omega)
      rw [show nI 2 = 2 from rfl] at this cb ⊢
      simp only [oB_some, dR_some, cond_true, cond_false, if_true, if_false, Bool.true_and, Bool.and_true, Nat.beq_refl, cb, show ¬ (1 : Int32) = 0 by decide, show ¬ (2 : Int32) = 1 by decide, LN_K, LN_R, LN_E, L1, LN_a, w1, w2, l1, l2, l5, l6, iaK20, show inb 4 7 = true by decide, show Int32.toNatClampNeg 4 = 4 by decide, r4, ad, mm, LN_w]
      exact this
    · have := week_e (v := deedV v r 3) (u := u) (dd := 3) (o3 := some (vI 0)) W0 L0 (by omega) (by unfold deedV; simp only [show ¬ (3 : Nat) = 2 by decide, show ¬ (3 : Nat) = 0 by decide, if_false]; omega) (by unfold deedV; simp only [show ¬ (3 : Nat) = 2 by decide, show ¬ (3 : Nat) = 0 by decide, if_false]; omega) (by unfold deedV; simp only [show ¬ (3 : Nat) = 2 by decide, show ¬ (3 : Nat) = 0 by decide, if_false]; omega)
      rw [show nI 3 = 3 from rfl] at this cb ⊢
      simp only [oB_some, dR_some, cond_true, cond_false, if_true, if_false, Bool.true_and, Bool.and_true, Nat.beq_refl, cb, show ¬ (1 : Int32) = 0 by decide, show ¬ (3 : Int32) = 1 by decide, show ¬ (3 : Int32) = 2 by decide, show ¬ (3 : Int32) = 0 by decide]
      exact this
  · have cb := canBe_n (u := u) L hd (by omega) (by omega) (by omega) (show 0 < 2 ^ 31 by omega) C
    rw [nI_0] at cb
    rw [tX10_passWeek]
    simp only [oB_some, dR_some, cond_true, cond_false, if_true, if_false, Bool.true_and, Bool.and_true, Nat.beq_refl, cb, n1, isZ0]
theorem pass_w {h h2 : Hp} {s a tk : Nat} {r d b v u : Nat → Nat} {dc bc : Nat} (W3 : hK h 3 = 10) (W : WH h2 s r d b dc bc) (L : LL h2 a s) (h0 : ∀ k, k ≤ 12 → k ≠ 8 → v k < 2 ^ 29) (ht : tk ≤ 60) (T : FX10_takes [vR (some 3), vR (some a)] (LN h a v u) = some (rI (nI tk), LN h2 a v u)) :
    (canW v 1 tk → FX10_passWeek [vR (some 3), vR (some a), vI 1] (LN h a v u) = some (rI 1, LN h2 a (wkE (bolt v tk) r 1) u)) ∧ (¬ canW v 1 tk → FX10_passWeek [vR (some 3), vR (some a), vI 1] (LN h a v u) = some (rI 0, LN h2 a v u)) := by
  have h00 := h0 0 (by omega) (by omega)
  have h01 := h0 1 (by omega) (by omega)
  have h02 := h0 2 (by omega) (by omega)
  have h03 := h0 3 (by omega) (by omega)
  have h010 := h0 10 (by omega) (by omega)
  refine ⟨fun C => ?_, fun C => ?_⟩
  · have cb := canBe_y (dd := 1) (u := u) L (by omega) (by omega) (by omega) (by omega) (show tk < 2 ^ 31 by omega) C
    have bc' := bolt_c (tk := tk) (v := v) (u := u) L (by have := (C.1 rfl).2.2; omega) (by omega)
    have B0 : bolt v tk 0 < 2 ^ 30 := by
      unfold bolt
      by_cases c : v 3 = 0 <;> simp only [c, if_true, if_false, up1_o _ _ (show (0 : Nat) ≠ 2 by decide), up1_o _ _ (show (0 : Nat) ≠ 10 by decide), up1_o _ _ (show (0 : Nat) ≠ 5 by decide), up1_s] <;> omega
    have B1 : bolt v tk 1 < 2 ^ 31 := by
      unfold bolt
      by_cases c : v 3 = 0 <;> simp only [c, if_true, if_false, up1_o _ _ (show (1 : Nat) ≠ 2 by decide), up1_o _ _ (show (1 : Nat) ≠ 10 by decide), up1_o _ _ (show (1 : Nat) ≠ 5 by decide), up1_o _ _ (show (1 : Nat) ≠ 0 by decide), up1_o _ _ (show (1 : Nat) ≠ 12 by decide)] <;> omega
    have B2 : bolt v tk 2 < 2 ^ 31 := by
      unfold bolt
      by_cases c : v 3 = 0 <;> simp only [c, if_true, if_false, up1_s, up1_o _ _ (show (2 : Nat) ≠ 10 by decide), up1_o _ _ (show (2 : Nat) ≠ 5 by decide), up1_o _ _ (show (2 : Nat) ≠ 0 by decide), up1_o _ _ (show (2 : Nat) ≠ 12 by decide)] <;> omega
    have := week_e (v := bolt v tk) (u := u) (dd := 1) (o3 := some (vI (nI tk))) W L (by omega) B0 B1 B2
    have L1 := L.1
    rw [show nI 1 = 1 from rfl] at this cb
    rw [tX10_passWeek]
    simp only [oB_some, dR_some, cond_true, cond_false, if_true, if_false, Bool.true_and, Bool.and_true, Nat.beq_refl, LN_K, W3, T, cb, L1, show ¬ (1 : Int32) = 0 by decide, bc', this]
  · have cb := canBe_n (dd := 1) (u := u) L (by omega) (by omega) (by omega) (by omega) (show tk < 2 ^ 31 by omega) C
    rw [show nI 1 = 1 from rfl] at cb
    rw [tX10_passWeek]
    simp only [oB_some, dR_some, cond_true, cond_false, if_true, if_false, Bool.true_and, Bool.and_true, Nat.beq_refl, LN_K, W3, T, cb, isZ0]
