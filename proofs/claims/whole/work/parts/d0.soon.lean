/-! ===== PURE: the soonest week, by both ===== -/
theorem bL_sing {k j : Nat} (hk : k < 64) (hj : j < 64) : bL ((1 : Int64) <<< ((nI k).toInt64 &&& 63)) j = decide (j = k) := by
  unfold bL
  rw [bL_one k hk, BitVec.getLsbD_twoPow]
  by_cases e : j = k
  · subst e; simp [hj]
  · simp [e, Ne.symm e]
theorem fillL {a : Nat} (ha : a = 105 ∨ a = 106) : ∀ k j (h : Hp) (o2 : Option EV), j + k = 189 → hK h a = 23 → hE h a = 189 → ∃ h', Run kJ7_fill_d0a16 6 [some (vR (some a)), some (vL 0), o2, some (vI (nI j)), some (vI (nI 189))] [] h = some (rV, h') ∧ SG1 h h' ∧ (∀ c, c ≠ a → hL h' c = hL h c) ∧ (∀ i, j ≤ i → i < 189 → hL h' a i = 0) ∧ ∀ i, i < j → hL h' a i = hL h a i := by
  intro k
  induction k with
  | zero =>
    intro j h o2 hj K E
    have e : j = 189 := by omega
    subst e
    refine ⟨h, ?_, ⟨SF.refl _, rfl, rfl⟩, fun _ _ => rfl, fun i h1 h2 => by omega, fun _ _ => rfl⟩
    rw [tJ7_fill_d0a16_6, if_pos (Int32.le_refl _)]
  | succ k ih =>
    intro j h o2 hj K E
    have G1 : SG1 h (sL h a j 0) := ⟨sf_sL _ _ _ ha, rfl, rfl⟩
    obtain ⟨h', e', G', t0, t1, t2⟩ := ih (j + 1) (sL h a j 0) none (by omega) K E
    refine ⟨h', ?_, G1.trans G', fun c hc => by rw [t0 c hc]; funext y; rw [hL_sL, if_neg hc], fun i h1 h2 => ?_, fun i h1 => ?_⟩
    · rw [tJ7_fill_d0a16_6, if_neg (by rw [nI_nle' (by omega) (by omega)]; omega)]
      simp only [oB_some, dR_some, cond_true, cond_false, if_true, if_false, Bool.true_and, Bool.and_true, Nat.beq_refl, K, E, inb_nI (show j < 189 by omega) (by omega), nI_clamp (show j < 2 ^ 31 by omega), nI_1]
      exact e'
    · by_cases c : i = j
      · subst c; rw [t2 i (by omega), hL_at]
      · exact t1 i (by omega) h2
    · rw [t2 i (by omega), hL_sL, if_pos rfl, if_neg (by omega)]
theorem fillA {h : Hp} {a : Nat} (ha : a = 105 ∨ a = 106) (K : hK h a = 23) (E : hE h a = 189) : ∃ h', FJ7_fill_d0a16 [vR (some a), vL 0] h = some (rV, h') ∧ SG1 h h' ∧ (∀ c, c ≠ a → hL h' c = hL h c) ∧ (∀ i, i < 189 → hL h' a i = 0) := by
  obtain ⟨h', e, G, t0, t1, _⟩ := fillL ha 189 0 h none (by omega) K E
  refine ⟨h', ?_, G, t0, fun i hi => t1 i (by omega) hi⟩
  rw [tJ7_fill_d0a16]
  simp only [oB_some, dR_some, cond_true, cond_false, if_true, if_false, Bool.true_and, Bool.and_true, Nat.beq_refl, K, E, alK23, show Int32.ofNat 189 = nI 189 from rfl]
  exact e
theorem sf_sR (h : Hp) {k : Nat} (x : Option Nat) (hk : k = 6 ∨ k = 7) : SF h (sR h 103 k x) := ⟨rfl, rfl, rfl, rfl, fun a k' e => by
  rw [hR_sR]
  by_cases c : a = 103
  · rw [if_pos c, if_neg (by omega)]
  · rw [if_neg c], fun _ _ => rfl, fun _ _ _ => rfl⟩
theorem fw43 {s : Nat} {r d b : Nat → Nat} {dc bc : Nat} {lw : Option ((Nat → Int32) × Nat)} {v u w lg bk z : Nat → Nat} {A x : Nat} {b1 : Nat} (g1 : v 1 = 0) (hb0 : 1 ≤ b1) (hb : b1 ≤ 9) : ∀ k n (h : Hp) (a1 a2 : Nat) (R : Rch) (o4 : Option EV), n + k = 30 → AINV h s r d b dc bc lw v u w lg bk z A x → SRl h → SW h a1 a2 → CB h a1 R → bdR v b1 R → DOM lw R (reS lw r v n) → (∀ n', 1 ≤ n' → n' ≤ n → ¬ hitS (reS lw r v n') b1) → ∃ res h', Run kX8_fewestWeeks 43 [some (vR (some 103)), some (vR (some 10)), some (vI (nI b1)), some (vI (nI (n + 1))), o4] [] h = some (rI res, h') ∧ SF h h' ∧ (∃ c1 c2, SW h' c1 c2) ∧ ansS lw r v b1 res := by
  intro k
  induction k with
  | zero =>
    intro n h a1 a2 R o4 hn I L W CA bR D N
    have e : n = 30 := by omega
    subst e
    refine ⟨-1, h, ?_, SF.refl _, ⟨a1, a2, W⟩, Or.inr ⟨N, rfl⟩⟩
    rw [tX8_fewestWeeks_43, if_pos (show (30 : Int32) < nI (30 + 1) by decide)]
  | succ k ih =>
    intro n h a1 a2 R o4 hn I L W CA bR D N
    have Hb := I.2.1.2.2.2.2.2.1
    have r1 : r 1 ≤ 60 := Hb.2.2.1
    have r6 : r 6 ≤ 20 := Hb.2.2.2.2.2.2.2.2.2.1
    have n30 : ¬ (30 : Int32) < nI (n + 1) := by rw [show (30 : Int32) = nI 30 from rfl, nI_nlt' (by omega) (by omega)]; omega
    have ln := SW.len W
    have ne : a1 ≠ a2 := by have := W.2.2.1; omega
    obtain ⟨s1, _⟩ := srl_f L
    obtain ⟨h1, e1, G1, t0, t1⟩ := fillA (a := a2) (by have := W.2.2.1; omega) ln.2.1 ln.2.2
    have I1 := ainv_ag I (sf_ag G1.1)
    have L1 := sf_srl G1.1 L
    have W1 := sw_g1 G1 W
    obtain ⟨s1', _⟩ := srl_f L1
    have ew : v 9 + (n + 1) - 1 = v 9 + n := by omega
    have sp := sp3 (R := R) (n := n + 1) (b1 := b1) (a1 := a1) (a2 := a2) g1 hb0 hb (by omega) (by omega) bR (b1 * 21) 0 h1 (fun _ _ _ => False) none none none (by omega) I1 L1 W1 (cb_row CA (t0 a1 ne)) (fun q m j h1 h2 h3 => by
      rw [t1 _ (by omega), bL_0]; simp)
    rw [ew] at sp
    have dh := dom_hit (r := r) (wk := v 9 + n) hb bR D
    rcases sp with ⟨h2, x1, x2, x3⟩ | ⟨h2, x1, x2, x3, x4⟩
    · refine ⟨nI (n + 1), h2, ?_, G1.1.trans x2.1, ⟨a1, a2, sw_g1 x2 W1⟩, Or.inl ⟨n + 1, by omega, by omega, dh.mpr x3, fun n' y1 y2 => N n' y1 (by omega), rfl⟩⟩
      rw [tX8_fewestWeeks_43, if_neg n30]
      simp only [oB_some, dR_some, cond_true, cond_false, if_true, if_false, Bool.true_and, Bool.and_true, Nat.beq_refl, s1, W.2.1, e1, s1']
      rw [tX8_spread, show (0 : Int32) = nI 0 from rfl, x1]
      simp only [oB_some, dR_some, cond_true, cond_false, if_true, if_false, Bool.true_and, Bool.and_true, Nat.beq_refl, nI_0, ne10]
    · have L2 := sf_srl x2.1 L1
      have W2 := sw_g1 x2 W1
      obtain ⟨s1'', _⟩ := srl_f L2
      have F6 : SF h2 (sR (sR h2 103 6 (some a2)) 103 7 (some a1)) := (sf_sR _ _ (Or.inl rfl)).trans (sf_sR _ _ (Or.inr rfl))
      have FF : SF h (sR (sR h2 103 6 (some a2)) 103 7 (some a1)) := (G1.1.trans x2.1).trans F6
      have W6 : SW (sR (sR h2 103 6 (some a2)) 103 7 (some a1)) a2 a1 := by
        obtain ⟨_, _, w3, w4, w5⟩ := W2
        refine ⟨?_, ?_, by omega, w4, w5⟩
        · rw [hR_sR, if_pos rfl, if_neg (by decide), hR_sR, if_pos rfl, if_pos rfl]
        · rw [hR_sR, if_pos rfl, if_pos rfl]
      have nh : ∀ j q m, exS lw R j q m → ¬ hitC lw r v (v 9 + n) b1 j q m := fun j q m y => x3 j q m (by omega) y
      obtain ⟨res, h', f1, f2, f3, f4⟩ := ih (n + 1) (sR (sR h2 103 6 (some a2)) 103 7 (some a1)) a2 a1 (nxS lw r v (v 9 + n) (exS lw R)) (some (vR (some a1))) (by omega) (ainv_ag I (sf_ag FF)) (sf_srl FF L) W6 (fun q m j h1 h2 h3 => by
        refine Iff.trans (x4 q m j h1 h2 h3) ⟨?_, ?_⟩
        · rintro (z | ⟨j', q', m', _, z2, z3⟩)
          · exact False.elim z
          · exact ⟨j', q', m', z2, z3⟩
        · rintro ⟨j', q', m', z2, z3⟩
          exact Or.inr ⟨j', q', m', by omega, z2, z3⟩) (bdR_nx r1 r6 hb bR nh) (dom_nx bR D) (fun n' y1 y2 => by
        by_cases e : n' = n + 1
        · subst e
          intro z
          obtain ⟨j, q, m, z1, z2⟩ := dh.mp z
          exact nh j q m z1 z2
        · exact N n' y1 (by omega))
      refine ⟨res, h', ?_, FF.trans f2, f3, f4⟩
      rw [tX8_fewestWeeks_43, if_neg n30]
      simp only [oB_some, dR_some, cond_true, cond_false, if_true, if_false, Bool.true_and, Bool.and_true, Nat.beq_refl, s1, W.2.1, e1, s1']
      rw [tX8_spread, show (0 : Int32) = nI 0 from rfl, x1]
      simp only [oB_some, dR_some, cond_true, cond_false, if_true, if_false, Bool.true_and, Bool.and_true, Nat.beq_refl, nI_0, s1'', W2.1, W2.2.1, hK_sR, nI_1]
      exact f1
theorem ans_uniq {lw : Option ((Nat → Int32) × Nat)} {r v : Nat → Nat} {b1 : Nat} {x y : Int32} (A : ansS lw r v b1 x) (B : ansS lw r v b1 y) : x = y := by
  rcases A with ⟨n, a1, a2, a3, a4, rfl⟩ | ⟨a1, rfl⟩
  · rcases B with ⟨n', b1', b2, b3, b4, rfl⟩ | ⟨b1', rfl⟩
    · have : n = n' := by
        rcases Nat.lt_trichotomy n n' with e | e | e
        · exact absurd a3 (b4 n a1 e)
        · exact e
        · exact absurd b3 (a4 n' b1' e)
      rw [this]
    · exact absurd a3 (b1' n a1 a2)
  · rcases B with ⟨n', b1', b2, b3, b4, rfl⟩ | ⟨b1', rfl⟩
    · exact absurd b3 (a1 n' b1' b2)
    · rfl
/-- a question of the search: as QRY, but the two sets may change places -/
def QRS (h : Hp) (X Y : Hp → Option (RV × Hp)) : Prop := ∃ res h1 h2, X h = some (rI res, h1) ∧ Y h1 = some (rI res, h2) ∧ SF h h1 ∧ (∃ a1 a2, SW h1 a1 a2) ∧ Mq h1 h2 scrM scrS
