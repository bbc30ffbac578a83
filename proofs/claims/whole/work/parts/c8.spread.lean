/-! ===== PURE: the soonest week, by the class: all places ===== -/
theorem bL_clr (w : Int64) {k j : Nat} (hk : k < 64) (hj : j < 64) : bL (w &&& (((1 : Int64) <<< ((nI k).toInt64 &&& 63)) ^^^ (-1))) j = (bL w j && !decide (j = k)) := by
  unfold bL
  rw [Int64.toBitVec_and, Int64.toBitVec_xor, bL_one k hk, BitVec.getLsbD_and, BitVec.getLsbD_xor, BitVec.getLsbD_twoPow, show (-1 : Int64).toBitVec = BitVec.allOnes 64 from by decide, BitVec.getLsbD_allOnes]
  by_cases e : j = k
  · subst e; simp [hj]
  · simp [e, hj, Ne.symm e]
/-- what is gone on from: all, or without a law the highest down of each place -/
def exS (lw : Option ((Nat → Int32) × Nat)) (R : Rch) : Rch := fun j q m => R j q m ∧ (lw = none → ∀ j', j < j' → ¬ R j' q m)
theorem sp35 {s : Nat} {r d b : Nat → Nat} {dc bc : Nat} {lw : Option ((Nat → Int32) × Nat)} {v u w lg bk z : Nat → Nat} {A x : Nat} {a1 a2 m q n b1 : Nat} {R : Rch} (g1 : v 1 = 0) (hq : q < 21) (hm : m < b1) (hb : b1 ≤ 9) (hn : 1 ≤ n) (hn3 : n ≤ 30) (bR : ∀ j, R j q m → j ≤ 60 ∧ q ≤ 9 + v 10 + m ∧ v 10 + m ≤ 60) : ∀ k (h : Hp) (w1 : Int64) (R2 : Rch) (o6 : Option EV), k ≤ 61 → AINV h s r d b dc bc lw v u w lg bk z A x → SRl h → SW h a1 a2 → CB h a2 R2 → (∀ j, j < 64 → (bL w1 j = true ↔ (R j q m ∧ j < k))) → (lw = none → ∀ j, k ≤ j → ¬ R j q m) →
    (∃ h', Run kX8_spread 35 [some (vR (some 103)), some (vR (some 10)), some (vI (nI b1)), some (vI (nI n)), some (vI (nI (m * 21 + q))), some (vL w1), o6, some (vI (nI k + (-1)))] [] h = some (rI 1, h') ∧ SG1 h h' ∧ ∃ j, j < k ∧ exS lw R j q m ∧ hitC lw r v (v 9 + n - 1) b1 j q m) ∨
    (∃ h' y5 y7, Run kX8_spread 35 [some (vR (some 103)), some (vR (some 10)), some (vI (nI b1)), some (vI (nI n)), some (vI (nI (m * 21 + q))), some (vL w1), o6, some (vI (nI k + (-1)))] [] h = Run kX8_spread 3 [some (vR (some 103)), some (vR (some 10)), some (vI (nI b1)), some (vI (nI n)), some (vI (nI (m * 21 + q + 1))), y5, none, y7] [] h' ∧ SG1 h h' ∧ hL h' a1 = hL h a1 ∧ (∀ j, j < k → exS lw R j q m → ¬ hitC lw r v (v 9 + n - 1) b1 j q m) ∧ CB h' a2 (fun j' q' m' => R2 j' q' m' ∨ ∃ j, j < k ∧ exS lw R j q m ∧ stS lw r v (v 9 + n - 1) j q m j' q' m')) := by
  intro k
  induction k with
  | zero =>
    intro h w1 R2 o6 hk I L W C B N
    refine Or.inr ⟨h, some (vL w1), some (vI (nI 0 + (-1))), ?_, ⟨SF.refl _, rfl, rfl⟩, rfl, fun j z => by omega, fun q' m' j h1 h2 h3 => ?_⟩
    · rw [tX8_spread_35, if_pos (show nI 0 + (-1) < (0 : Int32) by decide), nI_1]
    · rw [C q' m' j h1 h2 h3]
      exact ⟨Or.inl, fun z => z.elim id (fun ⟨j, y, _⟩ => by omega)⟩
  | succ k ih =>
    intro h w1 R2 o6 hk I L W C B N
    have k0 : ¬ nI k < 0 := nI_pos (by omega)
    rw [show nI (k + 1) + (-1) = nI k from pk_m1 k, tX8_spread_35, if_neg k0]
    by_cases z0 : ∀ j, j < 64 → bL w1 j = false
    · -- nothing more
      have e0 : lg_cmp w1 0 = 0 := by rw [bL_nz]; exact z0
      have none' : ∀ j, j < k + 1 → ¬ R j q m := fun j hj y => by
        have := (B j (by omega)).mpr ⟨y, hj⟩
        rw [z0 j (by omega)] at this; cases this
      refine Or.inr ⟨h, some (vL w1), some (vI (nI k)), ?_, ⟨SF.refl _, rfl, rfl⟩, rfl, fun j y1 y2 => absurd y2.1 (none' j y1), fun q' m' j h1 h2 h3 => ?_⟩
      · rw [if_pos e0, nI_1]
      · rw [C q' m' j h1 h2 h3]
        exact ⟨Or.inl, fun z => z.elim id (fun ⟨j, y1, y2, _⟩ => absurd y2.1 (none' j y1))⟩
    · have e0 : ¬ lg_cmp w1 0 = 0 := by rw [bL_nz]; exact z0
      rw [if_neg e0]
      by_cases c : bL w1 k = true
      · have ct : ¬ lg_cmp ((w1.toUInt64 >>> ((nI k).toInt64.toUInt64 &&& Int64.toUInt64 63)).toInt64 &&& 1) 0 = 0 := by rw [bL_test w1 (show k < 64 by omega), c]; decide
        have Rk := ((B k (by omega)).mp c).1
        obtain ⟨b60, bb1, bb2⟩ := bR k Rk
        have Ek : exS lw R k q m := ⟨Rk, fun e j' hj' => N e j' (by omega)⟩
        rw [if_neg ct]
        obtain ⟨res, h1, e1, G1, A1, D⟩ := spreadFrom_c I L W g1 hq hm hb (show k ≤ 60 by omega) hn hn3 bb1 bb2
        have I1 := ainv_ag I (sf_ag G1.1)
        have L1 := sf_srl G1.1 L
        obtain ⟨s1, s2, _⟩ := srl_f L1
        obtain ⟨f1, _⟩ := srl_f L
        obtain ⟨K0, R01, R02, R04, R05, K3, R30, Ks, Rs2, Rs3, Rs4, Ks1, Es1, Ks2, Es2, Ks3, Es3, K10, R108, K11, E11, K14, K98, td, dcC, bcC, Ev, Eu⟩ := cfa I1
        rcases D with ⟨d1, d2⟩ | ⟨d1, d2, d3⟩
        · refine Or.inl ⟨h1, ?_, G1, k, by omega, Ek, d1⟩
          rw [d2] at e1
          simp only [oB_some, dR_some, cond_true, cond_false, if_true, if_false, Bool.true_and, Bool.and_true, Nat.beq_refl, f1, e1, ne10, isZ1]
        · rw [d2] at e1
          have C1 := d3 R2 C
          cases hlw : lw with
          | none =>
            have ln : hR h1 3 1 = none := by have := I1.2.1.2.2.2.2.2.2; rw [hlw] at this; exact this.1
            have low : ∀ j, j < k → ¬ exS lw R j q m := fun j hj y => y.2 hlw k hj Rk
            have st : Run kX8_spread 35 [some (vR (some 103)), some (vR (some 10)), some (vI (nI b1)), some (vI (nI n)), some (vI (nI (m * 21 + q))), some (vL 0), none, some (vI (nI k + (-1)))] [] h1 = Run kX8_spread 3 [some (vR (some 103)), some (vR (some 10)), some (vI (nI b1)), some (vI (nI n)), some (vI (nI (m * 21 + q) + 1)), some (vL 0), none, some (vI (nI k + (-1)))] [] h1 := by
              rw [tX8_spread_35]
              by_cases kz : nI k + (-1) < (0 : Int32)
              · rw [if_pos kz]
              · rw [if_neg kz, if_pos (show lg_cmp (0 : Int64) 0 = 0 by rw [bL_nz]; exact fun j _ => bL_0 j)]
            rw [hlw] at low d1 C1
            rw [hlw] at Ek
            refine Or.inr ⟨h1, some (vL 0), some (vI (nI k + (-1))), ?_, G1, A1, fun j y1 y2 => ?_, fun q' m' j h1 h2 h3 => ?_⟩
            · simp only [oB_some, dR_some, cond_true, cond_false, if_true, if_false, Bool.true_and, Bool.and_true, Nat.beq_refl, f1, e1, s1, s2, K3, ln, nl]
              rw [st, nI_1]
            · by_cases e : j = k
              · subst e; exact d1
              · exact absurd y2 (low j (by omega))
            · rw [C1 q' m' j h1 h2 h3]
              constructor
              · rintro (z | z)
                · exact Or.inl z
                · exact Or.inr ⟨k, by omega, Ek, z⟩
              · rintro (z | ⟨j', y1, y2, y3⟩)
                · exact Or.inl z
                · by_cases e : j' = k
                  · subst e; exact Or.inr y3
                  · exact absurd y2 (low j' (by omega))
          | some p =>
            obtain ⟨lb, eln⟩ : ∃ lb, hR h1 3 1 = some lb := by
              have := I1.2.1.2.2.2.2.2.2
              rw [hlw] at this
              obtain ⟨c, N'⟩ := p
              obtain ⟨l, cd, li, n', t, q1, _⟩ := this
              exact ⟨l, q1⟩
            have nn : lw = none → ∀ j, k ≤ j → ¬ R j q m := fun e => by rw [hlw] at e; cases e
            have nx := ih h1 (w1 &&& (((1 : Int64) <<< ((nI k).toInt64 &&& 63)) ^^^ (-1))) _ none (by omega) I1 L1 (sw_g1 G1 W) C1 (fun j hj => by
              rw [bL_clr _ (by omega) hj, Bool.and_eq_true, B j hj]
              constructor
              · rintro ⟨⟨y1, y2⟩, y3⟩
                refine ⟨y1, ?_⟩
                have : j ≠ k := by intro e; rw [e] at y3; simp at y3
                omega
              · rintro ⟨y1, y2⟩
                refine ⟨⟨y1, by omega⟩, ?_⟩
                have : j ≠ k := by omega
                simp [this]) nn
            rw [← hlw]
            have go : ∀ X, Run kX8_spread 35 [some (vR (some 103)), some (vR (some 10)), some (vI (nI b1)), some (vI (nI n)), some (vI (nI (m * 21 + q))), some (vL (w1 &&& (((1 : Int64) <<< ((nI k).toInt64 &&& 63)) ^^^ (-1)))), none, some (vI (nI k + (-1)))] [] h1 = X → (bif Nat.beq (hK h 103) 8 && true then oB (FX8_spreadFrom [vR (some 103), vR (some 10), vI (nI (m * 21 + q)), vI (nI k), vI (nI b1), vI (nI n)] h) (fun r1 h2 => if r1.1 = 0 then if hK h2 103 = 8 then dR (hR h2 103 0) (fun a3 => if hK h2 a3 = 10 then nl (hR h2 a3 1) (Run kX8_spread 35 [some (vR (some 103)), some (vR (some 10)), some (vI (nI b1)), some (vI (nI n)), some (vI (nI (m * 21 + q))), some (vL (0)), none, some (vI (nI k + (-1)))] [] h2) (Run kX8_spread 35 [some (vR (some 103)), some (vR (some 10)), some (vI (nI b1)), some (vI (nI n)), some (vI (nI (m * 21 + q))), some (vL ((w1 &&& ((1 <<< ((nI k).toInt64 &&& 63)) ^^^ (-1))))), none, some (vI (nI k + (-1)))] [] h2) else none) else none else (bif isZ 1 then some (rI 1, h2) else none)) else none) = X := fun X z => by
              simp only [oB_some, dR_some, cond_true, cond_false, if_true, if_false, Bool.true_and, Bool.and_true, Nat.beq_refl, f1, e1, s1, s2, K3, eln, nl]
              exact z
            rcases nx with ⟨h', x1, x2, j, x3, x4, x5⟩ | ⟨h', y5, y7, x1, x2, x3, x4, x5⟩
            · exact Or.inl ⟨h', go _ x1, G1.trans x2, j, by omega, x4, x5⟩
            · refine Or.inr ⟨h', y5, y7, go _ x1, G1.trans x2, x3.trans A1, fun j y1 y2 => ?_, fun q' m' j h1 h2 h3 => ?_⟩
              · by_cases e : j = k
                · subst e; exact d1
                · exact x4 j (by omega) y2
              · rw [x5 q' m' j h1 h2 h3]
                constructor
                · rintro ((z | z) | ⟨j', z1, z2, z3⟩)
                  · exact Or.inl z
                  · exact Or.inr ⟨k, by omega, Ek, z⟩
                  · exact Or.inr ⟨j', by omega, z2, z3⟩
                · rintro (z | ⟨j', y1, y2, y3⟩)
                  · exact Or.inl (Or.inl z)
                  · by_cases e : j' = k
                    · subst e; exact Or.inl (Or.inr y3)
                    · exact Or.inr ⟨j', by omega, y2, y3⟩
      · have cf : bL w1 k = false := by cases e : bL w1 k; rfl; exact absurd e c
        have ct : lg_cmp ((w1.toUInt64 >>> ((nI k).toInt64.toUInt64 &&& Int64.toUInt64 63)).toInt64 &&& 1) 0 = 0 := by rw [bL_test w1 (show k < 64 by omega)]; exact cf
        have Rk : ¬ R k q m := fun y => c ((B k (by omega)).mpr ⟨y, by omega⟩)
        rw [if_pos ct]
        rcases ih h w1 R2 none (by omega) I L W C (fun j hj => by
          rw [B j hj]
          refine ⟨fun y => ⟨y.1, ?_⟩, fun y => ⟨y.1, by omega⟩⟩
          have : j ≠ k := fun e => Rk (e ▸ y.1)
          omega) (fun e j hj => by
          by_cases ej : j = k
          · subst ej; exact Rk
          · exact N e j (by omega)) with ⟨h', x1, x2, j, x3, x4⟩ | ⟨h', y5, y7, x1, x2, x3, x4, x5⟩
        · exact Or.inl ⟨h', x1, x2, j, by omega, x4⟩
        · refine Or.inr ⟨h', y5, y7, x1, x2, x3, fun j y1 y2 => ?_, fun q' m' j h1 h2 h3 => ?_⟩
          · by_cases e : j = k
            · subst e; exact absurd y2.1 Rk
            · exact x4 j (by omega) y2
          · rw [x5 q' m' j h1 h2 h3]
            constructor
            · rintro (z | ⟨j', z1, z2, z3⟩)
              · exact Or.inl z
              · exact Or.inr ⟨j', by omega, z2, z3⟩
            · rintro (z | ⟨j', y1, y2, y3⟩)
              · exact Or.inl z
              · by_cases e : j' = k
                · subst e; exact absurd y2.1 Rk
                · exact Or.inr ⟨j', by omega, y2, y3⟩
