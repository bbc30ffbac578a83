/-! ===== PURE: the soonest week: what is reached by the class stands for all ===== -/
def bdR (v : Nat → Nat) (b1 : Nat) (R : Rch) : Prop := ∀ j q m, R j q m → j ≤ 60 ∧ q ≤ 20 ∧ m < b1 ∧ q ≤ 9 + v 10 + m ∧ v 10 + m ≤ 60
def DOM (lw : Option ((Nat → Int32) × Nat)) (R S : Rch) : Prop := (∀ j q m, R j q m → S j q m) ∧ ∀ j q m, S j q m → ∃ j', j ≤ j' ∧ (lw ≠ none → j' = j) ∧ R j' q m
theorem ex_top {lw : Option ((Nat → Int32) × Nat)} {v : Nat → Nat} {b1 q m : Nat} {R : Rch} (bR : bdR v b1 R) : ∀ k j, j + k = 60 → R j q m → ∃ j', j ≤ j' ∧ (lw ≠ none → j' = j) ∧ exS lw R j' q m := by
  intro k
  induction k using Nat.strongRecOn with
  | ind k ih =>
    intro j hj y
    by_cases e : lw = none
    · by_cases t : ∃ j', j < j' ∧ R j' q m
      · obtain ⟨j', h1, h2⟩ := t
        have := (bR j' q m h2).1
        obtain ⟨j2, k1, k2, k3⟩ := ih (60 - j') (by omega) j' (by omega) h2
        exact ⟨j2, by omega, fun z => absurd e z, k3⟩
      · exact ⟨j, Nat.le_refl _, fun _ => rfl, y, fun _ j' h1 h2 => t ⟨j', h1, h2⟩⟩
    · exact ⟨j, Nat.le_refl _, fun _ => rfl, y, fun z => absurd z e⟩
theorem dom_ex {lw : Option ((Nat → Int32) × Nat)} {v : Nat → Nat} {b1 j q m : Nat} {R S : Rch} (bR : bdR v b1 R) (D : DOM lw R S) (y : S j q m) : ∃ j', j ≤ j' ∧ (lw ≠ none → j' = j) ∧ exS lw R j' q m := by
  obtain ⟨j1, h1, h2, h3⟩ := D.2 j q m y
  have := (bR j1 q m h3).1
  obtain ⟨j2, k1, k2, k3⟩ := ex_top (lw := lw) bR (60 - j1) j1 (by omega) h3
  exact ⟨j2, by omega, fun z => (k2 z).trans (h2 z), k3⟩
theorem grS_mono {r : Nat → Nat} {d d' : Nat} (h : d ≤ d') : grS r d ≤ grS r d' := by unfold grS mnN; split <;> split <;> omega
theorem tk_same {lw : Option ((Nat → Int32) × Nat)} {r v : Nat → Nat} {wk j j' q m : Nat} (h : lw ≠ none → j' = j) : tkS lw r v wk j' q m = tkS lw r v wk j q m := by
  cases lw with
  | none => rfl
  | some p => rw [h (by simp)]
theorem wv_dom {lw : Option ((Nat → Int32) × Nat)} {r v : Nat → Nat} {wk j j' q m d' q' m' : Nat} (h : j ≤ j') (h1 : lw ≠ none → j' = j) (y : wvS lw r v wk j q m d' q' m') : ∃ d2, d' ≤ d2 ∧ (lw ≠ none → d2 = d') ∧ wvS lw r v wk j' q m d2 q' m' := by
  obtain ⟨y1, y2, y3, y4, rfl, rfl, rfl⟩ := y
  have e := tk_same (r := r) (v := v) (wk := wk) (q := q) (m := m) h1
  refine ⟨grS r (j' - tkS lw r v wk j' q m), ?_, fun z => by rw [e, h1 z], y1, by omega, y3, y4, rfl, rfl, rfl⟩
  rw [e]; exact grS_mono (by omega)
theorem dom_hit {lw : Option ((Nat → Int32) × Nat)} {r v : Nat → Nat} {wk b1 : Nat} {R S : Rch} (hb : b1 ≤ 9) (bR : bdR v b1 R) (D : DOM lw R S) : hitS (nxS lw r v wk S) b1 ↔ ∃ j q m, exS lw R j q m ∧ hitC lw r v wk b1 j q m := by
  constructor
  · rintro ⟨d', q', d, q, m, y1, y2⟩
    obtain ⟨j', k1, k2, k3⟩ := dom_ex bR D y1
    have bm := bR j' q m k3.1
    rcases y2 with ⟨_, _, _, z4⟩ | z
    · omega
    · obtain ⟨d2, _, _, z2⟩ := wv_dom k1 k2 z
      have e : b1 = m + 1 := z.2.2.2.2.2.2
      exact ⟨j', q, m, k3, ⟨d2, _, _, z2⟩, by omega⟩
  · rintro ⟨j, q, m, y1, ⟨d', q', m', z⟩, y3⟩
    have bm := bR j q m y1.1
    have e : m' = m + 1 := z.2.2.2.2.2.2
    have e2 : m' = b1 := by omega
    subst e2
    exact ⟨d', q', j, q, m, D.1 _ _ _ y1.1, Or.inr z⟩
theorem dom_nx {lw : Option ((Nat → Int32) × Nat)} {r v : Nat → Nat} {wk b1 : Nat} {R S : Rch} (bR : bdR v b1 R) (D : DOM lw R S) : DOM lw (nxS lw r v wk (exS lw R)) (nxS lw r v wk S) := by
  constructor
  · rintro d' q' m' ⟨d, q, m, y1, y2⟩
    exact ⟨d, q, m, D.1 _ _ _ y1.1, y2⟩
  · rintro d' q' m' ⟨d, q, m, y1, y2⟩
    obtain ⟨j', k1, k2, k3⟩ := dom_ex bR D y1
    rcases y2 with ⟨z1, rfl, rfl, rfl⟩ | z
    · exact ⟨grS r j', grS_mono k1, fun y => by rw [k2 y], j', q, m, k3, Or.inl ⟨z1, rfl, rfl, rfl⟩⟩
    · obtain ⟨d2, w1, w2, w3⟩ := wv_dom k1 k2 z
      exact ⟨d2, w1, w2, j', q, m, k3, Or.inr w3⟩
theorem bdR_nx {lw : Option ((Nat → Int32) × Nat)} {r v : Nat → Nat} {wk b1 : Nat} {R : Rch} (h1 : r 1 ≤ 60) (h6 : r 6 ≤ 20) (hb : b1 ≤ 9) (bR : bdR v b1 R) (N : ∀ j q m, exS lw R j q m → ¬ hitC lw r v wk b1 j q m) : bdR v b1 (nxS lw r v wk (exS lw R)) := by
  have j1 : jS v ≤ 1 := by unfold jS; split <;> omega
  rintro d' q' m' ⟨d, q, m, y1, y2⟩
  have b := bR d q m y1.1
  rcases y2 with ⟨z1, rfl, rfl, rfl⟩ | z
  · exact ⟨grS_le h1, by omega, by omega, by omega, by omega⟩
  · have nh : m + 1 < b1 := by
      by_cases e : m + 1 < b1
      · exact e
      · exact absurd ⟨⟨_, _, _, z⟩, e⟩ (N d q m y1)
    obtain ⟨z1, z2, z3, z4, rfl, rfl, rfl⟩ := z
    exact ⟨grS_le h1, by omega, by omega, by omega, by omega⟩
theorem sp3 {s : Nat} {r d b : Nat → Nat} {dc bc : Nat} {lw : Option ((Nat → Int32) × Nat)} {v u w lg bk z : Nat → Nat} {A x : Nat} {a1 a2 n b1 : Nat} {R : Rch} (g1 : v 1 = 0) (hb0 : 1 ≤ b1) (hb : b1 ≤ 9) (hn : 1 ≤ n) (hn3 : n ≤ 30) (bR : bdR v b1 R) : ∀ k p (h : Hp) (R2 : Rch) (o5 o6 o7 : Option EV), p + k = b1 * 21 → AINV h s r d b dc bc lw v u w lg bk z A x → SRl h → SW h a1 a2 → CB h a1 R → CB h a2 R2 →
    (∃ h', Run kX8_spread 3 [some (vR (some 103)), some (vR (some 10)), some (vI (nI b1)), some (vI (nI n)), some (vI (nI p)), o5, o6, o7] [] h = some (rI 1, h') ∧ SG1 h h' ∧ ∃ j q m, exS lw R j q m ∧ hitC lw r v (v 9 + n - 1) b1 j q m) ∨
    (∃ h', Run kX8_spread 3 [some (vR (some 103)), some (vR (some 10)), some (vI (nI b1)), some (vI (nI n)), some (vI (nI p)), o5, o6, o7] [] h = some (rI 0, h') ∧ SG1 h h' ∧ (∀ j q m, p ≤ m * 21 + q → exS lw R j q m → ¬ hitC lw r v (v 9 + n - 1) b1 j q m) ∧ CB h' a2 (fun j' q' m' => R2 j' q' m' ∨ ∃ j q m, p ≤ m * 21 + q ∧ exS lw R j q m ∧ stS lw r v (v 9 + n - 1) j q m j' q' m')) := by
  intro k
  induction k with
  | zero =>
    intro p h R2 o5 o6 o7 hp I L W CA C
    have out : ∀ j q m, p ≤ m * 21 + q → ¬ exS lw R j q m := fun j q m z y => by have := bR j q m y.1; omega
    refine Or.inr ⟨h, ?_, ⟨SF.refl _, rfl, rfl⟩, fun j q m z y => absurd y (out j q m z), fun q' m' j h1 h2 h3 => ?_⟩
    · rw [tX8_spread_3, show (21 : Int32) = nI 21 from rfl, nI_mulN, if_pos (by rw [nI_nle' (by omega) (by omega)]; omega)]
      simp only [oB_some, dR_some, cond_true, cond_false, if_true, if_false, Bool.true_and, Bool.and_true, Nat.beq_refl, isZ0]
    · rw [C q' m' j h1 h2 h3]
      exact ⟨Or.inl, fun z => z.elim id (fun ⟨j, q, m, y1, y2, _⟩ => absurd y2 (out j q m y1))⟩
  | succ k ih =>
    intro p h R2 o5 o6 o7 hp I L W CA C
    obtain ⟨s1, s2, _⟩ := srl_f L
    have ln := SW.len W
    have w1 := W.1
    have ep : p / 21 * 21 + p % 21 = p := by omega
    have n1 : ¬ nI (b1 * 21) ≤ nI p := by rw [nI_nle' (by omega) (by omega)]; omega
    have n2 : ¬ nI 189 ≤ nI p := by rw [nI_nle' (by omega) (by omega)]; omega
    have st : Run kX8_spread 3 [some (vR (some 103)), some (vR (some 10)), some (vI (nI b1)), some (vI (nI n)), some (vI (nI p)), o5, o6, o7] [] h = Run kX8_spread 35 [some (vR (some 103)), some (vR (some 10)), some (vI (nI b1)), some (vI (nI n)), some (vI (nI (p / 21 * 21 + p % 21))), some (vL (hL h a1 p)), none, some (vI (nI 61 + (-1)))] [] h := by
      rw [tX8_spread_3, show (21 : Int32) = nI 21 from rfl, nI_mulN, if_neg n1]
      simp only [oB_some, dR_some, cond_true, cond_false, if_true, if_false, Bool.true_and, Bool.and_true, Nat.beq_refl, s1, w1, ln.1.1, ln.1.2, alK23, show Int32.ofNat 189 = nI 189 from rfl, n2, inb_nI (show p < 189 by omega) (by omega), nI_clamp (show p < 2 ^ 31 by omega), ep]
      rfl
    rw [st]
    rcases sp35 (R := R) (m := p / 21) (q := p % 21) (n := n) (b1 := b1) (a1 := a1) (a2 := a2) g1 (by omega) (by omega) hb hn hn3 (fun j y => by have := bR j _ _ y; exact ⟨this.1, this.2.2.2⟩) 61 h (hL h a1 p) R2 none (by omega) I L W C (fun j hj => by
      have := CA (p % 21) (p / 21) j (by omega) (by omega) hj
      rw [ep] at this
      rw [this]
      exact ⟨fun y => ⟨y, by have := (bR j _ _ y).1; omega⟩, fun y => y.1⟩) (fun _ j hj y => by have := (bR j _ _ y).1; omega) with ⟨h', x1, x2, j, x3, x4, x5⟩ | ⟨h', y5, y7, x1, x2, x3, x4, x5⟩
    · exact Or.inl ⟨h', x1, x2, j, _, _, x4, x5⟩
    · rw [x1, ep]
      have I1 := ainv_ag I (sf_ag x2.1)
      have cs : ∀ j q m, exS lw R j q m → p ≤ m * 21 + q → (m = p / 21 ∧ q = p % 21) ∨ p + 1 ≤ m * 21 + q := fun j q m y z => by have := bR j q m y.1; omega
      rcases ih (p + 1) h' _ y5 none y7 (by omega) I1 (sf_srl x2.1 L) (sw_g1 x2 W) (cb_row CA x3) x5 with ⟨h2, z1, z2, z3⟩ | ⟨h2, z1, z2, z3, z4⟩
      · exact Or.inl ⟨h2, z1, x2.trans z2, z3⟩
      · refine Or.inr ⟨h2, z1, x2.trans z2, fun j q m y1 y2 => ?_, fun q' m' j h1 h2 h3 => ?_⟩
        · rcases cs j q m y2 y1 with ⟨e1, e2⟩ | e
          · subst e1 e2; exact x4 j (by have := (bR j _ _ y2.1).1; omega) y2
          · exact z3 j q m e y2
        · rw [z4 q' m' j h1 h2 h3]
          constructor
          · rintro ((y | ⟨j', y1, y2, y3⟩) | ⟨j', q, m, y1, y2, y3⟩)
            · exact Or.inl y
            · exact Or.inr ⟨j', _, _, by omega, y2, y3⟩
            · exact Or.inr ⟨j', q, m, by omega, y2, y3⟩
          · rintro (y | ⟨j', q, m, y1, y2, y3⟩)
            · exact Or.inl (Or.inl y)
            · rcases cs j' q m y2 y1 with ⟨e1, e2⟩ | e
              · subst e1 e2; exact Or.inl (Or.inr ⟨j', by have := (bR j' _ _ y2.1).1; omega, y2, y3⟩)
              · exact Or.inr ⟨j', q, m, e, y2, y3⟩
