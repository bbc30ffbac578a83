/-! ===== PURE: a life in the class against a row of the reference ===== -/
def MR (v u w : Nat → Nat) : Prop := (∀ k, k ≤ 6 → w k = v k) ∧ w 7 = v 9 ∧ (∀ i, i < 6 → w (8 + i) = v 7 / 2 ^ i % 2) ∧ (∀ i, i < 5 → w (14 + i) = u i) ∧ w 19 = v 10
/-- bounds of a life -/
def BV (v u : Nat → Nat) : Prop := v 0 ≤ 60 ∧ v 1 ≤ 1 ∧ (v 2 ≤ 9 + v 10 ∧ (v 1 = 1 ∨ v 2 ≤ 20)) ∧ v 3 ≤ 1 ∧ v 4 ≤ 9999 ∧ 3 * v 5 + v 6 ≤ 3 * v 10 ∧ v 7 < 64 ∧ v 9 ≤ 999 ∧ v 10 ≤ 60 ∧ v 11 = v 9 ∧ v 12 ≤ 60 ∧ ∀ i, i < 5 → u i ≤ 60
/-- rules, debts, prices within their bounds -/
def BH (r d b : Nat → Nat) : Prop := r 0 ≤ 60 ∧ 1 ≤ r 1 ∧ r 1 ≤ 60 ∧ r 2 ≤ 9 ∧ 1 ≤ r 3 ∧ r 3 ≤ 20 ∧ r 4 ≤ 9 ∧ r 5 ≤ 9 ∧ 1 ≤ r 6 ∧ r 6 ≤ 20 ∧ (∀ k, b k ≤ 60) ∧ (∀ k, d k ≤ 99) ∧ (∀ i, i < 5 → b (3 * i + 2) ≤ 9) ∧ ∀ i, i < 6 → d (3 * i) ≤ 60
def cutV (v : Nat → Nat) : Nat → Nat := up1 (up1 v 5 (v 5 - 1)) 6 (v 6 + 3)
theorem up1_at (v : Nat → Nat) (k x j : Nat) : up1 v k x j = if j = k then x else v j := rfl
theorem mr_cut {v u w : Nat → Nat} (M : MR v u w) : MR (cutV v) u (cutV w) := by
  obtain ⟨m1, m2, m3, m4, m5⟩ := M
  have e5 := m1 5 (by omega)
  have e6 := m1 6 (by omega)
  unfold cutV
  refine ⟨fun k hk => ?_, ?_, fun i hi => ?_, fun i hi => ?_, ?_⟩
  · simp only [up1_at, e5, e6]
    by_cases c6 : k = 6
    · simp only [c6, if_true]
    · by_cases c5 : k = 5
      · simp only [c5, if_true, show ¬ (5 : Nat) = 6 by decide, if_false]
      · simp only [c6, c5, if_false]; exact m1 k hk
  · simp only [up1_at, show ¬ (7 : Nat) = 6 by decide, show ¬ (7 : Nat) = 5 by decide, show ¬ (9 : Nat) = 6 by decide, show ¬ (9 : Nat) = 5 by decide, if_false]; exact m2
  · simp only [up1_at, show ¬ 8 + i = 6 by omega, show ¬ 8 + i = 5 by omega, show ¬ (7 : Nat) = 6 by decide, show ¬ (7 : Nat) = 5 by decide, if_false]; exact m3 i hi
  · simp only [up1_at, show ¬ 14 + i = 6 by omega, show ¬ 14 + i = 5 by omega, if_false]; exact m4 i hi
  · simp only [up1_at, show ¬ (19 : Nat) = 6 by decide, show ¬ (19 : Nat) = 5 by decide, show ¬ (10 : Nat) = 6 by decide, show ¬ (10 : Nat) = 5 by decide, if_false]; exact m5
theorem mr_sellOK {b v u w : Nat → Nat} {bc i k : Nat} (M : MR v u w) (hb : bc ≤ 5) : sellOK b w (sdm w) bc i k ↔ sellOK b v u bc i k := by
  obtain ⟨m1, m2, m3, m4, m5⟩ := M
  have e4 := m1 4 (by omega)
  constructor
  · rintro ⟨p1, p2, p3, p4, p5⟩
    have e5 := m1 (5 + k) (by omega)
    have e14 := m4 i (by omega)
    have p3' : w (14 + i) < b (3 * i + 2) := p3
    exact ⟨p1, p2, by omega, by omega, by omega⟩
  · rintro ⟨p1, p2, p3, p4, p5⟩
    have e5 := m1 (5 + k) (by omega)
    have e14 := m4 i (by omega)
    exact ⟨p1, p2, by show w (14 + i) < b (3 * i + 2); omega, by omega, by omega⟩
theorem mr_sell {b v u w : Nat → Nat} {i k : Nat} (M : MR v u w) (hi : i < 5) (hk : k ≤ 1) : MR (sellV b v i k) (up1 u i (u i + 1)) (sellVm b w i k) := by
  obtain ⟨m1, m2, m3, m4, m5⟩ := M
  have e4 := m1 4 (by omega)
  have e5 := m1 (5 + k) (by omega)
  have e14 := m4 i hi
  unfold sellV sellVm
  refine ⟨fun j hj => ?_, ?_, fun j hj => ?_, fun j hj => ?_, ?_⟩
  · simp only [up1_at, e4, e5, show ¬ j = 14 + i by omega, if_false]
    by_cases c4 : j = 4
    · simp only [c4, if_true]
    · by_cases c5 : j = 5 + k
      · simp only [c4, c5, if_true, if_false]
      · simp only [c4, c5, if_false]; exact m1 j hj
  · simp only [up1_at, show ¬ (7 : Nat) = 4 by decide, show ¬ (7 : Nat) = 14 + i by omega, show ¬ (7 : Nat) = 5 + k by omega, show ¬ (9 : Nat) = 4 by decide, show ¬ (9 : Nat) = 5 + k by omega, if_false]; exact m2
  · simp only [up1_at, show ¬ 8 + j = 4 by omega, show ¬ 8 + j = 14 + i by omega, show ¬ 8 + j = 5 + k by omega, show ¬ (7 : Nat) = 4 by decide, show ¬ (7 : Nat) = 5 + k by omega, if_false]; exact m3 j hj
  · simp only [up1_at, show ¬ 14 + j = 4 by omega, show ¬ 14 + j = 5 + k by omega, if_false]
    by_cases c : j = i
    · subst c; simp only [if_true, e14]
    · simp only [c, show ¬ 14 + j = 14 + i by omega, if_false]; exact m4 j hj
  · simp only [up1_at, show ¬ (19 : Nat) = 4 by decide, show ¬ (19 : Nat) = 14 + i by omega, show ¬ (19 : Nat) = 5 + k by omega, show ¬ (10 : Nat) = 4 by decide, show ¬ (10 : Nat) = 5 + k by omega, if_false]; exact m5
theorem or6 : ∀ M, M < 64 → ∀ i, i < 6 → ∀ j, j < 6 → (M ||| 2 ^ i) / 2 ^ j % 2 = if j = i then 1 else M / 2 ^ j % 2 := by decide +kernel
theorem mr_payOK {d v u w : Nat → Nat} {dc i : Nat} (M : MR v u w) (hd : dc ≤ 6) : payOKm d w dc i ↔ payOK d v dc i := by
  obtain ⟨m1, m2, m3, m4, m5⟩ := M
  have e4 := m1 4 (by omega)
  constructor
  · rintro ⟨p1, p2, p3⟩
    have e8 := m3 i (by omega)
    rw [m2] at p3
    exact ⟨p1, by omega, by omega⟩
  · rintro ⟨p1, p2, p3⟩
    have e8 := m3 i (by omega)
    refine ⟨p1, by omega, ?_⟩
    rw [m2]; omega
theorem mr_pay {d v u w : Nat → Nat} {i : Nat} (M : MR v u w) (hi : i < 6) (h7 : v 7 < 64) : MR (payV d v i) u (payVm d w i) := by
  obtain ⟨m1, m2, m3, m4, m5⟩ := M
  have e4 := m1 4 (by omega)
  unfold payV payVm
  refine ⟨fun j hj => ?_, ?_, fun j hj => ?_, fun j hj => ?_, ?_⟩
  · simp only [up1_at, e4, m2, show ¬ j = 8 + i by omega, show ¬ j = 7 by omega, if_false]
    by_cases c4 : j = 4
    · simp only [c4, if_true]
    · simp only [c4, if_false]; exact m1 j hj
  · simp only [up1_at, show ¬ (7 : Nat) = 8 + i by omega, show ¬ (7 : Nat) = 4 by decide, show ¬ (9 : Nat) = 7 by decide, show ¬ (9 : Nat) = 4 by decide, if_false]; exact m2
  · simp only [up1_at, show ¬ 8 + j = 4 by omega, if_true, if_false]
    rw [or6 (v 7) h7 i hi j hj]
    by_cases c : j = i
    · subst c; simp only [if_true]
    · simp only [c, show ¬ 8 + j = 8 + i by omega, if_false]; exact m3 j hj
  · simp only [up1_at, show ¬ 14 + j = 8 + i by omega, show ¬ 14 + j = 4 by omega, if_false]; exact m4 j hj
  · simp only [up1_at, show ¬ (19 : Nat) = 8 + i by omega, show ¬ (19 : Nat) = 4 by decide, show ¬ (10 : Nat) = 7 by decide, show ¬ (10 : Nat) = 4 by decide, if_false]; exact m5
theorem mr_can {v u w : Nat → Nat} {dd tk : Nat} (M : MR v u w) : canM w dd tk ↔ canW v dd tk := by
  obtain ⟨m1, m2, m3, m4, m5⟩ := M
  have e0 := m1 0 (by omega)
  have e1 := m1 1 (by omega)
  unfold canM canW
  rw [e0, e1, m5]
theorem lgP_o {w : Nat → Nat} {dd k : Nat} (hk : k < 200) : lgP w dd k = w k := by
  unfold lgP
  rw [up1_o _ _ (by omega), up1_o _ _ (by omega), up1_o _ _ (by omega), up1_o _ _ (by omega)]
theorem shF_o {w : Nat → Nat} {k : Nat} (hk : k < 200) : shF w k = w k := by
  unfold shF sh
  rw [up1_o _ _ (by omega), if_neg (by omega)]
theorem lgW_o {w : Nat → Nat} {dd k : Nat} (hk : k < 200) : lgW w dd k = w k := by
  unfold lgW
  by_cases c : w 200 = 60
  · rw [if_pos c, lgP_o hk, shF_o hk]
  · rw [if_neg c, lgP_o hk]
/-- the week's end keeps the relation -/
theorem mr_end {v u w r : Nat → Nat} {dd : Nat} (M : MR v u w) : MR (wkE v r dd) u (wkM w r dd) := by
  obtain ⟨m1, m2, m3, m4, m5⟩ := M
  have e0 := m1 0 (by omega)
  have e1 := m1 1 (by omega)
  have e2 := m1 2 (by omega)
  unfold wkE wkM
  refine ⟨fun j hj => ?_, ?_, fun j hj => ?_, fun j hj => ?_, ?_⟩
  · rw [lgW_o (by omega), up1_o _ _ (by omega), up1_o _ _ (by omega)]
    unfold growV
    rw [e0, e1, e2]
    by_cases c1 : v 1 = 0
    · by_cases c3 : dd = 3
      · simp only [c1, c3, if_true, up1_at]
        by_cases c : j = 1
        · simp only [c, if_true]
        · simp only [c, if_false]; exact m1 j hj
      · by_cases c2 : v 2 < r 6
        · simp only [c1, c3, c2, if_true, if_false, up1_at]
          by_cases c : j = 0
          · simp only [c, if_true]
          · simp only [c, if_false]; exact m1 j hj
        · simp only [c1, c3, c2, if_true, if_false, up1_at]
          by_cases c : j = 1
          · simp only [c, if_true]
          · simp only [c, if_false]; exact m1 j hj
    · simp only [c1, if_false]; exact m1 j hj
  · rw [lgW_o (by omega), up1_s, up1_s, m2]
  · rw [lgW_o (by omega), up1_o _ _ (by omega), up1_o _ _ (by omega), growV_o (by omega) (by omega), growV_o (by omega) (by omega)]; exact m3 j hj
  · rw [lgW_o (by omega), up1_o _ _ (by omega), growV_o (by omega) (by omega)]; exact m4 j hj
  · rw [lgW_o (by omega), up1_o _ _ (by omega), up1_o _ _ (by omega), growV_o (by omega) (by omega), growV_o (by omega) (by omega)]; exact m5
theorem mr_deed {v u w r : Nat → Nat} {dd : Nat} (M : MR v u w) : MR (deedV v r dd) u (deedV w r dd) := by
  obtain ⟨m1, m2, m3, m4, m5⟩ := M
  have e4 := m1 4 (by omega)
  have e2 := m1 2 (by omega)
  unfold deedV
  by_cases c2 : dd = 2
  · simp only [c2, if_true]
    refine ⟨fun j hj => ?_, ?_, fun j hj => ?_, fun j hj => ?_, ?_⟩
    · simp only [up1_at, e4]
      by_cases c : j = 4
      · simp only [c, if_true]
      · simp only [c, if_false]; exact m1 j hj
    · rw [up1_o _ _ (by decide), up1_o _ _ (by decide)]; exact m2
    · rw [up1_o _ _ (by omega), up1_o _ _ (by decide)]; exact m3 j hj
    · rw [up1_o _ _ (by omega)]; exact m4 j hj
    · rw [up1_o _ _ (by decide), up1_o _ _ (by decide)]; exact m5
  · by_cases c0 : dd = 0
    · subst c0
      simp only [show ¬ (0 : Nat) = 2 by decide, if_true, if_false]
      refine ⟨fun j hj => ?_, ?_, fun j hj => ?_, fun j hj => ?_, ?_⟩
      · simp only [up1_at, e2]
        by_cases c : j = 2
        · simp only [c, if_true]
        · simp only [c, if_false]; exact m1 j hj
      · rw [up1_o _ _ (by decide), up1_o _ _ (by decide)]; exact m2
      · rw [up1_o _ _ (by omega), up1_o _ _ (by decide)]; exact m3 j hj
      · rw [up1_o _ _ (by omega)]; exact m4 j hj
      · rw [up1_o _ _ (by decide), up1_o _ _ (by decide)]; exact m5
    · simp only [c2, c0, if_false]
      exact ⟨m1, m2, m3, m4, m5⟩
theorem bolt_o {v : Nat → Nat} {tk k : Nat} (h0 : k ≠ 0) (h2 : k ≠ 2) (h5 : k ≠ 5) (h10 : k ≠ 10) (h12 : k ≠ 12) : bolt v tk k = v k := by
  unfold bolt
  by_cases c : v 3 = 0
  · rw [if_pos c, up1_o _ _ h2, up1_o _ _ h10, up1_o _ _ h5, up1_o _ _ h0, up1_o _ _ h12]
  · rw [if_neg c, up1_o _ _ h10, up1_o _ _ h5, up1_o _ _ h0, up1_o _ _ h12]
theorem bolt_0 {v : Nat → Nat} {tk : Nat} : bolt v tk 0 = v 0 - tk := by
  unfold bolt
  by_cases c : v 3 = 0
  · rw [if_pos c, up1_o _ _ (by decide), up1_o _ _ (by decide), up1_o _ _ (by decide), up1_s]
  · rw [if_neg c, up1_o _ _ (by decide), up1_o _ _ (by decide), up1_s]
theorem bolt_2 {v : Nat → Nat} {tk : Nat} : bolt v tk 2 = if v 3 = 0 then v 2 + 1 else v 2 := by
  unfold bolt
  by_cases c : v 3 = 0
  · rw [if_pos c, if_pos c, up1_s]
  · rw [if_neg c, if_neg c, up1_o _ _ (by decide), up1_o _ _ (by decide), up1_o _ _ (by decide), up1_o _ _ (by decide)]
theorem bolt_5 {v : Nat → Nat} {tk : Nat} : bolt v tk 5 = v 5 + 1 := by
  unfold bolt
  by_cases c : v 3 = 0
  · rw [if_pos c, up1_o _ _ (by decide), up1_o _ _ (by decide), up1_s]
  · rw [if_neg c, up1_o _ _ (by decide), up1_s]
theorem bolt_10 {v : Nat → Nat} {tk : Nat} : bolt v tk 10 = v 10 + 1 := by
  unfold bolt
  by_cases c : v 3 = 0
  · rw [if_pos c, up1_o _ _ (by decide), up1_s]
  · rw [if_neg c, up1_s]
theorem bolt_12 {v : Nat → Nat} {tk : Nat} : bolt v tk 12 = tk := by
  unfold bolt
  by_cases c : v 3 = 0
  · rw [if_pos c, up1_o _ _ (by decide), up1_o _ _ (by decide), up1_o _ _ (by decide), up1_o _ _ (by decide), up1_s]
  · rw [if_neg c, up1_o _ _ (by decide), up1_o _ _ (by decide), up1_o _ _ (by decide), up1_s]
theorem wvM_5 {w : Nat → Nat} {tk : Nat} : wvM w tk 5 = w 5 + 1 := by
  unfold wvM
  by_cases c : w 3 = 0
  · rw [if_pos c, up1_o _ _ (by decide), up1_s]
  · rw [if_neg c, up1_s]
theorem wvM_19 {w : Nat → Nat} {tk : Nat} : wvM w tk 19 = w 19 + 1 := by
  unfold wvM
  by_cases c : w 3 = 0
  · rw [if_pos c, up1_o _ _ (by decide), up1_o _ _ (by decide), up1_o _ _ (by decide), up1_s]
  · rw [if_neg c, up1_o _ _ (by decide), up1_o _ _ (by decide), up1_s]
theorem mr_bolt {v u w : Nat → Nat} {tk : Nat} (M : MR v u w) (h10 : v 10 < 60) : MR (bolt v tk) u (wvM w tk) := by
  obtain ⟨m1, m2, m3, m4, m5⟩ := M
  have h19 : w 19 < 60 := by omega
  refine ⟨fun j hj => ?_, ?_, fun j hj => ?_, fun j hj => ?_, ?_⟩
  · rcases (show j = 0 ∨ j = 2 ∨ j = 5 ∨ (j ≠ 0 ∧ j ≠ 2 ∧ j ≠ 5) by omega) with e | e | e | ⟨e0, e2, e5⟩
    · subst e; rw [wvM_0, bolt_0, m1 0 (by omega)]
    · subst e; rw [wvM_2 h19, bolt_2, m1 3 (by omega), m1 2 (by omega)]
    · subst e; rw [wvM_5, bolt_5, m1 5 (by omega)]
    · rw [wvM_s h19 (by omega) e0 e2 e5 (by omega), bolt_o e0 e2 e5 (by omega) (by omega)]; exact m1 j hj
  · rw [wvM_s h19 (by omega) (by decide) (by decide) (by decide) (by decide), bolt_o (by decide) (by decide) (by decide) (by decide) (by decide)]; exact m2
  · rw [wvM_s h19 (by omega) (by omega) (by omega) (by omega) (by omega), bolt_o (by decide) (by decide) (by decide) (by decide) (by decide)]; exact m3 j hj
  · rw [wvM_s h19 (by omega) (by omega) (by omega) (by omega) (by omega)]; exact m4 j hj
  · rw [wvM_19, bolt_10, m5]
