/-! ===== PURE: a call of week, by both ===== -/
theorem wkE_0 {V r : Nat → Nat} {dd : Nat} (h0 : V 0 ≤ 60) (h1 : r 1 ≤ 60) : wkE V r dd 0 ≤ 60 := by
  unfold wkE growV
  rw [up1_o _ _ (by decide)]
  by_cases c1 : V 1 = 0
  · by_cases c3 : dd = 3
    · rw [if_pos c1, if_pos c3, up1_o _ _ (by decide)]; exact h0
    · by_cases c2 : V 2 < r 6
      · rw [if_pos c1, if_neg c3, if_pos c2, up1_s]
        unfold mnN
        by_cases c : V 0 + r 2 < r 1
        · rw [if_pos c]; omega
        · rw [if_neg c]; exact h1
      · rw [if_pos c1, if_neg c3, if_neg c2, up1_o _ _ (by decide)]; exact h0
  · rw [if_neg c1]; exact h0
theorem wkE_1 {V r : Nat → Nat} {dd : Nat} (h1 : V 1 ≤ 1) : wkE V r dd 1 ≤ 1 := by
  unfold wkE growV
  rw [up1_o _ _ (by decide)]
  by_cases c1 : V 1 = 0
  · by_cases c3 : dd = 3
    · rw [if_pos c1, if_pos c3, up1_s]; omega
    · by_cases c2 : V 2 < r 6
      · rw [if_pos c1, if_neg c3, if_pos c2, up1_o _ _ (by decide)]; exact h1
      · rw [if_pos c1, if_neg c3, if_neg c2, up1_s]; omega
  · rw [if_neg c1]; exact h1
theorem wkE_20 {V r : Nat → Nat} {dd : Nat} (h1 : V 1 ≤ 1) (h6 : r 6 ≤ 20) : wkE V r dd 1 = 1 ∨ V 2 ≤ 20 := by
  unfold wkE growV
  rw [up1_o _ _ (by decide)]
  by_cases c1 : V 1 = 0
  · by_cases c3 : dd = 3
    · rw [if_pos c1, if_pos c3, up1_s]; exact Or.inl rfl
    · by_cases c2 : V 2 < r 6
      · right; omega
      · rw [if_pos c1, if_neg c3, if_neg c2, up1_s]; exact Or.inl rfl
  · rw [if_neg c1]; left; omega
theorem wkE_9 {V r : Nat → Nat} {dd : Nat} : wkE V r dd 9 = V 9 + 1 := by unfold wkE; rw [up1_s]
theorem deed_o {v r : Nat → Nat} {dd k : Nat} (h4 : k ≠ 4) (h2 : k ≠ 2) : deedV v r dd k = v k := by
  unfold deedV
  by_cases c2 : dd = 2
  · rw [if_pos c2, up1_o _ _ h4]
  · by_cases c0 : dd = 0
    · rw [if_neg c2, if_pos c0, up1_o _ _ h2]
    · rw [if_neg c2, if_neg c0]
theorem deed_4 {v r : Nat → Nat} {dd : Nat} (h : v 4 ≤ 9999) : deedV v r dd 4 ≤ 9999 := by
  unfold deedV
  by_cases c2 : dd = 2
  · rw [if_pos c2, up1_s]
    unfold mnN
    by_cases c : v 4 + r 4 < 9999
    · rw [if_pos c]; omega
    · rw [if_neg c]; exact Nat.le_refl _
  · by_cases c0 : dd = 0
    · rw [if_neg c2, if_pos c0, up1_o _ _ (by decide)]; exact h
    · rw [if_neg c2, if_neg c0]; exact h
theorem deed_2 {v r : Nat → Nat} {dd : Nat} : deedV v r dd 2 ≤ v 2 := by
  unfold deedV
  by_cases c2 : dd = 2
  · rw [if_pos c2, up1_o _ _ (by decide)]; exact Nat.le_refl _
  · by_cases c0 : dd = 0
    · rw [if_neg c2, if_pos c0, up1_s]; omega
    · rw [if_neg c2, if_neg c0]; exact Nat.le_refl _
theorem bv_day {lw : Option ((Nat → Int32) × Nat)} {r d b v u : Nat → Nat} {dd : Nat} (B : BV v u) (H : BH r d b) (h9 : v 9 < 999) (C : canW v dd (TK lw r (v 0) (v 2) (v 10) (v 9) (v 4))) : BV (up1 (dayV lw r v dd) 11 (v 11 + 1)) u := by
  obtain ⟨b0, b1, b2, b3, b4, b5, b7, b9, b10, b11, b12, bu⟩ := B
  obtain ⟨r0, r1, r1', r2, r3, r3', _, _, _, r6, _⟩ := H
  have ht := TK_le (lw := lw) (r := r) (by omega) (v 0) (v 2) (v 10) (v 9) (v 4)
  have key : ∀ V : Nat → Nat, V 0 ≤ 60 → V 1 ≤ 1 → V 2 ≤ 9 + V 10 → V 3 ≤ 1 → V 4 ≤ 9999 → 3 * V 5 + V 6 ≤ 3 * V 10 → V 7 < 64 → V 9 = v 9 → V 10 ≤ 60 → V 12 ≤ 60 → BV (up1 (wkE V r dd) 11 (v 11 + 1)) u := by
    intro V k0 k1 k2 k3 k4 k5 k7 k9 k10 k12
    have o : ∀ k, k ≠ 0 → k ≠ 1 → k ≠ 9 → k ≠ 11 → up1 (wkE V r dd) 11 (v 11 + 1) k = V k := fun k a b c e => by rw [up1_o _ _ e, wkE_o a b c]
    refine ⟨?_, ?_, ?_, ?_, ?_, ?_, ?_, ?_, ?_, ?_, ?_, bu⟩
    · rw [up1_o _ _ (by decide)]; exact wkE_0 k0 r1'
    · rw [up1_o _ _ (by decide)]; exact wkE_1 k1
    · rw [o 2 (by decide) (by decide) (by decide) (by decide), o 10 (by decide) (by decide) (by decide) (by decide), up1_o _ _ (show (1 : Nat) ≠ 11 by decide)]; exact ⟨k2, wkE_20 k1 r6⟩
    · rw [o 3 (by decide) (by decide) (by decide) (by decide)]; exact k3
    · rw [o 4 (by decide) (by decide) (by decide) (by decide)]; exact k4
    · rw [o 5 (by decide) (by decide) (by decide) (by decide), o 6 (by decide) (by decide) (by decide) (by decide), o 10 (by decide) (by decide) (by decide) (by decide)]; exact k5
    · rw [o 7 (by decide) (by decide) (by decide) (by decide)]; exact k7
    · rw [up1_o _ _ (by decide), wkE_9]; omega
    · rw [o 10 (by decide) (by decide) (by decide) (by decide)]; exact k10
    · rw [up1_s, up1_o _ _ (by decide), wkE_9]; omega
    · rw [o 12 (by decide) (by decide) (by decide) (by decide)]; exact k12
  unfold dayV
  by_cases c1 : dd = 1
  · obtain ⟨c2, c3, c4⟩ := C.1 c1
    rw [if_pos c1]
    refine key _ ?_ ?_ ?_ ?_ ?_ ?_ ?_ ?_ ?_ ?_
    · rw [bolt_0]; omega
    · rw [bolt_o (by decide) (by decide) (by decide) (by decide) (by decide)]; exact b1
    · rw [bolt_2, bolt_10]; by_cases c : v 3 = 0 <;> simp only [c, if_true, if_false] <;> omega
    · rw [bolt_o (by decide) (by decide) (by decide) (by decide) (by decide)]; exact b3
    · rw [bolt_o (by decide) (by decide) (by decide) (by decide) (by decide)]; exact b4
    · rw [bolt_5, bolt_10, bolt_o (by decide) (by decide) (by decide) (by decide) (by decide)]; omega
    · rw [bolt_o (by decide) (by decide) (by decide) (by decide) (by decide)]; exact b7
    · rw [bolt_o (by decide) (by decide) (by decide) (by decide) (by decide)]
    · rw [bolt_10]; omega
    · rw [bolt_12]; exact ht
  · rw [if_neg c1]
    have q2 := deed_2 (v := v) (r := r) (dd := dd)
    refine key _ ?_ ?_ ?_ ?_ ?_ ?_ ?_ ?_ ?_ ?_
    · rw [deed_o (by decide) (by decide)]; exact b0
    · rw [deed_o (by decide) (by decide)]; exact b1
    · rw [deed_o (k := 10) (by decide) (by decide)]; omega
    · rw [deed_o (by decide) (by decide)]; exact b3
    · exact deed_4 b4
    · rw [deed_o (by decide) (by decide), deed_o (by decide) (by decide), deed_o (by decide) (by decide)]; exact b5
    · rw [deed_o (by decide) (by decide)]; exact b7
    · rw [deed_o (by decide) (by decide)]
    · rw [deed_o (by decide) (by decide)]; exact b10
    · rw [deed_o (by decide) (by decide)]; exact b12
theorem day_10 {lw : Option ((Nat → Int32) × Nat)} {r v : Nat → Nat} {dd : Nat} : dayV lw r v dd 10 = if dd = 1 then v 10 + 1 else v 10 := by
  unfold dayV
  rw [wkE_o (by decide) (by decide) (by decide)]
  by_cases c : dd = 1
  · rw [if_pos c, if_pos c, bolt_10]
  · rw [if_neg c, if_neg c, deed_o (by decide) (by decide)]
/-- a week keeps the relation of life and row, and of the ledger -/
theorem mr_day {lw : Option ((Nat → Int32) × Nat)} {r v u w lg bk : Nat → Nat} {dd : Nat} (M : MR v u w) (B : LB v w lg bk) (h10 : v 10 ≤ 60) (C : canW v dd (TK lw r (v 0) (v 2) (v 10) (v 9) (v 4))) :
    MR (up1 (dayV lw r v dd) 11 (v 11 + 1)) u (dayM lw r w dd) ∧ LB (up1 (dayV lw r v dd) 11 (v 11 + 1)) (dayM lw r w dd) (p3N lg (3 * (v 11 % 100)) dd (dayV lw r v dd 4) (dayV lw r v dd 0)) (if dd = 1 then p3N bk (3 * v 10) (v 9) (v 0) (TK lw r (v 0) (v 2) (v 10) (v 9) (v 4)) else bk) := by
  have M0 := M
  obtain ⟨m1, m2, m3, m4, m5⟩ := M
  have e0 := m1 0 (by omega)
  have e2 := m1 2 (by omega)
  have e4 := m1 4 (by omega)
  have tk : TK lw r (w 0) (w 2) (w 19) (w 7) (w 4) = TK lw r (v 0) (v 2) (v 10) (v 9) (v 4) := by rw [e0, e2, m5, m2, e4]
  have up : ∀ V U W' : Nat → Nat, MR V U W' → MR (up1 V 11 (v 11 + 1)) U W' := by
    intro V U W' ⟨a1, a2, a3, a4, a5⟩
    exact ⟨fun k hk => by rw [up1_o _ _ (by omega)]; exact a1 k hk, by rw [up1_o _ _ (by decide)]; exact a2, fun i hi => by rw [up1_o _ _ (by decide)]; exact a3 i hi, a4, by rw [up1_o _ _ (by decide)]; exact a5⟩
  have ledger : ∀ (V W' bk' : Nat → Nat), MR V u W' → LB V W' lg bk' → V 11 = v 11 → V 10 ≤ 60 → LB (up1 (wkE V r dd) 11 (v 11 + 1)) (wkM W' r dd) (p3N lg (3 * (v 11 % 100)) dd (wkE V r dd 4) (wkE V r dd 0)) bk' := by
    intro V W' bk' MM BB q11 q10
    have E := mr_end (r := r) (dd := dd) MM
    have b1 : LB (wkE V r dd) (up1 (growV W' r dd) 7 (W' 7 + 1)) lg bk' := lb_same BB (wkE_o (by decide) (by decide) (by decide)) (wkE_o (by decide) (by decide) (by decide)) q10 (fun k hk => by rw [up1_o _ _ (by omega), growV_o (by omega) (by omega)])
    have p := lb_page (dd := dd) b1 (by rw [wkE_o (by decide) (by decide) (by decide)]; exact q10)
    have x11 : wkE V r dd 11 = v 11 := by rw [wkE_o (by decide) (by decide) (by decide)]; exact q11
    have x4 : up1 (growV W' r dd) 7 (W' 7 + 1) 4 = wkE V r dd 4 := by
      have := E.1 4 (by omega)
      unfold wkM at this
      rw [lgW_o (by omega)] at this
      exact this
    have x0 : up1 (growV W' r dd) 7 (W' 7 + 1) 0 = wkE V r dd 0 := by
      have := E.1 0 (by omega)
      unfold wkM at this
      rw [lgW_o (by omega)] at this
      exact this
    rw [x11, x4, x0] at p
    exact p
  unfold dayV dayM
  rw [tk]
  by_cases c1 : dd = 1
  · obtain ⟨c2, c3, c4⟩ := C.1 c1
    rw [if_pos c1, if_pos c1, if_pos c1]
    have MB := mr_bolt (tk := TK lw r (v 0) (v 2) (v 10) (v 9) (v 4)) M0 c3
    refine ⟨up _ _ _ (mr_end MB), ledger _ _ _ MB ?_ (bolt_o (by decide) (by decide) (by decide) (by decide) (by decide)) (by rw [bolt_10]; omega)⟩
    have lb := lb_bolt (tk := TK lw r (v 0) (v 2) (v 10) (v 9) (v 4)) B c3 m5
    rw [m2, e0] at lb
    exact lb_ext lb (by rw [bolt_10, up1_s]) (by rw [bolt_o (by decide) (by decide) (by decide) (by decide) (by decide), up1_o _ _ (by decide)])
  · rw [if_neg c1, if_neg c1, if_neg c1]
    have MD := mr_deed (r := r) (dd := dd) M0
    refine ⟨up _ _ _ (mr_end MD), ledger _ _ _ MD ?_ (deed_o (by decide) (by decide)) (by rw [deed_o (by decide) (by decide)]; exact h10)⟩
    refine lb_same B (deed_o (by decide) (by decide)) (deed_o (by decide) (by decide)) h10 (fun k hk => deed_o (by omega) (by omega))
