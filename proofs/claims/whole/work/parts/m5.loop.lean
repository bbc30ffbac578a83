/-! ===== the law's loop ===== -/
theorem lw_end {L j : Nat} (hL : L ≤ 3072) (hj : 6 * j ≤ L) : (Int32.ofNat L - 6 < nI (6 * j)) = (L < 6 * j + 6) := by
  by_cases c : L < 6
  · have j0 : j = 0 := by omega
    subst j0
    have a : Int32.ofNat L - 6 < nI (6 * 0) := by
      have : ∀ k : Nat, k < 6 → Int32.ofNat k - 6 < nI (6 * 0) := by decide
      exact this L c
    exact propext ⟨fun _ => by omega, fun _ => a⟩
  · have e : Int32.ofNat L - 6 = nI (L - 6) := nI_subL (a := L) (b := 6) (by omega)
    rw [e, nI_nlt' (by omega) (by omega)]
    exact propext ⟨fun _ => by omega, fun _ => by omega⟩
theorem bx_of {L j : Nat} (hL : L ≤ 3072) (hj : 6 * j + 6 ≤ L) : BX (nI (6 * j)) L := by
  have q : ∀ k : Nat, k ≤ 5 → inb (nI (6 * j) + nI k) L = true := fun k hk => by rw [nI_add]; exact inb_nI (by omega) (by omega)
  exact ⟨q 1 (by omega), q 2 (by omega), q 3 (by omega), q 4 (by omega), q 5 (by omega)⟩
theorem lw_out {h : Hp} {L j : Nat} (S : SCR h L) (hL : L ≤ 3072) (hj : 6 * j ≤ L) (c : L < 6 * j + 6) : Run kL_law 23 (LSx (nI (6 * j))) [] h = some (rI 1, h) := by
  refine (tL_law_23 _ _ _ _ _ _ _ _).trans ?_
  have e : (Int32.ofNat L - 6 < nI (6 * j)) = True := by rw [lw_end hL hj]; exact eq_true c
  simp only [oB_some, dR_some, cond_true, cond_false, if_true, if_false, Bool.true_and, Bool.and_true, Nat.beq_refl, S.1, S.2, al25, e, isZ1]
theorem lw_loop {L N0 S0 : Nat} (hL : L ≤ 3072) : ∀ (n j : Nat) (h : Hp), INV h → SCR h L → OUT h → 6 * j ≤ L → L < 6 * j + 6 * n + 6 → hN h ≤ N0 + 2 * j → hS h ≤ S0 + 300 * j → N0 + 2 * (j + n) + 2 < PRE → ∃ h2, Run kL_law 23 (LSx (nI (6 * j))) [] h = some (rI 1, h2) ∧ hN h2 ≤ N0 + 2 * (j + n) ∧ hS h2 ≤ S0 + 300 * (j + n) := by
  intro n
  induction n with
  | zero =>
    intro j h I S O hj c n1 n2 hb
    exact ⟨h, lw_out S hL hj (by omega), by omega, by omega⟩
  | succ n ih =>
    intro j h I S O hj c n1 n2 hb
    by_cases z : L < 6 * j + 6
    · exact ⟨h, lw_out S hL hj z, by omega, by omega⟩
    · have e : ¬ (Int32.ofNat L - 6 < nI (6 * j)) := by rw [lw_end hL hj]; exact z
      obtain ⟨h2, ⟨I2, m1, m2, K⟩, r⟩ := lw_turn I S O (x := nI (6 * j)) (inb_nI (by omega) (by omega)) (bx_of hL (by omega)) (by omega) e
      have b2 : hN h2 < PRE := by omega
      have f := I.2.1.1
      have q := K.2 b2 (PRE + 30) (Or.inr (by omega))
      have q' := K.2 b2 172 (Or.inl (by omega))
      have S2 : SCR h2 L := ⟨q.1.trans S.1, q.2.1.trans S.2⟩
      have O2 : OUT h2 := ⟨q'.1.trans O.1, q'.2.1.trans O.2⟩
      have a1 : 6 * (j + 1) ≤ L := by omega
      have a2 : L < 6 * (j + 1) + 6 * n + 6 := by omega
      have a3 : hN h2 ≤ N0 + 2 * (j + 1) := by omega
      have a4 : hS h2 ≤ S0 + 300 * (j + 1) := by
        rw [Nat.mul_add, Nat.mul_one, ← Nat.add_assoc]
        exact Nat.le_trans m2 (Nat.add_le_add_right n2 300)
      have a5 : N0 + 2 * (j + 1 + n) + 2 < PRE := by omega
      have ih' := ih (j + 1) h2 I2 S2 O2 a1 a2 a3 a4 a5
      clear ih
      obtain ⟨h3, r3, o1, o2⟩ := ih'
      refine ⟨h3, ?_, by omega, by omega⟩
      rw [r]
      refine (tL_law_1621 _ _ _ _ _ _ _ _).trans ?_
      have e6 : nI (6 * j) + 6 = nI (6 * (j + 1)) := by rw [show (6 : Int32) = nI 6 from rfl, nI_add]; rfl
      rw [e6]
      exact r3
