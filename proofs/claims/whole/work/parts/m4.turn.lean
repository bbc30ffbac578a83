/-! ===== one turn of the law's loop ===== -/
theorem al25 : alK 25 = true := rfl
theorem lw_turn {h : Hp} {x : Int32} {L : Nat} (I : INV h) (S : SCR h L) (O : OUT h) (B0 : inb x L = true) (B : BX x L) (hb : hN h + 2 < PRE) (hx : ¬ Int32.ofNat L - 6 < x) : ∃ h2, NX h h2 ∧ Run kL_law 23 (LSx x) [] h = Run kL_law 1621 (LSx x) [] h2 := by
  have t := tL_law_23 (some (PRE + 30)) (some 0) (some 147) (some 172) x none none h
  simp only [oB_some, dR_some, cond_true, cond_false, if_true, if_false, Bool.true_and, Bool.and_true, Nat.beq_refl, S.1, S.2, al25, ia25, hx, B0] at t
  have t' : Run kL_law 23 (LSx x) [] h = _ := t
  rw [t']
  clear t t'
  generalize hI h (PRE + 30) (Int32.toNatClampNeg x) &&& 63 = y
  by_cases c0 : y = 0
  · rw [if_pos c0]; exact lc_240 I S B hb
  rw [if_neg c0]
  by_cases c1 : y = 1
  · rw [if_pos c1]; exact lc_313 I S B hb
  rw [if_neg c1]
  by_cases c2 : y = 2
  · rw [if_pos c2]; exact lc_338 I S B hb
  rw [if_neg c2]
  by_cases c3 : y = 3
  · rw [if_pos c3]; exact lc_363 I S B hb
  rw [if_neg c3]
  by_cases c4 : y = 4
  · rw [if_pos c4]; exact lc_388 I S B hb
  rw [if_neg c4]
  by_cases c5 : y = 5
  · rw [if_pos c5]; exact lc_413 I S B hb
  rw [if_neg c5]
  by_cases c6 : y = 6
  · rw [if_pos c6]; exact lc_450 I S O B hb
  rw [if_neg c6]
  by_cases c7 : y = 7
  · rw [if_pos c7]; exact lc_518 I S B hb
  rw [if_neg c7]
  by_cases c8 : y = 8
  · rw [if_pos c8]; exact lc_543 I S B hb
  rw [if_neg c8]
  by_cases c9 : y = 9
  · rw [if_pos c9]; exact lc_568 I S B hb
  rw [if_neg c9]
  by_cases c10 : y = 10
  · rw [if_pos c10]; exact lc_593 I S B hb
  rw [if_neg c10]
  by_cases c11 : y = 11
  · rw [if_pos c11]; exact lc_606 I S B hb
  rw [if_neg c11]
  by_cases c12 : y = 12
  · rw [if_pos c12]; exact lc_643 I S B hb
  rw [if_neg c12]
  by_cases c13 : y = 13
  · rw [if_pos c13]; exact lc_668 I S B hb
  rw [if_neg c13]
  by_cases c14 : y = 14
  · rw [if_pos c14]; exact lc_709 I S B hb
  rw [if_neg c14]
  by_cases c15 : y = 15
  · rw [if_pos c15]; exact lc_734 I S B hb
  rw [if_neg c15]
  by_cases c16 : y = 16
  · rw [if_pos c16]; exact lc_803 I S B hb
  rw [if_neg c16]
  by_cases c17 : y = 17
  · rw [if_pos c17]; exact lc_816 I S B hb
  rw [if_neg c17]
  by_cases c18 : y = 18
  · rw [if_pos c18]; exact lc_853 I S B hb
  rw [if_neg c18]
  by_cases c19 : y = 19
  · rw [if_pos c19]; exact lc_890 I S B hb
  rw [if_neg c19]
  by_cases c20 : y = 20
  · rw [if_pos c20]; exact lc_939 I S B hb
  rw [if_neg c20]
  by_cases c21 : y = 21
  · rw [if_pos c21]; exact lc_976 I S B hb
  rw [if_neg c21]
  by_cases c22 : y = 22
  · rw [if_pos c22]; exact lc_1001 I S B hb
  rw [if_neg c22]
  by_cases c23 : y = 23
  · rw [if_pos c23]; exact lc_1050 I S B hb
  rw [if_neg c23]
  by_cases c24 : y = 24
  · rw [if_pos c24]; exact lc_1063 I S B hb
  rw [if_neg c24]
  by_cases c25 : y = 25
  · rw [if_pos c25]; exact lc_1088 I S B hb
  rw [if_neg c25]
  by_cases c26 : y = 26
  · rw [if_pos c26]; exact lc_1113 I S B hb
  rw [if_neg c26]
  by_cases c27 : y = 27
  · rw [if_pos c27]; exact lc_1126 I S B hb
  rw [if_neg c27]
  by_cases c28 : y = 28
  · rw [if_pos c28]; exact lc_1151 I S B hb
  rw [if_neg c28]
  by_cases c29 : y = 29
  · rw [if_pos c29]; exact lc_1176 I S B hb
  rw [if_neg c29]
  by_cases c30 : y = 30
  · rw [if_pos c30]; exact lc_1201 I S B hb
  rw [if_neg c30]
  by_cases c31 : y = 31
  · rw [if_pos c31]; exact lc_1250 I S B hb
  rw [if_neg c31]
  by_cases c32 : y = 32
  · rw [if_pos c32]; exact lc_1275 I S B hb
  rw [if_neg c32]
  by_cases c33 : y = 33
  · rw [if_pos c33]; exact lc_1328 I S B hb
  rw [if_neg c33]
  by_cases c34 : y = 34
  · rw [if_pos c34]; exact lc_1341 I S B hb
  rw [if_neg c34]
  by_cases c35 : y = 35
  · rw [if_pos c35]; exact lc_1406 I S B hb
  rw [if_neg c35]
  by_cases c36 : y = 36
  · rw [if_pos c36]; exact lc_1431 I S B hb
  rw [if_neg c36]
  by_cases c37 : y = 37
  · rw [if_pos c37]; exact lc_1444 I S B hb
  rw [if_neg c37]
  by_cases c38 : y = 38
  · rw [if_pos c38]; exact lc_1481 I S B hb
  rw [if_neg c38]
  by_cases c39 : y = 39
  · rw [if_pos c39]; exact lc_1506 I S B hb
  rw [if_neg c39]
  by_cases c40 : y = 40
  · rw [if_pos c40]; exact lc_1531 I S B hb
  rw [if_neg c40]
  by_cases c41 : y = 41
  · rw [if_pos c41]; exact lc_1544 I S B hb
  rw [if_neg c41]
  by_cases c42 : y = 42
  · rw [if_pos c42]; exact lc_1557 I S B hb
  rw [if_neg c42]
  by_cases c43 : y = 43
  · rw [if_pos c43]; exact lc_1570 I S B hb
  rw [if_neg c43]
  by_cases c44 : y = 44
  · rw [if_pos c44]; exact lc_1583 I S B hb
  rw [if_neg c44]
  by_cases c45 : y = 45
  · rw [if_pos c45]; exact lc_1596 I S B hb
  rw [if_neg c45]
  exact ⟨h, ⟨I, by omega, by omega, kp_rfl h⟩, rfl⟩
