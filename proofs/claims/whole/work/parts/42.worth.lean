/-! ===== PURE: a law's code on its stack ===== -/
def WL (h : Hp) (a cd N : Nat) : Prop := hK h a = 1 ∧ hR h a 0 = some cd ∧ hK h cd = 20 ∧ hE h cd = N ∧ N ≤ 240 ∧ hK h 8 = 20 ∧ hE h 8 = 6 ∧ hK h 9 = 20 ∧ hE h 9 = 64 ∧ cd ≠ 9
noncomputable def WR (h : Hp) (a i top : Nat) (ps : Int32) (row : Nat → Int32) (o : Option EV) : Option (RV × Hp) := Run kX1_worth 8 [some (vR (some a)), some (vR (some 8)), some (vR (some 9)), some (vI (nI top)), some (vI ps), some (vI (nI i)), o] [] (wA h 9 row)
theorem W_end {h : Hp} {a cd N i top : Nat} {ps : Int32} {row : Nat → Int32} {o : Option EV} (V : WL h a cd N) (hi : N ≤ i) (hi2 : i < 2 ^ 31) : WR h a i top ps row o = some (rI 0, wA h 9 row) := by
  obtain ⟨V1, V2, V3, V4, V5, V6, V7, V8, V9, V10⟩ := V
  have e1 := nI_nle' (a := N) (b := i) (by omega) hi2
  unfold WR
  rw [tX1_worth_8]
  simp only [oB_some, dR_some, cond_true, cond_false, if_true, if_false, Bool.true_and, Bool.and_true, Nat.beq_refl, wA_K, wA_E, wA_R, V1, V2, V3, V4, alK20, show Int32.ofNat N = nI N from rfl, e1, hi]
theorem W_num {h : Hp} {a cd N i top : Nat} {x : Int32} {row : Nat → Int32} {o : Option EV} (V : WL h a cd N) (hi : i < N) (hx : hI h cd i = x) (h0 : ¬ x < 0) (ht : top < 64) : WR h a i top 0 row o = WR h a (i + 1) (top + 1) 0 (up1 row top x) (some (vI x)) := by
  obtain ⟨V1, V2, V3, V4, V5, V6, V7, V8, V9, V10⟩ := V
  have e1 := nI_nle' (a := N) (b := i) (by omega) (by omega)
  have q1 : ¬ N ≤ i := by omega
  have e2 : inb (nI i) N = true := inb_nI hi (by omega)
  have e3 : (nI i).toNatClampNeg = i := nI_clamp (by omega)
  have e4 := nI_nle' (a := 64) (b := top) (by omega) (by omega)
  have q4 : ¬ 64 ≤ top := by omega
  have e5 : inb (nI top) 64 = true := inb_nI ht (by omega)
  have e6 : (nI top).toNatClampNeg = top := nI_clamp (by omega)
  have n1 : ¬ x = -21 := fun z => h0 (by rw [z]; decide)
  have n2 : ¬ x = -20 := fun z => h0 (by rw [z]; decide)
  unfold WR
  rw [tX1_worth_8]
  simp only [oB_some, dR_some, cond_true, cond_false, if_true, if_false, Bool.true_and, Bool.and_true, Nat.beq_refl, wA_K, wA_E, wA_R, V1, V2, V3, V4, V8, V9, alK20, iaK20, show Int32.ofNat N = nI N from rfl, show Int32.ofNat 64 = nI 64 from rfl, e1, q1, e2, e3, e4, q4, e5, e6, wA_O h row V10, hx, n1, n2, h0, sI_ws, nI_1]
theorem let_ar : ∀ j, j < 6 → ((-1 - nI j : Int32) < 0 ∧ ¬ (-1 - nI j : Int32) < -6 ∧ (-1 : Int32) - (-1 - nI j) = nI j ∧ ¬ (-1 - nI j : Int32) = -21 ∧ ¬ (-1 - nI j : Int32) = -20) := by decide +kernel
theorem W_let {h : Hp} {a cd N i top j : Nat} {row : Nat → Int32} {o : Option EV} (V : WL h a cd N) (hi : i < N) (hj : j < 6) (hx : hI h cd i = -1 - nI j) (ht : top < 64) : WR h a i top 0 row o = WR h a (i + 1) (top + 1) 0 (up1 row top (hI h 8 j)) (some (vI (-1 - nI j))) := by
  obtain ⟨V1, V2, V3, V4, V5, V6, V7, V8, V9, V10⟩ := V
  obtain ⟨a1, a2, a3, a4, a5⟩ := let_ar j hj
  have e1 := nI_nle' (a := N) (b := i) (by omega) (by omega)
  have q1 : ¬ N ≤ i := by omega
  have e2 : inb (nI i) N = true := inb_nI hi (by omega)
  have e3 : (nI i).toNatClampNeg = i := nI_clamp (by omega)
  have e4 := nI_nle' (a := 64) (b := top) (by omega) (by omega)
  have q4 : ¬ 64 ≤ top := by omega
  have e5 : inb (nI top) 64 = true := inb_nI ht (by omega)
  have e6 : (nI top).toNatClampNeg = top := nI_clamp (by omega)
  have e7 : inb (nI j) 6 = true := inb_nI hj (by omega)
  have e8 : (nI j).toNatClampNeg = j := nI_clamp (by omega)
  unfold WR
  rw [tX1_worth_8]
  simp only [oB_some, dR_some, cond_true, cond_false, if_true, if_false, Bool.true_and, Bool.and_true, Nat.beq_refl, wA_K, wA_E, wA_R, V1, V2, V3, V4, V8, V9, alK20, iaK20, show Int32.ofNat N = nI N from rfl, show Int32.ofNat 64 = nI 64 from rfl, e1, q1, e2, e3, wA_O h row V10, hx, a1, a4, a5]
  rw [tX1_worth_107]
  simp only [oB_some, dR_some, cond_true, cond_false, if_true, if_false, Bool.true_and, Bool.and_true, Nat.beq_refl, wA_K, wA_E, wA_R, V6, V7, V8, V9, alK20, iaK20, show Int32.ofNat 64 = nI 64 from rfl, a2, a3, e4, q4, e5, e6, e7, e8, wA_O h row (show (8 : Nat) ≠ 9 by decide), sI_ws, nI_1]
theorem W_not {h : Hp} {a cd N i t : Nat} {row : Nat → Int32} {o : Option EV} (V : WL h a cd N) (hi : i < N) (hx : hI h cd i = -19) (ht : t < 64) : WR h a i (t + 1) 0 row o = WR h a (i + 1) (t + 1) 0 (up1 row t (1 - row t)) (some (vI (-19))) := by
  obtain ⟨V1, V2, V3, V4, V5, V6, V7, V8, V9, V10⟩ := V
  have e1 := nI_nle' (a := N) (b := i) (by omega) (by omega)
  have q1 : ¬ N ≤ i := by omega
  have e2 : inb (nI i) N = true := inb_nI hi (by omega)
  have e3 : (nI i).toNatClampNeg = i := nI_clamp (by omega)
  have e4 := nI_nlt' (a := t + 1) (b := 1) (by omega) (by omega)
  have q4 : ¬ t + 1 < 1 := by omega
  have e5 : inb (nI t) 64 = true := inb_nI ht (by omega)
  have e6 : (nI t).toNatClampNeg = t := nI_clamp (by omega)
  unfold WR
  rw [tX1_worth_8]
  simp only [oB_some, dR_some, cond_true, cond_false, if_true, if_false, Bool.true_and, Bool.and_true, Nat.beq_refl, wA_K, wA_E, wA_R, V1, V2, V3, V4, V8, V9, alK20, iaK20, show Int32.ofNat N = nI N from rfl, e1, q1, e2, e3, wA_O h row V10, hx, show ¬ ((-19 : Int32) = -21) by decide, show ¬ ((-19 : Int32) = -20) by decide, show (-19 : Int32) < 0 by decide]
  rw [tX1_worth_107]
  simp only [oB_some, dR_some, cond_true, cond_false, if_true, if_false, Bool.true_and, Bool.and_true, Nat.beq_refl, wA_K, wA_E, wA_R, V8, V9, alK20, iaK20, show (-19 : Int32) < -6 by decide, show (1 : Int32) = nI 1 from rfl, e4, q4, show nI (t + 1) - nI 1 = nI t from nI_pred t, e5, e6, wA_I, sI_ws]
  rw [show nI i + nI 1 = nI (i + 1) from nI_1 i]
def isJn (x : Int32) : Prop := x < 0 ∧ x < -6 ∧ ¬ x = -19 ∧ ¬ x = -20 ∧ ¬ x = -21
theorem W_join {h : Hp} {a cd N i t : Nat} {x v : Int32} {row : Nat → Int32} {o : Option EV} (V : WL h a cd N) (hi : i < N) (hx : hI h cd i = x) (jx : isJn x) (ht : t + 1 < 64) (hj : ∀ h', FX1_joined [vI x, vL (row t).toInt64, vL (row (t + 1)).toInt64] h' = some (rI v, h')) : WR h a i (t + 2) 0 row o = WR h a (i + 1) (t + 1) 0 (up1 row t v) (some (vI x)) := by
  obtain ⟨V1, V2, V3, V4, V5, V6, V7, V8, V9, V10⟩ := V
  obtain ⟨j1, j2, j3, j4, j5⟩ := jx
  have e1 := nI_nle' (a := N) (b := i) (by omega) (by omega)
  have q1 : ¬ N ≤ i := by omega
  have e2 : inb (nI i) N = true := inb_nI hi (by omega)
  have e3 : (nI i).toNatClampNeg = i := nI_clamp (by omega)
  have e4 := nI_nlt' (a := t + 2) (b := 2) (by omega) (by omega)
  have q4 : ¬ t + 2 < 2 := by omega
  have e5 : inb (nI t) 64 = true := inb_nI (by omega) (by omega)
  have e6 : (nI t).toNatClampNeg = t := nI_clamp (by omega)
  have e7 : inb (nI (t + 1)) 64 = true := inb_nI (by omega) (by omega)
  have e8 : (nI (t + 1)).toNatClampNeg = t + 1 := nI_clamp (by omega)
  unfold WR
  rw [tX1_worth_8]
  simp only [oB_some, dR_some, cond_true, cond_false, if_true, if_false, Bool.true_and, Bool.and_true, Nat.beq_refl, wA_K, wA_E, wA_R, V1, V2, V3, V4, V8, V9, alK20, iaK20, show Int32.ofNat N = nI N from rfl, e1, q1, e2, e3, wA_O h row V10, hx, j1, j4, j5]
  rw [tX1_worth_107]
  simp only [oB_some, dR_some, cond_true, cond_false, if_true, if_false, Bool.true_and, Bool.and_true, Nat.beq_refl, wA_K, wA_E, wA_R, V8, V9, alK20, iaK20, j2, j3, show (2 : Int32) = nI 2 from rfl, e4, q4, show nI (t + 2) + (-1) = nI (t + 1) from pk_m1 (t + 1), show nI (t + 1) - 1 = nI t from nI_pred t, e5, e6, e7, e8, wA_I, hj, sI_ws, nI_1]
theorem W_answer {h : Hp} {a cd N i top : Nat} {row : Nat → Int32} {o : Option EV} (V : WL h a cd N) (hi : i < N) (hx : hI h cd i = -21) : WR h a i top 0 row o = some (rI (row 0), wA h 9 row) := by
  obtain ⟨V1, V2, V3, V4, V5, V6, V7, V8, V9, V10⟩ := V
  have e1 := nI_nle' (a := N) (b := i) (by omega) (by omega)
  have q1 : ¬ N ≤ i := by omega
  have e2 : inb (nI i) N = true := inb_nI hi (by omega)
  have e3 : (nI i).toNatClampNeg = i := nI_clamp (by omega)
  have e5 : inb 0 64 = true := by decide
  unfold WR
  rw [tX1_worth_8]
  simp only [oB_some, dR_some, cond_true, cond_false, if_true, if_false, Bool.true_and, Bool.and_true, Nat.beq_refl, wA_K, wA_E, wA_R, V1, V2, V3, V4, V8, V9, alK20, iaK20, show Int32.ofNat N = nI N from rfl, e1, q1, e2, e3, e5, wA_O h row V10, hx, wA_I, show (0 : Int32).toNatClampNeg = 0 from rfl]
theorem W_choose {h : Hp} {a cd N i top : Nat} {row : Nat → Int32} {o : Option EV} (V : WL h a cd N) (hi : i < N) (hx : hI h cd i = -20) : WR h a i top 0 row o = if row 0 = 0 then WR h a (i + 1) 0 1 row (some (vI (-20))) else WR h a (i + 1) 0 0 row (some (vI (-20))) := by
  obtain ⟨V1, V2, V3, V4, V5, V6, V7, V8, V9, V10⟩ := V
  have e1 := nI_nle' (a := N) (b := i) (by omega) (by omega)
  have q1 : ¬ N ≤ i := by omega
  have e2 : inb (nI i) N = true := inb_nI hi (by omega)
  have e3 : (nI i).toNatClampNeg = i := nI_clamp (by omega)
  have e5 : inb 0 64 = true := by decide
  unfold WR
  rw [tX1_worth_8]
  simp only [oB_some, dR_some, cond_true, cond_false, if_true, if_false, Bool.true_and, Bool.and_true, Nat.beq_refl, wA_K, wA_E, wA_R, V1, V2, V3, V4, V8, V9, alK20, iaK20, show Int32.ofNat N = nI N from rfl, e1, q1, e2, e3, e5, wA_O h row V10, hx, wA_I, show (0 : Int32).toNatClampNeg = 0 from rfl, show ¬ ((-20 : Int32) = -21) by decide, nI_1, nI_0]
theorem W_pass {h : Hp} {a cd N i top : Nat} {x : Int32} {row : Nat → Int32} {o : Option EV} (V : WL h a cd N) (hi : i < N) (hx : hI h cd i = x) : WR h a i top 1 row o = if x = -21 then WR h a (i + 1) top 0 row (some (vI x)) else WR h a (i + 1) top 1 row (some (vI x)) := by
  obtain ⟨V1, V2, V3, V4, V5, V6, V7, V8, V9, V10⟩ := V
  have e1 := nI_nle' (a := N) (b := i) (by omega) (by omega)
  have q1 : ¬ N ≤ i := by omega
  have e2 : inb (nI i) N = true := inb_nI hi (by omega)
  have e3 : (nI i).toNatClampNeg = i := nI_clamp (by omega)
  unfold WR
  rw [tX1_worth_8]
  simp only [oB_some, dR_some, cond_true, cond_false, if_true, if_false, Bool.true_and, Bool.and_true, Nat.beq_refl, wA_K, wA_E, wA_R, V1, V2, V3, V4, V8, V9, alK20, iaK20, show Int32.ofNat N = nI N from rfl, e1, q1, e2, e3, wA_O h row V10, hx, show ¬ ((1 : Int32) = 0) by decide, nI_1]
/-- the code c from i to j puts v on the stack, with m places -/
def PU (c L : Nat → Int32) (i j : Nat) (v : Int32) (m : Nat) : Prop := i < j ∧ ∀ (h : Hp) (a cd N : Nat), WL h a cd N → j ≤ N → (∀ q, i ≤ q → q < j → hI h cd q = c q) → (∀ q, q < 6 → hI h 8 q = L q) → ∀ (top : Nat) (row : Nat → Int32) (o : Option EV), top + m ≤ 64 → ∃ row' o', WR h a i top 0 row o = WR h a j (top + 1) 0 row' o' ∧ (∀ q, q < top → row' q = row q) ∧ row' top = v
theorem PU.mono {c L : Nat → Int32} {i j : Nat} {v : Int32} {m m' : Nat} (Q : PU c L i j v m) (hm : m ≤ m') : PU c L i j v m' := ⟨Q.1, fun h a cd N V hj hc hl top row o ht => Q.2 h a cd N V hj hc hl top row o (by omega)⟩
theorem PU.ext {c c' L : Nat → Int32} {i j : Nat} {v : Int32} {m : Nat} (Q : PU c L i j v m) (hc : ∀ q, i ≤ q → q < j → c' q = c q) : PU c' L i j v m := ⟨Q.1, fun h a cd N V hj hc' hl top row o ht => Q.2 h a cd N V hj (fun q h1 h2 => (hc' q h1 h2).trans (hc q h1 h2)) hl top row o ht⟩
theorem PU.num {c L : Nat → Int32} {i : Nat} {x : Int32} (hc : c i = x) (h0 : ¬ x < 0) : PU c L i (i + 1) x 1 := by
  refine ⟨Nat.lt_succ_self i, fun h a cd N V hj hc' hl top row o ht => ?_⟩
  refine ⟨_, _, W_num V (by omega) ((hc' i (Nat.le_refl _) (Nat.lt_succ_self _)).trans hc) h0 (by omega), fun q hq => up1_o _ _ (by omega), up1_s _ _ _⟩
theorem PU.let {c L : Nat → Int32} {i j : Nat} (hj : j < 6) (hc : c i = -1 - nI j) : PU c L i (i + 1) (L j) 1 := by
  refine ⟨Nat.lt_succ_self i, fun h a cd N V hjN hc' hl top row o ht => ?_⟩
  refine ⟨_, _, W_let V (by omega) hj ((hc' i (Nat.le_refl _) (Nat.lt_succ_self _)).trans hc) (by omega), fun q hq => up1_o _ _ (by omega), ?_⟩
  rw [up1_s]; exact hl j hj
theorem PU.not {c L : Nat → Int32} {i j m : Nat} {v : Int32} (Q : PU c L i j v m) (hm : 1 ≤ m) (hc : c j = -19) : PU c L i (j + 1) (1 - v) m := by
  refine ⟨Nat.lt_succ_of_lt Q.1, fun h a cd N V hjN hc' hl top row o ht => ?_⟩
  obtain ⟨r1, o1, e1, p1, p2⟩ := Q.2 h a cd N V (by omega) (fun q h1 h2 => hc' q h1 (by omega)) hl top row o ht
  refine ⟨_, _, e1.trans (W_not V (by omega) ((hc' j (Nat.le_of_lt Q.1) (Nat.lt_succ_self _)).trans hc) (by omega)), fun q hq => ?_, ?_⟩
  · rw [up1_o _ _ (by omega)]; exact p1 q hq
  · rw [up1_s, p2]
theorem PU.bin {c L : Nat → Int32} {i j k m m' M : Nat} {v w x u : Int32} (Q : PU c L i j v m) (Q' : PU c L j k w m') (h1 : m ≤ M) (h2 : m' + 1 ≤ M) (h3 : 2 ≤ M) (hc : c k = x) (jx : isJn x) (hj : ∀ h', FX1_joined [vI x, vL v.toInt64, vL w.toInt64] h' = some (rI u, h')) : PU c L i (k + 1) u M := by
  have hij := Q.1
  have hjk := Q'.1
  refine ⟨by omega, fun h a cd N V hjN hc' hl top row o ht => ?_⟩
  obtain ⟨r1, o1, e1, p1, p2⟩ := Q.2 h a cd N V (by omega) (fun q h1 h2 => hc' q h1 (by omega)) hl top row o (by omega)
  obtain ⟨r2, o2, e2, p3, p4⟩ := Q'.2 h a cd N V (by omega) (fun q h1 h2 => hc' q (by omega) (by omega)) hl (top + 1) r1 o1 (by omega)
  have hv : r2 top = v := by rw [p3 top (by omega)]; exact p2
  refine ⟨_, _, (e1.trans e2).trans (W_join V (by omega) ((hc' k (by omega) (Nat.lt_succ_self _)).trans hc) jx (by omega) (fun h' => by rw [hv, p4]; exact hj h')), fun q hq => ?_, ?_⟩
  · rw [up1_o _ _ (by omega), p3 q (by omega)]; exact p1 q hq
  · rw [up1_s]
