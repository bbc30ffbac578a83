/-! ===== PURE: a long as a set of bits ===== -/
def bL (w : Int64) (j : Nat) : Bool := w.toBitVec.getLsbD j
theorem bL_one : ∀ k, k < 64 → ((1 : Int64) <<< ((nI k).toInt64 &&& 63)).toBitVec = BitVec.twoPow 64 k := by decide +kernel
theorem bL_tn : ∀ k, k < 64 → ((nI k).toInt64.toUInt64 &&& Int64.toUInt64 63).toNat = k := by decide +kernel
theorem bL_test (w : Int64) {k : Nat} (hk : k < 64) : (lg_cmp ((w.toUInt64 >>> ((nI k).toInt64.toUInt64 &&& Int64.toUInt64 63)).toInt64 &&& 1) 0 = 0) = (bL w k = false) := by
  refine propext ((lg_cmp_eq _ _).trans ?_)
  exact ts_bit hk (bL_tn k hk)
theorem bL_set (w : Int64) {k j : Nat} (hk : k < 64) (hj : j < 64) : bL (w ||| ((1 : Int64) <<< ((nI k).toInt64 &&& 63))) j = (bL w j || decide (j = k)) := by
  unfold bL
  rw [Int64.toBitVec_or, bL_one k hk, BitVec.getLsbD_or, BitVec.getLsbD_twoPow]
  by_cases e : j = k
  · subst e; simp [hj]
  · simp [e, Ne.symm e]
theorem bL_0 (j : Nat) : bL 0 j = false := by
  unfold bL
  show (0#64).getLsbD j = false
  simp
theorem bL_ext {a b : Int64} (h : ∀ j, j < 64 → bL a j = bL b j) : a = b := Int64.toBitVec_inj.mp (BitVec.eq_of_getLsbD_eq (fun i hi => h i hi))
theorem bL_nz {w : Int64} : (lg_cmp w 0 = 0) = (∀ j, j < 64 → bL w j = false) := by
  refine propext ((lg_cmp_eq _ _).trans ⟨fun e j _ => by rw [e]; exact bL_0 j, fun h => bL_ext (fun j hj => by rw [h j hj, bL_0])⟩)
/-! tests of a cloth and signs of a sleeve -/
/-- tenths, as they stood before -/
def TEN (h : Hp) : Prop := (hK h (PRE + 4) = 25 ∧ hE h (PRE + 4) = 3 ∧ hI h (PRE + 4) 0 = 9 ∧ hI h (PRE + 4) 1 = 8 ∧ hI h (PRE + 4) 2 = 6) ∧ (hK h (PRE + 5) = 25 ∧ hE h (PRE + 5) = 3 ∧ hI h (PRE + 5) 0 = 2 ∧ hI h (PRE + 5) 1 = 3 ∧ hI h (PRE + 5) 2 = 5)
def PRl (h : Hp) : Prop := (hR h 0 6 = some 101 ∧ hK h 101 = 7 ∧ hR h 101 4 = some 102 ∧ hK h 102 = 20 ∧ hE h 102 = 30) ∧ (hR h 147 45 = some 166 ∧ hK h 166 = 20 ∧ hE h 166 = 12) ∧ (hR h 147 48 = some 169 ∧ hK h 169 = 22 ∧ hE h 169 = 12) ∧ (hR h 147 46 = some 167 ∧ hK h 167 = 20 ∧ hE h 167 = 10) ∧ (hR h 147 47 = some 168 ∧ hK h 168 = 20 ∧ hE h 168 = 10) ∧ (hR h 147 49 = some 170 ∧ hK h 170 = 22 ∧ hE h 170 = 10)
def oneN (k : Nat) : Nat := if k = 0 then 9 else if k = 1 then 8 else 6
def twoN (k : Nat) : Nat := if k = 0 then 2 else if k = 1 then 3 else 5
def tnt (f : Nat → Nat) (s i : Nat) : Nat := if i = 0 then 10 - f s else f s
/-- how likely, as a number -/
def pdt (f so is : Nat → Nat) : Nat → Nat
  | 0 => 1
  | k + 1 => pdt f so is k * tnt f (so k) (is k)
theorem tnt_b {f : Nat → Nat} (h1 : ∀ k, 1 ≤ f k) (h2 : ∀ k, f k ≤ 9) (s i : Nat) : 1 ≤ tnt f s i ∧ tnt f s i ≤ 9 := by
  unfold tnt
  have := h1 s
  have := h2 s
  split <;> omega
theorem pdt_b {f so is : Nat → Nat} (h1 : ∀ k, 1 ≤ f k) (h2 : ∀ k, f k ≤ 9) : ∀ k, 1 ≤ pdt f so is k ∧ pdt f so is k ≤ 9 ^ k := by
  intro k
  induction k with
  | zero => exact ⟨Nat.le_refl _, Nat.le_refl _⟩
  | succ k ih =>
    obtain ⟨a, b⟩ := tnt_b h1 h2 (so k) (is k)
    show 1 ≤ pdt f so is k * tnt f (so k) (is k) ∧ _ ≤ 9 ^ k * 9
    exact ⟨Nat.mul_pos ih.1 a, Nat.mul_le_mul ih.2 b⟩
theorem one_b : (∀ k, 1 ≤ oneN k) ∧ ∀ k, oneN k ≤ 9 := ⟨fun k => by unfold oneN; by_cases c : k = 0 <;> by_cases c1 : k = 1 <;> simp [c, c1], fun k => by unfold oneN; by_cases c : k = 0 <;> by_cases c1 : k = 1 <;> simp [c, c1]⟩
theorem two_b : (∀ k, 1 ≤ twoN k) ∧ ∀ k, twoN k ≤ 9 := ⟨fun k => by unfold twoN; by_cases c : k = 0 <;> by_cases c1 : k = 1 <;> simp [c, c1], fun k => by unfold twoN; by_cases c : k = 0 <;> by_cases c1 : k = 1 <;> simp [c, c1]⟩
/-- tests, as both hold them -/
def TST (h : Hp) (tc : Nat) (so is : Nat → Nat) : Prop := tc ≤ 12 ∧ hI h 101 0 = nI tc ∧ hI h 147 50 = nI tc ∧ hL h 101 1 = lN (pdt oneN so is tc) ∧ hL h 101 2 = lN (pdt twoN so is tc) ∧ (∀ k, k < tc → hI h 166 k = nI (so k) ∧ so k ≤ 2 ∧ hI h 169 k = nI (is k) ∧ is k ≤ 1)
/-- signs, as both hold them -/
def SGN (h : Hp) (sc : Nat) (ss sm si : Nat → Nat) : Prop := sc ≤ 10 ∧ hI h 101 3 = nI sc ∧ hI h 147 51 = nI sc ∧ (∀ k, k < sc → (hI h 102 (3 * k) = nI (ss k) ∧ hI h 102 (3 * k + 1) = nI (sm k) ∧ hI h 102 (3 * k + 2) = nI (si k)) ∧ (hI h 167 k = nI (ss k) ∧ hI h 168 k = nI (sm k) ∧ hI h 170 k = nI (si k)) ∧ ss k ≤ 2 ∧ sm k ≤ 99 ∧ si k ≤ 1)
theorem pdt_cg {f so is so' is' : Nat → Nat} : ∀ {n : Nat}, (∀ k, k < n → so' k = so k ∧ is' k = is k) → pdt f so' is' n = pdt f so is n := by
  intro n
  induction n with
  | zero => intro _; rfl
  | succ n ih =>
    intro e
    show pdt f so' is' n * tnt f (so' n) (is' n) = pdt f so is n * tnt f (so n) (is n)
    rw [ih (fun k hk => e k (by omega)), (e n (by omega)).1, (e n (by omega)).2]
theorem lN_t {n : Nat} (h : n ≤ 9) : Int32.toInt64 (nI n) = lN n := nI_l (by omega)
theorem ten_10 : ∀ k, k ≤ 9 → (10 : Int32) - nI k = nI (10 - k) := by decide
theorem bool_n : ∀ i, i ≤ 1 → vp_nar .boolean (nI i) = nI i := by decide
/-- the reference's loop over tests -/
theorem crane_21 {h : Hp} {tc : Nat} {so is : Nat → Nat} (M147 : hK h 147 = 12) (L : PRl h) (T : TST h tc so is) : ∀ k i (o2 o4 o6 o7 : Option EV), i + k = tc → Run kX12_crane 21 [some (vR (some 147)), some (vL (lN (pdt oneN so is i))), o2, some (vL (lN (pdt twoN so is i))), o4, some (vI (nI i)), o6, o7] [] h = some (rI (Int64.toInt32 (1000000 * lN (pdt oneN so is tc) / (lN (pdt oneN so is tc) + lN (pdt twoN so is tc)))), h) := by
  obtain ⟨t1, t2, t3, t4, t5, t6⟩ := T
  obtain ⟨_, ⟨a1, a2, a3⟩, ⟨b1, b2, b3⟩, _⟩ := L
  intro k
  induction k with
  | zero =>
    intro i o2 o4 o6 o7 e
    have c : nI tc ≤ nI i := nI_le (by omega) (by omega)
    have ei : i = tc := by omega
    subst ei
    have p1 := pdt_b one_b.1 one_b.2 (so := so) (is := is) i
    have p2 := pdt_b two_b.1 two_b.2 (so := so) (is := is) i
    have p9 : 9 ^ i ≤ 9 ^ 12 := Nat.pow_le_pow_right (by decide) t1
    have nz : ¬ lN (pdt oneN so is i) + lN (pdt twoN so is i) = 0 := by
      rw [lN_add]
      intro z
      have : lN (pdt oneN so is i + pdt twoN so is i) = lN 0 := z
      rw [pk_lEQ (by omega) (by omega)] at this
      omega
    rw [tX12_crane_21]; simp only [oB_some, dR_some, cond_true, cond_false, if_true, if_false, Bool.true_and, Bool.and_true, Nat.beq_refl, M147, t3, c, nz]
  | succ k ih =>
    intro i o2 o4 o6 o7 e
    have c : ¬ nI tc ≤ nI i := nI_ge (by omega) (by omega)
    obtain ⟨f1, f2, f3, f4⟩ := t6 i (by omega)
    have ib : inb (nI i) 12 = true := inb_nI (by omega) (by omega)
    have cl : (nI i).toNatClampNeg = i := nI_clamp (by omega)
    have n1 := fun o6 o7 => ih (i + 1) none none o6 o7 (by omega)
    have m1 : pdt oneN so is (i + 1) = pdt oneN so is i * tnt oneN (so i) (is i) := rfl
    have m2 : pdt twoN so is (i + 1) = pdt twoN so is i * tnt twoN (so i) (is i) := rfl
    have x1 := (tnt_b one_b.1 one_b.2 (so i) (is i)).2
    have x2 := (tnt_b two_b.1 two_b.2 (so i) (is i)).2
    rw [m1, m2, ← lN_mul, ← lN_mul, ← lN_t x1, ← lN_t x2] at n1
    rw [tX12_crane_21]
    rcases (show so i = 0 ∨ so i = 1 ∨ so i = 2 by omega) with z | z | z <;> rcases (show is i = 0 ∨ is i = 1 by omega) with q | q <;> rw [z] at f1 n1 <;> rw [q] at f3 n1 <;> simp only [oB_some, dR_some, cond_true, cond_false, if_true, if_false, Bool.true_and, Bool.and_true, Nat.beq_refl, M147, t3, c, a1, a2, a3, iaK20, ib, cl, f1, show nI 0 = (0 : Int32) from rfl, show nI 1 = (1 : Int32) from rfl, show nI 2 = (2 : Int32) from rfl, ne10, ne20, ne21, tX12_crane_95, b1, b2, b3, f3, nI_1] <;> exact n1 _ _
