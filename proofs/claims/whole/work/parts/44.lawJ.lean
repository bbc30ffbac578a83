/-! ===== PURE: numbers that are joined; what both readers of a law come to ===== -/
theorem cl_wi (x : Int64) : (if x ≤ 1000000 then (if -1000000 ≤ x then x.toInt32 else Int64.toInt32 (-1000000)) else Int64.toInt32 1000000) = wi x := by
  unfold wi
  by_cases q1 : x < 1000000
  · have q2 : x ≤ 1000000 := Int64.le_of_lt q1
    by_cases q3 : x < -1000000
    · have q4 : ¬ -1000000 ≤ x := Int64.not_le.mpr q3
      simp only [q1, q2, q3, q4, if_true, if_false]
    · have q4 : -1000000 ≤ x := Int64.not_lt.mp q3
      simp only [q1, q2, q3, q4, if_true, if_false]
  · have q5 : ¬ ((1000000 : Int64) < -1000000) := by decide
    by_cases q2 : x ≤ 1000000
    · have e : x = 1000000 := Int64.le_antisymm q2 (Int64.not_lt.mp q1)
      subst e
      rfl
    · simp only [q1, q2, q5, if_false]
theorem jn10 (a b : Int64) (h : Hp) : FX1_joined [vI (-10), vL a, vL b] h = some (rI (wi (a + b)), h) := by
  rw [tX1_joined]
  simp (decide := true) only [lg_cmp_le, lg_cmp_ge, if_true, if_false, ← cl_wi]
  by_cases q1 : a + b ≤ 1000000 <;> by_cases q2 : -1000000 ≤ a + b <;> simp only [q1, q2, if_true, if_false]
theorem jn11 (a b : Int64) (h : Hp) : FX1_joined [vI (-11), vL a, vL b] h = some (rI (wi (a - b)), h) := by
  rw [tX1_joined]
  simp (decide := true) only [lg_cmp_le, lg_cmp_ge, if_true, if_false, ← cl_wi]
  by_cases q1 : a - b ≤ 1000000 <;> by_cases q2 : -1000000 ≤ a - b <;> simp only [q1, q2, if_true, if_false]
theorem jn12 (a b : Int64) (h : Hp) : FX1_joined [vI (-12), vL a, vL b] h = some (rI (wi (a * b)), h) := by
  rw [tX1_joined]
  simp (decide := true) only [lg_cmp_le, lg_cmp_ge, if_true, if_false, ← cl_wi]
  by_cases q1 : a * b ≤ 1000000 <;> by_cases q2 : -1000000 ≤ a * b <;> simp only [q1, q2, if_true, if_false]
theorem jn13 (a b : Int64) (h : Hp) : FX1_joined [vI (-13), vL a, vL b] h = some (rI (if b = 0 then wi 0 else wi (a / b)), h) := by
  rw [tX1_joined]
  simp (decide := true) only [lg_cmp_le, lg_cmp_ge, lg_cmp_eq, if_true, if_false, ← cl_wi]
  by_cases q : b = 0
  · simp (decide := true) only [q, if_true]
  · by_cases q1 : a / b ≤ 1000000 <;> by_cases q2 : -1000000 ≤ a / b <;> simp only [q, q1, q2, if_true, if_false]
theorem t64_le (a b : Int32) : (a.toInt64 ≤ b.toInt64) = (a ≤ b) := by
  apply propext
  rw [Int64.le_iff_toInt_le, Int32.le_iff_toInt_le, Int32.toInt_toInt64, Int32.toInt_toInt64]
theorem t64_eq (a b : Int32) : (a.toInt64 = b.toInt64) = (a = b) := by
  apply propext
  rw [← Int64.toInt_inj, ← Int32.toInt_inj, Int32.toInt_toInt64, Int32.toInt_toInt64]
theorem jn14 (a b : Int32) (h : Hp) : FX1_joined [vI (-14), vL a.toInt64, vL b.toInt64] h = some (rI (if a = b then 1 else 0), h) := by
  rw [tX1_joined]
  simp (decide := true) only [lg_cmp_eq, if_true, if_false, t64_eq]
  by_cases q : a = b <;> simp only [q, if_true, if_false]
theorem jn15 (a b : Int32) (h : Hp) : FX1_joined [vI (-15), vL a.toInt64, vL b.toInt64] h = some (rI (if b ≤ a then 0 else 1), h) := by
  rw [tX1_joined]
  simp (decide := true) only [lg_cmp_ge, if_true, if_false, t64_le]
  by_cases q : b ≤ a <;> simp only [q, if_true, if_false]
theorem jn16 (a b : Int32) (h : Hp) : FX1_joined [vI (-16), vL a.toInt64, vL b.toInt64] h = some (rI (if a ≤ b then 0 else 1), h) := by
  rw [tX1_joined]
  simp (decide := true) only [lg_cmp_le, if_true, if_false, t64_le]
  by_cases q : a ≤ b <;> simp only [q, if_true, if_false]
theorem jn17 {a b : Int32} (ha : a = 0 ∨ a = 1) (hb : b = 0 ∨ b = 1) (h : Hp) : FX1_joined [vI (-17), vL a.toInt64, vL b.toInt64] h = some (rI (if a = 0 then 0 else if b = 0 then 0 else 1), h) := by
  rw [tX1_joined]
  rcases ha with z | z <;> rcases hb with y | y <;> subst z <;> subst y <;> rfl
theorem jn18 {a b : Int32} (ha : a = 0 ∨ a = 1) (hb : b = 0 ∨ b = 1) (h : Hp) : FX1_joined [vI (-18), vL a.toInt64, vL b.toInt64] h = some (rI (if a = 0 then (if b = 0 then 0 else 1) else 1), h) := by
  rw [tX1_joined]
  rcases ha with z | z <;> rcases hb with y | y <;> subst z <;> subst y <;> rfl
theorem isJn10 : isJn (-10) := by unfold isJn; decide
theorem isJn11 : isJn (-11) := by unfold isJn; decide
theorem isJn12 : isJn (-12) := by unfold isJn; decide
theorem isJn13 : isJn (-13) := by unfold isJn; decide
theorem isJn14 : isJn (-14) := by unfold isJn; decide
theorem isJn15 : isJn (-15) := by unfold isJn; decide
theorem isJn16 : isJn (-16) := by unfold isJn; decide
theorem isJn17 : isJn (-17) := by unfold isJn; decide
theorem isJn18 : isJn (-18) := by unfold isJn; decide
/-- read from p to p', coded from s to s': it puts v -/
def JR (n : Nat) (L : Nat → Int32) (p s : Nat) (c : Nat → Int32) (m p' s' : Nat) (c' : Nat → Int32) (v : Int32) : Prop := p < p' ∧ p' ≤ n ∧ s < s' ∧ s' ≤ s + (p' - p) ∧ (∀ q, q < s → c' q = c q) ∧ (∀ q, s ≤ q → q < s' → c' q ≠ -21) ∧ PU c' L s s' v m
theorem JR.bin {n : Nat} {L c0 c c1 : Nat → Int32} {p0 s0 m p s q1 m' p1 s1 : Nat} {v w x u : Int32} (A : JR n L p0 s0 c0 m p s c v) (hq : p < q1) (D : JR n L q1 s c m' p1 s1 c1 w) (hm : m' + 1 ≤ m) (hm2 : 2 ≤ m) (jx : isJn x) (hj : ∀ h', FX1_joined [vI x, vL v.toInt64, vL w.toInt64] h' = some (rI u, h')) : JR n L p0 s0 c0 m p1 (s1 + 1) (up1 c1 s1 x) u := by
  obtain ⟨a1, a2, a3, a4, a5, a6, a7⟩ := A
  obtain ⟨d1, d2, d3, d4, d5, d6, d7⟩ := D
  refine ⟨by omega, d2, by omega, by omega, fun q z => ?_, fun q z1 z2 => ?_, ?_⟩
  · rw [up1_o _ _ (by omega), d5 q (by omega)]; exact a5 q z
  · by_cases e : q = s1
    · rw [e, up1_s]; exact jx.2.2.2.2
    · rw [up1_o _ _ e]
      by_cases e2 : q < s
      · rw [d5 q e2]; exact a6 q z1 e2
      · exact d6 q (by omega) (by omega)
  · exact PU.bin (a7.ext (fun q z1 z2 => by rw [up1_o _ _ (by omega)]; exact d5 q z2)) (d7.ext (fun q z1 z2 => up1_o _ _ (by omega))) (Nat.le_refl _) hm hm2 (up1_s _ _ _) jx hj
theorem JR.wide {n : Nat} {L c0 c : Nat → Int32} {p0 s0 m m' p s p' : Nat} {v : Int32} (A : JR n L p0 s0 c0 m p s c v) (h1 : p ≤ p') (h2 : p' ≤ n) (h3 : m ≤ m') : JR n L p0 s0 c0 m' p' s c v := ⟨by have := A.1; omega, h2, A.2.2.1, by have := A.2.2.2.1; have := A.1; omega, A.2.2.2.2.1, A.2.2.2.2.2.1, A.2.2.2.2.2.2.mono h3⟩
theorem JR.early {n : Nat} {L c0 c : Nat → Int32} {p0 s0 m p s p' : Nat} {v : Int32} (A : JR n L p0 s0 c0 m p s c v) (h1 : p' ≤ p0) : JR n L p' s0 c0 m p s c v := ⟨by have := A.1; omega, A.2.1, A.2.2.1, by have := A.2.2.2.1; have := A.1; omega, A.2.2.2.2.1, A.2.2.2.2.2.1, A.2.2.2.2.2.2⟩
/-- both readers come to the same -/
def JO (h hm : Hp) (n : Nat) (L : Nat → Int32) (p0 s0 : Nat) (c0 : Nat → Int32) (m d : Nat) (bl : Prop) (A D : Option (RV × Hp)) : Prop :=
  (∃ s' c' p' v, JR n L p0 s0 c0 m p' s' c' v ∧ (bl → v = 0 ∨ v = 1) ∧ A = some (rV, CS h s' c' p' (-1)) ∧ D = some (rI v, MS hm (nI d) p' (-1))) ∨
  (∃ w s' c' p' p'' x v, w ≠ -1 ∧ s' ≤ 240 ∧ p' ≤ n ∧ p'' ≤ n ∧ (bl → v = 0 ∨ v = 1) ∧ A = some (rV, CS h s' c' p' w) ∧ D = some (rI v, MS hm x p'' w))
def LC (h hm : Hp) (n T B : Nat) (L : Nat → Int32) : Prop := HT h n ∧ LwL h ∧ PL h ∧ TX hm T B n (hI h 2) ∧ (hR hm 147 4 = some 151 ∧ hK hm 151 = 20 ∧ hE hm 151 = 128 ∧ hI hm 151 119 = L 0 ∧ hI hm 151 116 = L 1 ∧ hI hm 151 107 = L 2 ∧ hI hm 151 110 = L 3 ∧ hI hm 151 121 = L 4 ∧ hI hm 151 109 = L 5) ∧ StL hm (PRE + 11) 6 (bT [119, 116, 107, 110, 121, 109])
