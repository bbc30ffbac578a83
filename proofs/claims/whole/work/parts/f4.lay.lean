/-! ===== the layout: what never changes, and its transport ===== -/
/-- places of references that calls may change -/
def PR0 (a k : Nat) : Prop := (a = 147 ∧ (k = 0 ∨ k = 5 ∨ (8 ≤ k ∧ k ≤ 17) ∨ k = 34 ∨ k = 50 ∨ k = 51)) ∨ (a = 3 ∧ (k = 0 ∨ k = 1)) ∨ (a = 0 ∧ (k = 11 ∨ k = 15)) ∨ (a = 103 ∧ (k = 6 ∨ k = 7)) ∨ a = 137 ∨ (a = 1 ∧ (k = 2 ∨ k = 3)) ∨ (a = 135 ∧ k = 2) ∨ a = 136 ∨ (a = 101 ∧ k ≤ 3) ∨ a = 102 ∨ a = 158 ∨ a = 159 ∨ (166 ≤ a ∧ a ≤ 170)
def LEq (h h' : Hp) : Prop := (∀ a, (a ≤ 172 ∨ PRE ≤ a) → hK h' a = hK h a) ∧ (∀ a, (a ≤ 172 ∨ PRE ≤ a) → hE h' a = hE h a) ∧ (∀ a k, a ≤ 172 → ¬ PR0 a k → hR h' a k = hR h a k) ∧ (∀ a k, PRE ≤ a → hI h' a k = hI h a k)
theorem StL_t {h h' : Hp} {s n : Nat} {b : Nat → Nat} (E : LEq h h') (hs : PRE ≤ s) (S : StL h s n b) : StL h' s n b := by
  obtain ⟨a1, a2, a3, a4, a5, a6⟩ := S
  refine ⟨(E.1 _ (by omega)).trans a1, (E.1 _ (by omega)).trans a2, (E.2.1 _ (by omega)).trans a3, a4, ?_, fun k hk => ⟨(a6 k hk).1, (E.2.2.2 _ _ (by omega)).trans (a6 k hk).2⟩⟩
  rw [E.1 (PRE + 60) (by omega)]; exact a5
theorem CF_t {h h' : Hp} (E : LEq h h') (D : CF h) : CF h' := by
  have PB := PRE_big
  obtain ⟨d1, d2, d3, d4, d5, d6, d7⟩ := D
  exact ⟨((E.1 _ (by omega)).trans d1), ((E.2.2.1 _ _ (by omega) (by unfold PR0; omega)).trans d2), ((E.2.2.1 _ _ (by omega) (by unfold PR0; omega)).trans d3), ((E.2.2.1 _ _ (by omega) (by unfold PR0; omega)).trans d4), ((E.2.2.1 _ _ (by omega) (by unfold PR0; omega)).trans d5), ((E.2.2.1 _ _ (by omega) (by unfold PR0; omega)).trans d6), ((E.2.2.1 _ _ (by omega) (by unfold PR0; omega)).trans d7)⟩
theorem TapeL_t {h h' : Hp} (E : LEq h h') (D : TapeL h) : TapeL h' := by
  have PB := PRE_big
  obtain ⟨d1, d2, d3, d4⟩ := D
  exact ⟨((E.1 _ (by omega)).trans d1), ((E.2.2.1 _ _ (by omega) (by unfold PR0; omega)).trans d2), ((E.1 _ (by omega)).trans d3), ((E.2.1 _ (by omega)).trans d4)⟩
theorem PTL_t {h h' : Hp} (E : LEq h h') (D : PTL h) : PTL h' := by
  have PB := PRE_big
  obtain ⟨⟨d1, d2, d3, d4⟩, d5, ⟨d13, d14, d15, d16⟩⟩ := D
  exact ⟨⟨((E.1 _ (by omega)).trans d1), ((E.2.2.1 _ _ (by omega) (by unfold PR0; omega)).trans d2), ((E.1 _ (by omega)).trans d3), ((E.2.1 _ (by omega)).trans d4)⟩, (fun i hi => by obtain ⟨d6, ⟨d8, d9, d10, d11⟩⟩ := d5 i hi; exact ⟨((E.2.2.1 _ _ (by omega) (by unfold PR0; omega)).trans d6), ⟨((E.1 _ (by omega)).trans d8), ((E.2.2.1 _ _ (by omega) (by unfold PR0; omega)).trans d9), ((E.1 _ (by omega)).trans d10), ((E.2.1 _ (by omega)).trans d11)⟩⟩), ⟨((E.1 _ (by omega)).trans d13), ((E.2.2.1 _ _ (by omega) (by unfold PR0; omega)).trans d14), ((E.1 _ (by omega)).trans d15), ((E.2.1 _ (by omega)).trans d16)⟩⟩
theorem UL_t {h h' : Hp} (E : LEq h h') (D : UL h) : UL h' := by
  have PB := PRE_big
  obtain ⟨d1, d2, d3, d4, d5, d6, d7⟩ := D
  exact ⟨((E.1 _ (by omega)).trans d1), ((E.2.2.1 _ _ (by omega) (by unfold PR0; omega)).trans d2), ((E.1 _ (by omega)).trans d3), ((E.2.1 _ (by omega)).trans d4), ((E.2.2.1 _ _ (by omega) (by unfold PR0; omega)).trans d5), ((E.1 _ (by omega)).trans d6), ((E.2.1 _ (by omega)).trans d7)⟩
theorem ML_t {h h' : Hp} (E : LEq h h') (D : ML h) : ML h' := by
  have PB := PRE_big
  obtain ⟨d1, d2, d3, d4, ⟨d5, d6⟩, ⟨d7, d8⟩, ⟨d9, d10⟩⟩ := D
  exact ⟨((E.1 _ (by omega)).trans d1), ((E.2.2.1 _ _ (by omega) (by unfold PR0; omega)).trans d2), ((E.2.2.1 _ _ (by omega) (by unfold PR0; omega)).trans d3), ((E.2.2.1 _ _ (by omega) (by unfold PR0; omega)).trans d4), ⟨((E.1 _ (by omega)).trans d5), ((E.2.1 _ (by omega)).trans d6)⟩, ⟨((E.1 _ (by omega)).trans d7), ((E.2.1 _ (by omega)).trans d8)⟩, ⟨((E.1 _ (by omega)).trans d9), ((E.2.1 _ (by omega)).trans d10)⟩⟩
theorem MR2_t {h h' : Hp} (E : LEq h h') (D : MR2 h) : MR2 h' := by
  have PB := PRE_big
  obtain ⟨d1, ⟨d2, d3, d4⟩, ⟨d5, d6, d7⟩, ⟨d8, d9, d10⟩, ⟨d11, d12, d13⟩, ⟨d14, d15, d16⟩, ⟨d17, d18, d19⟩, ⟨d20, d21, d22⟩⟩ := D
  exact ⟨((E.1 _ (by omega)).trans d1), ⟨((E.2.2.1 _ _ (by omega) (by unfold PR0; omega)).trans d2), ((E.1 _ (by omega)).trans d3), ((E.2.1 _ (by omega)).trans d4)⟩, ⟨((E.2.2.1 _ _ (by omega) (by unfold PR0; omega)).trans d5), ((E.1 _ (by omega)).trans d6), ((E.2.1 _ (by omega)).trans d7)⟩, ⟨((E.2.2.1 _ _ (by omega) (by unfold PR0; omega)).trans d8), ((E.1 _ (by omega)).trans d9), ((E.2.1 _ (by omega)).trans d10)⟩, ⟨((E.2.2.1 _ _ (by omega) (by unfold PR0; omega)).trans d11), ((E.1 _ (by omega)).trans d12), ((E.2.1 _ (by omega)).trans d13)⟩, ⟨((E.2.2.1 _ _ (by omega) (by unfold PR0; omega)).trans d14), ((E.1 _ (by omega)).trans d15), ((E.2.1 _ (by omega)).trans d16)⟩, ⟨((E.2.2.1 _ _ (by omega) (by unfold PR0; omega)).trans d17), ((E.1 _ (by omega)).trans d18), ((E.2.1 _ (by omega)).trans d19)⟩, ⟨((E.2.2.1 _ _ (by omega) (by unfold PR0; omega)).trans d20), ((E.1 _ (by omega)).trans d21), ((E.2.1 _ (by omega)).trans d22)⟩⟩
theorem LSd_t {h h' : Hp} (E : LEq h h') (D : LSd h) : LSd h' := by
  have PB := PRE_big
  obtain ⟨d1, ⟨d3, d4, d5, d6⟩, d7, ⟨d9, d10, d11, d12, d13, d14⟩⟩ := D
  exact ⟨((E.2.2.1 _ _ (by omega) (by unfold PR0; omega)).trans d1), ⟨((E.1 _ (by omega)).trans d3), ((E.2.2.1 _ _ (by omega) (by unfold PR0; omega)).trans d4), ((E.1 _ (by omega)).trans d5), ((E.2.1 _ (by omega)).trans d6)⟩, ((E.2.2.1 _ _ (by omega) (by unfold PR0; omega)).trans d7), ⟨((E.1 _ (by omega)).trans d9), ((E.2.1 _ (by omega)).trans d10), d11, d12, d13, d14⟩⟩
theorem IMl_t {h h' : Hp} (E : LEq h h') (D : IMl h) : IMl h' := by
  have PB := PRE_big
  obtain ⟨d1, ⟨d3, d4, d5, d6⟩, d7, ⟨d9, d10, d11, d12, d13, d14, d15⟩, d16, ⟨d18, d19, d20, d21, d22, d23⟩⟩ := D
  exact ⟨((E.2.2.1 _ _ (by omega) (by unfold PR0; omega)).trans d1), ⟨((E.1 _ (by omega)).trans d3), ((E.2.2.1 _ _ (by omega) (by unfold PR0; omega)).trans d4), ((E.1 _ (by omega)).trans d5), ((E.2.1 _ (by omega)).trans d6)⟩, ((E.2.2.1 _ _ (by omega) (by unfold PR0; omega)).trans d7), ⟨((E.1 _ (by omega)).trans d9), ((E.2.2.1 _ _ (by omega) (by unfold PR0; omega)).trans d10), ((E.2.2.1 _ _ (by omega) (by unfold PR0; omega)).trans d11), ((E.1 _ (by omega)).trans d12), ((E.2.1 _ (by omega)).trans d13), ((E.1 _ (by omega)).trans d14), ((E.2.1 _ (by omega)).trans d15)⟩, ((E.2.2.1 _ _ (by omega) (by unfold PR0; omega)).trans d16), ⟨((E.1 _ (by omega)).trans d18), ((E.2.1 _ (by omega)).trans d19), d20, d21, d22, d23⟩⟩
theorem PRl_t {h h' : Hp} (E : LEq h h') (D : PRl h) : PRl h' := by
  have PB := PRE_big
  obtain ⟨⟨d1, d2, d3, d4, d5⟩, ⟨d6, d7, d8⟩, ⟨d9, d10, d11⟩, ⟨d12, d13, d14⟩, ⟨d15, d16, d17⟩, ⟨d18, d19, d20⟩⟩ := D
  exact ⟨⟨((E.2.2.1 _ _ (by omega) (by unfold PR0; omega)).trans d1), ((E.1 _ (by omega)).trans d2), ((E.2.2.1 _ _ (by omega) (by unfold PR0; omega)).trans d3), ((E.1 _ (by omega)).trans d4), ((E.2.1 _ (by omega)).trans d5)⟩, ⟨((E.2.2.1 _ _ (by omega) (by unfold PR0; omega)).trans d6), ((E.1 _ (by omega)).trans d7), ((E.2.1 _ (by omega)).trans d8)⟩, ⟨((E.2.2.1 _ _ (by omega) (by unfold PR0; omega)).trans d9), ((E.1 _ (by omega)).trans d10), ((E.2.1 _ (by omega)).trans d11)⟩, ⟨((E.2.2.1 _ _ (by omega) (by unfold PR0; omega)).trans d12), ((E.1 _ (by omega)).trans d13), ((E.2.1 _ (by omega)).trans d14)⟩, ⟨((E.2.2.1 _ _ (by omega) (by unfold PR0; omega)).trans d15), ((E.1 _ (by omega)).trans d16), ((E.2.1 _ (by omega)).trans d17)⟩, ⟨((E.2.2.1 _ _ (by omega) (by unfold PR0; omega)).trans d18), ((E.1 _ (by omega)).trans d19), ((E.2.1 _ (by omega)).trans d20)⟩⟩
theorem SRl_t {h h' : Hp} (E : LEq h h') (D : SRl h) : SRl h' := by
  have PB := PRE_big
  obtain ⟨⟨d1, d2, d3, d4, d5, d6⟩, d7, ⟨d14, d15, d16⟩⟩ := D
  exact ⟨⟨((E.2.2.1 _ _ (by omega) (by unfold PR0; omega)).trans d1), ((E.1 _ (by omega)).trans d2), ((E.2.2.1 _ _ (by omega) (by unfold PR0; omega)).trans d3), ((E.2.2.1 _ _ (by omega) (by unfold PR0; omega)).trans d4), ((E.1 _ (by omega)).trans d5), ((E.2.1 _ (by omega)).trans d6)⟩, (fun j hi => by obtain ⟨d8, ⟨d10, d11, d12, d13⟩⟩ := d7 j hi; exact ⟨((E.2.2.1 _ _ (by omega) (by unfold PR0; omega)).trans d8), ⟨((E.1 _ (by omega)).trans d10), ((E.2.2.1 _ _ (by omega) (by unfold PR0; omega)).trans d11), ((E.1 _ (by omega)).trans d12), ((E.2.1 _ (by omega)).trans d13)⟩⟩), ⟨((E.2.2.1 _ _ (by omega) (by unfold PR0; omega)).trans d14), ((E.1 _ (by omega)).trans d15), ((E.2.1 _ (by omega)).trans d16)⟩⟩
theorem T5_t {h h' : Hp} (E : LEq h h') (D : T5 h) : T5 h' := by
  have PB := PRE_big
  obtain ⟨d1, ⟨d2, d3, d4⟩, ⟨d5, d6, d7⟩⟩ := D
  exact ⟨((E.1 _ (by omega)).trans d1), ⟨((E.2.2.1 _ _ (by omega) (by unfold PR0; omega)).trans d2), ((E.1 _ (by omega)).trans d3), ((E.2.1 _ (by omega)).trans d4)⟩, ⟨((E.2.2.1 _ _ (by omega) (by unfold PR0; omega)).trans d5), ((E.1 _ (by omega)).trans d6), ((E.2.1 _ (by omega)).trans d7)⟩⟩
theorem M6_t {h h' : Hp} (E : LEq h h') (D : M6 h) : M6 h' := by
  have PB := PRE_big
  obtain ⟨d1, ⟨d2, d3, d4⟩, ⟨d5, d6, d7⟩⟩ := D
  exact ⟨((E.1 _ (by omega)).trans d1), ⟨((E.2.2.1 _ _ (by omega) (by unfold PR0; omega)).trans d2), ((E.1 _ (by omega)).trans d3), ((E.2.1 _ (by omega)).trans d4)⟩, ⟨((E.2.2.1 _ _ (by omega) (by unfold PR0; omega)).trans d5), ((E.1 _ (by omega)).trans d6), ((E.2.1 _ (by omega)).trans d7)⟩⟩
theorem PLl_t {h h' : Hp} (E : LEq h h') (D : PLl h) : PLl h' := by
  have PB := PRE_big
  obtain ⟨⟨d1, d2, d3⟩, d4, ⟨d10, d11, d12⟩, ⟨d13, d14, d15⟩⟩ := D
  exact ⟨⟨((E.2.2.1 _ _ (by omega) (by unfold PR0; omega)).trans d1), ((E.1 _ (by omega)).trans d2), ((E.2.1 _ (by omega)).trans d3)⟩, (fun p hi => by obtain ⟨d5, d6, d7, d8, d9⟩ := d4 p hi; exact ⟨((E.2.2.1 _ _ (by omega) (by unfold PR0; omega)).trans d5), ((E.1 _ (by omega)).trans d6), ((E.2.2.1 _ _ (by omega) (by unfold PR0; omega)).trans d7), ((E.1 _ (by omega)).trans d8), ((E.2.1 _ (by omega)).trans d9)⟩), ⟨((E.2.2.1 _ _ (by omega) (by unfold PR0; omega)).trans d10), ((E.1 _ (by omega)).trans d11), ((E.2.1 _ (by omega)).trans d12)⟩, ⟨((E.2.2.1 _ _ (by omega) (by unfold PR0; omega)).trans d13), ((E.1 _ (by omega)).trans d14), ((E.2.1 _ (by omega)).trans d15)⟩⟩
theorem LwL_t {h h' : Hp} (E : LEq h h') (D : LwL h) : LwL h' := by
  have PB := PRE_big
  obtain ⟨d1, d2, d3, d4, d5⟩ := D
  exact ⟨((E.1 _ (by omega)).trans d1), ((E.2.2.1 _ _ (by omega) (by unfold PR0; omega)).trans d2), ((E.2.2.1 _ _ (by omega) (by unfold PR0; omega)).trans d3), ((E.1 _ (by omega)).trans d4), ((E.2.1 _ (by omega)).trans d5)⟩
theorem SIt_t {h h' : Hp} (E : LEq h h') (D : SIt h) : SIt h' := by
  have PB := PRE_big
  obtain ⟨⟨d1, d2, d3⟩, ⟨d5, d6, d7⟩, ⟨d9, d10, d11⟩⟩ := D
  exact ⟨⟨((E.1 _ (by omega)).trans d1), ((E.2.1 _ (by omega)).trans d2), (fun k hi => by have d4 := d3 k hi; exact ((E.2.2.2 _ _ (by omega)).trans d4))⟩, ⟨((E.1 _ (by omega)).trans d5), ((E.2.1 _ (by omega)).trans d6), (fun k hi => by have d8 := d7 k hi; exact ((E.2.2.2 _ _ (by omega)).trans d8))⟩, ⟨((E.1 _ (by omega)).trans d9), ((E.2.1 _ (by omega)).trans d10), (fun k hi => by have d12 := d11 k hi; exact ((E.2.2.2 _ _ (by omega)).trans d12))⟩⟩
theorem MIt_t {h h' : Hp} (E : LEq h h') (D : MIt h) : MIt h' := by
  have PB := PRE_big
  obtain ⟨d1, d2, d3⟩ := D
  exact ⟨(StL_t E (by omega) d1), (StL_t E (by omega) d2), (StL_t E (by omega) d3)⟩
theorem PL_t {h h' : Hp} (E : LEq h h') (D : PL h) : PL h' := by
  have PB := PRE_big
  obtain ⟨d1, d2, d3, d4, d5, d6, d7, d8⟩ := D
  exact ⟨((E.1 _ (by omega)).trans d1), ((E.2.1 _ (by omega)).trans d2), ((E.2.2.2 _ _ (by omega)).trans d3), ((E.2.2.2 _ _ (by omega)).trans d4), ((E.2.2.2 _ _ (by omega)).trans d5), ((E.2.2.2 _ _ (by omega)).trans d6), ((E.2.2.2 _ _ (by omega)).trans d7), ((E.2.2.2 _ _ (by omega)).trans d8)⟩
theorem TEN_t {h h' : Hp} (E : LEq h h') (D : TEN h) : TEN h' := by
  have PB := PRE_big
  obtain ⟨⟨d1, d2, d3, d4, d5⟩, ⟨d6, d7, d8, d9, d10⟩⟩ := D
  exact ⟨⟨((E.1 _ (by omega)).trans d1), ((E.2.1 _ (by omega)).trans d2), ((E.2.2.2 _ _ (by omega)).trans d3), ((E.2.2.2 _ _ (by omega)).trans d4), ((E.2.2.2 _ _ (by omega)).trans d5)⟩, ⟨((E.1 _ (by omega)).trans d6), ((E.2.1 _ (by omega)).trans d7), ((E.2.2.2 _ _ (by omega)).trans d8), ((E.2.2.2 _ _ (by omega)).trans d9), ((E.2.2.2 _ _ (by omega)).trans d10)⟩⟩
def LXa (h : Hp) : Prop := hR h 0 0 = some 1 ∧ hK h 3 = 10 ∧ DP h 98 ∧ LL h 10 4 ∧ LL h 10 131 ∧ RLo h 160 ∧ HL h 4 ∧ HL h 131 ∧ (hK h 8 = 20 ∧ hE h 8 = 6 ∧ hK h 9 = 20 ∧ hE h 9 = 64) ∧ (hR h 0 13 = some 137 ∧ hK h 137 = 31 ∧ hE h 137 = 4) ∧ hR h 0 12 = some 135
theorem LXa_t {h h' : Hp} (E : LEq h h') (D : LXa h) : LXa h' := by
  have PB := PRE_big
  obtain ⟨d1, d2, ⟨d4, d5, d6, d7, d8, d9, d10⟩, ⟨d12, d13, d14, d15, ⟨d16, d17, d18, d19, d20, d21, d22, d23, d24, d25⟩⟩, ⟨d27, d28, d29, d30, ⟨d31, d32, d33, d34, d35, d36, d37, d38, d39, d40⟩⟩, ⟨d42, d43, d44, d45, d46, d47⟩, ⟨d49, d50, d51, d52, ⟨d53, d54⟩, ⟨d55, d56⟩, ⟨d57, d58⟩, d59, d60⟩, ⟨d62, d63, d64, d65, ⟨d66, d67⟩, ⟨d68, d69⟩, ⟨d70, d71⟩, d72, d73⟩, ⟨d74, d75, d76, d77⟩, ⟨d78, d79, d80⟩, d81⟩ := D
  exact ⟨((E.2.2.1 _ _ (by omega) (by unfold PR0; omega)).trans d1), ((E.1 _ (by omega)).trans d2), ⟨((E.1 _ (by omega)).trans d4), ((E.2.2.1 _ _ (by omega) (by unfold PR0; omega)).trans d5), ((E.2.2.1 _ _ (by omega) (by unfold PR0; omega)).trans d6), ((E.1 _ (by omega)).trans d7), ((E.2.1 _ (by omega)).trans d8), ((E.1 _ (by omega)).trans d9), ((E.2.1 _ (by omega)).trans d10)⟩, ⟨((E.1 _ (by omega)).trans d12), ((E.2.2.1 _ _ (by omega) (by unfold PR0; omega)).trans d13), ((E.1 _ (by omega)).trans d14), ((E.2.1 _ (by omega)).trans d15), ⟨d16, d17, d18, d19, d20, d21, d22, d23, d24, d25⟩⟩, ⟨((E.1 _ (by omega)).trans d27), ((E.2.2.1 _ _ (by omega) (by unfold PR0; omega)).trans d28), ((E.1 _ (by omega)).trans d29), ((E.2.1 _ (by omega)).trans d30), ⟨d31, d32, d33, d34, d35, d36, d37, d38, d39, d40⟩⟩, ⟨((E.1 _ (by omega)).trans d42), ((E.2.1 _ (by omega)).trans d43), d44, d45, d46, d47⟩, ⟨((E.1 _ (by omega)).trans d49), ((E.2.2.1 _ _ (by omega) (by unfold PR0; omega)).trans d50), ((E.2.2.1 _ _ (by omega) (by unfold PR0; omega)).trans d51), ((E.2.2.1 _ _ (by omega) (by unfold PR0; omega)).trans d52), ⟨((E.1 _ (by omega)).trans d53), ((E.2.1 _ (by omega)).trans d54)⟩, ⟨((E.1 _ (by omega)).trans d55), ((E.2.1 _ (by omega)).trans d56)⟩, ⟨((E.1 _ (by omega)).trans d57), ((E.2.1 _ (by omega)).trans d58)⟩, d59, d60⟩, ⟨((E.1 _ (by omega)).trans d62), ((E.2.2.1 _ _ (by omega) (by unfold PR0; omega)).trans d63), ((E.2.2.1 _ _ (by omega) (by unfold PR0; omega)).trans d64), ((E.2.2.1 _ _ (by omega) (by unfold PR0; omega)).trans d65), ⟨((E.1 _ (by omega)).trans d66), ((E.2.1 _ (by omega)).trans d67)⟩, ⟨((E.1 _ (by omega)).trans d68), ((E.2.1 _ (by omega)).trans d69)⟩, ⟨((E.1 _ (by omega)).trans d70), ((E.2.1 _ (by omega)).trans d71)⟩, d72, d73⟩, ⟨((E.1 _ (by omega)).trans d74), ((E.2.1 _ (by omega)).trans d75), ((E.1 _ (by omega)).trans d76), ((E.2.1 _ (by omega)).trans d77)⟩, ⟨((E.2.2.1 _ _ (by omega) (by unfold PR0; omega)).trans d78), ((E.1 _ (by omega)).trans d79), ((E.2.1 _ (by omega)).trans d80)⟩, ((E.2.2.1 _ _ (by omega) (by unfold PR0; omega)).trans d81)⟩
def LXb (h : Hp) : Prop := (hR h 147 1 = some 148 ∧ hK h 148 = 21 ∧ hE h 148 = 240) ∧ (hR h 147 2 = some 149 ∧ hK h 149 = 21 ∧ hE h 149 = 960) ∧ (hR h 147 3 = some 150 ∧ hK h 150 = 20 ∧ hE h 150 = 4) ∧ (hR h 147 4 = some 151 ∧ hK h 151 = 20 ∧ hE h 151 = 128) ∧ (hK h 105 = 23 ∧ hE h 105 = 189 ∧ hK h 106 = 23 ∧ hE h 106 = 189) ∧ (hK h 172 = 23 ∧ hE h 172 = 1) ∧ StL h (PRE + 10) 1 (bT [121]) ∧ StL h (PRE + 11) 6 (bT [119, 116, 107, 110, 121, 109]) ∧ StL h (PRE + 15) 4 (bT [119, 99, 115, 112]) ∧ ∀ a, a < 173 → hK h a ≠ 1
theorem LXb_t {h h' : Hp} (E : LEq h h') (D : LXb h) : LXb h' := by
  have PB := PRE_big
  obtain ⟨⟨d1, d2, d3⟩, ⟨d4, d5, d6⟩, ⟨d7, d8, d9⟩, ⟨d10, d11, d12⟩, ⟨d13, d14, d15, d16⟩, ⟨d17, d18⟩, d19, d20, d21, d22⟩ := D
  exact ⟨⟨((E.2.2.1 _ _ (by omega) (by unfold PR0; omega)).trans d1), ((E.1 _ (by omega)).trans d2), ((E.2.1 _ (by omega)).trans d3)⟩, ⟨((E.2.2.1 _ _ (by omega) (by unfold PR0; omega)).trans d4), ((E.1 _ (by omega)).trans d5), ((E.2.1 _ (by omega)).trans d6)⟩, ⟨((E.2.2.1 _ _ (by omega) (by unfold PR0; omega)).trans d7), ((E.1 _ (by omega)).trans d8), ((E.2.1 _ (by omega)).trans d9)⟩, ⟨((E.2.2.1 _ _ (by omega) (by unfold PR0; omega)).trans d10), ((E.1 _ (by omega)).trans d11), ((E.2.1 _ (by omega)).trans d12)⟩, ⟨((E.1 _ (by omega)).trans d13), ((E.2.1 _ (by omega)).trans d14), ((E.1 _ (by omega)).trans d15), ((E.2.1 _ (by omega)).trans d16)⟩, ⟨((E.1 _ (by omega)).trans d17), ((E.2.1 _ (by omega)).trans d18)⟩, (StL_t E (by omega) d19), (StL_t E (by omega) d20), (StL_t E (by omega) d21), (fun a hi => by have d23 := d22 a hi; exact (by rw [E.1 _ (by omega)]; exact d23))⟩
/-- the whole layout -/
def LAYO (h : Hp) : Prop := CF h ∧ TapeL h ∧ PTL h ∧ UL h ∧ ML h ∧ MR2 h ∧ LSd h ∧ IMl h ∧ PRl h ∧ SRl h ∧ T5 h ∧ M6 h ∧ PLl h ∧ LwL h ∧ SIt h ∧ MIt h ∧ PL h ∧ TEN h ∧ LXa h ∧ LXb h
theorem LAYO_t {h h' : Hp} (E : LEq h h') (D : LAYO h) : LAYO h' := by
  obtain ⟨d0, d1, d2, d3, d4, d5, d6, d7, d8, d9, d10, d11, d12, d13, d14, d15, d16, d17, d18, d19⟩ := D
  exact ⟨CF_t E d0, TapeL_t E d1, PTL_t E d2, UL_t E d3, ML_t E d4, MR2_t E d5, LSd_t E d6, IMl_t E d7, PRl_t E d8, SRl_t E d9, T5_t E d10, M6_t E d11, PLl_t E d12, LwL_t E d13, SIt_t E d14, MIt_t E d15, PL_t E d16, TEN_t E d17, LXa_t E d18, LXb_t E d19⟩
