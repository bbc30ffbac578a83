/-! ===== the invariant between calls, and frames ===== -/
def FN (PR PI : Nat → Nat → Prop) (h h' : Hp) : Prop := (hN h ≤ hN h' ∧ hN h' ≤ hN h + 2 ∧ hS h' ≤ hS h + 300) ∧ (∀ a, (a < hN h ∨ PRE ≤ a) → hK h' a = hK h a ∧ hE h' a = hE h a) ∧ (∀ a k, (a < hN h ∨ PRE ≤ a) → ¬ PR a k → hR h' a k = hR h a k) ∧ (∀ a k, (a < hN h ∨ PRE ≤ a) → ¬ PI a k → hI h' a k = hI h a k) ∧ (∀ k, ¬ PI 101 k → hL h' 101 k = hL h 101 k) ∧ (∀ a, hN h' ≤ a → a < PRE → hK h' a = hK h a)
def p5 (a k : Nat) : Prop := a = 147 ∧ k = 5
theorem FN.mono {PR PI PR' PI' : Nat → Nat → Prop} {h h' : Hp} (E : FN PR PI h h') (e1 : ∀ a k, PR a k → PR' a k) (e2 : ∀ a k, PI a k → PI' a k) : FN PR' PI' h h' := by
  obtain ⟨a1, a2, a3, a4, a5, a6⟩ := E
  exact ⟨a1, a2, fun a k o p => a3 a k o (fun z => p (e1 a k z)), fun a k o p => a4 a k o (fun z => p (e2 a k z)), fun k p => a5 k (fun z => p (e2 101 k z)), a6⟩
/-- a frame without new cells -/
theorem fn_fr {P PR : Nat → Nat → Prop} {h h' : Hp} (F : FR P h h') (R : ∀ a k, ¬ PR a k → hR h' a k = hR h a k) : FN PR P h h' := by
  obtain ⟨a1, a2, a3, a4, a5, a6, a7⟩ := F
  exact ⟨⟨by omega, by omega, by omega⟩, fun a _ => ⟨by rw [a3], by rw [a4]⟩, fun a k _ p => R a k p, fun a k _ p => a6 a k p, fun k p => a7 101 k p, fun a _ _ => by rw [a3]⟩
def mqP (l l2 ks : List Nat) (a k : Nat) : Prop := a ∈ l ∨ a ∈ l2 ∨ a = 151 ∨ (a = 147 ∧ (k ∈ ks ∨ k = 8 ∨ k = 9 ∨ k = 10 ∨ k = 11 ∨ k = 12 ∨ k = 13 ∨ k = 14 ∨ k = 17))
theorem fn_mq {h h1 h2 : Hp} {l l2 ks : List Nat} (O : Only h h1 l) (Q : Mq h1 h2 l2 ks) : FN p5 (mqP l l2 ks) h h2 := by
  obtain ⟨a1, a2, a3, a4, a5, a6, a7, a8⟩ := Q
  refine ⟨⟨by rw [a1, O.N]; omega, by rw [a1, O.N]; omega, by rw [a2, O.S]; omega⟩, fun a _ => ⟨by rw [a3, O.K], by rw [a4, O.E]⟩, fun a k _ p => ?_, fun a k _ p => ?_, fun k _ => by rw [a5, O.L], fun a _ _ => by rw [a3, O.K]⟩
  · rw [a6 a k (by unfold p5 at p; omega), O.R]
  · unfold mqP at p
    have o : hI h1 a = hI h a := O.I (fun z => p (Or.inl z))
    by_cases c : a = 147
    · subst c
      rw [a8 k (fun z => p (Or.inr (Or.inr (Or.inr ⟨rfl, Or.inr (by simpa using z)⟩)))) (fun z => p (Or.inr (Or.inr (Or.inr ⟨rfl, Or.inl z⟩)))), o]
    · rw [a7 a c (fun z => p (Or.inr (Or.inr (Or.inl z)))) (fun z => p (Or.inr (Or.inl z))), o]
theorem fn_mqL {h h1 h2 : Hp} {l l2 ks : List Nat} (O : OnlyL h h1 l) (Q : MqL h1 h2 l2 ks) : FN p5 (mqP l l2 ks) h h2 := by
  obtain ⟨a1, a2, a3, a4, a5, a6, a7, a8⟩ := Q
  obtain ⟨b1, b2, b3, b4, b5, b6, b7⟩ := O
  refine ⟨⟨by rw [a1, b1]; omega, by rw [a1, b1]; omega, by rw [a2, b2]; omega⟩, fun a _ => ⟨by rw [a3, b3], by rw [a4, b4]⟩, fun a k _ p => ?_, fun a k _ p => ?_, fun k _ => by rw [a5 101 (by decide), b6 101 (by decide)], fun a _ _ => by rw [a3, b3]⟩
  · rw [a6 a k (by unfold p5 at p; omega), b5]
  · unfold mqP at p
    have o : hI h1 a = hI h a := b7 a (fun z => p (Or.inl z))
    by_cases c : a = 147
    · subst c
      rw [a8 k (fun z => p (Or.inr (Or.inr (Or.inr ⟨rfl, Or.inr (by simpa using z)⟩)))) (fun z => p (Or.inr (Or.inr (Or.inr ⟨rfl, Or.inl z⟩)))), o]
    · rw [a7 a c (fun z => p (Or.inr (Or.inr (Or.inl z)))) (fun z => p (Or.inr (Or.inl z))), o]
def FRSH (h : Hp) : Prop := 173 ≤ hN h ∧ ∀ a, hN h ≤ a → a < PRE → hK h a = 99
theorem frsh_fn {PR PI : Nat → Nat → Prop} {h h' : Hp} (F : FRSH h) (E : FN PR PI h h') : FRSH h' := by
  have := E.1.1
  have := F.1
  exact ⟨by omega, fun a z1 z2 => (E.2.2.2.2.2 a z1 z2).trans (F.2 a (by omega) z2)⟩
theorem fn_leq {PR PI : Nat → Nat → Prop} {h h' : Hp} (F : FRSH h) (E : FN PR PI h h') (c1 : ∀ a k, PR a k → PR0 a k) (c2 : ∀ a k, PI a k → a ≤ 172) : LEq h h' := by
  have PB := PRE_big
  have := F.1
  exact ⟨fun a z => (E.2.1 a (by omega)).1, fun a z => (E.2.1 a (by omega)).2, fun a k z p => E.2.2.1 a k (by omega) (fun q => p (c1 a k q)), fun a k z => E.2.2.2.1 a k (by omega) (fun q => by have := c2 a k q; omega)⟩
/-- a place's number stays -/
theorem FN.I {PR PI : Nat → Nat → Prop} {h h' : Hp} (E : FN PR PI h h') (F : FRSH h) {a k : Nat} (ha : a ≤ 172) (p : ¬ PI a k) : hI h' a k = hI h a k := E.2.2.2.1 a k (Or.inl (by have := F.1; omega)) p
theorem FN.row {PR PI : Nat → Nat → Prop} {h h' : Hp} (E : FN PR PI h h') (F : FRSH h) {a : Nat} (ha : a ≤ 172) (p : ∀ k, ¬ PI a k) : hI h' a = hI h a := funext fun k => E.I F ha (p k)
theorem FN.R {PR PI : Nat → Nat → Prop} {h h' : Hp} (E : FN PR PI h h') (F : FRSH h) {a k : Nat} (ha : a ≤ 172) (p : ¬ PR a k) : hR h' a k = hR h a k := E.2.2.1 a k (Or.inl (by have := F.1; omega)) p
/-! parts of the rest -/
theorem tpe_fn {PR PI : Nat → Nat → Prop} {h h' : Hp} (F : FRSH h) (E : FN PR PI h h') (T : TPE h) (n1 : ¬ PI 1 1) (n2 : ¬ PI 147 6) (n3 : ∀ k, ¬ PI 2 k) (n4 : ∀ k, ¬ PI 148 k) : TPE h' := by
  obtain ⟨n, t1, t2, t3, t4⟩ := T
  refine ⟨n, t1, (E.I F (by omega) n1).trans t2, (E.I F (by omega) n2).trans t3, ?_⟩
  rw [E.row F (by omega) n3, E.row F (by omega) n4]
  exact t4
theorem wl_fn {PR PI : Nat → Nat → Prop} {h h' : Hp} {l cd N : Nat} (F : FRSH h) (Y : LAYO h) (Y' : LAYO h') (E : FN PR PI h h') (c1 : ∀ a k, PR a k → PR0 a k) (W : WL h l cd N) (hc : 172 < cd ∧ cd < PRE) : WL h' l cd N ∧ (cd < hN h) := by
  obtain ⟨w1, w2, w3, w4, w5, _, _, _, _, w10⟩ := W
  have y := Y.2.2.2.2.2.2.2.2.2.2.2.2.2.2.2.2.2.2.2.2.2.2.2.2.2.2.2.2
  have y' := Y'.2.2.2.2.2.2.2.2.2.2.2.2.2.2.2.2.2.2.1.2.2.2.2.2.2.2.2.1
  have hl : 173 ≤ l := by
    rcases Nat.lt_or_ge l 173 with z | z
    · exact absurd w1 (y l z)
    · exact z
  have ol : l < hN h ∨ PRE ≤ l := by
    by_cases c : l < hN h
    · exact Or.inl c
    · by_cases c2 : PRE ≤ l
      · exact Or.inr c2
      · have := F.2 l (by omega) (by omega); rw [w1] at this; cases this
  have oc : cd < hN h := by
    by_cases c : cd < hN h
    · exact c
    · have := F.2 cd (by omega) (by omega); rw [w3] at this; cases this
  refine ⟨⟨(E.2.1 l ol).1.trans w1, (E.2.2.1 l 0 ol (fun z => by have := c1 _ _ z; unfold PR0 at this; omega)).trans w2, (E.2.1 cd (Or.inl oc)).1.trans w3, (E.2.1 cd (Or.inl oc)).2.trans w4, w5, y'.1, y'.2.1, y'.2.2.1, y'.2.2.2, w10⟩, oc⟩
