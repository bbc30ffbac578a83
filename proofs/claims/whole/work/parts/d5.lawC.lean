/-! ===== PURE: law, the call ===== -/
theorem lm_fr {h h' : Hp} {li n : Nat} {t : Nat → Int32} (M : LM h li n t) (gK : hK h' = hK h) (gE : hE h' = hE h) (gR : ∀ k, k = 2 ∨ k = 3 ∨ k = 4 → hR h' 147 k = hR h 147 k) (gI : ∀ a, a = 149 ∨ a = 150 ∨ 172 < a → hI h' a = hI h a) (e : hI h' 147 34 = nI li) : LM h' li n t := by
  obtain ⟨⟨y1, y1'⟩, ⟨y2, y2', y2''⟩, ⟨y3, y3', y3''⟩, ⟨y4, y4'⟩, y5, ⟨y6, y6', y6''⟩, y7, y8⟩ := M
  have st : ∀ a n' (b' : Nat → Nat), 172 < a → StL h a n' b' → StL h' a n' b' := fun a n' b' ha S => by
    unfold StL; rw [gK, gE, gI (a + 100) (by omega)]; exact S
  exact ⟨⟨e, y1'⟩, ⟨by rw [gR 2 (by omega)]; exact y2, by rw [gK]; exact y2', by rw [gE]; exact y2''⟩, ⟨by rw [gR 3 (by omega)]; exact y3, by rw [gK]; exact y3', by rw [gE]; exact y3''⟩, ⟨by rw [gI 150 (by omega)]; exact y4, y4'⟩, fun i hi => by rw [gI 149 (by omega)]; exact y5 i hi, ⟨by rw [gR 4 (by omega)]; exact y6, by rw [gK]; exact y6', by rw [gE]; exact y6''⟩, st _ _ _ (by unfold PRE; omega) y7, st _ _ _ (by unfold PRE; omega) y8⟩
/-- the i-th law, in both -/
def LWi (h : Hp) (i : Nat) (c : Nat → Int32) (N : Nat) : Prop := ∃ l cd n t, hR h 137 i = some l ∧ WL h l cd N ∧ (∀ q, q < N → hI h cd q = c q) ∧ (172 < cd ∧ cd < PRE) ∧ LK n N t c ∧ LM (sI h 147 34 (nI i)) i n t
theorem lwi_fr {h h' : Hp} {i N : Nat} {c : Nat → Int32} (Q : LWi h i c N) (gK : hK h' = hK h) (gE : hE h' = hE h) (gR : ∀ a k, a ≠ 3 → a ≠ 103 → (a ≠ 147 ∨ k ≠ 5) → hR h' a k = hR h a k) (gI : ∀ a, a = 149 ∨ a = 150 ∨ 172 < a → hI h' a = hI h a) (k3 : hK h 3 = 10) (k103 : hK h 103 = 8) : LWi h' i c N := by
  obtain ⟨l, cd, n, t, q1, q2, q3, q4, q5, q6⟩ := Q
  have l3 : l ≠ 3 := fun e => by have := q2.1; rw [e, k3] at this; cases this
  have l103 : l ≠ 103 := fun e => by have := q2.1; rw [e, k103] at this; cases this
  refine ⟨l, cd, n, t, by rw [gR 137 i (by decide) (by decide) (Or.inl (by decide))]; exact q1, ?_, fun q hq => by rw [gI cd (by omega)]; exact q3 q hq, q4, q5, lm_fr q6 gK gE (fun k hk => gR 147 k (by decide) (by decide) (Or.inr (by omega))) (fun a ha => ?_) (hI_same _ _ _ _)⟩
  · unfold WL; rw [gK, gE, gR l 0 l3 l103 (Or.inr (by decide))]; exact q2
  · rw [hI_row _ _ _ _ (show a ≠ 147 by omega), hI_row _ _ _ _ (show a ≠ 147 by omega)]; exact gI a ha
def LWA (h : Hp) (nL : Nat) : Prop := (hR h 0 13 = some 137 ∧ hK h 137 = 31 ∧ hE h 137 = 4) ∧ hI h 0 14 = nI nL ∧ hI h 147 7 = nI nL ∧ nL ≤ 4 ∧ hI h 0 15 = hI h 147 34 ∧ ∀ i, i < nL → ∃ c N, LWi h i c N
/-- what a call of law leaves -/
def lawP (a k : Nat) : Prop := (a = 3 ∧ k = 1) ∨ (a = 0 ∧ k = 15) ∨ (a = 147 ∧ (k = 0 ∨ k = 34))
def CALLW (h : Hp) (nL s : Nat) (r d b : Nat → Nat) (dc bc : Nat) (v u w lg bk z : Nat → Nat) (A x : Nat) (X Y : Hp → Option (RV × Hp)) : Prop := ∃ res h1 h2 lw', X h = some (rI res, h1) ∧ Y h1 = some (rI res, h2) ∧ FR lawP h h2 ∧ AINV h2 s r d b dc bc lw' v u w lg bk z A x ∧ LWA h2 nL
theorem law_set {h : Hp} {s : Nat} {r d b : Nat → Nat} {dc bc : Nat} {lw : Option ((Nat → Int32) × Nat)} {v u w lg bk z : Nat → Nat} {A x : Nat} {nL : Nat} {y : Int32} {x3 : Option Nat} (I : AINV h s r d b dc bc lw v u w lg bk z A x) (Q : LWA h nL) (k103 : hK h 103 = 8) {lw' : Option ((Nat → Int32) × Nat)} (L : LWS (sI (sI (sR (sI h 0 15 y) 3 1 x3) 147 0 0) 147 34 y) lw') : FR lawP h (sI (sI (sR (sI h 0 15 y) 3 1 x3) 147 0 0) 147 34 y) ∧ AINV (sI (sI (sR (sI h 0 15 y) 3 1 x3) 147 0 0) 147 34 y) s r d b dc bc lw' v u w lg bk z A x ∧ LWA (sI (sI (sR (sI h 0 15 y) 3 1 x3) 147 0 0) 147 34 y) nL := by
  obtain ⟨K0, R01, R02, R04, R05, K3, R30, Ks, Rs2, Rs3, Rs4, Ks1, Es1, Ks2, Es2, Ks3, Es3, K10, R108, K11, E11, K14, K98, td, dcC, bcC, Ev, Eu⟩ := cfa I
  have gR : ∀ a k, ¬ (a = 3 ∧ k = 1) → hR (sI (sI (sR (sI h 0 15 y) 3 1 x3) 147 0 0) 147 34 y) a k = hR h a k := fun a k n => by
    show hR (sR (sI h 0 15 y) 3 1 x3) a k = hR h a k
    rw [hR_sR]
    by_cases c : a = 3
    · rw [if_pos c, if_neg (by omega)]; rfl
    · rw [if_neg c]; rfl
  have gI : ∀ a k, ¬ ((a = 0 ∧ k = 15) ∨ (a = 147 ∧ (k = 0 ∨ k = 34))) → hI (sI (sI (sR (sI h 0 15 y) 3 1 x3) 147 0 0) 147 34 y) a k = hI h a k := fun a k n => by
    by_cases c : a = 147
    · subst c
      rw [hI_slot _ _ _ _ (by omega), hI_slot _ _ _ _ (by omega), hI_sR, hI_row _ _ _ _ (by decide)]
    · rw [hI_row _ _ _ _ c, hI_row _ _ _ _ c, hI_sR]
      by_cases c0 : a = 0
      · subst c0; rw [hI_slot _ _ _ _ (by omega)]
      · rw [hI_row _ _ _ _ c0]
  have gI' : ∀ a, a ≠ 0 → a ≠ 147 → hI (sI (sI (sR (sI h 0 15 y) 3 1 x3) 147 0 0) 147 34 y) a = hI h a := fun a h1 h2 => by
    funext k; exact gI a k (by omega)
  refine ⟨⟨rfl, rfl, rfl, rfl, fun a k n => gR a k (fun e => n (Or.inl e)), fun a k n => gI a k (fun e => n (Or.inr e)), fun a k _ => rfl⟩, ainv_agl I ⟨rfl, rfl, fun a k _ _ n => gR a k n, fun a h1 _ n _ => gI' a (fun e => n (by unfold frC; omega)) h1, fun k hk => gI 147 k (by omega)⟩ L, ?_⟩
  obtain ⟨⟨q1, q2, q3⟩, q4, q5, q6, q7, q8⟩ := Q
  refine ⟨⟨by rw [gR 0 13 (by omega)]; exact q1, q2, q3⟩, by rw [gI 0 14 (by omega)]; exact q4, by rw [gI 147 7 (by omega)]; exact q5, q6, ?_, fun i hi => ?_⟩
  · rw [hI_same, hI_row _ _ _ _ (by decide), hI_row _ _ _ _ (by decide), hI_sR, hI_same]
  · obtain ⟨c, N, l⟩ := q8 i hi
    exact ⟨c, N, lwi_fr l rfl rfl (fun a k n _ _ => gR a k (fun e => n e.1)) (fun a ha => gI' a (by omega) (by omega)) K3 k103⟩
