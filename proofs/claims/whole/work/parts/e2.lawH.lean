/-! ===== PURE: law, with a house or without ===== -/
theorem lws_t {h : Hp} {lw : Option ((Nat → Int32) × Nat)} (Q : LWS h lw) : LWS (sI h 147 0 0) lw := by
  cases lw with
  | none => exact ⟨Q.1, by rw [hI_slot _ _ _ _ (by decide)]; exact Q.2⟩
  | some p =>
    obtain ⟨c, N⟩ := p
    obtain ⟨l, cd, li, n, t, q1, q2, q3, q4, q5, q6⟩ := Q
    exact ⟨l, cd, li, n, t, q1, q2, fun q hq => by rw [hI_row _ _ _ _ (by omega)]; exact q3 q hq, q4, q5, lm_fr q6 rfl rfl (fun _ _ => rfl) (fun a ha => hI_row _ _ _ _ (by omega)) (by rw [hI_slot _ _ _ _ (by decide)]; exact q6.1.1)⟩
theorem law_setH {h : Hp} {nL : Nat} {y : Int32} {x3 : Option Nat} (K3 : hK h 3 = 10) (Q : LWA h nL) (k103 : hK h 103 = 8) : FR lawP h (sI (sI (sR (sI h 0 15 y) 3 1 x3) 147 0 0) 147 34 y) ∧ LWA (sI (sI (sR (sI h 0 15 y) 3 1 x3) 147 0 0) 147 34 y) nL := by
  have gR : ∀ a k, ¬ (a = 3 ∧ k = 1) → hR (sI (sI (sR (sI h 0 15 y) 3 1 x3) 147 0 0) 147 34 y) a k = hR h a k := fun a k n => by
    show hR (sR (sI h 0 15 y) 3 1 x3) a k = hR h a k
    rw [hR_sR]
    by_cases c : a = 3
    · rw [if_pos c, if_neg (by omega)]; rfl
    · rw [if_neg c]; rfl
  have gI : ∀ a k, ¬ ((a = 0 ∧ k = 15) ∨ (a = 147 ∧ (k = 0 ∨ k = 34))) → hI (sI (sI (sR (sI h 0 15 y) 3 1 x3) 147 0 0) 147 34 y) a k = hI h a k := fun a k n => by
    by_cases c : a = 147
    · subst c
      rw [hI_slot _ _ _ _ (by omega), hI_slot _ _ _ _ (by omega), hI_sR, hI_row _ _ _ _ (by decide)]
    · rw [hI_row _ _ _ _ c, hI_row _ _ _ _ c, hI_sR]
      by_cases c0 : a = 0
      · subst c0; rw [hI_slot _ _ _ _ (by omega)]
      · rw [hI_row _ _ _ _ c0]
  have gI' : ∀ a, a ≠ 0 → a ≠ 147 → hI (sI (sI (sR (sI h 0 15 y) 3 1 x3) 147 0 0) 147 34 y) a = hI h a := fun a h1 h2 => by
    funext k; exact gI a k (by omega)
  refine ⟨⟨rfl, rfl, rfl, rfl, fun a k n => gR a k (fun e => n (Or.inl e)), fun a k n => gI a k (fun e => n (Or.inr e)), fun a k _ => rfl⟩, ?_⟩
  obtain ⟨⟨q1, q2, q3⟩, q4, q5, q6, q7, q8⟩ := Q
  refine ⟨⟨by rw [gR 0 13 (by omega)]; exact q1, q2, q3⟩, by rw [gI 0 14 (by omega)]; exact q4, by rw [gI 147 7 (by omega)]; exact q5, q6, ?_, fun i hi => ?_⟩
  · rw [hI_same, hI_row _ _ _ _ (by decide), hI_row _ _ _ _ (by decide), hI_sR, hI_same]
  · obtain ⟨c, N, l⟩ := q8 i hi
    exact ⟨c, N, lwi_fr l rfl rfl (fun a k n _ _ => gR a k (fun e => n e.1)) (fun a ha => gI' a (by omega) (by omega)) K3 k103⟩
def CALLH (h : Hp) (nL : Nat) (X Y : Hp → Option (RV × Hp)) : Prop := ∃ res h1 h2 lw', X h = some (rI res, h1) ∧ Y h1 = some (rI res, h2) ∧ FR lawP h h2 ∧ LWS h2 lw' ∧ LWA h2 nL ∧ (hI h2 147 34 = hI h 147 34 ∨ hI h2 147 34 = -1 ∨ ∃ i, i < nL ∧ hI h2 147 34 = nI i)
theorem lawcall_any {h : Hp} {nL : Nat} {lw : Option ((Nat → Int32) × Nat)} (K0 : hK h 0 = 11) (R01 : hR h 0 1 = some 3) (K3 : hK h 3 = 10) (M0 : hK h 147 = 12) (LL0 : LWS h lw) (Q : LWA h nL) (k103 : hK h 103 = 8) (y : Int32) : CALLH h nL (FX11_law [vR (some 0), vI y]) (FX12_law [vR (some 147), vI y]) := by
  have Q0 := Q
  obtain ⟨⟨q1, q2, q3⟩, q4, q5, q6, q7, q8⟩ := Q
  have e7 : hI (sI h 147 0 0) 147 7 = nI nL := by rw [hI_slot _ _ _ _ (by decide)]; exact q5
  have same : FX11_law [vR (some 0), vI y] h = some (rI 0, h) → FX12_law [vR (some 147), vI y] h = some (rI 0, sI h 147 0 0) → CALLH h nL (FX11_law [vR (some 0), vI y]) (FX12_law [vR (some 147), vI y]) := fun x1 x2 => ⟨0, h, _, lw, x1, x2, fr_sI _ _ _ _ (by unfold lawP; omega), lws_t LL0, lwa_t Q0 K3 k103, Or.inl (hI_slot _ _ _ _ (by decide))⟩
  have n1 : ¬ (nI nL - 1 < (-1 : Int32)) := by
    rcases (show nL = 0 ∨ nL = 1 ∨ nL = 2 ∨ nL = 3 ∨ nL = 4 by omega) with e | e | e | e | e <;> subst e <;> decide
  by_cases c0 : y = -1
  · subst c0
    obtain ⟨f1, f3⟩ := law_setH (y := -1) (x3 := none) K3 Q0 k103
    have f2 : LWS (sI (sI (sR (sI h 0 15 (-1)) 3 1 none) 147 0 0) 147 34 (-1)) none := ⟨by show hR (sR (sI h 0 15 (-1)) 3 1 none) 3 1 = none; rw [hR_sR, if_pos rfl, if_pos rfl], hI_same _ _ _ _⟩
    refine ⟨1, sR (sI h 0 15 (-1)) 3 1 none, _, none, ?_, ?_, f1, f2, f3, Or.inr (Or.inl (hI_same _ _ _ _))⟩
    · rw [tX11_law]
      simp only [oB_some, dR_some, cond_true, cond_false, if_true, if_false, Bool.true_and, Bool.and_true, Nat.beq_refl, K0, q4, within11, show ¬ (-1 : Int32) < -1 from by decide, n1, ne10, hK_sI, hR_sI, R01, K3, isZ1]
    · rw [tX12_law]
      simp only [oB_some, dR_some, cond_true, cond_false, if_true, if_false, Bool.true_and, Bool.and_true, Nat.beq_refl, hK_sR, hK_sI, M0, isZ1]
  by_cases c1 : y < 0
  · have c2 : y < -1 := by
      rw [Int32.lt_iff_toInt_lt] at c1 ⊢
      have : y.toInt ≠ (-1 : Int32).toInt := fun e => c0 (Int32.toInt_inj.mp e)
      rw [show (0 : Int32).toInt = 0 from rfl] at c1
      rw [show (-1 : Int32).toInt = -1 from rfl] at this ⊢
      omega
    refine same ?_ ?_
    · rw [tX11_law]; simp only [oB_some, dR_some, cond_true, cond_false, if_true, if_false, Bool.true_and, Bool.and_true, Nat.beq_refl, K0, q4, within11, c2, isZ0]
    · rw [tX12_law]; simp only [oB_some, dR_some, cond_true, cond_false, if_true, if_false, Bool.true_and, Bool.and_true, Nat.beq_refl, M0, hK_sI, c0, e7, isIn_0n, c1, isZ0]
  have c2 : ¬ y < -1 := fun z => c1 (Int32.lt_trans z (by decide))
  by_cases c3 : nI nL - 1 < y
  · refine same ?_ ?_
    · rw [tX11_law]; simp only [oB_some, dR_some, cond_true, cond_false, if_true, if_false, Bool.true_and, Bool.and_true, Nat.beq_refl, K0, q4, within11, c2, c3, isZ0]
    · rw [tX12_law]; simp only [oB_some, dR_some, cond_true, cond_false, if_true, if_false, Bool.true_and, Bool.and_true, Nat.beq_refl, M0, hK_sI, c0, e7, isIn_0n, c1, c3, isZ0]
  obtain ⟨i, hi, ei⟩ : ∃ i, i < nL ∧ y = nI i := by
    have hn : 0 < nL := by
      rcases Nat.eq_zero_or_pos nL with e | e
      · exfalso
        subst e
        apply c3
        rw [Int32.lt_iff_toInt_lt] at c1 ⊢
        rw [show (nI 0 - 1).toInt = -1 from rfl]
        rw [show (0 : Int32).toInt = 0 from rfl] at c1
        omega
      · exact e
    rw [nI_s1 hn] at c3
    obtain ⟨i, hi, e⟩ := nI_of2 (x := y) (M := nI (nL - 1)) (n := nL - 1) (by rw [nI_toInt (by omega)]) c1 (Int32.not_lt.mp c3)
    exact ⟨i, by omega, e⟩
  subst ei
  obtain ⟨c, N, lwi⟩ := q8 i hi
  have lwi0 := lwi
  obtain ⟨l, cd, n, t, p1, p2, p3, p4, p5, p6⟩ := lwi
  have l3 : l ≠ 3 := fun e => by have := p2.1; rw [e, K3] at this; cases this
  have gR : ∀ a k, a ≠ 3 → hR (sI (sI (sR (sI h 0 15 (nI i)) 3 1 (some l)) 147 0 0) 147 34 (nI i)) a k = hR h a k := fun a k na => by
    show hR (sR (sI h 0 15 (nI i)) 3 1 (some l)) a k = hR h a k
    rw [hR_sR, if_neg na]; rfl
  have gI' : ∀ a, a ≠ 0 → a ≠ 147 → hI (sI (sI (sR (sI h 0 15 (nI i)) 3 1 (some l)) 147 0 0) 147 34 (nI i)) a = hI h a := fun a h1 h2 => by
    rw [hI_row _ _ _ _ h2, hI_row _ _ _ _ h2]
    funext k; rw [hI_sR, hI_row _ _ _ _ h1]
  obtain ⟨f1, f3⟩ := law_setH (y := nI i) (x3 := some l) K3 Q0 k103
  have f2 : LWS (sI (sI (sR (sI h 0 15 (nI i)) 3 1 (some l)) 147 0 0) 147 34 (nI i)) (some (c, N)) := ⟨l, cd, i, n, t, by show hR (sR (sI h 0 15 (nI i)) 3 1 (some l)) 3 1 = some l; rw [hR_sR, if_pos rfl, if_pos rfl], by unfold WL; rw [gR l 0 l3]; exact p2, fun q hq => by rw [gI' cd (by omega) (by omega)]; exact p3 q hq, p4, p5, lm_fr p6 rfl rfl (fun k _ => by rw [gR 147 k (by decide)]; rfl) (fun a ha => by rw [gI' a (by omega) (by omega), hI_row _ _ _ _ (by omega)]) (hI_same _ _ _ _)⟩
  refine ⟨1, sR (sI h 0 15 (nI i)) 3 1 (some l), _, some (c, N), ?_, ?_, f1, f2, f3, Or.inr (Or.inr ⟨i, hi, hI_same _ _ _ _⟩)⟩
  · rw [tX11_law]
    simp only [oB_some, dR_some, cond_true, cond_false, if_true, if_false, Bool.true_and, Bool.and_true, Nat.beq_refl, K0, q4, within11, c2, c3, ne10, hK_sI, hR_sI, hE_sI, R01, K3, c0, q1, q2, q3, inb_nI (show i < 4 by omega) (by omega), nI_clamp (show i < 2 ^ 31 by omega), p1, isZ1]
  · have e7' : hI (sI (sR (sI h 0 15 (nI i)) 3 1 (some l)) 147 0 0) 147 7 = nI nL := by rw [hI_slot _ _ _ _ (by decide), hI_sR, hI_row _ _ _ _ (by decide)]; exact q5
    rw [tX12_law]
    simp only [oB_some, dR_some, cond_true, cond_false, if_true, if_false, Bool.true_and, Bool.and_true, Nat.beq_refl, hK_sR, hK_sI, M0, c0, e7', isIn_0n, c1, c3, ne10, isZ1]
