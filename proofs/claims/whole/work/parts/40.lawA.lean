/-! ===== PURE: the class's reader of laws: its object is cell 135, its code cell 136 ===== -/
theorem nI_nm1 {p : Nat} (h : p < 2 ^ 31) : nI p ≠ -1 := fun e => nI_pos h (by rw [e]; decide)
def LwL (h : Hp) : Prop := hK h 135 = 2 ∧ hR h 135 0 = some 1 ∧ hR h 135 1 = some 136 ∧ hK h 136 = 20 ∧ hE h 136 = 240
/-- LETTERS -/
def PL (h : Hp) : Prop := hK h (PRE + 0) = 25 ∧ hE h (PRE + 0) = 6 ∧ hI h (PRE + 0) 0 = 119 ∧ hI h (PRE + 0) 1 = 116 ∧ hI h (PRE + 0) 2 = 107 ∧ hI h (PRE + 0) 3 = 110 ∧ hI h (PRE + 0) 4 = 121 ∧ hI h (PRE + 0) 5 = 109
def cw (h : Hp) (s : Nat) (c : Nat → Int32) : Hp := wA (sI h 135 2 (nI s)) 136 c
def CS (h : Hp) (s : Nat) (c : Nat → Int32) (p : Nat) (w : Int32) : Hp := tw (cw h s c) p w
theorem cw_sz (h : Hp) (s : Nat) (c : Nat → Int32) : hI (cw h s c) 135 2 = nI s := by
  unfold cw; rw [wA_O _ _ (by decide), hI_same]
theorem cw_cd (h : Hp) (s : Nat) (c : Nat → Int32) : hI (cw h s c) 136 = c := wA_I _ _ _
theorem cw_o (h : Hp) (s : Nat) (c : Nat → Int32) {b : Nat} (h1 : b ≠ 135) (h2 : b ≠ 136) : hI (cw h s c) b = hI h b := by
  unfold cw; rw [wA_O _ _ h2, hI_row _ _ _ _ h1]
theorem cw_2 (h : Hp) (s : Nat) (c : Nat → Int32) : hI (cw h s c) 2 = hI h 2 := cw_o h s c (by decide) (by decide)
theorem cw_up (h : Hp) (s : Nat) (c : Nat → Int32) (x : Int32) : sI (sI (cw h s c) 136 s x) 135 2 (nI (s + 1)) = cw h (s + 1) (up1 c s x) := by
  unfold cw
  rw [sI_ws, sI_wo _ _ _ _ (by decide), sI_sI]
theorem CS_K (h : Hp) (s : Nat) (c : Nat → Int32) (p : Nat) (w : Int32) (x : Nat) : hK (CS h s c p w) x = hK h x := rfl
theorem CS_E (h : Hp) (s : Nat) (c : Nat → Int32) (p : Nat) (w : Int32) (x : Nat) : hE (CS h s c p w) x = hE h x := rfl
theorem CS_R (h : Hp) (s : Nat) (c : Nat → Int32) (p : Nat) (w : Int32) (x y : Nat) : hR (CS h s c p w) x y = hR h x y := rfl
theorem CS_sz (h : Hp) (s : Nat) (c : Nat → Int32) (p : Nat) (w : Int32) : hI (CS h s c p w) 135 2 = nI s := by
  unfold CS; rw [tw_row _ _ _ (by decide), cw_sz]
theorem CS_pre (h : Hp) (s : Nat) (c : Nat → Int32) (p : Nat) (w : Int32) {b : Nat} (hb : 136 < b) : hI (CS h s c p w) b = hI h b := by
  unfold CS; rw [tw_row _ _ _ (by omega), cw_o _ _ _ (by omega) (by omega)]
theorem HT.cw {h : Hp} {n : Nat} (H : HT h n) (s : Nat) (c : Nat → Int32) : HT (cw h s c) n := ⟨H.1, by rw [cw_o h s c (by decide) (by decide)]; exact H.2.1, H.2.2⟩
theorem cs_peek {h : Hp} {n s p : Nat} {c : Nat → Int32} {w : Int32} (H : HT h n) (hp : p ≤ 240) : FX9_peek [vR (some 1)] (CS h s c p w) = some (rI (chT (hI h 2) n (sk (hI h 2) n p)), CS h s c (sk (hI h 2) n p) w) := by
  have := tp_peek (w := w) (H.cw s c) hp
  rw [cw_2] at this; exact this
theorem cs_accept {h : Hp} {n s p : Nat} {c : Nat → Int32} {w x : Int32} (H : HT h n) (hp : p ≤ 240) : FX9_accept [vR (some 1), vI x] (CS h s c p w) = if w = -1 then (if chT (hI h 2) n (sk (hI h 2) n p) = x then some (rI 1, CS h s c (sk (hI h 2) n p + 1) w) else some (rI 0, CS h s c (sk (hI h 2) n p) w)) else some (rI 0, CS h s c p w) := by
  have := tp_accept (w := w) (s := x) (H.cw s c) hp
  rw [cw_2] at this; exact this
theorem cs_demand {h : Hp} {n s p : Nat} {c : Nat → Int32} {w x : Int32} (H : HT h n) (hp : p ≤ 240) : FX9_demand [vR (some 1), vI x] (CS h s c p w) = if w = -1 then (if chT (hI h 2) n (sk (hI h 2) n p) = x then some (rV, CS h s c (sk (hI h 2) n p + 1) w) else some (rV, CS h s c (sk (hI h 2) n p) (nI (sk (hI h 2) n p)))) else some (rV, CS h s c p w) := by
  have := tp_demand (w := w) (s := x) (H.cw s c) hp
  rw [cw_2] at this; exact this
theorem cs_demandEnd {h : Hp} {n s p : Nat} {c : Nat → Int32} {w : Int32} (H : HT h n) (hp : p ≤ 240) : FX9_demandEnd [vR (some 1)] (CS h s c p w) = some (rV, CS h s c (sk (hI h 2) n p) (if chT (hI h 2) n (sk (hI h 2) n p) = -1 then w else if w = -1 then nI (sk (hI h 2) n p) else w)) := by
  have := tp_demandEnd (w := w) (H.cw s c) hp
  rw [cw_2] at this; exact this
theorem cs_refuse {h : Hp} {n s p : Nat} {c : Nat → Int32} {w : Int32} (H : HT h n) : FX9_refuse [vR (some 1)] (CS h s c p w) = some (rV, CS h s c p (if w = -1 then nI p else w)) := tp_refuse (H.cw s c).1
theorem cs_skip {h : Hp} {n s p : Nat} {c : Nat → Int32} {w : Int32} (H : HT h n) : FX9_skip [vR (some 1)] (CS h s c p w) = if w = -1 then some (rI 1, CS h s c (p + 1) w) else some (rI 0, CS h s c p w) := tp_skip (H.cw s c).1
theorem cs_number {h : Hp} {n s p : Nat} {c : Nat → Int32} {w lo hi : Int32} {k : Nat} (H : HT h n) (hp : p ≤ n) (hk : k < 2 ^ 31) :
    (w = -1 → dg (chT (hI h 2) n (sk (hI h 2) n p)) → FX9_number [vR (some 1), vI (nI k), vI lo, vI hi] (CS h s c p w) = some (rI (nuS (hI h 2) n k (sk (hI h 2) n p) 0).2, CS h s c (nuS (hI h 2) n k (sk (hI h 2) n p) 0).1 (nuW (hI h 2) n lo hi (nuS (hI h 2) n k (sk (hI h 2) n p) 0)))) ∧
    (w = -1 → ¬ dg (chT (hI h 2) n (sk (hI h 2) n p)) → FX9_number [vR (some 1), vI (nI k), vI lo, vI hi] (CS h s c p w) = some (rI lo, CS h s c (sk (hI h 2) n p) (nI (sk (hI h 2) n p)))) ∧
    (w ≠ -1 → FX9_number [vR (some 1), vI (nI k), vI lo, vI hi] (CS h s c p w) = some (rI lo, CS h s c p w)) := by
  have := tp_number (w := w) (lo := lo) (hi := hi) (k := k) (H.cw s c) hp hk
  rw [cw_2] at this; exact this
theorem cs_emit {h : Hp} {s p : Nat} {c : Nat → Int32} {w x : Int32} (W : LwL h) (hs : s < 240) : FX2_emit [vR (some 135), vI x] (CS h s c p w) = some (rV, CS h (s + 1) (up1 c s x) p w) := by
  obtain ⟨W1, W2, W3, W4, W5⟩ := W
  have e1 := nI_nle' (a := 240) (b := s) (by omega) (by omega)
  have q1 : ¬ 240 ≤ s := by omega
  have e3 : inb (nI s) 240 = true := inb_nI (by omega) (by omega)
  have e4 : (nI s).toNatClampNeg = s := nI_clamp (by omega)
  have e5 : hI (sI (CS h s c p w) 136 s x) 135 2 = nI s := by rw [hI_oth _ _ _ _ _ (by decide), CS_sz]
  rw [tX2_emit]
  simp only [oB_some, dR_some, cond_true, cond_false, if_true, if_false, Bool.true_and, Bool.and_true, Nat.beq_refl, hK_sI, CS_K, CS_E, CS_R, CS_sz, W1, W2, W3, W4, W5, alK20, show Int32.ofNat 240 = nI 240 from rfl, e1, q1, e3, e4, e5, nI_1]
  congr 2
  show sI (sI (tw (cw h s c) p w) 136 s x) 135 2 (nI (s + 1)) = tw (cw h (s + 1) (up1 c s x)) p w
  rw [tw_sI _ _ _ _ _ (by decide), tw_sI _ _ _ _ _ (by decide), cw_up]
theorem cs_emitF {h : Hp} {s p : Nat} {c : Nat → Int32} {w x : Int32} (W : LwL h) (hs : s ≤ 240) : ∃ s' c', s' ≤ 240 ∧ FX2_emit [vR (some 135), vI x] (CS h s c p w) = some (rV, CS h s' c' p w) := by
  by_cases q : s < 240
  · exact ⟨s + 1, up1 c s x, by omega, cs_emit W q⟩
  · have : s = 240 := by omega
    subst this
    obtain ⟨W1, W2, W3, W4, W5⟩ := W
    refine ⟨240, c, Nat.le_refl _, ?_⟩
    rw [tX2_emit]
    have e : nI 240 ≤ nI 240 := nI_le (Nat.le_refl _) (by decide)
    simp only [oB_some, dR_some, cond_true, cond_false, if_true, if_false, Bool.true_and, Bool.and_true, Nat.beq_refl, hK_sI, CS_K, CS_E, CS_R, CS_sz, W1, W2, W3, W4, W5, alK20, show Int32.ofNat 240 = nI 240 from rfl, e]
theorem cs_opens {h : Hp} {n s p d : Nat} {c : Nat → Int32} {w : Int32} (H : HT h n) (W : LwL h) (hd : d ≤ 6) (hp : p < 2 ^ 31) : FX2_opens [vR (some 135), vI (nI d)] (CS h s c p w) = if w = -1 then (if d < 6 then some (rI 1, CS h s c (p + 1) (-1)) else some (rI 0, CS h s c p (nI p))) else some (rI 0, CS h s c p w) := by
  obtain ⟨W1, W2, W3, W4, W5⟩ := W
  have e1 := nI_nlt' (a := d) (b := 6) (by omega) (by omega)
  have T1 := H.1.1
  have np := nI_nm1 hp
  rw [tX2_opens]
  by_cases q : w = -1
  · subst q
    by_cases q1 : d < 6
    · simp only [oB_some, dR_some, cond_true, cond_false, if_true, if_false, Bool.true_and, Bool.and_true, Nat.beq_refl, CS_K, CS_R, W1, W2, T1, show (6 : Int32) = nI 6 from rfl, e1, q1, cs_skip H, isZ1]
    · simp only [oB_some, dR_some, cond_true, cond_false, if_true, if_false, Bool.true_and, Bool.and_true, Nat.beq_refl, CS_K, CS_R, W1, W2, T1, show (6 : Int32) = nI 6 from rfl, e1, q1, cs_skip H, cs_refuse H, np, isZ0]
  · by_cases q1 : d < 6
    · simp only [oB_some, dR_some, cond_true, cond_false, if_true, if_false, Bool.true_and, Bool.and_true, Nat.beq_refl, CS_K, CS_R, W1, W2, T1, show (6 : Int32) = nI 6 from rfl, e1, q1, cs_skip H, q, isZ0]
    · simp only [oB_some, dR_some, cond_true, cond_false, if_true, if_false, Bool.true_and, Bool.and_true, Nat.beq_refl, CS_K, CS_R, W1, W2, T1, show (6 : Int32) = nI 6 from rfl, e1, q1, cs_skip H, cs_refuse H, q, isZ0]
def lt6 (c : Int32) : Int32 := if c = 119 then 0 else if c = 116 then 1 else if c = 107 then 2 else if c = 110 then 3 else if c = 121 then 4 else if c = 109 then 5 else -1
theorem letter_go {h : Hp} {c v : Int32} {i : Nat} (K1 : hK h (PRE + 0) = 25) (K2 : hE h (PRE + 0) = 6) (hi : i < 6) (hv : hI h (PRE + 0) i = v) : Run kX1_letterOf 2 [some (vI c), some (vI (nI i))] [] h = if c = v then some (rI (nI i), h) else Run kX1_letterOf 2 [some (vI c), some (vI (nI (i + 1)))] [] h := by
  have e1 := nI_nle' (a := 6) (b := i) (by omega) (by omega)
  have q1 : ¬ 6 ≤ i := by omega
  have e3 : inb (nI i) 6 = true := inb_nI (by omega) (by omega)
  have e4 : (nI i).toNatClampNeg = i := nI_clamp (by omega)
  have e5 : (v = c) = (c = v) := propext ⟨Eq.symm, Eq.symm⟩
  rw [tX1_letterOf_2]
  simp only [oB_some, dR_some, cond_true, cond_false, if_true, if_false, Bool.true_and, Bool.and_true, Nat.beq_refl, K1, K2, alK25, iaK25, show Int32.ofNat 6 = nI 6 from rfl, e1, q1, e3, e4, hv, nI_1, e5]
theorem letter_sp {h : Hp} (P : PL h) (c : Int32) : FX1_letterOf [vI c] h = some (rI (lt6 c), h) := by
  obtain ⟨K1, K2, a0, a1, a2, a3, a4, a5⟩ := P
  rw [tX1_letterOf, show (0 : Int32) = nI 0 from rfl, letter_go K1 K2 (by omega) a0, letter_go K1 K2 (by omega) a1, letter_go K1 K2 (by omega) a2, letter_go K1 K2 (by omega) a3, letter_go K1 K2 (by omega) a4, letter_go K1 K2 (by omega) a5, tX1_letterOf_2]
  have e : nI 6 ≤ nI (5 + 1) := nI_le (Nat.le_refl _) (by decide)
  simp only [oB_some, dR_some, cond_true, cond_false, if_true, if_false, Bool.true_and, Bool.and_true, Nat.beq_refl, K1, K2, alK25, show Int32.ofNat 6 = nI 6 from rfl, e]
  unfold lt6
  by_cases q0 : c = 119
  · simp only [q0, if_true]; rfl
  by_cases q1 : c = 116
  · simp only [q0, q1, if_true, if_false]; rfl
  by_cases q2 : c = 107
  · simp only [q0, q1, q2, if_true, if_false]; rfl
  by_cases q3 : c = 110
  · simp only [q0, q1, q2, q3, if_true, if_false]; rfl
  by_cases q4 : c = 121
  · simp only [q0, q1, q2, q3, q4, if_true, if_false]; rfl
  by_cases q5 : c = 109
  · simp only [q0, q1, q2, q3, q4, q5, if_true, if_false]; rfl
  simp only [q0, q1, q2, q3, q4, q5, if_false]
theorem PL.CS {h : Hp} (P : PL h) (s : Nat) (c : Nat → Int32) (p : Nat) (w : Int32) : PL (CS h s c p w) := by
  have e := CS_pre h s c p w (b := PRE + 0) (by decide)
  unfold PL
  rw [e, CS_K, CS_E]
  exact P
theorem cs_letter {h : Hp} {s p : Nat} {c : Nat → Int32} {w : Int32} (P : PL h) (x : Int32) : FX1_letterOf [vI x] (CS h s c p w) = some (rI (lt6 x), CS h s c p w) := letter_sp (P.CS s c p w) x
def cmp3 (c : Int32) : Int32 := if c = 60 then -15 else if c = 61 then -14 else if c = 62 then -16 else -1
theorem comparison_sp {h : Hp} (c : Int32) : FX2_comparison [vI c] h = some (rI (cmp3 c), h) := by
  rw [tX2_comparison]
  unfold cmp3
  by_cases q0 : c = 60
  · subst q0; rfl
  by_cases q1 : c = 61
  · subst q1; rfl
  by_cases q2 : c = 62
  · subst q2; rfl
  simp only [q0, q1, q2, if_false]
