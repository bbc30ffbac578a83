/-! ===== PURE: the class's tape ===== -/
/-- the tape stands at p, its fault is w -/
def tw (h : Hp) (p : Nat) (w : Int32) : Hp := sI (sI h 1 2 (nI p)) 1 3 w
theorem tw_K (h : Hp) (p : Nat) (w : Int32) (x : Nat) : hK (tw h p w) x = hK h x := rfl
theorem tw_E (h : Hp) (p : Nat) (w : Int32) (x : Nat) : hE (tw h p w) x = hE h x := rfl
theorem tw_R (h : Hp) (p : Nat) (w : Int32) (x y : Nat) : hR (tw h p w) x y = hR h x y := rfl
theorem tw_at (h : Hp) (p : Nat) (w : Int32) : hI (tw h p w) 1 2 = nI p := by unfold tw; rw [hI_slot _ _ _ _ (by decide), hI_same]
theorem tw_wr (h : Hp) (p : Nat) (w : Int32) : hI (tw h p w) 1 3 = w := by unfold tw; rw [hI_same]
theorem tw_len (h : Hp) (p : Nat) (w : Int32) : hI (tw h p w) 1 1 = hI h 1 1 := by unfold tw; rw [hI_slot _ _ _ _ (by decide), hI_slot _ _ _ _ (by decide)]
theorem tw_row (h : Hp) (p : Nat) (w : Int32) {x : Nat} (hx : x ≠ 1) : hI (tw h p w) x = hI h x := by unfold tw; rw [hI_row _ _ _ _ hx, hI_row _ _ _ _ hx]
theorem tw_pat (h : Hp) (p q : Nat) (w : Int32) : sI (tw h p w) 1 2 (nI q) = tw h q w := by
  unfold tw
  rw [sI_comm _ (Or.inr (by decide)), sI_sI]
theorem tw_pwr (h : Hp) (p : Nat) (w v : Int32) : sI (tw h p w) 1 3 v = tw h p v := by
  unfold tw
  rw [sI_sI]
theorem tw_tw (h : Hp) (p q : Nat) (w v : Int32) : tw (tw h p w) q v = tw h q v := by
  show sI (sI (tw h p w) 1 2 (nI q)) 1 3 v = tw h q v
  rw [tw_pat, tw_pwr]
theorem tw_self {h : Hp} {p : Nat} {w : Int32} (h1 : hI h 1 2 = nI p) (h2 : hI h 1 3 = w) : tw h p w = h := by
  unfold tw
  rw [sI_self' h h1, sI_self' h h2]
def HT (h : Hp) (n : Nat) : Prop := TapeL h ∧ hI h 1 1 = nI n ∧ n ≤ 240
theorem HT.tw {h : Hp} {n : Nat} (H : HT h n) (p : Nat) (w : Int32) : HT (tw h p w) n := ⟨H.1, by rw [tw_len]; exact H.2.1, H.2.2⟩
theorem tp_peek {h : Hp} {n p : Nat} {w : Int32} (H : HT h n) (hp : p ≤ 240) : FX9_peek [vR (some 1)] (tw h p w) = some (rI (chT (hI h 2) n (sk (hI h 2) n p)), tw h (sk (hI h 2) n p) w) := by
  rw [peek_sp (H.tw p w).1 (H.tw p w).2.1 (tw_at h p w) H.2.2 hp, tw_row h p w (by decide), tw_pat]
theorem tp_here {h : Hp} {n p : Nat} {w : Int32} (H : HT h n) (hp : p ≤ 240) : FX9_here [vR (some 1)] (tw h p w) = some (rI (chT (hI h 2) n p), tw h p w) := by
  rw [tX9_here]
  have hn := H.2.2
  have e1 := nI_nle' (a := n) (b := p) (by omega) (by omega)
  have e2 : (Int32.ofNat 240 ≤ nI p) = (240 ≤ p) := nI_nle' (a := 240) (b := p) (by omega) (by omega)
  obtain ⟨T1, T2, T3, T4⟩ := H.1
  by_cases q : p < n
  · have q1 : ¬ n ≤ p := by omega
    have q3 : ¬ 240 ≤ p := by omega
    have e3 := inb_nI (p := p) (N := 240) (by omega) (by omega)
    have e4 : (nI p).toNatClampNeg = p := nI_clamp (by omega)
    simp only [tw_K, tw_E, tw_R, tw_at, tw_len, tw_row h p w (show (2 : Nat) ≠ 1 by decide), T1, T2, T3, T4, H.2.1, e1, e2, q1, q3, if_true, if_false, dR_some, alK20, iaK20, cond_true, Bool.true_and, e3, e4, chT, q]
  · have q1 : n ≤ p := by omega
    simp only [tw_K, tw_at, tw_len, T1, H.2.1, e1, q1, if_true, chT, q, if_false]
theorem tp_refuse {h : Hp} {p : Nat} {w : Int32} (T : TapeL h) : FX9_refuse [vR (some 1)] (tw h p w) = some (rV, tw h p (if w = -1 then nI p else w)) := by
  rw [tX9_refuse]
  by_cases q : w = -1
  · simp only [tw_K, T.1, tw_wr, tw_at, q, if_true, oB_some, tw_pwr]
  · simp only [tw_K, T.1, tw_wr, q, if_true, if_false]
theorem tp_rewind {h : Hp} (T : TapeL h) : FX9_rewind [vR (some 1)] h = some (rV, tw h 0 (-1)) := by
  rw [tX9_rewind]
  simp only [hK_sI, T.1, if_true, oB_some]
  rfl
theorem tp_skip {h : Hp} {p : Nat} {w : Int32} (T : TapeL h) : FX9_skip [vR (some 1)] (tw h p w) = if w = -1 then some (rI 1, tw h (p + 1) w) else some (rI 0, tw h p w) := by
  rw [tX9_skip]
  by_cases q : w = -1
  · simp only [tw_K, T.1, tw_wr, tw_at, q, if_true, oB_some, nI_1, tw_pat, isZ1, cond_true]
  · simp only [tw_K, T.1, tw_wr, q, if_true, if_false, isZ0, cond_true]
theorem beq9 : Nat.beq 9 9 = true := rfl
theorem tp_accept {h : Hp} {n p : Nat} {w s : Int32} (H : HT h n) (hp : p ≤ 240) : FX9_accept [vR (some 1), vI s] (tw h p w) = if w = -1 then (if chT (hI h 2) n (sk (hI h 2) n p) = s then some (rI 1, tw h (sk (hI h 2) n p + 1) w) else some (rI 0, tw h (sk (hI h 2) n p) w)) else some (rI 0, tw h p w) := by
  rw [tX9_accept]
  by_cases q : w = -1
  · subst q
    simp only [tw_K, H.1.1, tw_wr, if_true, beq9, Bool.true_and, cond_true, tp_peek H hp, oB_some, tw_at, nI_1, tw_pat, isZ1, isZ0]
  · simp only [tw_K, H.1.1, tw_wr, q, if_true, if_false, isZ0, cond_true]
theorem tp_demand {h : Hp} {n p : Nat} {w s : Int32} (H : HT h n) (hp : p ≤ 240) : FX9_demand [vR (some 1), vI s] (tw h p w) = if w = -1 then (if chT (hI h 2) n (sk (hI h 2) n p) = s then some (rV, tw h (sk (hI h 2) n p + 1) w) else some (rV, tw h (sk (hI h 2) n p) (nI (sk (hI h 2) n p)))) else some (rV, tw h p w) := by
  rw [tX9_demand]
  by_cases q : w = -1
  · subst q
    simp only [tw_K, H.1.1, tw_wr, if_true, beq9, Bool.true_and, cond_true, tp_peek H hp, oB_some, tw_at, nI_1, tw_pat, tp_refuse H.1]
  · simp only [tw_K, H.1.1, tw_wr, q, if_true, if_false, beq9, Bool.true_and, cond_true, tp_refuse H.1, oB_some]
theorem tp_demandEnd {h : Hp} {n p : Nat} {w : Int32} (H : HT h n) (hp : p ≤ 240) : FX9_demandEnd [vR (some 1)] (tw h p w) = some (rV, tw h (sk (hI h 2) n p) (if chT (hI h 2) n (sk (hI h 2) n p) = -1 then w else if w = -1 then nI (sk (hI h 2) n p) else w)) := by
  rw [tX9_demandEnd]
  by_cases q : chT (hI h 2) n (sk (hI h 2) n p) = -1
  · simp only [tw_K, H.1.1, beq9, Bool.true_and, cond_true, tp_peek H hp, oB_some, q, if_true]
  · simp only [tw_K, H.1.1, beq9, Bool.true_and, cond_true, tp_peek H hp, oB_some, q, if_false, tp_refuse H.1]
/-! digits -/
def dg (c : Int32) : Prop := ¬ c < 48 ∧ ¬ 57 < c
theorem tp_isDigit {c : Int32} {h : Hp} : (dg c → FX9_isDigit [vI c] h = some (rI 1, h)) ∧ (¬ dg c → FX9_isDigit [vI c] h = some (rI 0, h)) := by
  rw [tX9_isDigit]
  constructor
  · intro q
    simp only [q.1, q.2, if_false, isZ1, cond_true]
  · intro q
    by_cases q1 : c < 48
    · simp only [q1, if_true, isZ0, cond_true]
    · have q2 : 57 < c := Classical.byContradiction fun z => q ⟨q1, z⟩
      simp only [q1, q2, if_true, if_false, isZ0, cond_true]
/-- at most k digits from p on -/
noncomputable def nuS (t : Nat → Int32) (n : Nat) : Nat → Nat → Int32 → Nat × Int32
  | 0, p, v => (p, v)
  | k + 1, p, v => @ite _ (dg (chT t n p)) (Classical.propDecidable _) (nuS t n k (p + 1) (10 * v + chT t n p - 48)) (p, v)
theorem nuS_go {t : Nat → Int32} {n k p : Nat} {v : Int32} (h : dg (chT t n p)) : nuS t n (k + 1) p v = nuS t n k (p + 1) (10 * v + chT t n p - 48) := if_pos h
theorem nuS_stop {t : Nat → Int32} {n k p : Nat} {v : Int32} (h : ¬ dg (chT t n p)) : nuS t n (k + 1) p v = (p, v) := if_neg h
theorem dg_lt {t : Nat → Int32} {n p : Nat} (h : dg (chT t n p)) : p < n := by
  unfold chT at h
  by_cases q : p < n
  · exact q
  · rw [if_neg q] at h
    exact absurd (by decide : (-1 : Int32) < 48) h.1
/-- behind the digits: the fault -/
noncomputable def nuW (t : Nat → Int32) (n : Nat) (lo hi : Int32) (r : Nat × Int32) : Int32 := @ite _ (dg (chT t n r.1)) (Classical.propDecidable _) (nI r.1) (if r.2 < lo then nI r.1 - 1 else if r.2 ≤ hi then -1 else nI r.1 - 1)
theorem num_run (k : Nat) : ∀ (h : Hp) (n p i : Nat) (x1 lo hi v : Int32), HT h n → p ≤ n → x1 = nI (i + k) → i + k < 2 ^ 31 →
    Run kX9_number 30 [some (vR (some 1)), some (vI x1), some (vI lo), some (vI hi), some (vI v), some (vI (nI i))] [] (tw h p (-1)) = some (rI (nuS (hI h 2) n k p v).2, tw h (nuS (hI h 2) n k p v).1 (nuW (hI h 2) n lo hi (nuS (hI h 2) n k p v))) := by
  induction k with
  | zero =>
    intro h n p i x1 lo hi v H hp hx hi0
    have hn := H.2.2
    subst hx
    rw [tX9_number_30]
    have e1 : (nI (i + 0) ≤ nI i) := nI_le (by omega) (by omega)
    simp only [e1, if_true, tw_K, H.1.1, beq9, Bool.true_and, cond_true, tp_here H (show p ≤ 240 by omega), oB_some]
    show _ = some (rI v, tw h p (nuW (hI h 2) n lo hi (p, v)))
    unfold nuW
    by_cases q : dg (chT (hI h 2) n p)
    · rw [tp_isDigit.1 q, if_pos q]
      simp only [oB_some, show ¬ ((1 : Int32) = 0) by decide, if_false, tw_K, H.1.1, beq9, Bool.true_and, cond_true, tp_refuse H.1, if_true]
    · rw [tp_isDigit.2 q, if_neg q]
      simp only [oB_some, if_true, tw_K, H.1.1, tw_at, tw_pwr]
      by_cases q1 : v < lo
      · simp only [q1, if_true]
      · by_cases q2 : v ≤ hi
        · simp only [q1, q2, if_true, if_false]
        · simp only [q1, q2, if_true, if_false]
  | succ k ih =>
    intro h n p i x1 lo hi v H hp hx hi0
    have hn := H.2.2
    subst hx
    rw [tX9_number_30]
    have e1 : ¬ (nI (i + (k + 1)) ≤ nI i) := nI_ge (by omega) (by omega)
    simp only [e1, if_false, tw_K, H.1.1, beq9, Bool.true_and, cond_true, tp_here H (show p ≤ 240 by omega), oB_some]
    by_cases q : dg (chT (hI h 2) n p)
    · rw [tp_isDigit.1 q, nuS_go q]
      have hlt := dg_lt q
      simp only [oB_some, show ¬ ((1 : Int32) = 0) by decide, if_false, tw_K, H.1.1, beq9, Bool.true_and, cond_true, tp_here H (show p ≤ 240 by omega), if_true, tw_at, nI_1, tw_pat]
      exact ih h n (p + 1) (i + 1) (nI (i + (k + 1))) lo hi _ H (by omega) (by rw [show i + (k + 1) = i + 1 + k by omega]) (by omega)
    · rw [tp_isDigit.2 q, nuS_stop q]
      simp only [oB_some, if_true, tw_K, H.1.1, beq9, Bool.true_and, cond_true, tp_here H (show p ≤ 240 by omega)]
      rw [tp_isDigit.2 q]
      unfold nuW
      rw [if_neg q]
      simp only [oB_some, if_true, tw_K, H.1.1, tw_at, tw_pwr]
      by_cases q1 : v < lo
      · simp only [q1, if_true]
      · by_cases q2 : v ≤ hi
        · simp only [q1, q2, if_true, if_false]
        · simp only [q1, q2, if_true, if_false]
theorem tp_number {h : Hp} {n p k : Nat} {w lo hi : Int32} (H : HT h n) (hp : p ≤ n) (hk : k < 2 ^ 31) :
    (w = -1 → dg (chT (hI h 2) n (sk (hI h 2) n p)) → FX9_number [vR (some 1), vI (nI k), vI lo, vI hi] (tw h p w) = some (rI (nuS (hI h 2) n k (sk (hI h 2) n p) 0).2, tw h (nuS (hI h 2) n k (sk (hI h 2) n p) 0).1 (nuW (hI h 2) n lo hi (nuS (hI h 2) n k (sk (hI h 2) n p) 0)))) ∧
    (w = -1 → ¬ dg (chT (hI h 2) n (sk (hI h 2) n p)) → FX9_number [vR (some 1), vI (nI k), vI lo, vI hi] (tw h p w) = some (rI lo, tw h (sk (hI h 2) n p) (nI (sk (hI h 2) n p)))) ∧
    (w ≠ -1 → FX9_number [vR (some 1), vI (nI k), vI lo, vI hi] (tw h p w) = some (rI lo, tw h p w)) := by
  have hn := H.2.2
  have hs := (sk_le (t := hI h 2) (n := n) p).2 hp
  refine ⟨fun q0 q => ?_, fun q0 q => ?_, fun q0 => ?_⟩
  · subst q0
    rw [tX9_number]
    simp only [tw_K, H.1.1, tw_wr, if_true, beq9, Bool.true_and, cond_true, tp_peek H (show p ≤ 240 by omega), oB_some]
    rw [tp_isDigit.1 q]
    simp only [oB_some, show ¬ ((1 : Int32) = 0) by decide, if_false]
    have := num_run k h n (sk (hI h 2) n p) 0 (nI k) lo hi 0 H hs (by rw [Nat.zero_add]) (by omega)
    rw [nI_0] at this
    exact this
  · subst q0
    rw [tX9_number]
    simp only [tw_K, H.1.1, tw_wr, if_true, beq9, Bool.true_and, cond_true, tp_peek H (show p ≤ 240 by omega), oB_some]
    rw [tp_isDigit.2 q]
    simp only [oB_some, if_true, tw_K, H.1.1, beq9, Bool.true_and, cond_true, tp_refuse H.1]
  · rw [tX9_number]
    simp only [tw_K, H.1.1, tw_wr, q0, if_true, if_false, beq9, Bool.true_and, cond_true, tp_refuse H.1, oB_some]
theorem tp_digit {h : Hp} {n p : Nat} {w x : Int32} (H : HT h n) (hp : p ≤ n) :
    (w = -1 → dg (chT (hI h 2) n (sk (hI h 2) n p)) → chT (hI h 2) n (sk (hI h 2) n p) - 48 ≤ x → FX9_digit [vR (some 1), vI x] (tw h p w) = some (rI (chT (hI h 2) n (sk (hI h 2) n p) - 48), tw h (sk (hI h 2) n p + 1) (-1))) ∧
    (w = -1 → ¬ (dg (chT (hI h 2) n (sk (hI h 2) n p)) ∧ chT (hI h 2) n (sk (hI h 2) n p) - 48 ≤ x) → FX9_digit [vR (some 1), vI x] (tw h p w) = some (rI 0, tw h (sk (hI h 2) n p) (nI (sk (hI h 2) n p)))) ∧
    (w ≠ -1 → FX9_digit [vR (some 1), vI x] (tw h p w) = some (rI 0, tw h (sk (hI h 2) n p) w)) := by
  have hn := H.2.2
  refine ⟨fun q0 q q2 => ?_, fun q0 q => ?_, fun q0 => ?_⟩
  · subst q0
    rw [tX9_digit]
    simp only [tw_K, H.1.1, tw_wr, if_true, beq9, Bool.true_and, cond_true, tp_peek H (show p ≤ 240 by omega), oB_some]
    rw [tp_isDigit.1 q]
    simp only [oB_some, show ¬ ((1 : Int32) = 0) by decide, if_false, q2, if_true, tw_K, H.1.1, tw_at, nI_1, tw_pat]
  · subst q0
    rw [tX9_digit]
    simp only [tw_K, H.1.1, tw_wr, if_true, beq9, Bool.true_and, cond_true, tp_peek H (show p ≤ 240 by omega), oB_some]
    by_cases q1 : dg (chT (hI h 2) n (sk (hI h 2) n p))
    · rw [tp_isDigit.1 q1]
      have q3 : ¬ (chT (hI h 2) n (sk (hI h 2) n p) - 48 ≤ x) := fun z => q ⟨q1, z⟩
      simp only [oB_some, show ¬ ((1 : Int32) = 0) by decide, if_false, q3, tw_K, H.1.1, beq9, Bool.true_and, cond_true, tp_refuse H.1, if_true]
    · rw [tp_isDigit.2 q1]
      simp only [oB_some, if_true, tw_K, H.1.1, beq9, Bool.true_and, cond_true, tp_refuse H.1]
  · rw [tX9_digit]
    simp only [tw_K, H.1.1, beq9, Bool.true_and, cond_true, tp_peek H (show p ≤ 240 by omega), oB_some, if_true, tw_wr, q0, if_false, tp_refuse H.1]
