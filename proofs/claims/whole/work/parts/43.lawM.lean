/-! ===== PURE: strings; the reference's small steps of reading ===== -/
/-- the string s: its bytes lie in cell s + 100, n of them -/
def StL (h : Hp) (s n : Nat) (b : Nat → Nat) : Prop := hK h s = 40 ∧ hK h (s + 100) = 27 ∧ hE h (s + 100) = n ∧ n < 100 ∧ (hK h (PRE + 60) = 50 ∨ hK h (PRE + 60) = 51) ∧ ∀ k, k < n → b k < 128 ∧ hI h (s + 100) k = nI (b k)
theorem isN_b0 : isN .byte 0 = true := by decide +kernel
theorem isN_c : ∀ c, c < 128 → isN .char (nI c) = true ∧ (Int32.toUInt32 (nI c &&& 255) % 65536).toInt32 = nI c := by decide +kernel
theorem str_len {h : Hp} {s n : Nat} {b : Nat → Nat} (S : StL h s n b) : FJ0_length_8abf5 [vR (some s)] h = some (rI (nI n), h) := by
  obtain ⟨S1, S2, S3, S4, S5, S6⟩ := S
  rw [tJ0_length_8abf5]
  simp only [oB_some, dR_some, cond_true, cond_false, if_true, if_false, Bool.true_and, Bool.and_true, Nat.beq_refl, S1, S2, S3, tJ0_coder_7d493, isN_b0, show ¬ ((1 : Int32) = 0) by decide, show Int32.ofNat n = nI n from rfl, sc_shr0 (show n < 2 ^ 31 by omega)]
theorem str_at {h : Hp} {s n k : Nat} {b : Nat → Nat} (S : StL h s n b) (hk : k < n) : FJ0_charAt_5068e [vR (some s), vI (nI k)] h = some (rI (nI (b k)), h) := by
  obtain ⟨S1, S2, S3, S4, S5, S6⟩ := S
  obtain ⟨b1, b2⟩ := S6 k hk
  obtain ⟨c1, c2⟩ := isN_c (b k) b1
  have e1 : ¬ nI k < 0 := nI_pos (by omega)
  have e2 := nI_nlt' (a := k) (b := n) (by omega) (by omega)
  have e3 : inb (nI k) n = true := inb_nI hk (by omega)
  have e4 : (nI k).toNatClampNeg = k := nI_clamp (by omega)
  have hci : FJ0_checkIndex_df160 [vI (nI k), vI (nI n)] h = some (rV, h) := by
    rw [tJ0_checkIndex_df160]
    rcases S5 with z | z
    · simp only [oB_some, dR_some, cond_true, cond_false, if_true, if_false, Bool.true_and, Bool.and_true, Nat.beq_refl, z, tJ3_checkIndex_8e157, e1, e2, hk]
    · simp only [oB_some, dR_some, cond_true, cond_false, if_true, if_false, Bool.true_and, Bool.and_true, Nat.beq_refl, z, show Nat.beq 51 50 = false from rfl, tJ3_checkIndex_8e157, e1, e2, hk]
  rw [tJ0_charAt_5068e]
  simp only [oB_some, dR_some, cond_true, cond_false, if_true, if_false, Bool.true_and, Bool.and_true, Nat.beq_refl, S1, S2, S3, tJ0_isLatin1_aae02, isZ1, show ¬ ((1 : Int32) = 0) by decide, tJ1_charAt_3b067, show Int32.ofNat n = nI n from rfl, hci, e3, e4, b2, c1, c2]
theorem among_go {h : Hp} {s n i : Nat} {b : Nat → Nat} {x : Int32} (S : StL h s n b) (hi : i < n) : Run kX12_isAmong 2 [some (vR (some s)), some (vI x), some (vI (nI i))] [] h = if x = nI (b i) then some (rI 1, h) else Run kX12_isAmong 2 [some (vR (some s)), some (vI x), some (vI (nI (i + 1)))] [] h := by
  have hn := S.2.2.2.1
  have e1 := nI_nle' (a := n) (b := i) (by omega) (by omega)
  have q1 : ¬ n ≤ i := by omega
  have e5 : (nI (b i) = x) = (x = nI (b i)) := propext ⟨Eq.symm, Eq.symm⟩
  rw [tX12_isAmong_2]
  simp only [oB_some, dR_some, cond_true, cond_false, if_true, if_false, Bool.true_and, Bool.and_true, Nat.beq_refl, S.1, str_len S, str_at S hi, e1, q1, isZ1, e5, nI_1]
theorem among_end {h : Hp} {s n : Nat} {b : Nat → Nat} {x : Int32} (S : StL h s n b) : Run kX12_isAmong 2 [some (vR (some s)), some (vI x), some (vI (nI n))] [] h = some (rI 0, h) := by
  have hn := S.2.2.2.1
  have e1 : nI n ≤ nI n := nI_le (Nat.le_refl _) (by omega)
  rw [tX12_isAmong_2]
  simp only [oB_some, dR_some, cond_true, cond_false, if_true, if_false, Bool.true_and, Bool.and_true, Nat.beq_refl, S.1, str_len S, e1, isZ0]
theorem spot_go {h : Hp} {s n i : Nat} {b : Nat → Nat} {x : Int32} (S : StL h s n b) (hi : i < n) : Run kX12_spotOf 2 [some (vR (some s)), some (vI x), some (vI (nI i))] [] h = if x = nI (b i) then some (rI (nI i), h) else Run kX12_spotOf 2 [some (vR (some s)), some (vI x), some (vI (nI (i + 1)))] [] h := by
  have hn := S.2.2.2.1
  have e1 := nI_nle' (a := n) (b := i) (by omega) (by omega)
  have q1 : ¬ n ≤ i := by omega
  have e5 : (nI (b i) = x) = (x = nI (b i)) := propext ⟨Eq.symm, Eq.symm⟩
  rw [tX12_spotOf_2]
  simp only [oB_some, dR_some, cond_true, cond_false, if_true, if_false, Bool.true_and, Bool.and_true, Nat.beq_refl, S.1, str_len S, str_at S hi, e1, q1, e5, nI_1]
theorem spot_end {h : Hp} {s n : Nat} {b : Nat → Nat} {x : Int32} (S : StL h s n b) : Run kX12_spotOf 2 [some (vR (some s)), some (vI x), some (vI (nI n))] [] h = some (rI (-1), h) := by
  have hn := S.2.2.2.1
  have e1 : nI n ≤ nI n := nI_le (Nat.le_refl _) (by omega)
  rw [tX12_spotOf_2]
  simp only [oB_some, dR_some, cond_true, cond_false, if_true, if_false, Bool.true_and, Bool.and_true, Nat.beq_refl, S.1, str_len S, e1]
def bT (l : List Nat) (k : Nat) : Nat := l.getD k 0
theorem among6 {h : Hp} (S : StL h (PRE + 11) 6 (bT [119, 116, 107, 110, 121, 109])) (x : Int32) : FX12_isAmong [vR (some (PRE + 11)), vI x] h = some (rI (if lt6 x = -1 then 0 else 1), h) := by
  rw [tX12_isAmong, show (0 : Int32) = nI 0 from rfl, among_go S (by omega), among_go S (by omega), among_go S (by omega), among_go S (by omega), among_go S (by omega), among_go S (by omega)]
  rw [show (5 + 1 : Nat) = 6 from rfl, among_end S]
  unfold lt6
  by_cases q0 : x = 119
  · subst q0; rfl
  by_cases q1 : x = 116
  · subst q1; rfl
  by_cases q2 : x = 107
  · subst q2; rfl
  by_cases q3 : x = 110
  · subst q3; rfl
  by_cases q4 : x = 121
  · subst q4; rfl
  by_cases q5 : x = 109
  · subst q5; rfl
  have n0 : ¬ x = nI (bT [119, 116, 107, 110, 121, 109] 0) := q0
  have n1 : ¬ x = nI (bT [119, 116, 107, 110, 121, 109] (0 + 1)) := q1
  have n2 : ¬ x = nI (bT [119, 116, 107, 110, 121, 109] (0 + 1 + 1)) := q2
  have n3 : ¬ x = nI (bT [119, 116, 107, 110, 121, 109] (0 + 1 + 1 + 1)) := q3
  have n4 : ¬ x = nI (bT [119, 116, 107, 110, 121, 109] (0 + 1 + 1 + 1 + 1)) := q4
  have n5 : ¬ x = nI (bT [119, 116, 107, 110, 121, 109] 5) := q5
  simp only [q0, q1, q2, q3, q4, q5, if_false, if_true]
  rw [if_neg n0, if_neg n1, if_neg n2, if_neg n3, if_neg n4, if_neg n5]
  rfl
def MS (h : Hp) (x : Int32) (p : Nat) (w : Int32) : Hp := mw (sI h 147 12 x) p w
theorem MS_K (h : Hp) (x : Int32) (p : Nat) (w : Int32) (a : Nat) : hK (MS h x p w) a = hK h a := rfl
theorem MS_E (h : Hp) (x : Int32) (p : Nat) (w : Int32) (a : Nat) : hE (MS h x p w) a = hE h a := rfl
theorem MS_R (h : Hp) (x : Int32) (p : Nat) (w : Int32) (a k : Nat) : hR (MS h x p w) a k = hR h a k := rfl
theorem MS_o (h : Hp) (x : Int32) (p : Nat) (w : Int32) {a : Nat} (ha : a ≠ 147) : hI (MS h x p w) a = hI h a := by
  unfold MS; rw [mw_row _ _ _ ha, hI_row _ _ _ _ ha]
theorem MS_12 (h : Hp) (x : Int32) (p : Nat) (w : Int32) : hI (MS h x p w) 147 12 = x := by
  unfold MS; rw [mw_sl _ _ _ (by decide) (by decide), hI_same]
theorem MS_10 (h : Hp) (x : Int32) (p : Nat) (w : Int32) : hI (MS h x p w) 147 10 = nI p := mw_at _ _ _
theorem MS_11 (h : Hp) (x : Int32) (p : Nat) (w : Int32) : hI (MS h x p w) 147 11 = w := mw_wr _ _ _
theorem MS_s (h : Hp) (x : Int32) (p : Nat) (w : Int32) {k : Nat} (h1 : k ≠ 10) (h2 : k ≠ 11) (h3 : k ≠ 12) : hI (MS h x p w) 147 k = hI h 147 k := by
  unfold MS; rw [mw_sl _ _ _ h1 h2, hI_slot _ _ _ _ h3]
theorem MS_p (h : Hp) (x : Int32) (p q : Nat) (w : Int32) : sI (MS h x p w) 147 10 (nI q) = MS h x q w := mw_pat _ _ _ _
theorem MS_d (h : Hp) (x y : Int32) (p : Nat) (w : Int32) : sI (MS h x p w) 147 12 y = MS h y p w := by
  unfold MS; rw [mw_sI _ _ _ _ (Or.inr ⟨by decide, by decide⟩), sI_sI]
theorem MB.ms {h : Hp} {T B n : Nat} (M : MB h T B n) (x : Int32) : MB (sI h 147 12 x) T B n := by
  obtain ⟨⟨M1, M2, M3, M4, M5, M6, M7, M8⟩, hby⟩ := M
  refine ⟨⟨M1, M2, M3, M4, M5, ?_, ?_, M8⟩, fun i hi => ?_⟩
  · rw [hI_slot _ _ _ _ (by decide)]; exact M6
  · rw [hI_slot _ _ _ _ (by decide)]; exact M7
  · rw [hI_row _ _ _ _ M8]; exact hby i hi
theorem mt_d (h : Hp) {T : Nat} (B : Nat) (x : Int32) (hT : T ≠ 147) : mt (sI h 147 12 x) T B = mt h T B := by
  unfold mt; rw [hI_row _ _ _ _ hT]
/-- the text that both read -/
def TX (h : Hp) (T B n : Nat) (t : Nat → Int32) : Prop := MB h T B n ∧ ∀ i, i < n → mt h T B i = t i
theorem ms_look {h : Hp} {T B n p : Nat} {t : Nat → Int32} {x w : Int32} (M : TX h T B n t) (hp : p ≤ n) : FX12_look [vR (some 147)] (MS h x p w) = some (rI (chT t n (sk t n p)), MS h x (sk t n p) w) := by
  have := md_look (w := w) (M.1.ms x) hp
  rw [mt_d h B x M.1.1.2.2.2.2.2.2.2, sk_congr M.2, chT_congr M.2] at this
  exact this
theorem ms_fails {h : Hp} {p : Nat} {x w : Int32} (hK147 : hK h 147 = 12) : FX12_fails [vR (some 147)] (MS h x p w) = some (rI 0, MS h x p (if w = -1 then nI p else w)) := md_fails (h := sI h 147 12 x) hK147
theorem ms_takes {h : Hp} {T B n p : Nat} {t : Nat → Int32} {x w s : Int32} (M : TX h T B n t) (hp : p ≤ n) : FX12_takes [vR (some 147), vI s] (MS h x p w) = if w = -1 then (if chT t n (sk t n p) = s then some (rI 1, MS h x (sk t n p + 1) (-1)) else some (rI 0, MS h x (sk t n p) (nI (sk t n p)))) else some (rI 0, MS h x p w) := by
  have := md_takes (w := w) (s := s) (M.1.ms x) hp
  rw [mt_d h B x M.1.1.2.2.2.2.2.2.2, sk_congr M.2, chT_congr M.2] at this
  exact this
theorem ms_isDigit {h : Hp} {T B n p : Nat} {t : Nat → Int32} {x w : Int32} (M : TX h T B n t) (hp : p ≤ n) : (dg (chT t n p) → FX12_isDigit [vR (some 147)] (MS h x p w) = some (rI 1, MS h x p w)) ∧ (¬ dg (chT t n p) → FX12_isDigit [vR (some 147)] (MS h x p w) = some (rI 0, MS h x p w)) := by
  have := md_isDigit (w := w) (M.1.ms x) hp
  rw [mt_d h B x M.1.1.2.2.2.2.2.2.2, chT_congr M.2] at this
  exact this
theorem ms_goesIn {h : Hp} {p d : Nat} {w : Int32} (hK147 : hK h 147 = 12) (hd : d ≤ 6) : FX12_goesIn [vR (some 147)] (MS h (nI d) p w) = if d < 6 then some (rI 1, MS h (nI (d + 1)) (p + 1) w) else some (rI 0, MS h (nI d) p (if w = -1 then nI p else w)) := by
  have e1 := nI_neq' (a := d) (b := 6) (by omega) (by omega)
  rw [tX12_goesIn]
  by_cases q : d < 6
  · have q1 : ¬ d = 6 := by omega
    simp only [oB_some, dR_some, cond_true, cond_false, if_true, if_false, Bool.true_and, Bool.and_true, Nat.beq_refl, hK_sI, MS_K, hK147, MS_12, show (6 : Int32) = nI 6 from rfl, e1, q1, nI_1, MS_d, MS_10, MS_p, isZ1, q]
  · have q1 : d = 6 := by omega
    simp only [oB_some, dR_some, cond_true, cond_false, if_true, if_false, Bool.true_and, Bool.and_true, Nat.beq_refl, hK_sI, MS_K, hK147, MS_12, show (6 : Int32) = nI 6 from rfl, e1, q1, ms_fails hK147, isZ0, show ¬ ((6 : Nat) < 6) by decide]
theorem issign_sp {h : Hp} (c : Int32) : FX12_isSign [vI c] h = some (rI (if cmp3 c = -1 then 0 else 1), h) := by
  rw [tX12_isSign]
  unfold cmp3
  by_cases q1 : c = 61
  · subst q1; rfl
  by_cases q0 : c = 60
  · subst q0; rfl
  by_cases q2 : c = 62
  · subst q2; rfl
  simp only [q0, q1, q2, if_false, if_true, isZ0, cond_true]
/-- what the reference keeps a number within -/
def wi (x : Int64) : Int32 := Int64.toInt32 (if (if x < (1000000) then x else (1000000)) < (-1000000) then (-1000000) else (if x < (1000000) then x else (1000000)))
theorem within_sp {h : Hp} (x : Int64) : FX12_within [vL x] h = some (rI (wi x), h) := tX12_within x h
