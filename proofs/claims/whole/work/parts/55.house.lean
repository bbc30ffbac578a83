/-! ===== PURE: items, whole, by both readers; a clause of a house ===== -/
theorem ci_fill {h : Hp} {a m I K N p : Nat} {f : Nat → Int32} {w : Int32} (C : IC h I K a N m) : FX0_fillUsual [vR (some a), vI (nI m), vR (some I)] (tw (wA h a f) p w) = some (rV, tw (wA h a (fil (fun j => hI h I (4 * j + 3)) m K 0 f)) p w) := by
  obtain ⟨c1, c2, c3, c4, c5, c6, c7, c8, c9, c10⟩ := C
  have := fill_sp (h := tw h p w) (f := f) (m := m) c1 c2 (show K ≤ 7 by omega) c3 c4 (Ne.symm c5) c6 c7
  rw [tw_wA _ _ _ _ (by omega), tw_wA _ _ _ _ (by omega), tw_row _ _ _ (by omega)] at this
  exact this
theorem im_fill {hm : Hp} {T B n S K o N m p : Nat} {t g : Nat → Int32} {b : Nat → Nat} {kd : Int32} (M : IM hm T B n t S K o N m kd g b) (hN : m + K ≤ N) (hN2 : N ≤ 100) (hp : p ≤ n) : ∀ k i r o6, i + k = K → Run kX12_readItems 3 [some (vR (some 147)), some (vI kd), some (vR (some o)), some (vI (nI m)), some (vR (some S)), some (vI (nI i)), o6] [] (mw (wA hm o r) p (-1)) = Run kX12_readItems 45 [some (vR (some 147)), some (vI kd), some (vR (some o)), some (vI (nI m)), some (vR (some S)), some (vI 0), some (vI (sp (fun j => g (4 * j)) (chT t n (sk t n p)) K 0))] [] (mw (wA hm o (fil (fun j => g (4 * j + 3)) m k i r)) (sk t n p) (-1)) := by
  have M' := M
  obtain ⟨m1, m2, m3, m4, ⟨m5, m6, m7, m8⟩, m9, m10, m11, m12, m13⟩ := M
  have M1 := m1.1.1.1
  have S1 := m2.1
  have sl : ∀ r p w, StL (mw (wA hm o r) p w) S K b := by
    intro r p w
    unfold StL
    rw [mw_row _ _ _ m8, wA_O _ _ m7]
    exact m2
  intro k
  induction k with
  | zero =>
    intro i r o6 hi
    have hi' : i = K := by omega
    subst hi'
    have e1 : nI i ≤ nI i := nI_le (Nat.le_refl _) (by omega)
    rw [tX12_readItems_3]
    simp only [oB_some, dR_some, cond_true, cond_false, if_true, if_false, Bool.true_and, Bool.and_true, Nat.beq_refl, mw_K, wA_K, S1, M1, str_len (sl _ _ _), e1, tx_look (m1.wA r m6 m5) hp, im_spot M']
    rfl
  | succ k ih =>
    intro i r o6 hi
    have e1 : ¬ nI K ≤ nI i := by rw [nI_nle' (by omega) (by omega)]; omega
    have e3 : nI m + nI i = nI (m + i) := nI_add _ _
    have b2 : inb (nI (m + i)) N = true := inb_nI (by omega) (by omega)
    have d2 : (nI (m + i)).toNatClampNeg = m + i := nI_clamp (by omega)
    rw [tX12_readItems_3]
    simp only [oB_some, dR_some, cond_true, cond_false, if_true, if_false, Bool.true_and, Bool.and_true, Nat.beq_refl, mw_K, mw_E, wA_K, wA_E, S1, M1, str_len (sl _ _ _), e1, m11 i (show i < K by omega), m3, m4, e3, b2, d2, im_w m5, nI_1, ih (i + 1) _ none (by omega)]
    rfl
theorem MK0 {K : Nat} (h : K = 7 ∨ K = 3) : MK K 0 0 := by
  rcases h with e | e <;> subst e
  · exact ⟨Or.inl ⟨rfl, by decide⟩, by decide⟩
  · exact ⟨Or.inr ⟨rfl, by decide⟩, by decide⟩
theorem it_both {h hm : Hp} {n T B a o m I K N S p : Nat} {kd : Int32} {b : Nat → Nat} {f r : Nat → Int32} (H : HT h n) (C : IC h I K a N m) (M : IM hm T B n (hI h 2) S K o N m kd (hI h I) b) (U : ∀ j, j < K → ¬ hI h I (4 * j + 3) < hI h I (4 * j + 1) ∧ hI h I (4 * j + 3) ≤ hI h I (4 * j + 2)) (hp : p ≤ n) (E : EqTo f r m) :
    IO h hm n a o m K (hI h I) f (FX0_readItems [vR (some 1), vR (some a), vI (nI m), vR (some I)] (tw (wA h a f) p (-1))) (FX12_readItems [vR (some 147), vI kd, vR (some o), vI (nI m), vR (some S)] (mw (wA hm o r) p (-1))) := by
  have c6 := C.2.2.2.2.2.1
  have c7 := C.2.2.2.2.2.2.1
  have c10 := C.2.2.2.2.2.2.2.2.2
  rw [tX0_readItems, ci_fill C, oB_some, tX12_readItems, show (0 : Int32) = nI 0 from rfl, im_fill M c6 c7 hp K 0 r none (by omega)]
  refine it_loop H C M K 0 0 _ _ p none (by omega) (MK0 c10) hp ?_ ?_ ?_
  · have := fil_eq (fun j => hI h I (4 * j + 3)) m K 0 f r E
    exact this
  · intro j hj
    rw [fil_in _ _ _ _ _ _ (by omega) (by omega)]
    exact U j hj
  · intro j hj
    exact fil_out _ _ _ _ _ _ (Or.inl (by omega))
/-- the same, of heaps as they stand -/
theorem it_go {h hm : Hp} {n T B a o m I K N S p : Nat} {kd : Int32} {b : Nat → Nat} (H : HT h n) (p1 : hI h 1 2 = nI p) (w1 : hI h 1 3 = -1) (p2 : hI hm 147 10 = nI p) (w2 : hI hm 147 11 = -1) (C : IC h I K a N m) (M : IM hm T B n (hI h 2) S K o N m kd (hI h I) b) (U : ∀ j, j < K → ¬ hI h I (4 * j + 3) < hI h I (4 * j + 1) ∧ hI h I (4 * j + 3) ≤ hI h I (4 * j + 2)) (hp : p ≤ n) (E : EqTo (hI h a) (hI hm o) m) :
    IO h hm n a o m K (hI h I) (hI h a) (FX0_readItems [vR (some 1), vR (some a), vI (nI m), vR (some I)] h) (FX12_readItems [vR (some 147), vI kd, vR (some o), vI (nI m), vR (some S)] hm) := by
  have := it_both H C M U hp E
  rw [wA_self, wA_self, tw_self p1 w1, mw_self p2 w2] at this
  exact this
def RIt : List Nat := [119, 0, 60, 30, 109, 1, 60, 40, 103, 0, 9, 3, 116, 1, 20, 8, 112, 0, 9, 3, 107, 0, 9, 2, 108, 1, 20, 10]
def DIt : List Nat := [110, 1, 60, 10, 118, 1, 99, 20, 105, 0, 9, 1]
def BIt : List Nat := [112, 0, 60, 20, 113, 0, 30, 8, 110, 1, 9, 3]
def SIt (h : Hp) : Prop := (hK h (PRE + 1) = 25 ∧ hE h (PRE + 1) = 28 ∧ ∀ k, k < 28 → hI h (PRE + 1) k = nI (bT RIt k)) ∧ (hK h (PRE + 2) = 25 ∧ hE h (PRE + 2) = 12 ∧ ∀ k, k < 12 → hI h (PRE + 2) k = nI (bT DIt k)) ∧ (hK h (PRE + 3) = 25 ∧ hE h (PRE + 3) = 12 ∧ ∀ k, k < 12 → hI h (PRE + 3) k = nI (bT BIt k))
def MIt (hm : Hp) : Prop := StL hm (PRE + 12) 7 (bT [119, 109, 103, 116, 112, 107, 108]) ∧ StL hm (PRE + 13) 3 (bT [110, 118, 105]) ∧ StL hm (PRE + 14) 3 (bT [112, 113, 110])
theorem lt7 {j : Nat} (h : j < 7) : j = 0 ∨ j = 1 ∨ j = 2 ∨ j = 3 ∨ j = 4 ∨ j = 5 ∨ j = 6 := by omega
theorem lt3 {j : Nat} (h : j < 3) : j = 0 ∨ j = 1 ∨ j = 2 := by omega
theorem us_s {j : Nat} (hj : j < 7) (h : Hp) : FX12_usual [vI 115, vI (nI j)] h = some (rI (nI (bT RIt (4 * j + 3))), h) ∧ FX12_leastOf [vI 115, vI (nI j)] h = some (rI (nI (bT RIt (4 * j + 1))), h) ∧ FX12_mostOf [vI 115, vI (nI j)] h = some (rI (nI (bT RIt (4 * j + 2))), h) := by
  rw [tX12_usual, tX12_leastOf, tX12_mostOf]
  rcases lt7 hj with e | e | e | e | e | e | e <;> subst e <;> exact ⟨rfl, rfl, rfl⟩
theorem us_d {j : Nat} (hj : j < 3) (h : Hp) : FX12_usual [vI 100, vI (nI j)] h = some (rI (nI (bT DIt (4 * j + 3))), h) ∧ FX12_leastOf [vI 100, vI (nI j)] h = some (rI (nI (bT DIt (4 * j + 1))), h) ∧ FX12_mostOf [vI 100, vI (nI j)] h = some (rI (nI (bT DIt (4 * j + 2))), h) := by
  rw [tX12_usual, tX12_leastOf, tX12_mostOf]
  rcases lt3 hj with e | e | e <;> subst e <;> exact ⟨rfl, rfl, rfl⟩
theorem us_b {j : Nat} (hj : j < 3) (h : Hp) : FX12_usual [vI 98, vI (nI j)] h = some (rI (nI (bT BIt (4 * j + 3))), h) ∧ FX12_leastOf [vI 98, vI (nI j)] h = some (rI (nI (bT BIt (4 * j + 1))), h) ∧ FX12_mostOf [vI 98, vI (nI j)] h = some (rI (nI (bT BIt (4 * j + 2))), h) := by
  rw [tX12_usual, tX12_leastOf, tX12_mostOf]
  rcases lt3 hj with e | e | e <;> subst e <;> exact ⟨rfl, rfl, rfl⟩
theorem rit_ok : ∀ j, j < 7 → nI (bT [119, 109, 103, 116, 112, 107, 108] j) = nI (bT RIt (4 * j)) ∧ nI (bT RIt (4 * j)) ≠ 59 ∧ nI (bT RIt (4 * j)) ≠ -1 ∧ ¬ nI (bT RIt (4 * j + 3)) < nI (bT RIt (4 * j + 1)) ∧ nI (bT RIt (4 * j + 3)) ≤ nI (bT RIt (4 * j + 2)) := by decide +kernel
theorem dit_ok : ∀ j, j < 3 → nI (bT [110, 118, 105] j) = nI (bT DIt (4 * j)) ∧ nI (bT DIt (4 * j)) ≠ 59 ∧ nI (bT DIt (4 * j)) ≠ -1 ∧ ¬ nI (bT DIt (4 * j + 3)) < nI (bT DIt (4 * j + 1)) ∧ nI (bT DIt (4 * j + 3)) ≤ nI (bT DIt (4 * j + 2)) := by decide +kernel
theorem bit_ok : ∀ j, j < 3 → nI (bT [112, 113, 110] j) = nI (bT BIt (4 * j)) ∧ nI (bT BIt (4 * j)) ≠ 59 ∧ nI (bT BIt (4 * j)) ≠ -1 ∧ ¬ nI (bT BIt (4 * j + 3)) < nI (bT BIt (4 * j + 1)) ∧ nI (bT BIt (4 * j + 3)) ≤ nI (bT BIt (4 * j + 2)) := by decide +kernel
/-- the house as it stands in memory -/
def HL (h : Hp) (s : Nat) : Prop := hK h s = 0 ∧ hR h s 2 = some (s + 1) ∧ hR h s 3 = some (s + 2) ∧ hR h s 4 = some (s + 3) ∧ (hK h (s + 1) = 20 ∧ hE h (s + 1) = 7) ∧ (hK h (s + 2) = 20 ∧ hE h (s + 2) = 18) ∧ (hK h (s + 3) = 20 ∧ hE h (s + 3) = 15) ∧ 2 < s ∧ s < 1000
def ML (h : Hp) : Prop := hK h 147 = 12 ∧ hR h 147 19 = some 153 ∧ hR h 147 21 = some 155 ∧ hR h 147 23 = some 157 ∧ (hK h 153 = 20 ∧ hE h 153 = 7) ∧ (hK h 155 = 20 ∧ hE h 155 = 18) ∧ (hK h 157 = 20 ∧ hE h 157 = 15)
theorem PRE_big : PRE = 1000000 := rfl
theorem ic_s {h : Hp} {s : Nat} (L : HL h s) (S : SIt h) : IC h (PRE + 1) 7 (s + 1) 7 0 := by
  obtain ⟨_, _, _, _, l1, l2, l3, b1, b2⟩ := L
  exact ⟨S.1.1, S.1.2.1, l1.1, l1.2, by rw [PRE_big]; omega, by omega, by omega, by omega, by rw [PRE_big]; omega, Or.inl rfl⟩
theorem ic_d {h : Hp} {s d : Nat} (L : HL h s) (S : SIt h) (hd : d < 6) : IC h (PRE + 2) 3 (s + 2) 18 (3 * d) := by
  obtain ⟨_, _, _, _, l1, l2, l3, b1, b2⟩ := L
  exact ⟨S.2.1.1, S.2.1.2.1, l2.1, l2.2, by rw [PRE_big]; omega, by omega, by omega, by omega, by rw [PRE_big]; omega, Or.inr rfl⟩
theorem ic_b {h : Hp} {s d : Nat} (L : HL h s) (S : SIt h) (hd : d < 5) : IC h (PRE + 3) 3 (s + 3) 15 (3 * d) := by
  obtain ⟨_, _, _, _, l1, l2, l3, b1, b2⟩ := L
  exact ⟨S.2.2.1, S.2.2.2.1, l3.1, l3.2, by rw [PRE_big]; omega, by omega, by omega, by omega, by rw [PRE_big]; omega, Or.inr rfl⟩
theorem im_s {h hm : Hp} {T B n : Nat} {t : Nat → Int32} (X : TX hm T B n t) (L : ML hm) (S : SIt h) (Z : MIt hm) (hT : T ≠ 153) : IM hm T B n t (PRE + 12) 7 153 7 0 115 (hI h (PRE + 1)) (bT [119, 109, 103, 116, 112, 107, 108]) := by
  obtain ⟨_, _, _, _, l1, l2, l3⟩ := L
  refine ⟨X, Z.1, l1.1, l1.2, ⟨by decide, hT, by decide, by decide⟩, fun j hj => ?_, fun j hj => ?_, fun j hj h' => ?_, fun j hj h' => ?_, fun j hj h' => ?_⟩
  · rw [S.1.2.2 _ (by omega)]; exact (rit_ok j hj).1
  · rw [S.1.2.2 _ (by omega)]; exact ⟨(rit_ok j hj).2.1, (rit_ok j hj).2.2.1⟩
  · rw [S.1.2.2 _ (by omega)]; exact (us_s hj h').1
  · rw [S.1.2.2 _ (by omega)]; exact (us_s hj h').2.1
  · rw [S.1.2.2 _ (by omega)]; exact (us_s hj h').2.2
theorem im_d {h hm : Hp} {T B n d : Nat} {t : Nat → Int32} (X : TX hm T B n t) (L : ML hm) (S : SIt h) (Z : MIt hm) (hT : T ≠ 155) : IM hm T B n t (PRE + 13) 3 155 18 (3 * d) 100 (hI h (PRE + 2)) (bT [110, 118, 105]) := by
  obtain ⟨_, _, _, _, l1, l2, l3⟩ := L
  refine ⟨X, Z.2.1, l2.1, l2.2, ⟨by decide, hT, by decide, by decide⟩, fun j hj => ?_, fun j hj => ?_, fun j hj h' => ?_, fun j hj h' => ?_, fun j hj h' => ?_⟩
  · rw [S.2.1.2.2 _ (by omega)]; exact (dit_ok j hj).1
  · rw [S.2.1.2.2 _ (by omega)]; exact ⟨(dit_ok j hj).2.1, (dit_ok j hj).2.2.1⟩
  · rw [S.2.1.2.2 _ (by omega)]; exact (us_d hj h').1
  · rw [S.2.1.2.2 _ (by omega)]; exact (us_d hj h').2.1
  · rw [S.2.1.2.2 _ (by omega)]; exact (us_d hj h').2.2
theorem im_b {h hm : Hp} {T B n d : Nat} {t : Nat → Int32} (X : TX hm T B n t) (L : ML hm) (S : SIt h) (Z : MIt hm) (hT : T ≠ 157) : IM hm T B n t (PRE + 14) 3 157 15 (3 * d) 98 (hI h (PRE + 3)) (bT [112, 113, 110]) := by
  obtain ⟨_, _, _, _, l1, l2, l3⟩ := L
  refine ⟨X, Z.2.2, l3.1, l3.2, ⟨by decide, hT, by decide, by decide⟩, fun j hj => ?_, fun j hj => ?_, fun j hj h' => ?_, fun j hj h' => ?_, fun j hj h' => ?_⟩
  · rw [S.2.2.2.2 _ (by omega)]; exact (bit_ok j hj).1
  · rw [S.2.2.2.2 _ (by omega)]; exact ⟨(bit_ok j hj).2.1, (bit_ok j hj).2.2.1⟩
  · rw [S.2.2.2.2 _ (by omega)]; exact (us_b hj h').1
  · rw [S.2.2.2.2 _ (by omega)]; exact (us_b hj h').2.1
  · rw [S.2.2.2.2 _ (by omega)]; exact (us_b hj h').2.2
theorem un_s {h : Hp} (S : SIt h) : ∀ j, j < 7 → ¬ hI h (PRE + 1) (4 * j + 3) < hI h (PRE + 1) (4 * j + 1) ∧ hI h (PRE + 1) (4 * j + 3) ≤ hI h (PRE + 1) (4 * j + 2) := by
  intro j hj
  rw [S.1.2.2 _ (by omega), S.1.2.2 _ (by omega), S.1.2.2 _ (by omega)]
  exact (rit_ok j hj).2.2.2
theorem un_d {h : Hp} (S : SIt h) : ∀ j, j < 3 → ¬ hI h (PRE + 2) (4 * j + 3) < hI h (PRE + 2) (4 * j + 1) ∧ hI h (PRE + 2) (4 * j + 3) ≤ hI h (PRE + 2) (4 * j + 2) := by
  intro j hj
  rw [S.2.1.2.2 _ (by omega), S.2.1.2.2 _ (by omega), S.2.1.2.2 _ (by omega)]
  exact (dit_ok j hj).2.2.2
theorem un_b {h : Hp} (S : SIt h) : ∀ j, j < 3 → ¬ hI h (PRE + 3) (4 * j + 3) < hI h (PRE + 3) (4 * j + 1) ∧ hI h (PRE + 3) (4 * j + 3) ≤ hI h (PRE + 3) (4 * j + 2) := by
  intro j hj
  rw [S.2.2.2.2 _ (by omega), S.2.2.2.2 _ (by omega), S.2.2.2.2 _ (by omega)]
  exact (bit_ok j hj).2.2.2
