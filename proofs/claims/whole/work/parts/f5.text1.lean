/-! ===== PURE: text of a law, what both do ===== -/
theorem nIx {s : Nat} (h : s < 1000) : (decide (nI s < 0) || decide (1000000 < (nI s).toNatClampNeg)) = false := by
  rw [decide_eq_false (nI_pos (by omega)), nI_clamp (by omega), decide_eq_false (by omega)]; rfl
theorem nIy {s : Nat} (h : s < 1000) : (decide (nI s < 0) || decide (1000000 < s)) = false := by
  rw [decide_eq_false (nI_pos (by omega)), decide_eq_false (by omega)]; rfl
theorem makeLaw_c {h : Hp} {N s : Nat} (eN : hN h = N) (hn : 172 < N) (W : LwL h) (e2 : hI h 135 2 = nI s) (s0 : s < 240) : FX2_makeLaw [vR (some 135)] h = some (rR (some N), sR (cpI (nw (nw h 1 0 (nF 1)) 20 s s) 136 (N + 1) 0 0 s) N 0 (some (N + 1))) := by
  obtain ⟨W1, W2, W3, W4, W5⟩ := W
  have l1 : (nI s).toNatClampNeg = s := nI_clamp (by omega)
  have a1 : hK (nw h 1 0 (nF 1)) 135 = 2 := by rw [hK_nw, if_neg (by omega)]; exact W1
  have a2 : hR (nw h 1 0 (nF 1)) 135 1 = some 136 := by rw [hR_nw, if_neg (by omega)]; exact W3
  have a3 : hI (nw h 1 0 (nF 1)) 135 2 = nI s := by rw [hI_nw, if_neg (by omega)]; exact e2
  have a4 : hK (nw h 1 0 (nF 1)) 136 = 20 := by rw [hK_nw, if_neg (by omega)]; exact W4
  have a5 : hE (nw h 1 0 (nF 1)) 136 = 240 := by rw [hE_nw, if_neg (by omega)]; exact W5
  have a6 : hN (nw h 1 0 (nF 1)) = N + 1 := by rw [hN_nw, eN]
  have a7 : hK (nw h 1 0 (nF 1)) N = 1 := by rw [hK_nw, if_pos eN.symm]
  rw [tX2_makeLaw, eN]
  generalize nw h 1 0 (nF 1) = g at *
  have b1 : hK (nw g 20 s s) 136 = 20 := by rw [hK_nw, if_neg (by omega)]; exact a4
  have b2 : hE (nw g 20 s s) 136 = 240 := by rw [hE_nw, if_neg (by omega)]; exact a5
  have b3 : hK (nw g 20 s s) (N + 1) = 20 := by rw [hK_nw, if_pos a6.symm]
  have b4 : hE (nw g 20 s s) (N + 1) = s := by rw [hE_nw, if_pos a6.symm]
  have b5 : hK (nw g 20 s s) N = 1 := by rw [hK_nw, if_neg (by omega)]; exact a7
  have c1 : ¬ nI s = Int32.ofNat 240 := by show ¬ nI s = nI 240; rw [nI_neq' (by omega) (by omega)]; omega
  have c2 : nI s < Int32.ofNat 240 := by show nI s < nI 240; rw [nI_nlt' (by omega) (by omega)]; omega
  have c3 : cpOK 0 0 (nI s) 240 s = true := by
    unfold cpOK
    rw [l1, tc0, decide_eq_false (nI_pos (by omega)), decide_eq_true (show 0 + s ≤ 240 by omega), decide_eq_true (show 0 + s ≤ s by omega)]
    decide
  have cp : FJ7_copyOf_59c91 [vR (some 136), vI (nI s)] g = some (rR (some (N + 1)), cpI (nw g 20 s s) 136 (N + 1) 0 0 s) := by
    rw [tJ7_copyOf_59c91]
    simp only [oB_some, dR_some, cond_true, cond_false, if_true, if_false, Bool.true_and, Bool.and_true, Nat.beq_refl, a4, a5, alK20, c1, nIy (show s < 1000 by omega), l1, b1, b2, a6, b3, b4, c2, c3, tc0]
  have k3 : hK (cpI (nw g 20 s s) 136 (N + 1) 0 0 s) N = 1 := b5
  simp only [oB_some, dR_some, cond_true, cond_false, if_true, if_false, Bool.true_and, Bool.and_true, Nat.beq_refl, a1, a2, a3, cp, k3, tX1_init]
/-- the law that is new, and what the class leaves -/
def TL (h : Hp) (N s nL : Nat) : Hp := sI (sI (sR (sR (cpI (nw (nw h 1 0 (nF 1)) 20 s s) 136 (N + 1) 0 0 s) N 0 (some (N + 1))) 137 nL (some N)) 0 14 (nI (nL + 1))) 1 1 0
theorem TL_K {h : Hp} {N s nL a : Nat} (eN : hN h = N) (ha : a ≠ N) (hb : a ≠ N + 1) : hK (TL h N s nL) a = hK h a ∧ hE (TL h N s nL) a = hE h a := by
  constructor
  · show hK (nw (nw h 1 0 (nF 1)) 20 s s) a = hK h a
    rw [hK_nw, hN_nw, eN, if_neg hb, hK_nw, eN, if_neg ha]
  · show hE (nw (nw h 1 0 (nF 1)) 20 s s) a = hE h a
    rw [hE_nw, hN_nw, eN, if_neg hb, hE_nw, eN, if_neg ha]
theorem TL_R {h : Hp} {N s nL a k : Nat} (eN : hN h = N) (ha : a ≠ N) (hb : a ≠ N + 1) (hc : a ≠ 137 ∨ k ≠ nL) : hR (TL h N s nL) a k = hR h a k := by
  show hR (sR (sR (cpI (nw (nw h 1 0 (nF 1)) 20 s s) 136 (N + 1) 0 0 s) N 0 (some (N + 1))) 137 nL (some N)) a k = hR h a k
  rw [hR_sR]
  have z : hR (sR (cpI (nw (nw h 1 0 (nF 1)) 20 s s) 136 (N + 1) 0 0 s) N 0 (some (N + 1))) a k = hR h a k := by
    rw [hR_sR, if_neg ha, hR_cpI, hR_nw, hN_nw, eN, if_neg hb, hR_nw, eN, if_neg ha]
  by_cases c : a = 137
  · rw [if_pos c, if_neg (by omega), z]
  · rw [if_neg c, z]
theorem TL_I {h : Hp} {N s nL a k : Nat} (eN : hN h = N) (ha : a ≠ N) (hb : a ≠ N + 1) (hc : a ≠ 0 ∨ k ≠ 14) (hd : a ≠ 1 ∨ k ≠ 1) : hI (TL h N s nL) a k = hI h a k := by
  unfold TL
  rw [hI_sI]
  have z : hI (sI (sR (sR (cpI (nw (nw h 1 0 (nF 1)) 20 s s) 136 (N + 1) 0 0 s) N 0 (some (N + 1))) 137 nL (some N)) 0 14 (nI (nL + 1))) a k = hI h a k := by
    rw [hI_sI]
    have y : hI (sR (sR (cpI (nw (nw h 1 0 (nF 1)) 20 s s) 136 (N + 1) 0 0 s) N 0 (some (N + 1))) 137 nL (some N)) a k = hI h a k := by
      rw [hI_sR, hI_sR, hI_cpI, if_neg hb, hI_nw, hN_nw, eN, if_neg hb, hI_nw, eN, if_neg ha]
    by_cases c : a = 0
    · rw [if_pos c, if_neg (by omega), y]
    · rw [if_neg c, y]
  by_cases c : a = 1
  · rw [if_pos c, if_neg (by omega), z]
  · rw [if_neg c, z]
theorem TL_L {h : Hp} {N s nL a k : Nat} (eN : hN h = N) (ha : a ≠ N) (hb : a ≠ N + 1) : hL (TL h N s nL) a k = hL h a k := by
  show hL (nw (nw h 1 0 (nF 1)) 20 s s) a k = hL h a k
  rw [hL_nw, hN_nw, eN, if_neg hb, hL_nw, eN, if_neg ha]
/-- the new law as it stands -/
theorem TL_new {h : Hp} {N s nL : Nat} (eN : hN h = N) (hn : 172 < N) : hK (TL h N s nL) N = 1 ∧ hR (TL h N s nL) N 0 = some (N + 1) ∧ hK (TL h N s nL) (N + 1) = 20 ∧ hE (TL h N s nL) (N + 1) = s ∧ hR (TL h N s nL) 137 nL = some N ∧ (∀ q, q < s → hI (TL h N s nL) (N + 1) q = hI h 136 q) ∧ hI (TL h N s nL) 0 14 = nI (nL + 1) ∧ hI (TL h N s nL) 1 1 = nI 0 ∧ hN (TL h N s nL) = N + 2 ∧ hS (TL h N s nL) = hS h + 1 + s := by
  refine ⟨?_, ?_, ?_, ?_, ?_, fun q hq => ?_, ?_, ?_, ?_, ?_⟩
  · show hK (nw (nw h 1 0 (nF 1)) 20 s s) N = 1
    rw [hK_nw, hN_nw, eN, if_neg (by omega), hK_nw, if_pos eN.symm]
  · show hR (sR (sR (cpI (nw (nw h 1 0 (nF 1)) 20 s s) 136 (N + 1) 0 0 s) N 0 (some (N + 1))) 137 nL (some N)) N 0 = some (N + 1)
    rw [hR_sR, if_neg (by omega), hR_sR, if_pos rfl, if_pos rfl]
  · show hK (nw (nw h 1 0 (nF 1)) 20 s s) (N + 1) = 20
    rw [hK_nw, hN_nw, eN, if_pos rfl]
  · show hE (nw (nw h 1 0 (nF 1)) 20 s s) (N + 1) = s
    rw [hE_nw, hN_nw, eN, if_pos rfl]
  · show hR (sR (sR (cpI (nw (nw h 1 0 (nF 1)) 20 s s) 136 (N + 1) 0 0 s) N 0 (some (N + 1))) 137 nL (some N)) 137 nL = some N
    rw [hR_sR, if_pos rfl, if_pos rfl]
  · unfold TL
    rw [hI_oth _ _ _ _ _ (by omega), hI_oth _ _ _ _ _ (by omega), hI_sR, hI_sR, hI_cpI, if_pos rfl, if_pos ⟨by omega, by omega⟩, hI_nw, hN_nw, eN, if_neg (by omega), hI_nw, eN, if_neg (by omega)]
    congr 1; omega
  · unfold TL
    rw [hI_oth _ _ _ _ _ (by decide), hI_same]
  · unfold TL
    rw [hI_same]; rfl
  · show hN h + 1 + 1 = N + 2
    rw [eN]
  · rfl
theorem text_c1 {h : Hp} {N s nL p' : Nat} {c : Nat → Int32} (eN : hN h = N) (hn : 172 < N) (K0 : hK h 0 = 11) (R00 : hR h 0 0 = some 1) (K1 : hK h 1 = 9) (R12 : hR h 0 12 = some 135) (A : hR h 0 13 = some 137 ∧ hK h 137 = 31 ∧ hE h 137 = 4) (W : LwL h) (e14 : hI h 0 14 = nI nL) (hL4 : nL < 4) (s0 : s < 240) (e : FX2_readLaw [vR (some 135)] h = some (rI (-1), CS h s c p' (-1))) : FX11_text [vR (some 0), vI 1] h = some (rI (nI nL), TL (CS h s c p' (-1)) N s nL) := by
  obtain ⟨A1, A2, A3⟩ := A
  have F := cs_fr h s c p' (-1)
  have kK : ∀ a, hK (CS h s c p' (-1)) a = hK h a := fun a => by rw [F.2.2.1]
  have kE : ∀ a, hE (CS h s c p' (-1)) a = hE h a := fun a => by rw [F.2.2.2.1]
  have kR : ∀ a k, hR (CS h s c p' (-1)) a k = hR h a k := fun a k => rfl
  have k14 : hI (CS h s c p' (-1)) 0 14 = nI nL := (F.2.2.2.2.2.1 _ _ (by unfold rlP; omega)).trans e14
  have W' : LwL (CS h s c p' (-1)) := W
  have m := makeLaw_c (h := CS h s c p' (-1)) (N := N) (s := s) (by rw [F.1]; exact eN) hn W' (CS_sz h s c p' (-1)) s0
  have c4 : ¬ Int32.ofNat 4 ≤ nI nL := by show ¬ nI 4 ≤ nI nL; rw [nI_nle' (by omega) (by omega)]; omega
  have b2 : inb (nI nL) 4 = true := inb_nI (by omega) (by omega)
  have l2 : (nI nL).toNatClampNeg = nL := nI_clamp (by omega)
  have eN' : hN (CS h s c p' (-1)) = N := by rw [F.1]; exact eN
  generalize eg : sR (cpI (nw (nw (CS h s c p' (-1)) 1 0 (nF 1)) 20 s s) 136 (N + 1) 0 0 s) N 0 (some (N + 1)) = g at m
  have gK : ∀ a, a ≠ N → a ≠ N + 1 → hK g a = hK h a := fun a z1 z2 => by
    rw [← eg]
    show hK (nw (nw (CS h s c p' (-1)) 1 0 (nF 1)) 20 s s) a = hK h a
    rw [hK_nw, hN_nw, eN', if_neg z2, hK_nw, eN', if_neg z1, kK]
  have gE : ∀ a, a ≠ N → a ≠ N + 1 → hE g a = hE h a := fun a z1 z2 => by
    rw [← eg]
    show hE (nw (nw (CS h s c p' (-1)) 1 0 (nF 1)) 20 s s) a = hE h a
    rw [hE_nw, hN_nw, eN', if_neg z2, hE_nw, eN', if_neg z1, kE]
  have gN : hK g N = 1 := by
    rw [← eg]
    show hK (nw (nw (CS h s c p' (-1)) 1 0 (nF 1)) 20 s s) N = 1
    rw [hK_nw, hN_nw, eN', if_neg (by omega), hK_nw, if_pos eN'.symm]
  have gI : hI g 0 14 = nI nL := by
    rw [← eg, hI_sR, hI_cpI, if_neg (by omega), hI_nw, hN_nw, eN', if_neg (by omega), hI_nw, eN', if_neg (by omega)]
    exact k14
  have gR : hR g 0 0 = some 1 := by
    rw [← eg, hR_sR, if_neg (by omega), hR_cpI, hR_nw, hN_nw, eN', if_neg (by omega), hR_nw, eN', if_neg (by omega)]
    exact R00
  have e3 : nI (nL + 1) - 1 = nI nL := nI_p1 nL
  have t : FX11_tellLaw [vR (some 0)] h = some (rI (nI nL), TL (CS h s c p' (-1)) N s nL) := by
    unfold TL
    rw [eg, tX11_tellLaw]
    simp only [oB_some, dR_some, cond_true, cond_false, if_true, if_false, Bool.true_and, Bool.and_true, Nat.beq_refl, K0, A1, A2, A3, show alK 31 = true from rfl, e14, c4, R12, W.1, e, kK, kR, k14, m, gK 137 (by omega) (by omega), gE 137 (by omega) (by omega), gN, b2, l2, hK_sR, hK_sI, gK 0 (by omega) (by omega), gK 1 (by omega) (by omega), K1, hI_sR, gI, nI_1, hR_sI, hR_sR, show ¬ (0 : Nat) = 137 by decide, gR, hI_oth _ _ _ _ _ (show (0 : Nat) ≠ 1 by decide), hI_same, e3]
  rw [tX11_text]; simp only [oB_some, dR_some, cond_true, cond_false, if_true, if_false, Bool.true_and, Bool.and_true, Nat.beq_refl, K0, show ¬ (1 : Int32) = 0 by decide, t]
theorem text_c1f {h h1 : Hp} {w : Int32} {nL : Nat} (K0 : hK h 0 = 11) (R12 : hR h 0 12 = some 135) (A : hR h 0 13 = some 137 ∧ hK h 137 = 31 ∧ hE h 137 = 4) (W : LwL h) (e14 : hI h 0 14 = nI nL) (hL4 : nL < 4) (hw : w ≠ -1) (e : FX2_readLaw [vR (some 135)] h = some (rI w, h1)) : FX11_text [vR (some 0), vI 1] h = some (rI (-1), h1) := by
  obtain ⟨A1, A2, A3⟩ := A
  have c4 : ¬ Int32.ofNat 4 ≤ nI nL := by show ¬ nI 4 ≤ nI nL; rw [nI_nle' (by omega) (by omega)]; omega
  have t : FX11_tellLaw [vR (some 0)] h = some (rI (-1), h1) := by
    rw [tX11_tellLaw]
    simp only [oB_some, dR_some, cond_true, cond_false, if_true, if_false, Bool.true_and, Bool.and_true, Nat.beq_refl, K0, A1, A2, A3, show alK 31 = true from rfl, e14, c4, R12, W.1, e, hw]
  rw [tX11_text]; simp only [oB_some, dR_some, cond_true, cond_false, if_true, if_false, Bool.true_and, Bool.and_true, Nat.beq_refl, K0, show ¬ (1 : Int32) = 0 by decide, t]
theorem text_full1 {h : Hp} (K0 : hK h 0 = 11) (M0 : hK h 147 = 12) (A : hR h 0 13 = some 137 ∧ hK h 137 = 31 ∧ hE h 137 = 4) (N : hI h 0 14 = nI 4) (N2 : hI h 147 7 = nI 4) : FX11_text [vR (some 0), vI 1] h = some (rI (-1), h) ∧ FX12_text [vR (some 147), vI 1] h = some (rI (-1), sI h 147 0 0) := by
  obtain ⟨A1, A2, A3⟩ := A
  have e : hI (sI h 147 0 0) 147 7 = 4 := by rw [hI_slot _ _ _ _ (by decide)]; exact N2
  constructor
  · rw [tX11_text, tX11_tellLaw]
    simp only [oB_some, dR_some, cond_true, cond_false, if_true, if_false, Bool.true_and, Bool.and_true, Nat.beq_refl, K0, A1, A2, A3, show alK 31 = true from rfl, N, show Int32.ofNat 4 ≤ nI 4 by decide, show ¬ (1 : Int32) = 0 by decide]
  · rw [tX12_text]
    simp only [oB_some, dR_some, cond_true, cond_false, if_true, if_false, Bool.true_and, Bool.and_true, Nat.beq_refl, M0, hK_sI, isIn_02, show ¬ (1 : Int32) < 0 by decide, show ¬ (2 : Int32) < 1 by decide, show ¬ (1 : Int32) = 0 by decide, e]
theorem text_m1 {g h5 : Hp} {nL : Nat} {w : Int32} (hp : nL < 4) (M0 : hK g 147 = 12) (e7 : hI g 147 7 = nI nL) (k5 : hK h5 147 = 12) (e : FX12_fault [vR (some 147), vI 1] (sI g 147 0 0) = some (rI w, h5)) :
    FX12_text [vR (some 147), vI 1] g = if w = -1 then Run kX12_text 71 [some (vR (some 147)), some (vI 1), some (vI (hI h5 147 6)), some (vI 0)] [] (sI h5 147 6 0) else some (rI (-1), h5) := by
  have e1 : ¬ hI (sI g 147 0 0) 147 7 = 4 := by
    rw [hI_slot _ _ _ _ (by decide), e7, show (4 : Int32) = nI 4 from rfl, nI_neq' (by omega) (by omega)]; omega
  rw [tX12_text]
  simp only [oB_some, dR_some, cond_true, cond_false, if_true, if_false, Bool.true_and, Bool.and_true, Nat.beq_refl, M0, hK_sI, isIn_02, show ¬ (1 : Int32) < 0 by decide, show ¬ (2 : Int32) < 1 by decide, show ¬ (1 : Int32) = 0 by decide, show ¬ (1 : Int32) = 2 by decide, e1, e, k5]
theorem tx_71 {g : Hp} {nL n : Nat} (hp : nL < 4) (hn : n ≤ 240) (M1 : hK g 147 = 12) (A1 : hR g 147 1 = some 148) (A2 : hK g 148 = 21) (A3 : hE g 148 = 240) (B1 : hR g 147 2 = some 149) (B2 : hK g 149 = 21) (B3 : hE g 149 = 960) (C1 : hR g 147 3 = some 150) (C2 : hK g 150 = 20) (C3 : hE g 150 = 4) (e7 : hI g 147 7 = nI nL) (by' : ∀ i, i < n → isBy (hI g 148 i)) :
    ∀ k i r o1, i + k = n → Run kX12_text 71 [some (vR (some 147)), o1, some (vI (nI n)), some (vI (nI i))] [] (wA g 149 r) = some (rI (nI nL), sI (sI (wA g 149 (fil (hI g 148) (240 * nL) k i r)) 150 nL (nI n)) 147 7 (nI (nL + 1))) := by
  intro k
  induction k with
  | zero =>
    intro i r o1 hi
    have : i = n := by omega
    subst this
    have w7 : hI (wA g 149 r) 147 7 = nI nL := by rw [wA_O _ _ (by decide)]; exact e7
    have w8 : hI (sI (wA g 149 r) 150 nL (nI i)) 147 7 = nI nL := by rw [hI_oth _ _ _ _ _ (by decide)]; exact w7
    have b1 : inb (nI nL) 4 = true := inb_nI (by omega) (by omega)
    have l1 : (nI nL).toNatClampNeg = nL := nI_clamp (by omega)
    rw [tX12_text_71, if_pos (nI_le (Nat.le_refl _) (by omega))]
    simp only [oB_some, dR_some, cond_true, cond_false, if_true, if_false, Bool.true_and, Bool.and_true, Nat.beq_refl, hK_sI, wA_K, wA_E, wA_R, M1, C1, C2, C3, w7, w8, b1, l1, nI_1, hI_same, nI_p1]
    rfl
  | succ k ih =>
    intro i r o1 hi
    have c0 : ¬ nI n ≤ nI i := by rw [nI_nle' (by omega) (by omega)]; omega
    have e1 : (240 : Int32) * nI nL + nI i = nI (240 * nL + i) := by rw [show (240 : Int32) = nI 240 from rfl, nI_mulN, nI_add]
    have b1 : inb (nI i) 240 = true := inb_nI (by omega) (by omega)
    have b2 : inb (nI (240 * nL + i)) 960 = true := inb_nI (by omega) (by omega)
    have l1 : (nI i).toNatClampNeg = i := nI_clamp (by omega)
    have l2 : (nI (240 * nL + i)).toNatClampNeg = 240 * nL + i := nI_clamp (by omega)
    have w7 : hI (wA g 149 r) 147 7 = nI nL := by rw [wA_O _ _ (by decide)]; exact e7
    have ws : hI (wA g 149 r) 148 = hI g 148 := wA_O _ _ (by decide)
    have nb : vp_nar .byte (hI g 148 i) = hI g 148 i := by rw [vp_nar_byte]; exact by' i (by omega)
    rw [tX12_text_71, if_neg c0]
    simp only [oB_some, dR_some, cond_true, cond_false, if_true, if_false, Bool.true_and, Bool.and_true, Nat.beq_refl, wA_K, wA_E, wA_R, M1, A1, A2, A3, B1, B2, B3, e1, b1, b2, l1, l2, w7, ws, nb, sI_ws, nI_1]
    exact ih (i + 1) (up1 r (240 * nL + i) (hI g 148 i)) none (by omega)
