/-! ===== PURE: text of a house: what both do ===== -/
theorem forget5 {g : Hp} (k : hK g 14 = 5) : FX5_forget [vR (some 14)] g = some (rV, sI g 14 2 0) := by
  rw [tX5_forget]; simp only [oB_some, dR_some, cond_true, cond_false, if_true, if_false, Bool.true_and, Bool.and_true, Nat.beq_refl, k]
theorem forget7 {g : Hp} (k : hK g 101 = 7) : FX7_forget [vR (some 101)] g = some (rV, sI (sL (sL (sI g 101 0 0) 101 1 1) 101 2 1) 101 3 0) := by
  rw [tX7_forget]; simp only [oB_some, dR_some, cond_true, cond_false, if_true, if_false, Bool.true_and, Bool.and_true, Nat.beq_refl, hK_sI, hK_sL, k]
def TH (h1 : Hp) (s s' : Nat) (v' u' : Nat → Nat) : Hp :=
  sI (sI (sI (sL (sL (sI (sI (LN (sI (sR (sR h1 3 0 (some s')) 0 11 (some s)) s' 0 1) 10 v' u') 14 2 0) 101 0 0) 101 1 1) 101 2 1) 101 3 0) 0 10 0) 1 1 0
theorem text_c0f {h h1 : Hp} {s' : Nat} {w : Int32} (K0 : hK h 0 = 11) (R00 : hR h 0 0 = some 1) (R11 : hR h 0 11 = some s') (L' : hK h s' = 0) (hw : w ≠ -1) (e : FX0_readFrom [vR (some s'), vR (some 1)] h = some (rI w, h1)) : FX11_text [vR (some 0), vI 0] h = some (rI (-1), h1) := by
  have t : FX11_tellHouse [vR (some 0)] h = some (rI (-1), h1) := by
    rw [tX11_tellHouse]; simp only [oB_some, dR_some, cond_true, cond_false, if_true, if_false, Bool.true_and, Bool.and_true, Nat.beq_refl, K0, R11, L', R00, e, hw]
  rw [tX11_text]; simp only [oB_some, dR_some, cond_true, cond_false, if_true, if_false, Bool.true_and, Bool.and_true, Nat.beq_refl, K0, t]
set_option maxHeartbeats 4000000 in
theorem text_c0 {h h1 : Hp} {s s' r0 r5 : Nat} {v u : Nat → Nat} (hs : (s = 4 ∧ s' = 131) ∨ (s = 131 ∧ s' = 4)) (eK : hK h1 = hK h) (eE : hE h1 = hE h) (eR : hR h1 = hR h) (C : CF h) (R00 : hR h 0 0 = some 1) (T : hK h 1 = 9) (K3 : hK h 3 = 10) (R30 : hR h 3 0 = some s) (R11 : hR h 0 11 = some s') (L' : HL h s') (P : LPl h 10) (K14 : hK h 14 = 5) (R6 : hR h 0 6 = some 101) (K101 : hK h 101 = 7) (e : FX0_readFrom [vR (some s'), vR (some 1)] h = some (rI (-1), h1)) (n10 : hI h1 10 = nR v) (n11 : hI h1 11 = nR u) (e0 : hI h1 (s' + 1) 0 = nI r0) (e5 : hI h1 (s' + 1) 5 = nI r5) :
    FX11_text [vR (some 0), vI 0] h = some (rI (hI h1 s' 6), TH h1 s s' (bgV v r0 r5) (zr 5 0 u)) := by
  obtain ⟨K0, R01, R02, R04, R05, R32, R33⟩ := C
  have k : ∀ a, hK h1 a = hK h a := fun a => by rw [eK]
  have r : ∀ a b, hR h1 a b = hR h a b := fun a b => by rw [eR]
  have q0 : ∀ j, j ≠ 11 → hR (sR (sR h1 3 0 (some s')) 0 11 (some s)) 0 j = hR h 0 j := fun j hj => by
    rw [hR_sR, if_pos rfl, if_neg hj, hR_sR, if_neg (by decide), r]
  have q3 : hR (sR (sR h1 3 0 (some s')) 0 11 (some s)) 3 0 = some s' := rfl
  have qo : ∀ a j, a ≠ 0 → a ≠ 3 → hR (sR (sR h1 3 0 (some s')) 0 11 (some s)) a j = hR h a j := fun a j h1 h2 => by
    rw [hR_sR, if_neg h1, hR_sR, if_neg h2, r]
  have B := begin_c (g := sI (sR (sR h1 3 0 (some s')) 0 11 (some s)) s' 0 1) (s := s') (r0 := r0) (r5 := r5) (v := v) (u := u) (by
      obtain ⟨p1, p2, p3, p4⟩ := P
      exact ⟨(k 10).trans p1, (qo 10 8 (by decide) (by decide)).trans p2, (k 11).trans p3, (congrFun eE 11).trans p4⟩) (by
      obtain ⟨l1, l2, l3, l4, ⟨l5, l6⟩, ⟨l7, l8⟩, ⟨l9, l10⟩, l11⟩ := L'
      exact ⟨(k _).trans l1, (qo _ _ (by omega) (by omega)).trans l2, (qo _ _ (by omega) (by omega)).trans l3, (qo _ _ (by omega) (by omega)).trans l4, ⟨(k _).trans l5, (congrFun eE _).trans l6⟩, ⟨(k _).trans l7, (congrFun eE _).trans l8⟩, ⟨(k _).trans l9, (congrFun eE _).trans l10⟩, l11⟩) (by omega) (by rw [hI_oth _ _ _ _ _ (by omega)]; exact e0) (by rw [hI_oth _ _ _ _ _ (by omega)]; exact e5)
  rw [LN_self (by rw [hI_row _ _ _ _ (by omega)]; exact n10) (by rw [hI_row _ _ _ _ (by omega)]; exact n11)] at B
  have ths : hI (TH h1 s s' (bgV v r0 r5) (zr 5 0 u)) s' 6 = hI h1 s' 6 := by
    unfold TH
    rw [hI_oth _ _ _ _ _ (by omega), hI_oth _ _ _ _ _ (by omega), hI_oth _ _ _ _ _ (by omega), hI_sL, hI_sL, hI_oth _ _ _ _ _ (by omega), hI_oth _ _ _ _ _ (by omega), LN_o _ _ _ (by omega) (by omega), hI_slot _ _ _ _ (by decide)]
    rfl
  have t : FX11_tellHouse [vR (some 0)] h = some (rI (hI h1 s' 6), TH h1 s s' (bgV v r0 r5) (zr 5 0 u)) := by
    unfold TH at ths ⊢
    rw [tX11_tellHouse]
    simp only [oB_some, dR_some, cond_true, cond_false, if_true, if_false, Bool.true_and, Bool.and_true, Nat.beq_refl, K0, R11, L'.1, R00, e, k, r, R01, K3, R30, hK_sR, hK_sI, hK_sL, LN_K, hR_sI, LN_R, q3, q0 1 (by decide), q0 2 (by decide), q0 4 (by decide), q0 6 (by decide), q0 0 (by decide), hR_sL, R02, R04, R6, P.1, isZ0, isZ1, B, K14, K101, forget5, forget7, T, ths]
  rw [tX11_text]; simp only [oB_some, dR_some, cond_true, cond_false, if_true, if_false, Bool.true_and, Bool.and_true, Nat.beq_refl, K0, t]
theorem text_m0 {g h5 : Hp} {w : Int32} (M0 : hK g 147 = 12) (k5 : hK h5 147 = 12) (e : FX12_fault [vR (some 147), vI 0] (sI g 147 0 0) = some (rI w, h5)) : FX12_text [vR (some 147), vI 0] g = if w = -1 then Run kX12_text 223 [some (vR (some 147)), some (vI 0), some (vI (hI h5 147 6)), some (vI 0)] [] (sI (sI (sI h5 147 6 0) 147 26 (hI h5 147 28)) 147 27 (hI h5 147 29)) else some (rI (-1), h5) := by
  have z1 : hI (sI h5 147 6 0) 147 28 = hI h5 147 28 := hI_slot _ _ _ _ (by decide)
  have z2 : hI (sI (sI h5 147 6 0) 147 26 (hI h5 147 28)) 147 29 = hI h5 147 29 := by rw [hI_slot _ _ _ _ (by decide), hI_slot _ _ _ _ (by decide)]
  rw [tX12_text]
  simp only [oB_some, dR_some, cond_true, cond_false, if_true, if_false, Bool.true_and, Bool.and_true, Nat.beq_refl, M0, hK_sI, isIn_02, show ¬ (0 : Int32) < 0 by decide, show ¬ (2 : Int32) < 0 by decide, show ¬ (1 : Int32) = 0 by decide, show ¬ (0 : Int32) = 1 by decide, show ¬ (0 : Int32) = 2 by decide, e, k5, z1, z2]
/-- the reference's cells of a house told and of one read -/
def MR2 (g : Hp) : Prop := hK g 147 = 12 ∧ (hR g 147 18 = some 152 ∧ hK g 152 = 20 ∧ hE g 152 = 7) ∧ (hR g 147 20 = some 154 ∧ hK g 154 = 20 ∧ hE g 154 = 18) ∧ (hR g 147 22 = some 156 ∧ hK g 156 = 20 ∧ hE g 156 = 15) ∧ (hR g 147 19 = some 153 ∧ hK g 153 = 20 ∧ hE g 153 = 7) ∧ (hR g 147 21 = some 155 ∧ hK g 155 = 20 ∧ hE g 155 = 18) ∧ (hR g 147 23 = some 157 ∧ hK g 157 = 20 ∧ hE g 157 = 15) ∧ (hR g 147 32 = some 160 ∧ hK g 160 = 20 ∧ hE g 160 = 381)
theorem text_m0r {h5 : Hp} (R : MR2 h5) (o1 o2 : Option EV) : ∃ h2, Run kX12_text 223 [some (vR (some 147)), o1, o2, some (vI 0)] [] (sI (sI (sI h5 147 6 0) 147 26 (hI h5 147 28)) 147 27 (hI h5 147 29)) = some (rI (hI h5 147 29), h2) ∧ Only h5 h2 [147, 152, 154, 156, 160] ∧ (∀ k, k ≠ 6 → k ≠ 26 → k ≠ 27 → k ≠ 50 → k ≠ 51 → k ≠ 37 → k ≠ 53 → hI h2 147 k = hI h5 147 k) ∧ (hI h2 147 6 = 0 ∧ hI h2 147 26 = hI h5 147 28 ∧ hI h2 147 27 = hI h5 147 29 ∧ hI h2 147 50 = 0 ∧ hI h2 147 51 = 0 ∧ hI h2 147 37 = 0 ∧ hI h2 147 53 = 0) ∧ (∀ k, k < 7 → hI h2 152 k = hI h5 153 k) ∧ (∀ k, k < 18 → hI h2 154 k = hI h5 155 k) ∧ (∀ k, k < 15 → hI h2 156 k = hI h5 157 k) ∧ hI h2 160 = up1 (up1 (fil (fun _ => 0) 0 381 0 (hI h5 160)) 0 (hI h5 153 0)) 2 (hI h5 153 5) := by
  obtain ⟨M1, ⟨a1, a2, a3⟩, ⟨b1, b2, b3⟩, ⟨c1, c2, c3⟩, ⟨d1, d2, d3⟩, ⟨e1, e2, e3⟩, ⟨f1, f2, f3⟩, ⟨g1, g2, g3⟩⟩ := R
  generalize eg : sI (sI (sI h5 147 6 0) 147 26 (hI h5 147 28)) 147 27 (hI h5 147 29) = g
  have O : Only h5 g [147, 152, 154, 156, 160] := by
    rw [← eg]; exact ((only_sI _ _ _ (by simp)).trans (only_sI _ _ _ (by simp))).trans (only_sI _ _ _ (by simp))
  have K : hK g = hK h5 := O.K
  have E : hE g = hE h5 := O.E
  have R : hR g = hR h5 := O.R
  have i6 : hI g 147 6 = 0 := by rw [← eg, hI_slot _ _ _ _ (by decide), hI_slot _ _ _ _ (by decide), hI_same]
  have i26 : hI g 147 26 = hI h5 147 28 := by rw [← eg, hI_slot _ _ _ _ (by decide), hI_same]
  have i27 : hI g 147 27 = hI h5 147 29 := by rw [← eg, hI_same]
  have io : ∀ k, k ≠ 6 → k ≠ 26 → k ≠ 27 → hI g 147 k = hI h5 147 k := fun k z1 z2 z3 => by rw [← eg, hI_slot _ _ _ _ z3, hI_slot _ _ _ _ z2, hI_slot _ _ _ _ z1]
  have row : ∀ a, a ≠ 147 → hI g a = hI h5 a := fun a z => by rw [← eg, hI_row _ _ _ _ z, hI_row _ _ _ _ z, hI_row _ _ _ _ z]
  have s1 := tx_223 (g := g) (by rw [K]; exact M1) (by rw [R]; exact d1) (by rw [K]; exact d2) (by rw [E]; exact d3) (by rw [R]; exact a1) (by rw [K]; exact a2) (by rw [E]; exact a3) 7 0 (hI g 152) o1 o2 (by omega)
  rw [wA_self] at s1
  generalize ef1 : fil (hI g 153) 0 7 0 (hI g 152) = F1 at s1
  have s2 := tx_249 (g := wA g 152 F1) (by rw [wA_K, K]; exact M1) (by rw [wA_R, R]; exact e1) (by rw [wA_K, K]; exact e2) (by rw [wA_E, E]; exact e3) (by rw [wA_R, R]; exact b1) (by rw [wA_K, K]; exact b2) (by rw [wA_E, E]; exact b3) 18 0 (hI (wA g 152 F1) 154) none none (by omega)
  rw [wA_self, wA_O _ _ (show 155 ≠ 152 by decide), wA_O _ _ (show 154 ≠ 152 by decide)] at s2
  generalize ef2 : fil (hI g 155) 0 18 0 (hI g 154) = F2 at s2
  have s3 := tx_275 (g := wA (wA g 152 F1) 154 F2) (by rw [wA_K, wA_K, K]; exact M1) (by rw [wA_R, wA_R, R]; exact f1) (by rw [wA_K, wA_K, K]; exact f2) (by rw [wA_E, wA_E, E]; exact f3) (by rw [wA_R, wA_R, R]; exact c1) (by rw [wA_K, wA_K, K]; exact c2) (by rw [wA_E, wA_E, E]; exact c3) 15 0 (hI (wA (wA g 152 F1) 154 F2) 156) none none (by omega)
  rw [wA_self, wA_O _ _ (show 157 ≠ 154 by decide), wA_O _ _ (show 157 ≠ 152 by decide), wA_O _ _ (show 156 ≠ 154 by decide), wA_O _ _ (show 156 ≠ 152 by decide)] at s3
  generalize ef3 : fil (hI g 157) 0 15 0 (hI g 156) = F3 at s3
  have s4 := tx_301e (g := wA (wA (wA g 152 F1) 154 F2) 156 F3) (o1 := none) (o2 := none) (r := F1) (by rw [wA_K, wA_K, wA_K, K]; exact M1) (by rw [wA_R, wA_R, wA_R, R]; exact a1) (by rw [wA_K, wA_K, wA_K, K]; exact a2) (by rw [wA_E, wA_E, wA_E, E]; exact a3) (by rw [wA_R, wA_R, wA_R, R]; exact g1) (by rw [wA_K, wA_K, wA_K, K]; exact g2) (by rw [wA_E, wA_E, wA_E, E]; exact g3) 381 0 (hI (wA (wA (wA g 152 F1) 154 F2) 156 F3) 160) none none (by omega)
  rw [wA_self, wA_O _ _ (show 147 ≠ 156 by decide), wA_O _ _ (show 147 ≠ 154 by decide), wA_O _ _ (show 147 ≠ 152 by decide), wA_O _ _ (show 160 ≠ 156 by decide), wA_O _ _ (show 160 ≠ 154 by decide), wA_O _ _ (show 160 ≠ 152 by decide), wA_O _ _ (show 152 ≠ 156 by decide), wA_O _ _ (show 152 ≠ 154 by decide), wA_I, i27] at s4
  rw [nI_0] at s1 s2 s3 s4
  have f10 : F1 0 = hI h5 153 0 := by rw [← ef1]; have := fil_in (hI g 153) 0 7 0 (hI g 152) 0 (by omega) (by omega); rw [Nat.zero_add] at this; rw [this, row _ (by decide)]
  have f15 : F1 5 = hI h5 153 5 := by rw [← ef1]; have := fil_in (hI g 153) 0 7 0 (hI g 152) 5 (by omega) (by omega); rw [Nat.zero_add] at this; rw [this, row _ (by decide)]
  rw [f10, f15, row 160 (by decide)] at s4
  refine ⟨_, s1.trans (s2.trans (s3.trans s4)), ?_, ?_, ⟨?_, ?_, ?_, ?_, ?_, ?_, ?_⟩, ?_, ?_, ?_, ?_⟩
  · exact (((((((O.trans (only_wA _ _ (by simp))).trans (only_wA _ _ (by simp))).trans (only_wA _ _ (by simp))).trans (only_wA _ _ (by simp))).trans (only_sI _ _ _ (by simp))).trans (only_sI _ _ _ (by simp))).trans (only_sI _ _ _ (by simp))).trans (only_sI _ _ _ (by simp))
  · intro k z1 z2 z3 z4 z5 z6 z7
    rw [hI_slot _ _ _ _ z7, hI_slot _ _ _ _ z6, hI_slot _ _ _ _ z5, hI_slot _ _ _ _ z4, wA_O _ _ (by decide), wA_O _ _ (by decide), wA_O _ _ (by decide), wA_O _ _ (by decide)]
    exact io k z1 z2 z3
  · rw [hI_slot _ _ _ _ (by decide), hI_slot _ _ _ _ (by decide), hI_slot _ _ _ _ (by decide), hI_slot _ _ _ _ (by decide), wA_O _ _ (by decide), wA_O _ _ (by decide), wA_O _ _ (by decide), wA_O _ _ (by decide)]; exact i6
  · rw [hI_slot _ _ _ _ (by decide), hI_slot _ _ _ _ (by decide), hI_slot _ _ _ _ (by decide), hI_slot _ _ _ _ (by decide), wA_O _ _ (by decide), wA_O _ _ (by decide), wA_O _ _ (by decide), wA_O _ _ (by decide)]; exact i26
  · rw [hI_slot _ _ _ _ (by decide), hI_slot _ _ _ _ (by decide), hI_slot _ _ _ _ (by decide), hI_slot _ _ _ _ (by decide), wA_O _ _ (by decide), wA_O _ _ (by decide), wA_O _ _ (by decide), wA_O _ _ (by decide)]; exact i27
  · rw [hI_slot _ _ _ _ (by decide), hI_slot _ _ _ _ (by decide), hI_slot _ _ _ _ (by decide), hI_same]
  · rw [hI_slot _ _ _ _ (by decide), hI_slot _ _ _ _ (by decide), hI_same]
  · rw [hI_slot _ _ _ _ (by decide), hI_same]
  · rw [hI_same]
  · intro k hk
    rw [hI_row _ _ _ _ (by decide), hI_row _ _ _ _ (by decide), hI_row _ _ _ _ (by decide), hI_row _ _ _ _ (by decide), wA_O _ _ (by decide), wA_O _ _ (by decide), wA_O _ _ (by decide), wA_I, ← ef1]
    have := fil_in (hI g 153) 0 7 0 (hI g 152) k (by omega) (by omega)
    rw [Nat.zero_add] at this
    rw [this, row _ (by decide)]
  · intro k hk
    rw [hI_row _ _ _ _ (by decide), hI_row _ _ _ _ (by decide), hI_row _ _ _ _ (by decide), hI_row _ _ _ _ (by decide), wA_O _ _ (by decide), wA_O _ _ (by decide), wA_I, ← ef2]
    have := fil_in (hI g 155) 0 18 0 (hI g 154) k (by omega) (by omega)
    rw [Nat.zero_add] at this
    rw [this, row _ (by decide)]
  · intro k hk
    rw [hI_row _ _ _ _ (by decide), hI_row _ _ _ _ (by decide), hI_row _ _ _ _ (by decide), hI_row _ _ _ _ (by decide), wA_O _ _ (by decide), wA_I, ← ef3]
    have := fil_in (hI g 157) 0 15 0 (hI g 156) k (by omega) (by omega)
    rw [Nat.zero_add] at this
    rw [this, row _ (by decide)]
  · rw [hI_row _ _ _ _ (by decide), hI_row _ _ _ _ (by decide), hI_row _ _ _ _ (by decide), hI_row _ _ _ _ (by decide), wA_I]
