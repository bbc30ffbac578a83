/-! ===== PURE: a law read as a call in one heap ===== -/
def Lt (g : Hp) : Nat → Int32 := fun q => match q with
  | 0 => hI g 151 119
  | 1 => hI g 151 116
  | 2 => hI g 151 107
  | 3 => hI g 151 110
  | 4 => hI g 151 121
  | _ => hI g 151 109
/-- the reference's side of reading a law -/
def LSm (g : Hp) (n : Nat) (t : Nat → Int32) : Prop := hK g 147 = 12 ∧ hR g 147 1 = some 148 ∧ hI g 147 6 = nI n ∧ hK g 148 = 21 ∧ hE g 148 = 240 ∧ TB t (hI g 148) n ∧ (hR g 147 4 = some 151 ∧ hK g 151 = 20 ∧ hE g 151 = 128) ∧ StL g (PRE + 10) 1 (bT [121]) ∧ StL g (PRE + 11) 6 (bT [119, 116, 107, 110, 121, 109])
theorem lsm_fr {h g : Hp} {n : Nat} {t : Nat → Int32} (M : LSm h n t) (eK : hK g 147 = hK h 147 ∧ hK g 148 = hK h 148 ∧ hK g 151 = hK h 151 ∧ ∀ k, hK g (PRE + k) = hK h (PRE + k)) (eE : hE g 148 = hE h 148 ∧ hE g 151 = hE h 151 ∧ ∀ k, hE g (PRE + k) = hE h (PRE + k)) (eR : ∀ k, k ≠ 5 → hR g 147 k = hR h 147 k) (e6 : hI g 147 6 = hI h 147 6) (e148 : hI g 148 = hI h 148) (eP : ∀ k, hI g (PRE + k) = hI h (PRE + k)) : LSm g n t := by
  obtain ⟨m1, m2, m3, m4, m5, m6, m7, m8, m9⟩ := M
  obtain ⟨K1, K2, K3, K4⟩ := eK
  obtain ⟨E2, E3, E4⟩ := eE
  refine ⟨?_, ?_, ?_, ?_, ?_, ?_, ?_, ?_, ?_⟩
  · rw [K1]; exact m1
  · rw [eR _ (by decide)]; exact m2
  · rw [e6]; exact m3
  · rw [K2]; exact m4
  · rw [E2]; exact m5
  · rw [e148]; exact m6
  · rw [eR _ (by decide), K3, E3]; exact m7
  · unfold StL
    rw [show PRE + 10 + 100 = PRE + 110 from rfl, K4, K4, K4, E4, eP]; exact m8
  · unfold StL
    rw [show PRE + 11 + 100 = PRE + 111 from rfl, K4, K4, K4, E4, eP]; exact m9
theorem law_bo {h g : Hp} {n : Nat} (H : HT h n) (W : LwL h) (P : PL h) (M : LSm g n (hI h 2)) : LO h (mB g 148 0 n) (Lt g) (FX2_readLaw [vR (some 135)] h) (FX12_goThrough [vR (some 147), vR (some 148), vI 0, vI (nI n)] g) := by
  have hn := H.2.2
  obtain ⟨m1, m2, m3, m4, m5, m6, m7, m8, m9⟩ := M
  have := law_both (T := 148) (B := 0) (L := Lt g) H W P ⟨m1, m4, by omega, by omega, by decide, fun i hi => by rw [Nat.zero_add]; exact (m6 i hi).1, m7, m8, m9⟩ (fun i hi => by rw [Nat.zero_add]; exact (m6 i hi).2) ⟨rfl, rfl, rfl, rfl, rfl, rfl⟩
  rw [nI_0] at this
  exact this
theorem law_cls {h : Hp} {n : Nat} (H : HT h n) (W : LwL h) (P : PL h) (M : LSm h n (hI h 2)) : ∃ w s c p', FX2_readLaw [vR (some 135)] h = some (rI w, CS h s c p' w) ∧ s ≤ 240 ∧ (w = -1 → 0 < s ∧ s < 240) := by
  obtain ⟨w, s, c, p', y1, y2, _, _, _, _, _, y3⟩ := law_bo H W P M
  exact ⟨w, s, c, p', y1, y2, fun z => ⟨(y3 z).1, (y3 z).2.1⟩⟩
theorem law_two {h g h1 : Hp} {n : Nat} {w : Int32} (H : HT h n) (W : LwL h) (P : PL h) (M : LSm g n (hI h 2)) (e : FX2_readLaw [vR (some 135)] h = some (rI w, h1)) : ∃ x p'' hf fv, FX12_goThrough [vR (some 147), vR (some 148), vI 0, vI (nI n)] g = some (rV, MS (fw (mB g 148 0 n) hf fv) x p'' w) := by
  obtain ⟨w', s, c, p', y1, y2, x, p'', hf, fv, y3, _⟩ := law_bo H W P M
  obtain ⟨i1, i2⟩ := some_inj e y1
  subst i1
  exact ⟨x, p'', hf, fv, y3⟩
/-- what reading a law may leave -/
def rlP (a k : Nat) : Prop := (a = 1 ∧ (k = 2 ∨ k = 3)) ∨ (a = 135 ∧ k = 2) ∨ a = 136 ∨ (a = 147 ∧ (k = 0 ∨ k = 5 ∨ k = 8 ∨ k = 9 ∨ k = 10 ∨ k = 11 ∨ k = 12 ∨ k = 13 ∨ k = 14 ∨ k = 17))
theorem cs_fr (h : Hp) (s : Nat) (c : Nat → Int32) (p : Nat) (w : Int32) : FR rlP h (CS h s c p w) := by
  unfold CS cw
  exact ((fr_sI _ _ _ _ (by unfold rlP; omega)).trans (fr_wA _ _ _ (fun k => by unfold rlP; omega))).trans (fr_tw _ _ _ (by unfold rlP; omega) (by unfold rlP; omega))
theorem mls_fr (g : Hp) (n : Nat) (hf fv x : Int32) (p : Nat) (w : Int32) : FR rlP g (MS (fw (mB g 148 0 n) hf fv) x p w) := by
  unfold MS fw mB
  refine ((((((fr_sR _ _ _ _ ?_).trans (fr_sI _ _ _ _ ?_)).trans (fr_sI _ _ _ _ ?_)).trans (fr_sI _ _ _ _ ?_)).trans (fr_sI _ _ _ _ ?_)).trans (fr_sI _ _ _ _ ?_)).trans ((fr_sI _ _ _ _ ?_).trans (fr_mw _ _ _ ?_ ?_)) <;> (unfold rlP; omega)
theorem fault_m1 {g h2 : Hp} {n : Nat} (k1 : hK g 147 = 12) (r1 : hR g 147 1 = some 148) (e6 : hI g 147 6 = nI n) (k2 : hK h2 147 = 12) (e : FX12_goThrough [vR (some 147), vR (some 148), vI 0, vI (nI n)] (sI g 147 0 0) = some (rV, h2)) : FX12_fault [vR (some 147), vI 1] g = some (rI (hI h2 147 11), h2) := by
  have e6' : hI (sI g 147 0 0) 147 6 = nI n := by rw [hI_slot _ _ _ _ (by decide)]; exact e6
  rw [tX12_fault]
  simp only [oB_some, dR_some, cond_true, cond_false, if_true, if_false, Bool.true_and, Bool.and_true, Nat.beq_refl, k1, k2, hK_sI, hR_sI, r1, e6', isIn_02, show ¬ (1 : Int32) < 0 by decide, show ¬ (2 : Int32) < 1 by decide, show ¬ (1 : Int32) = 0 by decide, show ¬ (1 : Int32) = 2 by decide, e]
theorem fault_1 {h : Hp} {n : Nat} (K0 : hK h 0 = 11) (R12 : hR h 0 12 = some 135) (H : HT h n) (W : LwL h) (P : PL h) (M : LSm h n (hI h 2)) :
    ∃ res h1 h2, FX11_fault [vR (some 0), vI 1] h = some (rI res, h1) ∧ FX12_fault [vR (some 147), vI 1] h1 = some (rI res, h2) ∧ FR rlP h h2 := by
  have PB := PRE_big
  obtain ⟨w, s, c, p', e, _⟩ := law_cls H W P M
  have F1 := cs_fr h s c p' w
  have i1 : ∀ a k, ¬ rlP a k → hI (CS h s c p' w) a k = hI h a k := F1.2.2.2.2.2.1
  have M1 : LSm (sI (CS h s c p' w) 147 0 0) n (hI h 2) := lsm_fr M ⟨rfl, rfl, rfl, fun _ => rfl⟩ ⟨rfl, rfl, fun _ => rfl⟩ (fun k _ => rfl) (by rw [hI_slot _ _ _ _ (by decide)]; exact i1 _ _ (by unfold rlP; omega)) (by rw [hI_row _ _ _ _ (by decide)]; exact funext fun k => i1 _ _ (by unfold rlP; omega)) (fun k => by rw [hI_row _ _ _ _ (by omega)]; exact funext fun j => i1 _ _ (by unfold rlP; omega))
  obtain ⟨x, p'', hf, fv, e2⟩ := law_two H W P M1 e
  have F2 : FR rlP (CS h s c p' w) (MS (fw (mB (sI (CS h s c p' w) 147 0 0) 148 0 n) hf fv) x p'' w) := (fr_sI _ 147 0 0 (by unfold rlP; omega)).trans (mls_fr _ n hf fv x p'' w)
  have k147 : hK h 147 = 12 := M.1
  refine ⟨w, CS h s c p' w, _, ?_, ?_, F1.trans F2⟩
  · rw [tX11_fault]; simp only [oB_some, dR_some, cond_true, cond_false, if_true, if_false, Bool.true_and, Bool.and_true, Nat.beq_refl, K0, R12, W.1, e, show ¬ (1 : Int32) = 0 by decide]
  · have q1 : hK (CS h s c p' w) 147 = 12 := by rw [F1.2.2.1]; exact k147
    have q2 : hR (CS h s c p' w) 147 1 = some 148 := by rw [F1.2.2.2.2.1 _ _ (by unfold rlP; omega)]; exact M.2.1
    have q3 : hK (MS (fw (mB (sI (CS h s c p' w) 147 0 0) 148 0 n) hf fv) x p'' w) 147 = 12 := by rw [F2.2.2.1]; exact q1
    rw [fault_m1 q1 q2 ((i1 147 6 (by unfold rlP; omega)).trans M.2.2.1) q3 e2]
    unfold MS
    rw [mw_wr]
