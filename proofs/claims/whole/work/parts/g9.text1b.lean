/-! ===== text of a law keeps the invariant ===== -/
def t1P (nL a k : Nat) : Prop := (a = 0 ∧ k = 14) ∨ (a = 1 ∧ (k = 1 ∨ k = 2 ∨ k = 3)) ∨ (a = 135 ∧ k = 2) ∨ a = 136 ∨ (a = 147 ∧ (k = 0 ∨ k = 5 ∨ k = 6 ∨ k = 7 ∨ (8 ≤ k ∧ k ≤ 17))) ∨ (a = 149 ∧ 240 * nL ≤ k) ∨ (a = 150 ∧ k = nL)
def t1R (nL a k : Nat) : Prop := (a = 147 ∧ k = 5) ∨ (a = 137 ∧ k = nL)
theorem MSl_R (g : Hp) (n : Nat) (hf fv x : Int32) (p : Nat) (w : Int32) {a k : Nat} (z : a ≠ 147 ∨ k ≠ 5) : hR (MS (fw (mB g 148 0 n) hf fv) x p w) a k = hR g a k := by
  show hR (sR g 147 5 (some 148)) a k = hR g a k
  rw [hR_sR]
  by_cases c : a = 147
  · rw [if_pos c, if_neg (by omega)]
  · rw [if_neg c]
theorem text_1 {h : Hp} {n nL N : Nat} (eN : hN h = N) (hN1 : 172 < N) (hN2 : N + 2 < PRE) (Y : LAYO h) (H : HT h n) (M : LSm h n (hI h 2)) (t4 : TB (hI h 2) (hI h 148) n) (e14 : hI h 0 14 = nI nL) (e7 : hI h 147 7 = nI nL) (hL4 : nL < 4) :
    (∃ h1 h2, FX11_text [vR (some 0), vI 1] h = some (rI (-1), h1) ∧ FX12_text [vR (some 147), vI 1] h1 = some (rI (-1), h2) ∧ FR rlP h h2) ∨
    (∃ h1 h2 s c p', FX11_text [vR (some 0), vI 1] h = some (rI (nI nL), h1) ∧ FX12_text [vR (some 147), vI 1] h1 = some (rI (nI nL), h2) ∧ 0 < s ∧ s < 240 ∧ FX2_readLaw [vR (some 135)] h = some (rI (-1), CS h s c p' (-1)) ∧ FN (t1R nL) (t1P nL) h h2 ∧ (hK h2 N = 1 ∧ hR h2 N 0 = some (N + 1) ∧ hK h2 (N + 1) = 20 ∧ hE h2 (N + 1) = s ∧ hR h2 137 nL = some N ∧ (∀ q, q < s → hI h2 (N + 1) q = c q)) ∧ (hI h2 0 14 = nI (nL + 1) ∧ hI h2 147 7 = nI (nL + 1) ∧ hI h2 1 1 = nI 0 ∧ hI h2 147 6 = nI 0 ∧ hI h2 150 nL = nI n ∧ ∀ i, i < n → hI h2 149 (240 * nL + i) = hI h 148 i)) := by
  have PB := PRE_big
  have hn := H.2.2
  have K0 := (ly_CF Y).1
  have Xa := ly_LXa Y
  obtain ⟨_, b2, b3, _⟩ := ly_LXb Y
  have k147 : hK h 147 = 12 := M.1
  obtain ⟨w, s, c, p', e, s240, sw⟩ := law_cls H (ly_LwL Y) (ly_PL Y) M
  have F1 := cs_fr h s c p' w
  have i1 := F1.2.2.2.2.2.1
  by_cases cw : w = -1
  · right
    subst cw
    obtain ⟨s0, s1⟩ := sw rfl
    have tc := text_c1 eN hN1 K0 Xa.1 (ly_TapeL Y).1 Xa.2.2.2.2.2.2.2.2.2.2 Xa.2.2.2.2.2.2.2.2.2.1 (ly_LwL Y) e14 hL4 s1 e
    have eN' : hN (CS h s c p' (-1)) = N := by rw [F1.1]; exact eN
    obtain ⟨n1, n2, n3, n4, n5, n6, n7, n8, n9, n10⟩ := TL_new (s := s) (nL := nL) eN' hN1
    have gK : ∀ a, a ≠ N → a ≠ N + 1 → hK (TL (CS h s c p' (-1)) N s nL) a = hK h a ∧ hE (TL (CS h s c p' (-1)) N s nL) a = hE h a := fun a z1 z2 => by
      obtain ⟨x1, x2⟩ := TL_K (s := s) (nL := nL) eN' z1 z2
      exact ⟨x1.trans (by rw [F1.2.2.1]), x2.trans (by rw [F1.2.2.2.1])⟩
    have gR : ∀ a k, a ≠ N → a ≠ N + 1 → (a ≠ 137 ∨ k ≠ nL) → hR (TL (CS h s c p' (-1)) N s nL) a k = hR h a k := fun a k z1 z2 z3 => TL_R (s := s) eN' z1 z2 z3
    have gI : ∀ a k, a ≠ N → a ≠ N + 1 → (a ≠ 0 ∨ k ≠ 14) → (a ≠ 1 ∨ k ≠ 1) → ¬ rlP a k → hI (TL (CS h s c p' (-1)) N s nL) a k = hI h a k := fun a k z1 z2 z3 z4 z5 => (TL_I (s := s) (nL := nL) eN' z1 z2 z3 z4).trans (i1 a k z5)
    have gL : ∀ a k, a ≠ N → a ≠ N + 1 → hL (TL (CS h s c p' (-1)) N s nL) a k = hL h a k := fun a k z1 z2 => TL_L (s := s) (nL := nL) eN' z1 z2
    generalize eg : TL (CS h s c p' (-1)) N s nL = G at *
    have M1 : LSm (sI G 147 0 0) n (hI h 2) := lsm_fr M ⟨(gK _ (by omega) (by omega)).1, (gK _ (by omega) (by omega)).1, (gK _ (by omega) (by omega)).1, fun k => (gK _ (by omega) (by omega)).1⟩ ⟨(gK _ (by omega) (by omega)).2, (gK _ (by omega) (by omega)).2, fun k => (gK _ (by omega) (by omega)).2⟩ (fun k _ => gR _ _ (by omega) (by omega) (by omega)) (by rw [hI_slot _ _ _ _ (by decide)]; exact gI _ _ (by omega) (by omega) (by omega) (by omega) (by unfold rlP; omega)) (by rw [hI_row _ _ _ _ (by decide)]; exact funext fun k => gI _ _ (by omega) (by omega) (by omega) (by omega) (by unfold rlP; omega)) (fun k => by rw [hI_row _ _ _ _ (by omega)]; exact funext fun j => gI _ _ (by omega) (by omega) (by omega) (by omega) (by unfold rlP; omega))
    obtain ⟨x, p'', hf, fv, e2⟩ := law_two H (ly_LwL Y) (ly_PL Y) M1 e
    have F2 : FR rlP G (MS (fw (mB (sI G 147 0 0) 148 0 n) hf fv) x p'' (-1)) := (fr_sI _ 147 0 0 (by unfold rlP; omega)).trans (mls_fr _ n hf fv x p'' (-1))
    have R2 : ∀ a k, (a ≠ 147 ∨ k ≠ 5) → hR (MS (fw (mB (sI G 147 0 0) 148 0 n) hf fv) x p'' (-1)) a k = hR G a k := fun a k z => MSl_R _ n hf fv x p'' (-1) z
    have i11 : hI (MS (fw (mB (sI G 147 0 0) 148 0 n) hf fv) x p'' (-1)) 147 11 = -1 := by unfold MS; rw [mw_wr]
    have kG : hK G 147 = 12 := (gK 147 (by omega) (by omega)).1.trans k147
    have rG : hR (sI G 147 0 0) 147 1 = some 148 := (gR 147 1 (by omega) (by omega) (by omega)).trans M.2.1
    have e6 : hI G 147 6 = nI n := (gI _ _ (by omega) (by omega) (by omega) (by omega) (by unfold rlP; omega)).trans M.2.2.1
    have e7' : hI G 147 7 = nI nL := (gI _ _ (by omega) (by omega) (by omega) (by omega) (by unfold rlP; omega)).trans e7
    generalize e5 : MS (fw (mB (sI G 147 0 0) 148 0 n) hf fv) x p'' (-1) = h5 at *
    have k5 : hK h5 147 = 12 := by rw [F2.2.2.1]; exact kG
    have f1 := fault_m1 (g := sI G 147 0 0) kG rG (by rw [hI_slot _ _ _ _ (by decide)]; exact e6) k5 (by rw [sI_sI]; exact e2)
    rw [i11] at f1
    have ym := text_m1 hL4 kG e7' k5 f1
    rw [if_pos rfl] at ym
    have I2 := F2.2.2.2.2.2.1
    have j6 : hI h5 147 6 = nI n := (I2 _ _ (by unfold rlP; omega)).trans e6
    have j148 : hI (sI h5 147 6 0) 148 = hI h 148 := by
      rw [hI_row _ _ _ _ (by decide)]
      exact funext fun k => (I2 _ _ (by unfold rlP; omega)).trans (gI _ _ (by omega) (by omega) (by omega) (by omega) (by unfold rlP; omega))
    have hk : ∀ a, a ≠ N → a ≠ N + 1 → hK h5 a = hK h a := fun a z1 z2 => by rw [F2.2.2.1]; exact (gK a z1 z2).1
    have he : ∀ a, a ≠ N → a ≠ N + 1 → hE h5 a = hE h a := fun a z1 z2 => by rw [F2.2.2.2.1]; exact (gK a z1 z2).2
    have hr : ∀ a k, a ≠ N → a ≠ N + 1 → (a ≠ 137 ∨ k ≠ nL) → (a ≠ 147 ∨ k ≠ 5) → hR h5 a k = hR h a k := fun a k z1 z2 z3 z4 => (R2 a k z4).trans (gR a k z1 z2 z3)
    obtain ⟨c1, c2, c3⟩ := (ly_LXb Y).1
    have l0 := tx_71 (g := sI h5 147 6 0) (n := n) hL4 hn k5 ((hr 147 1 (by omega) (by omega) (by omega) (by omega)).trans c1) ((hk _ (by omega) (by omega)).trans c2) ((he _ (by omega) (by omega)).trans c3) ((hr 147 2 (by omega) (by omega) (by omega) (by omega)).trans b2.1) ((hk _ (by omega) (by omega)).trans b2.2.1) ((he _ (by omega) (by omega)).trans b2.2.2) ((hr 147 3 (by omega) (by omega) (by omega) (by omega)).trans b3.1) ((hk _ (by omega) (by omega)).trans b3.2.1) ((he _ (by omega) (by omega)).trans b3.2.2) (by rw [hI_slot _ _ _ _ (by decide), I2 _ _ (by unfold rlP; omega)]; exact e7') (fun i hi => by rw [j148]; exact (t4 i hi).1) n 0 (hI (sI h5 147 6 0) 149) (some (vI 1)) (by omega)
    rw [wA_self, nI_0, j148] at l0
    rw [j6] at ym
    have yf := ym.trans l0
    refine ⟨G, _, s, c, p', tc, yf, s0, s1, e, ⟨⟨?_, ?_, ?_⟩, ?_, ?_, ?_, ?_, ?_⟩, ⟨?_, ?_, ?_, ?_, ?_, ?_⟩, ⟨?_, ?_, ?_, ?_, ?_, ?_⟩⟩
    · show hN h ≤ hN h5; rw [F2.1, n9]; omega
    · show hN h5 ≤ hN h + 2; rw [F2.1, n9]; omega
    · show hS h5 ≤ hS h + 300; rw [F2.2.1, n10, F1.2.1]; omega
    · intro a z; exact ⟨hk a (by omega) (by omega), he a (by omega) (by omega)⟩
    · intro a k z p; unfold t1R at p; exact hr a k (by omega) (by omega) (by omega) (by omega)
    · intro a k z p
      unfold t1P at p
      have gg : hI h5 a k = hI h a k := (I2 _ _ (by unfold rlP; omega)).trans (gI _ _ (by omega) (by omega) (by omega) (by omega) (by unfold rlP; omega))
      by_cases c147 : a = 147
      · subst c147
        rw [hI_slot _ _ _ _ (by omega), hI_oth _ _ _ _ _ (by decide), wA_O _ _ (by decide), hI_slot _ _ _ _ (by omega)]
        exact gg
      rw [hI_oth _ _ _ _ _ c147]
      by_cases c150 : a = 150
      · subst c150
        rw [hI_slot _ _ _ _ (by omega), wA_O _ _ (by decide), hI_oth _ _ _ _ _ (by decide)]
        exact gg
      rw [hI_oth _ _ _ _ _ c150]
      by_cases c149 : a = 149
      · subst c149
        rw [wA_I, fil_out _ _ _ _ _ _ (by omega), hI_oth _ _ _ _ _ (by decide)]
        exact gg
      rw [wA_O _ _ c149, hI_oth _ _ _ _ _ c147]
      exact gg
    · intro k p
      show hL h5 101 k = hL h 101 k
      rw [F2.2.2.2.2.2.2 _ _ (by unfold rlP; omega)]
      exact gL 101 k (by omega) (by omega)
    · intro a z1 z2
      have z3 : N + 2 ≤ a := by
        have : hN h5 ≤ a := z1
        rw [F2.1, n9] at this
        exact this
      exact hk a (by omega) (by omega)
    · show hK h5 N = 1; rw [F2.2.2.1]; exact n1
    · show hR h5 N 0 = some (N + 1); rw [R2 _ _ (by omega)]; exact n2
    · show hK h5 (N + 1) = 20; rw [F2.2.2.1]; exact n3
    · show hE h5 (N + 1) = s; rw [F2.2.2.2.1]; exact n4
    · show hR h5 137 nL = some N; rw [R2 _ _ (by omega)]; exact n5
    · intro q hq
      rw [hI_oth _ _ _ _ _ (by omega), hI_oth _ _ _ _ _ (by omega), wA_O _ _ (by omega), hI_oth _ _ _ _ _ (by omega), I2 _ _ (by unfold rlP; omega), n6 q hq, CS_cd]
    · rw [hI_oth _ _ _ _ _ (by decide), hI_oth _ _ _ _ _ (by decide), wA_O _ _ (by decide), hI_oth _ _ _ _ _ (by decide), I2 _ _ (by unfold rlP; omega)]; exact n7
    · rw [hI_same]
    · rw [hI_oth _ _ _ _ _ (by decide), hI_oth _ _ _ _ _ (by decide), wA_O _ _ (by decide), hI_oth _ _ _ _ _ (by decide), I2 _ _ (by unfold rlP; omega)]; exact n8
    · rw [hI_slot _ _ _ _ (by decide), hI_oth _ _ _ _ _ (by decide), wA_O _ _ (by decide), hI_same]; rfl
    · rw [hI_oth _ _ _ _ _ (by decide), hI_same]
    · intro i hi
      rw [hI_oth _ _ _ _ _ (by decide), hI_oth _ _ _ _ _ (by decide), wA_I, fil_in _ _ _ _ _ _ (by omega) (by omega)]
  · left
    have tc := text_c1f K0 Xa.2.2.2.2.2.2.2.2.2.2 Xa.2.2.2.2.2.2.2.2.2.1 (ly_LwL Y) e14 hL4 cw e
    have M1 : LSm (sI (CS h s c p' w) 147 0 0) n (hI h 2) := lsm_fr M ⟨rfl, rfl, rfl, fun _ => rfl⟩ ⟨rfl, rfl, fun _ => rfl⟩ (fun k _ => rfl) (by rw [hI_slot _ _ _ _ (by decide)]; exact i1 _ _ (by unfold rlP; omega)) (by rw [hI_row _ _ _ _ (by decide)]; exact funext fun k => i1 _ _ (by unfold rlP; omega)) (fun k => by rw [hI_row _ _ _ _ (by omega)]; exact funext fun j => i1 _ _ (by unfold rlP; omega))
    obtain ⟨x, p'', hf, fv, e2⟩ := law_two H (ly_LwL Y) (ly_PL Y) M1 e
    have F2 : FR rlP (CS h s c p' w) (MS (fw (mB (sI (CS h s c p' w) 147 0 0) 148 0 n) hf fv) x p'' w) := (fr_sI _ 147 0 0 (by unfold rlP; omega)).trans (mls_fr _ n hf fv x p'' w)
    have i11 : hI (MS (fw (mB (sI (CS h s c p' w) 147 0 0) 148 0 n) hf fv) x p'' w) 147 11 = w := by unfold MS; rw [mw_wr]
    have kG : hK (CS h s c p' w) 147 = 12 := by rw [F1.2.2.1]; exact k147
    have k5 : hK (MS (fw (mB (sI (CS h s c p' w) 147 0 0) 148 0 n) hf fv) x p'' w) 147 = 12 := by rw [F2.2.2.1]; exact kG
    have rG : hR (sI (CS h s c p' w) 147 0 0) 147 1 = some 148 := M.2.1
    have f1 := fault_m1 (g := sI (CS h s c p' w) 147 0 0) kG rG (by rw [hI_slot _ _ _ _ (by decide)]; exact (i1 147 6 (by unfold rlP; omega)).trans M.2.2.1) k5 (by rw [sI_sI]; exact e2)
    rw [i11] at f1
    have ym := text_m1 hL4 kG ((i1 147 7 (by unfold rlP; omega)).trans e7) k5 f1
    rw [if_neg cw] at ym
    exact ⟨_, _, tc, ym, F1.trans F2⟩
