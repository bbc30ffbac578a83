/-! ===== PURE: a whole house, by both readers ===== -/
/-- the reference's reading of its tape begins -/
def mS (h : Hp) (T B n : Nat) : Hp := sI (sI (sR h 147 5 (some T)) 147 8 (nI B)) 147 9 (nI n)
theorem mS_o (h : Hp) (T B n : Nat) {a : Nat} (ha : a ≠ 147) : hI (mS h T B n) a = hI h a := by
  unfold mS
  rw [hI_row _ _ _ _ ha, hI_row _ _ _ _ ha]
  rfl
theorem mS_s (h : Hp) (T B n : Nat) {k : Nat} (h1 : k ≠ 8) (h2 : k ≠ 9) : hI (mS h T B n) 147 k = hI h 147 k := by
  unfold mS
  rw [hI_slot _ _ _ _ h2, hI_slot _ _ _ _ h1]
  rfl
theorem hs_fill {h : Hp} {s : Nat} (L : HL h s) (S : SIt h) : FX0_fillUsual [vR (some (s + 1)), vI 0, vR (some (PRE + 1))] h = some (rV, wA h (s + 1) (fil (fun j => hI h (PRE + 1) (4 * j + 3)) 0 7 0 (hI h (s + 1)))) := by
  obtain ⟨c1, c2, c3, c4, c5, c6, c7, c8, c9, c10⟩ := ic_s L S
  have := fill_sp (f := hI h (s + 1)) (m := 0) c1 c2 (by omega) c3 c4 (Ne.symm c5) c6 c7
  rw [wA_self, nI_0] at this
  exact this
theorem hm_fill {hm : Hp} {g : Nat → Int32} (L : ML hm) (u : ∀ j, j < 7 → ∀ h', FX12_usual [vI 115, vI (nI j)] h' = some (rI (g j), h')) : ∀ k i r, i + k = 7 → Run kX12_readHouse 30 [some (vR (some 147)), some (vI (nI i))] [] (wA hm 153 r) = Run kX12_readHouse 56 [some (vR (some 147)), some (vI 1)] [] (wA hm 153 (fil g 0 k i r)) := by
  obtain ⟨M1, M2, _, _, ⟨M5, M6⟩, _⟩ := L
  intro k
  induction k with
  | zero =>
    intro i r hi
    have : i = 7 := by omega
    subst this
    rw [tX12_readHouse_30, if_pos (by decide)]
    rfl
  | succ k ih =>
    intro i r hi
    have e1 : ¬ (7 : Int32) ≤ nI i := by rw [show (7 : Int32) = nI 7 from rfl, nI_nle' (by omega) (by omega)]; omega
    have b0 : inb (nI i) 7 = true := inb_nI (by omega) (by omega)
    have c0 : (nI i).toNatClampNeg = i := nI_clamp (by omega)
    rw [tX12_readHouse_30]
    simp only [oB_some, dR_some, cond_true, cond_false, if_true, if_false, Bool.true_and, Bool.and_true, Nat.beq_refl, e1, wA_K, wA_E, wA_R, M1, M2, M5, M6, u i (show i < 7 by omega), b0, c0, sI_ws, nI_1, ih (i + 1) _ (by omega)]
    show _ = Run kX12_readHouse 56 [some (vR (some 147)), some (vI 1)] [] (wA hm 153 (fil g 0 k (i + 1) (up1 r (0 + i) (g i))))
    rw [Nat.zero_add]
theorem house_both {h hm : Hp} {n s : Nat} (H : HT h n) (L : HL h s) (S : SIt h) (L' : ML hm) (Z' : MIt hm) (t1 : hR hm 147 1 = some 148) (t2 : hI hm 147 6 = nI n) (t3 : hK hm 148 = 21) (t4 : hE hm 148 = 240) (tb : ∀ i, i < n → isBy (hI hm 148 i)) (tt : ∀ i, i < n → hI hm 148 i &&& 255 = hI h 2 i) :
    FO h (mS hm 148 0 n) n s (FX0_readFrom [vR (some s), vR (some 1)] h) (FX12_readHouse [vR (some 147)] hm) := by
  have hn := H.2.2
  have L0 := L
  obtain ⟨L1, L2, L3, L4, _, _, _, b1, b2⟩ := L
  obtain ⟨M1, M2, M3, M4, M5, M6, M7⟩ := L'
  have P := PRE_big
  have Z : HB h (mS hm 148 0 n) n 148 0 s := by
    refine ⟨H, L0, S, ⟨⟨⟨M1, ?_, t3, ?_, ?_, ?_, ?_, by decide⟩, fun i hi => ?_⟩, fun i hi => ?_⟩, ⟨M1, ?_, ?_, ?_, M5, M6, M7⟩, ?_, by decide, by decide⟩
    · unfold mS; simp only [hR_sI, hR_sR, if_true]
    · show 0 + n ≤ hE hm 148; omega
    · show hE hm 148 ≤ 1000; omega
    · unfold mS; rw [hI_slot _ _ _ _ (by decide), hI_same]
    · unfold mS; rw [hI_same]
    · rw [mS_o _ _ _ _ (by decide), Nat.zero_add]; exact tb i hi
    · unfold mt; rw [mS_o _ _ _ _ (by decide), Nat.zero_add]; exact tt i hi
    · unfold mS; simp only [hR_sI, hR_sR, if_true, show ¬ ((19 : Nat) = 5) by decide, if_false]; exact M2
    · unfold mS; simp only [hR_sI, hR_sR, if_true, show ¬ ((21 : Nat) = 5) by decide, if_false]; exact M3
    · unfold mS; simp only [hR_sI, hR_sR, if_true, show ¬ ((23 : Nat) = 5) by decide, if_false]; exact M4
    · unfold MIt StL
      rw [mS_o _ _ _ _ (show PRE + 12 + 100 ≠ 147 by decide), mS_o _ _ _ _ (show PRE + 13 + 100 ≠ 147 by decide), mS_o _ _ _ _ (show PRE + 14 + 100 ≠ 147 by decide)]
      exact Z'
  -- the class begins
  have C1 : HCl h (sI (sI (sI (sI (tw h 0 (-1)) s 0 0) s 1 0) s 5 0) s 6 0) n s 0 (-1) := by
    have C0 : HCl h (tw h 0 (-1)) n s 0 (-1) := ⟨only_tw h 0 (-1) hsL_mem.1, by rw [tw_len]; exact H.2.1, tw_at _ _ _, tw_wr _ _ _⟩
    exact (((C0.sI' 0 0 hsL_mem.2.1 (by omega)).sI' 1 0 hsL_mem.2.1 (by omega)).sI' 5 0 hsL_mem.2.1 (by omega)).sI' 6 0 hsL_mem.2.1 (by omega)
  have S1 := Z.SIt' C1
  have g1 : ∀ j, j < 7 → hI (sI (sI (sI (sI (tw h 0 (-1)) s 0 0) s 1 0) s 5 0) s 6 0) (PRE + 1) (4 * j + 3) = nI (bT RIt (4 * j + 3)) := fun j hj => S1.1.2.2 _ (by omega)
  have eA : FX0_readFrom [vR (some s), vR (some 1)] h = Run kX0_readFrom 39 [some (vR (some s)), some (vR (some 1)), some (vI 1), some (vI (nI 0))] [] (wA (sI (sI (sI (sI (tw h 0 (-1)) s 0 0) s 1 0) s 5 0) s 6 0) (s + 1) (fil (fun j => hI (sI (sI (sI (sI (tw h 0 (-1)) s 0 0) s 1 0) s 5 0) s 6 0) (PRE + 1) (4 * j + 3)) 0 7 0 (hI (sI (sI (sI (sI (tw h 0 (-1)) s 0 0) s 1 0) s 5 0) s 6 0) (s + 1)))) := by
    rw [tX0_readFrom]
    simp only [oB_some, dR_some, cond_true, cond_false, if_true, if_false, Bool.true_and, Bool.and_true, Nat.beq_refl, H.1.1, tp_rewind H.1, hK_sI, hR_sI, tw_K, tw_R, L1, L2, isZ0, hs_fill (Z.HL' C1) S1]
    rw [nI_0]
  -- the reference begins
  have eB : FX12_readHouse [vR (some 147)] hm = Run kX12_readHouse 30 [some (vR (some 147)), some (vI (nI 0))] [] (sI (sI (sI (mw (mS hm 148 0 n) 0 (-1)) 147 28 0) 147 29 0) 147 31 0) := by
    rw [tX12_readHouse, tX12_starts]
    simp only [oB_some, dR_some, cond_true, cond_false, if_true, if_false, Bool.true_and, Bool.and_true, Nat.beq_refl, M1, t1, t2, hK_sI, hK_sR, isZ0]
    unfold mw mS
    rw [nI_0]
  have R1 : RCl (mS hm 148 0 n) (sI (sI (sI (mw (mS hm 148 0 n) 0 (-1)) 147 28 0) 147 29 0) 147 31 0) (-1) := by
    have R0 : RCl (mS hm 148 0 n) (mw (mS hm 148 0 n) 0 (-1)) (-1) := ⟨only_mw _ _ _ (by simp), fun k a b _ _ _ => mw_sl _ _ _ a b, mw_wr _ _ _⟩
    exact ((R0.sI' 0 (by omega)).sI' 0 (by omega)).sI' 0 (by omega)
  have wS := wA_self (sI (sI (sI (mw (mS hm 148 0 n) 0 (-1)) 147 28 0) 147 29 0) 147 31 0) 153
  rw [eA, eB, ← wS, hm_fill (g := fun j => nI (bT RIt (4 * j + 3))) (Z.ML' R1) (fun j hj h' => (us_s hj h').1) 7 0 _ (by omega)]
  refine hs_loop Z 12 0 _ _ 0 0 0 0 (by omega) (by omega) (by omega) ⟨C1.wA' _ hsL_mem.2.2.1 (by omega), R1.wA' _ (by simp), ?_, ⟨?_, ?_, ?_, ?_⟩, ⟨?_, ?_, ?_⟩, ⟨by omega, by omega, by omega⟩, ⟨?_, ?_, ?_⟩, ?_, ?_, ?_⟩
  · simp (disch := omega) only [tw_row, tw_len, wA_I, wA_O, hI_same, hI_slot, hI_oth, hI_row, mw_row, mw_at, mw_wr, mw_sl]
  · simp (disch := omega) only [tw_row, tw_len, wA_I, wA_O, hI_same, hI_slot, hI_oth, hI_row, mw_row, mw_at, mw_wr, mw_sl]
  · simp (disch := omega) only [tw_row, tw_len, wA_I, wA_O, hI_same, hI_slot, hI_oth, hI_row, mw_row, mw_at, mw_wr, mw_sl, nI_0]
  · simp (disch := omega) only [tw_row, tw_len, wA_I, wA_O, hI_same, hI_slot, hI_oth, hI_row, mw_row, mw_at, mw_wr, mw_sl, nI_0]
  · simp (disch := omega) only [tw_row, tw_len, wA_I, wA_O, hI_same, hI_slot, hI_oth, hI_row, mw_row, mw_at, mw_wr, mw_sl, nI_0]
  · simp (disch := omega) only [tw_row, tw_len, wA_I, wA_O, hI_same, hI_slot, hI_oth, hI_row, mw_row, mw_at, mw_wr, mw_sl, nI_0]
  · simp (disch := omega) only [tw_row, tw_len, wA_I, wA_O, hI_same, hI_slot, hI_oth, hI_row, mw_row, mw_at, mw_wr, mw_sl, nI_0]
  · simp (disch := omega) only [tw_row, tw_len, wA_I, wA_O, hI_same, hI_slot, hI_oth, hI_row, mw_row, mw_at, mw_wr, mw_sl, nI_0]
  · rw [wA_I, wA_I]
    intro j hj
    have a1 := fil_in (fun j => hI (sI (sI (sI (sI (tw h 0 (-1)) s 0 0) s 1 0) s 5 0) s 6 0) (PRE + 1) (4 * j + 3)) 0 7 0 (hI (sI (sI (sI (sI (tw h 0 (-1)) s 0 0) s 1 0) s 5 0) s 6 0) (s + 1)) j (by omega) (by omega)
    have a2 := fil_in (fun j => nI (bT RIt (4 * j + 3))) 0 7 0 (hI (sI (sI (sI (mw (mS hm 148 0 n) 0 (-1)) 147 28 0) 147 29 0) 147 31 0) 153) j (by omega) (by omega)
    rw [Nat.zero_add] at a1 a2
    rw [a1, a2]
    exact g1 j hj
  · intro j hj; exact absurd hj (by omega)
  · intro j hj; exact absurd hj (by omega)
  · rw [wA_I]
    intro j hj
    rw [fil_in _ _ _ _ _ _ (by omega) (by omega), g1 j hj]
    exact (rit_ok j hj).2.2.2
  · intro d hd; exact absurd hd (by omega)
  · intro d hd; exact absurd hd (by omega)
