/-! ===== PURE: a clause of a house, by both readers ===== -/
theorem only_tw (h : Hp) (p : Nat) (w : Int32) {l : List Nat} (hl : 1 ∈ l) : Only h (tw h p w) l := (only_sI h 2 (nI p) hl).trans (only_sI _ 3 w hl)
theorem only_mw (h : Hp) (p : Nat) (w : Int32) {l : List Nat} (hl : 147 ∈ l) : Only h (mw h p w) l := (only_sI h 10 (nI p) hl).trans (only_sI _ 11 w hl)
theorem Rg.congr {g g' f : Nat → Int32} {m K : Nat} (e : ∀ k, k < 4 * K → g k = g' k) (R : Rg g f m K) : Rg g' f m K := by
  intro j hj
  have := R j hj
  rw [e _ (by omega), e _ (by omega)] at this
  exact this
theorem Rg.row {g f f' : Nat → Int32} {m K : Nat} (e : ∀ j, j < K → f' (m + j) = f (m + j)) (R : Rg g f m K) : Rg g f' m K := by
  intro j hj
  rw [e j hj]; exact R j hj
abbrev gR : Nat → Int32 := fun k => nI (bT RIt k)
abbrev gD : Nat → Int32 := fun k => nI (bT DIt k)
abbrev gB : Nat → Int32 := fun k => nI (bT BIt k)
def hsL (s : Nat) : List Nat := [1, s, s + 1, s + 2, s + 3]
def HCl (h0 h : Hp) (n s p : Nat) (w : Int32) : Prop := Only h0 h (hsL s) ∧ hI h 1 1 = nI n ∧ hI h 1 2 = nI p ∧ hI h 1 3 = w
def RCl (hm0 hm : Hp) (w : Int32) : Prop := Only hm0 hm [147, 153, 155, 157] ∧ (∀ k, k ≠ 10 → k ≠ 11 → k ≠ 28 → k ≠ 29 → k ≠ 31 → hI hm 147 k = hI hm0 147 k) ∧ hI hm 147 11 = w
def RgH (h : Hp) (s dc bc : Nat) : Prop := Rg gR (hI h (s + 1)) 0 7 ∧ (∀ d, d < dc → Rg gD (hI h (s + 2)) (3 * d) 3) ∧ (∀ d, d < bc → Rg gB (hI h (s + 3)) (3 * d) 3)
def HF (h hm : Hp) (s ru dc bc : Nat) : Prop := (hI h s 0 = 0 ∧ hI h s 1 = nI ru ∧ hI h s 5 = nI dc ∧ hI h s 6 = nI bc) ∧ (hI hm 147 28 = nI dc ∧ hI hm 147 29 = nI bc ∧ hI hm 147 31 = nI ru) ∧ (ru ≤ 1 ∧ dc ≤ 6 ∧ bc ≤ 5) ∧ (EqTo (hI h (s + 1)) (hI hm 153) 7 ∧ EqTo (hI h (s + 2)) (hI hm 155) (3 * dc) ∧ EqTo (hI h (s + 3)) (hI hm 157) (3 * bc)) ∧ RgH h s dc bc
def HV (h0 h hm0 hm : Hp) (n s p pm ru dc bc : Nat) : Prop := HCl h0 h n s p (-1) ∧ RCl hm0 hm (-1) ∧ hI hm 147 10 = nI pm ∧ HF h hm s ru dc bc
def CO (h0 hm0 : Hp) (n s c : Nat) (A D : Option (RV × Hp)) : Prop :=
  (∃ h' hm' p' ru dc bc, p' ≤ n ∧ A = some (rV, h') ∧ D = some (rV, hm') ∧ HV h0 h' hm0 hm' n s p' (sk (hI h0 2) n p') ru dc bc ∧ ru + dc + bc = c + 1) ∨
  (∃ h' hm' p', p' ≤ n ∧ A = some (rV, h') ∧ D = some (rV, hm') ∧ HCl h0 h' n s p' (-1) ∧ RCl hm0 hm' (nI (sk (hI h0 2) n p')) ∧ chT (hI h0 2) n (sk (hI h0 2) n p') ≠ 59 ∧ chT (hI h0 2) n (sk (hI h0 2) n p') ≠ -1) ∨
  (∃ h' hm' p' w, w ≠ -1 ∧ p' ≤ n ∧ A = some (rV, h') ∧ D = some (rV, hm') ∧ HCl h0 h' n s p' w ∧ RCl hm0 hm' w)
/-- what stands fast while a house is read -/
def HB (h0 hm0 : Hp) (n T B s : Nat) : Prop := HT h0 n ∧ HL h0 s ∧ SIt h0 ∧ TX hm0 T B n (hI h0 2) ∧ ML hm0 ∧ MIt hm0 ∧ (T ≠ 153 ∧ T ≠ 155 ∧ T ≠ 157) ∧ T < 1000
theorem hsL_mem {s : Nat} : 1 ∈ hsL s ∧ s ∈ hsL s ∧ s + 1 ∈ hsL s ∧ s + 2 ∈ hsL s ∧ s + 3 ∈ hsL s := by unfold hsL; simp
theorem hsL_2 {s : Nat} (hs : 2 < s) : 2 ∉ hsL s := by unfold hsL; simp; omega
theorem hsL_P {s k : Nat} (hs : s < 1000) : PRE + k ∉ hsL s := by have := PRE_big; unfold hsL; simp; omega
theorem rl_P {k : Nat} : PRE + k ∉ [147, 153, 155, 157] := by have := PRE_big; simp; omega
theorem HB.HT' {h0 h hm0 : Hp} {n T B s p : Nat} {w : Int32} (Z : HB h0 hm0 n T B s) (C : HCl h0 h n s p w) : HT h n := by
  obtain ⟨⟨⟨a1, a2, a3, a4⟩, a5, a6⟩, _⟩ := Z
  obtain ⟨O, l, _⟩ := C
  exact ⟨⟨by rw [O.K]; exact a1, by rw [O.R]; exact a2, by rw [O.K]; exact a3, by rw [O.E]; exact a4⟩, l, a6⟩
theorem HB.row2' {h0 h hm0 : Hp} {n T B s p : Nat} {w : Int32} (Z : HB h0 hm0 n T B s) (C : HCl h0 h n s p w) : hI h 2 = hI h0 2 := C.1.I (hsL_2 Z.2.1.2.2.2.2.2.2.2.1)
theorem HB.HL' {h0 h hm0 : Hp} {n T B s p : Nat} {w : Int32} (Z : HB h0 hm0 n T B s) (C : HCl h0 h n s p w) : HL h s := by
  obtain ⟨_, L, _⟩ := Z
  unfold HL
  rw [C.1.K, C.1.R, C.1.E]; exact L
theorem HB.SIt' {h0 h hm0 : Hp} {n T B s p : Nat} {w : Int32} (Z : HB h0 hm0 n T B s) (C : HCl h0 h n s p w) : SIt h := by
  have hs := Z.2.1.2.2.2.2.2.2.2.2
  obtain ⟨_, _, L, _⟩ := Z
  unfold SIt
  rw [C.1.K, C.1.E, C.1.I (hsL_P hs), C.1.I (hsL_P hs), C.1.I (hsL_P hs)]; exact L
theorem HB.ML' {h0 hm0 hm : Hp} {n T B s : Nat} {w : Int32} (Z : HB h0 hm0 n T B s) (C : RCl hm0 hm w) : ML hm := by
  obtain ⟨_, _, _, _, L, _⟩ := Z
  unfold ML
  rw [C.1.K, C.1.R, C.1.E]; exact L
theorem HB.MIt' {h0 hm0 hm : Hp} {n T B s : Nat} {w : Int32} (Z : HB h0 hm0 n T B s) (C : RCl hm0 hm w) : MIt hm := by
  obtain ⟨_, _, _, _, _, L, _⟩ := Z
  unfold MIt StL
  rw [C.1.K, C.1.E, C.1.I (b := PRE + 12 + 100) (by decide), C.1.I (b := PRE + 13 + 100) (by decide), C.1.I (b := PRE + 14 + 100) (by decide)]; exact L
theorem HB.TX' {h0 hm0 hm : Hp} {n T B s : Nat} {w : Int32} (Z : HB h0 hm0 n T B s) (C : RCl hm0 hm w) : TX hm T B n (hI h0 2) := by
  obtain ⟨_, _, _, ⟨⟨⟨M1, M2, M3, M4, M5, M6, M7, M8⟩, hby⟩, ht⟩, _, _, t1, _⟩ := Z
  have eT : hI hm T = hI hm0 T := C.1.I (by simp; omega)
  refine ⟨⟨⟨by rw [C.1.K]; exact M1, by rw [C.1.R]; exact M2, by rw [C.1.K]; exact M3, by rw [C.1.E]; exact M4, by rw [C.1.E]; exact M5, ?_, ?_, M8⟩, ?_⟩, ?_⟩
  · rw [C.2.1 8 (by decide) (by decide) (by decide) (by decide) (by decide)]; exact M6
  · rw [C.2.1 9 (by decide) (by decide) (by decide) (by decide) (by decide)]; exact M7
  · rw [eT]; exact hby
  · unfold mt; rw [eT]; exact ht
theorem HCl.tw' {h0 h : Hp} {n s p : Nat} {w : Int32} (C : HCl h0 h n s p w) (q : Nat) (v : Int32) : HCl h0 (tw h q v) n s q v :=
  ⟨C.1.trans (only_tw h q v hsL_mem.1), by rw [tw_len]; exact C.2.1, tw_at _ _ _, tw_wr _ _ _⟩
theorem HCl.wA' {h0 h : Hp} {n s p a : Nat} {w : Int32} (C : HCl h0 h n s p w) (f : Nat → Int32) (ha : a ∈ hsL s) (h1 : a ≠ 1) : HCl h0 (wA h a f) n s p w :=
  ⟨C.1.trans (only_wA h f ha), by rw [wA_O _ _ (Ne.symm h1)]; exact C.2.1, by rw [wA_O _ _ (Ne.symm h1)]; exact C.2.2.1, by rw [wA_O _ _ (Ne.symm h1)]; exact C.2.2.2⟩
theorem HCl.sI' {h0 h : Hp} {n s p a : Nat} {w : Int32} (C : HCl h0 h n s p w) (k : Nat) (v : Int32) (ha : a ∈ hsL s) (h1 : a ≠ 1) : HCl h0 (sI h a k v) n s p w := by
  rw [sI_wA]; exact C.wA' _ ha h1
theorem RCl.mw' {hm0 hm : Hp} {w : Int32} (C : RCl hm0 hm w) (q : Nat) (v : Int32) : RCl hm0 (mw hm q v) v :=
  ⟨C.1.trans (only_mw hm q v (by simp)), fun k a b c d e => by rw [mw_sl _ _ _ a b]; exact C.2.1 k a b c d e, mw_wr _ _ _⟩
theorem RCl.wA' {hm0 hm : Hp} {a : Nat} {w : Int32} (C : RCl hm0 hm w) (f : Nat → Int32) (ha : a ∈ [153, 155, 157]) : RCl hm0 (wA hm a f) w := by
  have h1 : a ≠ 147 := by intro e; subst e; simp at ha
  refine ⟨C.1.trans (only_wA hm f (by simp at ha ⊢; omega)), fun k a' b c d e => ?_, ?_⟩
  · rw [wA_O _ _ (Ne.symm h1)]; exact C.2.1 k a' b c d e
  · rw [wA_O _ _ (Ne.symm h1)]; exact C.2.2
theorem RCl.sI' {hm0 hm : Hp} {w : Int32} (C : RCl hm0 hm w) {k : Nat} (v : Int32) (hk : k = 28 ∨ k = 29 ∨ k = 31) : RCl hm0 (sI hm 147 k v) w := by
  refine ⟨C.1.trans (only_sI hm k v (by simp)), fun k' a b c d e => ?_, ?_⟩
  · rw [hI_slot _ _ _ _ (by omega)]; exact C.2.1 k' a b c d e
  · rw [hI_slot _ _ _ _ (by omega)]; exact C.2.2
theorem HCl.self' {h0 h : Hp} {n s p : Nat} {w : Int32} (C : HCl h0 h n s p w) : tw h p w = h := tw_self C.2.2.1 C.2.2.2
theorem co_s {h0 h hm0 hm : Hp} {n T B s p q dc bc : Nat} (Z : HB h0 hm0 n T B s) (V : HV h0 h hm0 hm n s p p 0 dc bc) (hq : q < n) :
    CO h0 hm0 n s (0 + dc + bc) (oB (FX0_readItems [vR (some 1), vR (some (s + 1)), vI 0, vR (some (PRE + 1))] (sI (tw h (q + 1) (-1)) s 1 1)) (fun _ h9 => some (rV, h9))) (oB (FX12_readItems [vR (some 147), vI 115, vR (some 153), vI 0, vR (some (PRE + 12))] (sI (mw hm (q + 1) (-1)) 147 31 1)) (fun _ h9 => some (rV, h9))) := by
  have P := PRE_big
  obtain ⟨C, R, pm, ⟨F1, F2, F3, F4⟩, ⟨G1, G2, G3⟩, ⟨l1, l2, l3⟩, ⟨E1, E2, E3⟩, ⟨Q1, Q2, Q3⟩⟩ := V
  have b1 := Z.2.1.2.2.2.2.2.2.2.1
  have b2 := Z.2.1.2.2.2.2.2.2.2.2
  have t1 := Z.2.2.2.2.2.2.1
  have C2 : HCl h0 (sI (tw h (q + 1) (-1)) s 1 1) n s (q + 1) (-1) := (C.tw' _ _).sI' 1 1 hsL_mem.2.1 (by omega)
  have R2 : RCl hm0 (sI (mw hm (q + 1) (-1)) 147 31 1) (-1) := (R.mw' _ _).sI' 1 (by omega)
  have p2 : hI (sI (mw hm (q + 1) (-1)) 147 31 1) 147 10 = nI (q + 1) := by rw [hI_slot _ _ _ _ (by decide), mw_at]
  have r2 := Z.row2' C2
  have S2 := Z.SIt' C2
  have g1 : ∀ k, k < 4 * 7 → hI (sI (tw h (q + 1) (-1)) s 1 1) (PRE + 1) k = gR k := fun k hk => S2.1.2.2 k (by omega)
  have X := Z.TX' R2
  rw [← r2] at X
  have K := it_go (Z.HT' C2) C2.2.2.1 C2.2.2.2 p2 R2.2.2 (ic_s (Z.HL' C2) S2) (im_s X (Z.ML' R2) S2 (Z.MIt' R2) t1.1) (un_s S2) (show q + 1 ≤ n by omega) (fun j hj => absurd hj (Nat.not_lt_zero j))
  unfold IO at K
  rw [nI_0, r2] at K
  rcases K with ⟨f', r', p', k1, k2, k3, k4, A, D⟩ | ⟨f', r', p', k1, k2, k3, A, D⟩ | ⟨w, f', r', p', p'', k1, k2, A, D⟩
  · rw [A, D, oB_some, oB_some]
    refine Or.inl ⟨_, _, p', 1, dc, bc, k1, rfl, rfl, ⟨(C2.wA' f' hsL_mem.2.2.1 (by omega)).tw' _ _, (R2.wA' r' (by simp)).mw' _ _, mw_at _ _ _, ⟨?_, ?_, ?_, ?_⟩, ⟨?_, ?_, ?_⟩, ⟨by omega, l2, l3⟩, ⟨?_, ?_, ?_⟩, ?_, ?_, ?_⟩, by omega⟩
    all_goals simp (disch := omega) only [tw_row, tw_len, wA_I, wA_O, hI_same, hI_slot, hI_oth, hI_row, mw_row, mw_at, mw_wr, mw_sl]
    · exact F1
    · rfl
    · exact F3
    · exact F4
    · exact G1
    · exact G2
    · rfl
    · exact k2
    · exact E2
    · exact E3
    · exact k3.congr g1
    · exact Q2
    · exact Q3
  · rw [A, D, oB_some, oB_some]
    refine Or.inr (Or.inl ⟨_, _, p', k1, rfl, rfl, (C2.wA' f' hsL_mem.2.2.1 (by omega)).tw' _ _, ?_, k2, k3⟩)
    exact (R2.wA' r' (by simp)).mw' _ _
  · rw [A, D, oB_some, oB_some]
    exact Or.inr (Or.inr ⟨_, _, p', w, k1, k2, rfl, rfl, (C2.wA' f' hsL_mem.2.2.1 (by omega)).tw' _ _, (R2.wA' r' (by simp)).mw' _ _⟩)
theorem co_d {h0 h hm0 hm : Hp} {n T B s p q ru dc bc : Nat} (Z : HB h0 hm0 n T B s) (V : HV h0 h hm0 hm n s p p ru dc bc) (hq : q < n) (hc : dc < 6) :
    CO h0 hm0 n s (ru + dc + bc) (oB (FX0_readItems [vR (some 1), vR (some (s + 2)), vI (nI (3 * dc)), vR (some (PRE + 2))] (tw h (q + 1) (-1))) (fun _ h26 => if hK h26 s = 0 then if hK h26 s = 0 then oB (some (rV, sI h26 s 5 ((hI h26 s 5) + 1))) (fun _ h27 => some (rV, h27)) else none else none)) (oB (FX12_readItems [vR (some 147), vI 100, vR (some 155), vI (nI (3 * dc)), vR (some (PRE + 13))] (sI (mw hm (q + 1) (-1)) 147 28 (nI (dc + 1)))) (fun _ h9 => some (rV, h9))) := by
  have P := PRE_big
  obtain ⟨C, R, pm, ⟨F1, F2, F3, F4⟩, ⟨G1, G2, G3⟩, ⟨l1, l2, l3⟩, ⟨E1, E2, E3⟩, ⟨Q1, Q2, Q3⟩⟩ := V
  have b0 := Z.2.1.1
  have b1 := Z.2.1.2.2.2.2.2.2.2.1
  have b2 := Z.2.1.2.2.2.2.2.2.2.2
  have t1 := Z.2.2.2.2.2.2.1
  have C2 : HCl h0 (tw h (q + 1) (-1)) n s (q + 1) (-1) := C.tw' _ _
  have R2 : RCl hm0 (sI (mw hm (q + 1) (-1)) 147 28 (nI (dc + 1))) (-1) := (R.mw' _ _).sI' _ (by omega)
  have p2 : hI (sI (mw hm (q + 1) (-1)) 147 28 (nI (dc + 1))) 147 10 = nI (q + 1) := by rw [hI_slot _ _ _ _ (by decide), mw_at]
  have r2 := Z.row2' C2
  have S2 := Z.SIt' C2
  have g1 : ∀ k, k < 4 * 3 → hI (tw h (q + 1) (-1)) (PRE + 2) k = gD k := fun k hk => S2.2.1.2.2 k (by omega)
  have X := Z.TX' R2
  rw [← r2] at X
  have E' : EqTo (hI (tw h (q + 1) (-1)) (s + 2)) (hI (sI (mw hm (q + 1) (-1)) 147 28 (nI (dc + 1))) 155) (3 * dc) := by
    simp (disch := omega) only [tw_row, tw_len, wA_I, wA_O, hI_same, hI_slot, hI_oth, hI_row, mw_row, mw_at, mw_wr, mw_sl]
    exact E2
  have K := it_go (Z.HT' C2) C2.2.2.1 C2.2.2.2 p2 R2.2.2 (ic_d (Z.HL' C2) S2 hc) (im_d (d := dc) X (Z.ML' R2) S2 (Z.MIt' R2) t1.2.1) (un_d S2) (show q + 1 ≤ n by omega) E'
  unfold IO at K
  rw [r2] at K
  have hk : ∀ f' p' w', hK (tw (wA (tw h (q + 1) (-1)) (s + 2) f') p' w') s = 0 := fun f' p' w' => by
    show hK h s = 0
    rw [C.1.K]; exact b0
  have hv : ∀ f' p' w', hI (tw (wA (tw h (q + 1) (-1)) (s + 2) f') p' w') s 5 = nI dc := fun f' p' w' => by
    simp (disch := omega) only [tw_row, tw_len, wA_I, wA_O, hI_same, hI_slot, hI_oth, hI_row, mw_row, mw_at, mw_wr, mw_sl]
    exact F3
  rcases K with ⟨f', r', p', k1, k2, k3, k4, A, D⟩ | ⟨f', r', p', k1, k2, k3, A, D⟩ | ⟨w, f', r', p', p'', k1, k2, A, D⟩
  · rw [A, D, oB_some, oB_some]
    simp only [hk, hv, if_true, oB_some, nI_1]
    refine Or.inl ⟨_, _, p', ru, dc + 1, bc, k1, rfl, rfl, ⟨((C2.wA' f' hsL_mem.2.2.2.1 (by omega)).tw' _ _).sI' _ _ hsL_mem.2.1 (by omega), (R2.wA' r' (by simp)).mw' _ _, mw_at _ _ _, ⟨?_, ?_, ?_, ?_⟩, ⟨?_, ?_, ?_⟩, ⟨by omega, by omega, by omega⟩, ⟨?_, ?_, ?_⟩, ?_, ?_, ?_⟩, by omega⟩
    all_goals simp (disch := omega) only [tw_row, tw_len, wA_I, wA_O, hI_same, hI_slot, hI_oth, hI_row, mw_row, mw_at, mw_wr, mw_sl]
    · exact F1
    · exact F2
    · exact F4
    · exact G2
    · exact G3
    · exact E1
    · exact k2
    · exact E3
    · exact Q1
    · intro d hd
      by_cases cc : d < dc
      · refine (Q2 d cc).row (fun j hj => ?_)
        rw [k4 _ (by omega)]
        simp (disch := omega) only [tw_row, tw_len, wA_I, wA_O, hI_same, hI_slot, hI_oth, hI_row, mw_row, mw_at, mw_wr, mw_sl]
      · have : d = dc := by omega
        subst this
        exact k3.congr g1
    · exact Q3
  · rw [A, D, oB_some, oB_some]
    simp only [hk, hv, if_true, oB_some, nI_1]
    refine Or.inr (Or.inl ⟨_, _, p', k1, rfl, rfl, ((C2.wA' f' hsL_mem.2.2.2.1 (by omega)).tw' _ _).sI' _ _ hsL_mem.2.1 (by omega), ?_, k2, k3⟩)
    exact (R2.wA' r' (by simp)).mw' _ _
  · rw [A, D, oB_some, oB_some]
    simp only [hk, hv, if_true, oB_some, nI_1]
    exact Or.inr (Or.inr ⟨_, _, p', w, k1, k2, rfl, rfl, ((C2.wA' f' hsL_mem.2.2.2.1 (by omega)).tw' _ _).sI' _ _ hsL_mem.2.1 (by omega), (R2.wA' r' (by simp)).mw' _ _⟩)
theorem co_b {h0 h hm0 hm : Hp} {n T B s p q ru dc bc : Nat} (Z : HB h0 hm0 n T B s) (V : HV h0 h hm0 hm n s p p ru dc bc) (hq : q < n) (hc : bc < 5) :
    CO h0 hm0 n s (ru + dc + bc) (oB (FX0_readItems [vR (some 1), vR (some (s + 3)), vI (nI (3 * bc)), vR (some (PRE + 3))] (tw h (q + 1) (-1))) (fun _ h26 => if hK h26 s = 0 then if hK h26 s = 0 then oB (some (rV, sI h26 s 6 ((hI h26 s 6) + 1))) (fun _ h27 => some (rV, h27)) else none else none)) (oB (FX12_readItems [vR (some 147), vI 98, vR (some 157), vI (nI (3 * bc)), vR (some (PRE + 14))] (sI (mw hm (q + 1) (-1)) 147 29 (nI (bc + 1)))) (fun _ h9 => some (rV, h9))) := by
  have P := PRE_big
  obtain ⟨C, R, pm, ⟨F1, F2, F3, F4⟩, ⟨G1, G2, G3⟩, ⟨l1, l2, l3⟩, ⟨E1, E2, E3⟩, ⟨Q1, Q2, Q3⟩⟩ := V
  have b0 := Z.2.1.1
  have b1 := Z.2.1.2.2.2.2.2.2.2.1
  have b2 := Z.2.1.2.2.2.2.2.2.2.2
  have t1 := Z.2.2.2.2.2.2.1
  have C2 : HCl h0 (tw h (q + 1) (-1)) n s (q + 1) (-1) := C.tw' _ _
  have R2 : RCl hm0 (sI (mw hm (q + 1) (-1)) 147 29 (nI (bc + 1))) (-1) := (R.mw' _ _).sI' _ (by omega)
  have p2 : hI (sI (mw hm (q + 1) (-1)) 147 29 (nI (bc + 1))) 147 10 = nI (q + 1) := by rw [hI_slot _ _ _ _ (by decide), mw_at]
  have r2 := Z.row2' C2
  have S2 := Z.SIt' C2
  have g1 : ∀ k, k < 4 * 3 → hI (tw h (q + 1) (-1)) (PRE + 3) k = gB k := fun k hk => S2.2.2.2.2 k (by omega)
  have X := Z.TX' R2
  rw [← r2] at X
  have E' : EqTo (hI (tw h (q + 1) (-1)) (s + 3)) (hI (sI (mw hm (q + 1) (-1)) 147 29 (nI (bc + 1))) 157) (3 * bc) := by
    simp (disch := omega) only [tw_row, tw_len, wA_I, wA_O, hI_same, hI_slot, hI_oth, hI_row, mw_row, mw_at, mw_wr, mw_sl]
    exact E3
  have K := it_go (Z.HT' C2) C2.2.2.1 C2.2.2.2 p2 R2.2.2 (ic_b (Z.HL' C2) S2 hc) (im_b (d := bc) X (Z.ML' R2) S2 (Z.MIt' R2) t1.2.2) (un_b S2) (show q + 1 ≤ n by omega) E'
  unfold IO at K
  rw [r2] at K
  have hk : ∀ f' p' w', hK (tw (wA (tw h (q + 1) (-1)) (s + 3) f') p' w') s = 0 := fun f' p' w' => by
    show hK h s = 0
    rw [C.1.K]; exact b0
  have hv : ∀ f' p' w', hI (tw (wA (tw h (q + 1) (-1)) (s + 3) f') p' w') s 6 = nI bc := fun f' p' w' => by
    simp (disch := omega) only [tw_row, tw_len, wA_I, wA_O, hI_same, hI_slot, hI_oth, hI_row, mw_row, mw_at, mw_wr, mw_sl]
    exact F4
  rcases K with ⟨f', r', p', k1, k2, k3, k4, A, D⟩ | ⟨f', r', p', k1, k2, k3, A, D⟩ | ⟨w, f', r', p', p'', k1, k2, A, D⟩
  · rw [A, D, oB_some, oB_some]
    simp only [hk, hv, if_true, oB_some, nI_1]
    refine Or.inl ⟨_, _, p', ru, dc, bc + 1, k1, rfl, rfl, ⟨((C2.wA' f' hsL_mem.2.2.2.2 (by omega)).tw' _ _).sI' _ _ hsL_mem.2.1 (by omega), (R2.wA' r' (by simp)).mw' _ _, mw_at _ _ _, ⟨?_, ?_, ?_, ?_⟩, ⟨?_, ?_, ?_⟩, ⟨by omega, by omega, by omega⟩, ⟨?_, ?_, ?_⟩, ?_, ?_, ?_⟩, by omega⟩
    all_goals simp (disch := omega) only [tw_row, tw_len, wA_I, wA_O, hI_same, hI_slot, hI_oth, hI_row, mw_row, mw_at, mw_wr, mw_sl]
    · exact F1
    · exact F2
    · exact F3
    · exact G1
    · exact G3
    · exact E1
    · exact E2
    · exact k2
    · exact Q1
    · exact Q2
    · intro d hd
      by_cases cc : d < bc
      · refine (Q3 d cc).row (fun j hj => ?_)
        rw [k4 _ (by omega)]
        simp (disch := omega) only [tw_row, tw_len, wA_I, wA_O, hI_same, hI_slot, hI_oth, hI_row, mw_row, mw_at, mw_wr, mw_sl]
      · have : d = bc := by omega
        subst this
        exact k3.congr g1
  · rw [A, D, oB_some, oB_some]
    simp only [hk, hv, if_true, oB_some, nI_1]
    refine Or.inr (Or.inl ⟨_, _, p', k1, rfl, rfl, ((C2.wA' f' hsL_mem.2.2.2.2 (by omega)).tw' _ _).sI' _ _ hsL_mem.2.1 (by omega), ?_, k2, k3⟩)
    exact (R2.wA' r' (by simp)).mw' _ _
  · rw [A, D, oB_some, oB_some]
    simp only [hk, hv, if_true, oB_some, nI_1]
    exact Or.inr (Or.inr ⟨_, _, p', w, k1, k2, rfl, rfl, ((C2.wA' f' hsL_mem.2.2.2.2 (by omega)).tw' _ _).sI' _ _ hsL_mem.2.1 (by omega), (R2.wA' r' (by simp)).mw' _ _⟩)
