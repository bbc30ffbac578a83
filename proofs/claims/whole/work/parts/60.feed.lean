/-! ===== PURE: feed and end ===== -/
def cby (x : Int32) (k : Nat) : Int32 := (x.toUInt32 >>> ((nI k).toUInt32 &&& Int32.toUInt32 31)).toInt32 &&& 255
theorem cby_m (x : Int32) {k : Nat} (hk : k ≤ 24) : (x >>> (nI k &&& 31)) &&& 255 = cby x k := by
  unfold cby
  apply b_ext
  intro i hi
  rw [b_and, b_and, b_255, b_ushr k (by omega), b_sshr k (by omega) x hi]
  by_cases c : i < 8
  · rw [if_pos (by omega)]
  · simp only [c, decide_false, Bool.and_false]
def TS (h : Hp) (t : Nat → Int32) (n : Nat) : Hp := sI (wA h 2 t) 1 1 (nI n)
def TM (h : Hp) (t : Nat → Int32) (n : Nat) : Hp := sI (wA h 148 t) 147 6 (nI n)
def TB (t u : Nat → Int32) (n : Nat) : Prop := ∀ i, i < n → isBy (u i) ∧ u i &&& 255 = t i
theorem TB.next {t u : Nat → Int32} {n : Nat} (B : TB t u n) {c v : Int32} (h1 : isBy v) (h2 : v &&& 255 = c) : TB (up1 t n c) (up1 u n v) (n + 1) := by
  intro i hi
  by_cases e : i = n
  · subst e; rw [up1_s, up1_s]; exact ⟨h1, h2⟩
  · rw [up1_o _ _ e, up1_o _ _ e]; exact B i (by omega)
def psh (j : Nat) : Int32 := if j = 0 then -8 else nI (8 * (j - 1))
theorem psh_s (j : Nat) : psh (j + 1) = nI (8 * j) := by unfold psh; rw [if_neg (by omega), Nat.add_sub_cancel]
theorem psh_d : ∀ j, j < 4 → nI (8 * j) + (-8) = psh j := by decide +kernel
def cnt (x : Int32) : Nat → Nat
  | 0 => 0
  | j + 1 => (if cby x (8 * j) = 0 then 0 else 1) + cnt x j
theorem cnt_s (x : Int32) (j : Nat) : cnt x (j + 1) = (if cby x (8 * j) = 0 then 0 else 1) + cnt x j := rfl
theorem bys_c (x : Int32) (h : Hp) : ∀ j, j ≤ 4 → ∀ m, Run kX9_bytesIn 5 [some (vI x), some (vI (nI m)), some (vI (psh j))] [] h = some (rI (nI (m + cnt x j)), h) := by
  intro j
  induction j with
  | zero =>
    intro _ m
    rw [tX9_bytesIn_5, if_pos (by decide)]
    rfl
  | succ j ih =>
    intro hj m
    have n0 : ¬ nI (8 * j) < 0 := nI_pos (by omega)
    rw [psh_s, tX9_bytesIn_5, if_neg n0, psh_d j (by omega), cnt_s]
    show (if cby x (8 * j) = 0 then _ else _) = _
    by_cases c : cby x (8 * j) = 0
    · rw [if_pos c, if_pos c, ih (by omega), Nat.zero_add]
    · rw [if_neg c, if_neg c, nI_1, ih (by omega), Nat.add_assoc]
theorem bys_m (x : Int32) (h : Hp) : ∀ j, j ≤ 4 → ∀ m, Run kX12_bytesIn 5 [some (vI x), some (vI (nI m)), some (vI (psh j))] [] h = some (rI (nI (m + cnt x j)), h) := by
  intro j
  induction j with
  | zero =>
    intro _ m
    rw [tX12_bytesIn_5, if_pos (by decide)]
    rfl
  | succ j ih =>
    intro hj m
    have n0 : ¬ nI (8 * j) < 0 := nI_pos (by omega)
    rw [psh_s, tX12_bytesIn_5, if_neg n0, psh_d j (by omega), cnt_s, cby_m x (by omega)]
    by_cases c : cby x (8 * j) = 0
    · rw [if_pos c, if_pos c, Int32.add_zero, ih (by omega), Nat.zero_add]
    · rw [if_neg c, if_neg c, nI_1, ih (by omega), Nat.add_assoc]
theorem bys_cF (x : Int32) (h : Hp) : FX9_bytesIn [vI x] h = some (rI (nI (cnt x 4)), h) := by
  have := bys_c x h 4 (by omega) 0
  rw [Nat.zero_add, nI_0] at this
  exact (tX9_bytesIn x h).trans this
theorem bys_mF (x : Int32) (h : Hp) : FX12_bytesIn [vI x] h = some (rI (nI (cnt x 4)), h) := by
  have := bys_m x h 4 (by omega) 0
  rw [Nat.zero_add, nI_0] at this
  exact (tX12_bytesIn x h).trans this
theorem TS_n (h : Hp) (t : Nat → Int32) (n : Nat) : hI (TS h t n) 1 1 = nI n := by unfold TS; rw [hI_same]
theorem TM_n (h : Hp) (t : Nat → Int32) (n : Nat) : hI (TM h t n) 147 6 = nI n := by unfold TM; rw [hI_same]
theorem TS_w (h : Hp) (t : Nat → Int32) (n m : Nat) (c : Int32) : sI (sI (TS h t n) 2 n c) 1 1 (nI m) = TS h (up1 t n c) m := by
  unfold TS
  rw [sI_comm (wA h 2 t) (a := 1) (k := 1) (b := 2) (j := n) (Or.inl (by decide)), sI_sI, sI_ws]
theorem TM_w (h : Hp) (t : Nat → Int32) (n m : Nat) (c : Int32) : sI (sI (TM h t n) 148 n c) 147 6 (nI m) = TM h (up1 t n c) m := by
  unfold TM
  rw [sI_comm (wA h 148 t) (a := 147) (k := 6) (b := 148) (j := n) (Or.inl (by decide)), sI_sI, sI_ws]
/-- what feeding stands on -/
def FdC (h : Hp) : Prop := TapeL h ∧ hK h 0 = 11 ∧ hR h 0 0 = some 1
def FdM (hm : Hp) : Prop := hK hm 147 = 12 ∧ hR hm 147 1 = some 148 ∧ hK hm 148 = 21 ∧ hE hm 148 = 240
theorem byo (x : Int32) (k : Nat) (hk : k ≤ 24) : isBy (Int8.toInt32 (Int32.toInt8 (x >>> (nI k &&& 31)))) ∧ Int8.toInt32 (Int32.toInt8 (x >>> (nI k &&& 31))) &&& 255 = cby x k := by
  refine ⟨?_, ?_⟩
  · have := pk_vb (x >>> (nI k &&& 31))
    rw [vp_nar_byte] at this
    exact this
  · rw [bp_b, cby_m x hk]
theorem app_run {h hm : Hp} (F : FdC h) (G : FdM hm) (x : Int32) : ∀ j, j ≤ 4 → ∀ o3 t u n, n + cnt x j ≤ 240 → TB t u n → ∃ t' u', Run kX9_append 3 [some (vR (some 1)), some (vI x), some (vI (psh j)), o3] [] (TS h t n) = some (rV, TS h t' (n + cnt x j)) ∧ Run kX12_put 3 [some (vR (some 147)), some (vI x), some (vI (psh j))] [] (TM hm u n) = some (rV, TM hm u' (n + cnt x j)) ∧ TB t' u' (n + cnt x j) := by
  obtain ⟨⟨F1, F2, F3, F4⟩, _, _⟩ := F
  obtain ⟨G1, G2, G3, G4⟩ := G
  have f1 : ∀ t n, hK (TS h t n) 1 = 9 := fun t n => F1
  have f2 : ∀ t n, hR (TS h t n) 1 0 = some 2 := fun t n => F2
  have f3 : ∀ t n, hK (TS h t n) 2 = 20 := fun t n => F3
  have f4 : ∀ t n, hE (TS h t n) 2 = 240 := fun t n => F4
  have g1 : ∀ t n, hK (TM hm t n) 147 = 12 := fun t n => G1
  have g2 : ∀ t n, hR (TM hm t n) 147 1 = some 148 := fun t n => G2
  have g3 : ∀ t n, hK (TM hm t n) 148 = 21 := fun t n => G3
  have g4 : ∀ t n, hE (TM hm t n) 148 = 240 := fun t n => G4
  intro j
  induction j with
  | zero =>
    intro _ o3 t u n _ B
    refine ⟨t, u, ?_, ?_, B⟩
    · rw [tX9_append_3, if_pos (by decide)]; rfl
    · rw [tX12_put_3, if_pos (by decide)]; rfl
  | succ j ih =>
    intro hj o3 t u n hn B
    have n0 : ¬ nI (8 * j) < 0 := nI_pos (by omega)
    rw [cnt_s] at hn
    rw [psh_s, tX9_append_3, if_neg n0, tX12_put_3, if_neg n0, psh_d j (by omega), cnt_s, cby_m x (by omega)]
    by_cases c : cby x (8 * j) = 0
    · rw [if_pos c] at hn
      rw [if_pos c, if_pos c, Nat.zero_add] at *
      obtain ⟨t', u', a, b, d⟩ := ih (by omega) (some (vI (cby x (8 * j)))) t u n hn B
      refine ⟨t', u', ?_, b, d⟩
      show (if cby x (8 * j) = 0 then _ else _) = _
      rw [if_pos c]
      exact a
    · rw [if_neg c] at hn
      obtain ⟨t', u', a, b, d⟩ := ih (by omega) (some (vI (cby x (8 * j)))) _ _ (n + 1) (by omega) (B.next (byo x (8 * j) (by omega)).1 (byo x (8 * j) (by omega)).2)
      rw [if_neg c, if_neg c, show n + (1 + cnt x j) = n + 1 + cnt x j by omega]
      have e1 : ¬ nI 240 ≤ nI n := by rw [nI_nle' (by omega) (by omega)]; omega
      have b0 : inb (nI n) 240 = true := inb_nI (by omega) (by omega)
      have c0 : (nI n).toNatClampNeg = n := nI_clamp (by omega)
      refine ⟨t', u', ?_, ?_, d⟩
      · show (if cby x (8 * j) = 0 then _ else _) = _
        rw [if_neg c]
        have v1 : ∀ v, hI (sI (TS h t n) 2 n v) 1 1 = nI n := fun v => by rw [hI_oth _ _ _ _ _ (by decide), TS_n]
        simp only [oB_some, dR_some, cond_true, cond_false, if_true, if_false, Bool.true_and, Bool.and_true, Nat.beq_refl, hK_sI, f1, f2, f3, f4, alK20, TS_n, show Int32.ofNat 240 = nI 240 from rfl, e1, b0, c0, v1, nI_1, TS_w]
        exact a
      · have v1 : ∀ v, hI (sI (TM hm u n) 148 n v) 147 6 = nI n := fun v => by rw [hI_oth _ _ _ _ _ (by decide), TM_n]
        simp only [oB_some, dR_some, cond_true, cond_false, if_true, if_false, Bool.true_and, Bool.and_true, Nat.beq_refl, hK_sI, g1, g2, g3, g4, TM_n, b0, c0, v1, nI_1, TM_w, pk_vb]
        exact b
theorem app_both {h hm : Hp} (F : FdC h) (G : FdM hm) (x : Int32) {t u : Nat → Int32} {n : Nat} (hn : n + cnt x 4 ≤ 240) (B : TB t u n) : ∃ t' u', FX9_append [vR (some 1), vI x] (TS h t n) = some (rV, TS h t' (n + cnt x 4)) ∧ FX12_put [vR (some 147), vI x] (TM hm u n) = some (rV, TM hm u' (n + cnt x 4)) ∧ TB t' u' (n + cnt x 4) := by
  rw [tX9_append, tX12_put]
  exact app_run F G x 4 (by omega) none t u n hn B
def fedN (x1 x2 x3 x4 x5 : Int32) : Nat := cnt x1 4 + cnt x2 4 + cnt x3 4 + cnt x4 4 + cnt x5 4
theorem cnt_le (x : Int32) : ∀ j, cnt x j ≤ j := by
  intro j
  induction j with
  | zero => exact Nat.le_refl _
  | succ j ih => rw [cnt_s]; by_cases c : cby x (8 * j) = 0 <;> simp only [c, if_true, if_false] <;> omega
theorem TS_self {h : Hp} {n : Nat} (e : hI h 1 1 = nI n) : TS h (hI h 2) n = h := by unfold TS; rw [wA_self, sI_self' h e]
theorem TM_self {h : Hp} {n : Nat} (e : hI h 147 6 = nI n) : TM h (hI h 148) n = h := by unfold TM; rw [wA_self, sI_self' h e]
theorem feed_both {h hm : Hp} {n : Nat} {x1 x2 x3 x4 x5 : Int32} (F : FdC h) (G : FdM hm) (hn : n ≤ 240) (e1 : hI h 1 1 = nI n) (e2 : hI hm 147 6 = nI n) (B : TB (hI h 2) (hI hm 148) n) :
    (240 < n + fedN x1 x2 x3 x4 x5 ∧ FX11_feed [vR (some 0), vI x1, vI x2, vI x3, vI x4, vI x5] h = some (rI (-1), h) ∧ FX12_feed [vR (some 147), vI x1, vI x2, vI x3, vI x4, vI x5] hm = some (rI (-1), sI hm 147 0 0)) ∨
    (n + fedN x1 x2 x3 x4 x5 ≤ 240 ∧ ∃ t' u', FX11_feed [vR (some 0), vI x1, vI x2, vI x3, vI x4, vI x5] h = some (rI (nI (n + fedN x1 x2 x3 x4 x5)), TS h t' (n + fedN x1 x2 x3 x4 x5)) ∧ FX12_feed [vR (some 147), vI x1, vI x2, vI x3, vI x4, vI x5] hm = some (rI (nI (n + fedN x1 x2 x3 x4 x5)), TM (sI hm 147 0 0) u' (n + fedN x1 x2 x3 x4 x5)) ∧ TB t' u' (n + fedN x1 x2 x3 x4 x5)) := by
  have F0 := F
  have G0 : FdM (sI hm 147 0 0) := G
  obtain ⟨⟨F1, F2, F3, F4⟩, F5, F6⟩ := F
  obtain ⟨G1, G2, G3, G4⟩ := G
  have k1 := cnt_le x1 4
  have k2 := cnt_le x2 4
  have k3 := cnt_le x3 4
  have k4 := cnt_le x4 4
  have k5 := cnt_le x5 4
  have e6 : hI (sI hm 147 0 0) 147 6 = nI n := by rw [hI_slot _ _ _ _ (by decide)]; exact e2
  have q1 : nI n + nI (cnt x1 4 + cnt x2 4 + cnt x3 4 + cnt x4 4 + cnt x5 4) = nI (n + fedN x1 x2 x3 x4 x5) := nI_add _ _
  have q2 : n + cnt x1 4 + cnt x2 4 + cnt x3 4 + cnt x4 4 + cnt x5 4 = n + fedN x1 x2 x3 x4 x5 := by unfold fedN; omega
  have q3 : (nI (n + fedN x1 x2 x3 x4 x5) ≤ (240 : Int32)) = (n + fedN x1 x2 x3 x4 x5 ≤ 240) := nI_nle' (b := 240) (by unfold fedN; omega) (by omega)
  rw [tX11_feed, tX12_feed]
  by_cases c : n + fedN x1 x2 x3 x4 x5 ≤ 240
  · have c' := c
    unfold fedN at c'
    refine Or.inr ⟨c, ?_⟩
    have B' : TB (hI h 2) (hI (sI hm 147 0 0) 148) n := by rw [hI_row _ _ _ _ (by decide)]; exact B
    obtain ⟨t1, u1, a1, b1, B1⟩ := app_both F0 G0 x1 (by omega) B'
    obtain ⟨t2, u2, a2, b2, B2⟩ := app_both F0 G0 x2 (by omega) B1
    obtain ⟨t3, u3, a3, b3, B3⟩ := app_both F0 G0 x3 (by omega) B2
    obtain ⟨t4, u4, a4, b4, B4⟩ := app_both F0 G0 x4 (by omega) B3
    obtain ⟨t5, u5, a5, b5, B5⟩ := app_both F0 G0 x5 (by omega) B4
    rw [TS_self e1] at a1
    rw [TM_self e6] at b1
    rw [q2] at a5 b5 B5
    have f0 : ∀ t n, hK (TS h t n) 0 = 11 := fun t n => F5
    have f1 : ∀ t n, hK (TS h t n) 1 = 9 := fun t n => F1
    have f2 : ∀ t n, hR (TS h t n) 0 0 = some 1 := fun t n => F6
    have g1 : ∀ t n, hK (TM (sI hm 147 0 0) t n) 147 = 12 := fun t n => G1
    refine ⟨t5, u5, ?_, ?_, B5⟩
    · simp only [oB_some, dR_some, cond_true, cond_false, if_true, if_false, Bool.true_and, Bool.and_true, Nat.beq_refl, bys_cF, nI_add, F5, F6, F1, e1, q1, q3, c, a1, a2, a3, a4, a5, f0, f1, f2, TS_n]
    · simp only [oB_some, dR_some, cond_true, cond_false, if_true, if_false, Bool.true_and, Bool.and_true, Nat.beq_refl, bys_mF, nI_add, hK_sI, G1, e6, q2, q3, c, b1, b2, b3, b4, b5, g1, TM_n]
  · refine Or.inl ⟨by omega, ?_, ?_⟩
    · simp only [oB_some, dR_some, cond_true, cond_false, if_true, if_false, Bool.true_and, Bool.and_true, Nat.beq_refl, bys_cF, nI_add, F5, F6, F1, e1, q1, q3, c]
    · simp only [oB_some, dR_some, cond_true, cond_false, if_true, if_false, Bool.true_and, Bool.and_true, Nat.beq_refl, bys_mF, nI_add, hK_sI, G1, e6, q2, q3, c]
theorem end_both {h hm : Hp} {n : Nat} {x : Int32} (F : FdC h) (G : FdM hm) (hn : n ≤ 240) (e1 : hI h 1 1 = nI n) (e2 : hI hm 147 6 = nI n) :
    (FX11_end [vR (some 0), vI x] h = some (rI 0, h) ∧ FX12_end [vR (some 147), vI x] hm = some (rI 0, sI hm 147 0 0)) ∨
    (∃ m, m ≤ n ∧ FX11_end [vR (some 0), vI x] h = some (rI 1, sI h 1 1 (nI m)) ∧ FX12_end [vR (some 147), vI x] hm = some (rI 1, sI (sI hm 147 0 0) 147 6 (nI m))) := by
  obtain ⟨⟨F1, F2, F3, F4⟩, F5, F6⟩ := F
  obtain ⟨G1, G2, G3, G4⟩ := G
  have e6 : hI (sI hm 147 0 0) 147 6 = nI n := by rw [hI_slot _ _ _ _ (by decide)]; exact e2
  rw [tX11_end, tX12_end]
  rcases pk_ix x (n := n + 1) (by omega) with c | c | ⟨j, hj, c⟩
  · left
    constructor <;> simp only [oB_some, dR_some, cond_true, cond_false, if_true, if_false, Bool.true_and, Bool.and_true, Nat.beq_refl, hK_sI, G1, c, isZ0]
  · left
    have c1 : ¬ x < 0 := by
      intro z
      have z1 := Int32.lt_iff_toInt_lt.mp z
      have z2 := Int32.le_iff_toInt_le.mp c
      rw [nI_toInt (by omega)] at z2
      have z3 : (0 : Int32).toInt = 0 := by decide
      omega
    have c2 : ¬ x ≤ nI n := by
      intro z
      have z1 := Int32.le_iff_toInt_le.mp z
      have z2 := Int32.le_iff_toInt_le.mp c
      rw [nI_toInt (by omega)] at z1 z2
      omega
    constructor <;> simp only [oB_some, dR_some, cond_true, cond_false, if_true, if_false, Bool.true_and, Bool.and_true, Nat.beq_refl, hK_sI, F5, F6, F1, G1, c1, c2, e1, e6, isZ0]
  · right
    subst c
    have c1 : ¬ nI j < 0 := nI_pos (by omega)
    have c2 : nI j ≤ nI n := nI_le (by omega) (by omega)
    refine ⟨j, by omega, ?_, ?_⟩ <;> simp only [oB_some, dR_some, cond_true, cond_false, if_true, if_false, Bool.true_and, Bool.and_true, Nat.beq_refl, hK_sI, F5, F6, F1, G1, c1, c2, e1, e6, isZ1]
