/-! ===== PURE: what a bolt takes, by both ===== -/
/-- a law that was read: its code, of the text that stood on the tape of h0 -/
def LK (n s : Nat) (t c : Nat → Int32) : Prop := ∃ h0 p, HT h0 n ∧ LwL h0 ∧ PL h0 ∧ (∀ i, i < n → hI h0 2 i = t i) ∧ s ≤ 240 ∧ FX2_readLaw [vR (some 135)] h0 = some (rI (-1), CS h0 s c p (-1))
theorem CS_cd (h : Hp) (s : Nat) (c : Nat → Int32) (p : Nat) (w : Int32) : hI (CS h s c p w) 136 = c := by unfold CS; rw [tw_row _ _ _ (by decide), cw_cd]
theorem law_again {n s : Nat} {t c : Nat → Int32} (K : LK n s t c) {hm : Hp} {T B : Nat} {L : Nat → Int32} (R : RT hm T B n) (ht : ∀ i, i < n → hI hm T (B + i) &&& 255 = t i) (hL : hI hm 151 119 = L 0 ∧ hI hm 151 116 = L 1 ∧ hI hm 151 107 = L 2 ∧ hI hm 151 110 = L 3 ∧ hI hm 151 121 = L 4 ∧ hI hm 151 109 = L 5) :
    ∃ x p hf fv, FX12_goThrough [vR (some 147), vR (some T), vI (nI B), vI (nI n)] hm = some (rV, MS (fw (mB hm T B n) hf fv) x p (-1)) ∧ 0 < s ∧ s < 240 ∧ WO c L 0 s fv := by
  obtain ⟨h0, p, H, W, P, e, s2, E⟩ := K
  obtain ⟨w, s', c', p', A, s3, x, p'', hf, fv, D, F⟩ := law_both H W P R (fun i hi => (ht i hi).trans (e i hi).symm) hL
  rw [E] at A
  have A' := Option.some.inj A
  have w1 : w = -1 := (congrArg (fun z => z.1.1) A').symm
  have s1 : nI s = nI s' := by
    have : hI (CS h0 s c p (-1)) 135 2 = hI (CS h0 s' c' p' w) 135 2 := congrArg (fun z => hI z.2 135 2) A'
    rw [CS_sz, CS_sz] at this
    exact this
  have s4 : s = s' := (nI_eq (by omega) (by omega)).mp s1
  have c1 : c = c' := by
    have : hI (CS h0 s c p (-1)) 136 = hI (CS h0 s' c' p' w) 136 := congrArg (fun z => hI z.2 136) A'
    rw [CS_cd, CS_cd] at this
    exact this
  subst s4 c1 w1
  obtain ⟨F1, F2, F3⟩ := F rfl
  exact ⟨x, p'', hf, fv, D, F1, F2, F3⟩
noncomputable def lawV (c L : Nat → Int32) (s : Nat) : Int32 := @Classical.epsilon Int32 ⟨0⟩ (fun fv => WO c L 0 s fv)
theorem lawV_sp {c L : Nat → Int32} {s : Nat} {fv : Int32} (h : WO c L 0 s fv) : WO c L 0 s (lawV c L s) := Classical.epsilon_spec (p := fun fv => WO c L 0 s fv) ⟨fv, h⟩
theorem wo_unique {h : Hp} {a cd s : Nat} {c L : Nat → Int32} {x y : Int32} (V : WL h a cd s) (hc : ∀ q, q < s → hI h cd q = c q) (h8 : cd ≠ 8) (A : WO c L 0 s x) (B : WO c L 0 s y) : x = y := by
  have c1 : ∀ q, 0 ≤ q → q < s → hI (wA h 8 L) cd q = c q := fun q _ hq => by rw [wA_O _ _ h8]; exact hc q hq
  have l1 : ∀ q, q < 6 → hI (wA h 8 L) 8 q = L q := fun q _ => by rw [wA_I]
  obtain ⟨r1, e1⟩ := A (wA h 8 L) a cd V c1 l1 (fun _ => 0) none
  obtain ⟨r2, e2⟩ := B (wA h 8 L) a cd V c1 l1 (fun _ => 0) none
  rw [e1] at e2
  exact congrArg (fun z => z.1.1) (Option.some.inj e2)
def ckI (x : Int32) : Int32 := if 0 < (if x < 60 then x else 60) then (if x < 60 then x else 60) else 0
def ck (x : Int32) : Nat := (ckI x).toNatClampNeg
theorem ck_sp (x : Int32) : ckI x = nI (ck x) ∧ ck x ≤ 60 := by
  have key : ∀ j, j ≤ 60 → ckI x = nI j → ckI x = nI (ck x) ∧ ck x ≤ 60 := fun j hj e => by
    have : ck x = j := by unfold ck; rw [e, nI_clamp (by omega)]
    rw [this]; exact ⟨e, hj⟩
  rcases ix_m x (n := 60) (by omega) with c | ⟨c1, c2, c3⟩ | ⟨j, hj, c, c1, c2⟩
  · refine key 0 (by omega) ?_
    unfold ckI
    have q1 : x < 60 := Int32.lt_trans c (by decide)
    have q2 : ¬ 0 < x := fun z => absurd (Int32.lt_trans c z) Int32.lt_irrefl
    rw [if_pos q1, if_neg q2, nI_0]
  · refine key 60 (by omega) ?_
    unfold ckI
    have q1 : ¬ x < 60 := Int32.not_lt.mpr c2
    rw [if_neg q1]; rfl
  · subst c
    refine key j (by omega) ?_
    unfold ckI
    have q1 : nI j < 60 := Int32.not_le.mp c2
    rw [if_pos q1]
    have q := nI_0lt (a := j) (by omega)
    by_cases z : 0 < j
    · rw [if_pos (by rw [q]; exact z)]
    · rw [if_neg (by rw [q]; exact z), show j = 0 by omega, nI_0]
def LT (x0 x1 x2 x3 x4 x5 : Nat) : Nat → Int32 := fun j => if j = 0 then nI x0 else if j = 1 then nI x1 else if j = 2 then nI x2 else if j = 3 then nI x3 else if j = 4 then nI x4 else nI x5
theorem LT_up (f : Nat → Int32) (x0 x1 x2 x3 x4 x5 : Nat) : ∀ q, q < 6 → up1 (up1 (up1 (up1 (up1 (up1 f 0 (nI x0)) 1 (nI x1)) 2 (nI x2)) 3 (nI x3)) 4 (nI x4)) 5 (nI x5) q = LT x0 x1 x2 x3 x4 x5 q := by
  intro q hq
  unfold up1 LT
  rcases (show q = 0 ∨ q = 1 ∨ q = 2 ∨ q = 3 ∨ q = 4 ∨ q = 5 by omega) with e | e | e | e | e | e <;> subst e <;> rfl
theorem LN_8 (h : Hp) {a : Nat} (v u : Nat → Nat) (f : Nat → Int32) (h1 : a ≠ 8) (h2 : a ≠ 7) (k : Nat) (x : Int32) : sI (LN (wA h 8 f) a v u) 8 k x = LN (wA h 8 (up1 f k x)) a v u := by
  unfold LN
  rw [sI_wo _ _ _ _ (by omega), sI_wo _ _ _ _ (Ne.symm h1), sI_ws]
theorem LN_9 (h : Hp) {a : Nat} (v u : Nat → Nat) (g : Nat → Int32) (h1 : a ≠ 9) (h2 : a ≠ 8) : wA (LN h a v u) 9 g = LN (wA h 9 g) a v u := by
  unfold LN
  rw [wA_comm _ _ _ (show (9 : Nat) ≠ a + 1 by omega), wA_comm _ _ _ (Ne.symm h1)]
/-- the class: with no law -/
theorem takes_c0 {h : Hp} {s a : Nat} {r d b v u : Nat → Nat} {dc bc : Nat} (W : WH h s r d b dc bc) (L : LL h a s) (l0 : hR h 3 1 = none) : FX10_takes [vR (some 3), vR (some a)] (LN h a v u) = some (rI (nI (r 3)), LN h a v u) := by
  obtain ⟨_, _, _, _, hr, _⟩ := W.LN L v u
  obtain ⟨⟨w1, w2⟩, ⟨l1, l2, l3, l4, ⟨l5, l6⟩, _, _, l7, l8⟩, _⟩ := W
  have r3 := hr 3 (by omega)
  rw [tX10_takes]
  simp only [oB_some, dR_some, cond_true, cond_false, if_true, if_false, Bool.true_and, Bool.and_true, Nat.beq_refl, LN_K, LN_R, LN_E, w1, w2, l0, nl_none, l1, l2, l5, l6, iaK20, show inb 3 7 = true by decide, tc3, r3]
/-- the class: with a law -/
theorem takes_cl {h : Hp} {s a l cd N : Nat} {r d b v u : Nat → Nat} {c : Nat → Int32} {dc bc : Nat} {fv : Int32} (W : WH h s r d b dc bc) (L : LL h a s) (hs : s ≠ 7) (w8 : hR h 3 2 = some 8) (w9 : hR h 3 3 = some 9) (l0 : hR h 3 1 = some l) (V : WL h l cd N) (hc : ∀ q, q < N → hI h cd q = c q) (hcd : cd ≠ 8 ∧ cd ≠ a ∧ cd ≠ a + 1) (O : WO c (LT (v 0) (r 3) (v 2) (v 10) (v 9) (v 4)) 0 N fv) :
    ∃ f g, FX10_takes [vR (some 3), vR (some a)] (LN h a v u) = some (rI (nI (ck fv)), LN (wA (wA h 8 f) 9 g) a v u) := by
  have n8 : a ≠ 8 := L.2.2.2.2.2.2.2.2.2.2.2.1
  have n7 : a ≠ 7 := L.2.2.2.2.2.2.2.2.2.2.2.2.1
  have n9 : a ≠ 9 := L.2.2.2.2.2.2.2.2.2.2.2.2.2
  have m1 : a ≠ s + 1 := L.2.2.2.2.2.2.1
  have m2 : a + 1 ≠ s := L.2.2.2.2.2.1
  have m3 : a ≠ s := L.2.2.2.2.1
  have hr := W.2.2.2.2.1 3 (by omega)
  obtain ⟨⟨w1, w2⟩, ⟨l1, l2, l3, l4, ⟨l5, l6⟩, _, _, l7, l8⟩, _⟩ := W
  obtain ⟨L1, _⟩ := L
  obtain ⟨V1, V2, V3, V4, V5, V6, V7, V8, V9, V10⟩ := V
  have r3 : ∀ f, hI (LN (wA h 8 f) a v u) (s + 1) 3 = nI (r 3) := fun f => by
    rw [LN_o _ _ _ (Ne.symm m1) (by omega), wA_O _ _ (by omega)]; exact hr
  have base : LN h a v u = LN (wA h 8 (hI h 8)) a v u := by rw [wA_self]
  have i0 : inb 0 6 = true := by decide
  have i1 : inb 1 6 = true := by decide
  have i2 : inb 2 6 = true := by decide
  have i3 : inb 3 6 = true := by decide
  have i4 : inb 4 6 = true := by decide
  have i5 : inb 5 6 = true := by decide
  -- what the law is worth
  have wor : ∃ g, FX1_worth [vR (some l), vR (some 8), vR (some 9)] (LN (wA h 8 (up1 (up1 (up1 (up1 (up1 (up1 (hI h 8) 0 (nI (v 0))) 1 (nI (r 3))) 2 (nI (v 2))) 3 (nI (v 10))) 4 (nI (v 9))) 5 (nI (v 4)))) a v u) = some (rI fv, LN (wA (wA h 8 (up1 (up1 (up1 (up1 (up1 (up1 (hI h 8) 0 (nI (v 0))) 1 (nI (r 3))) 2 (nI (v 2))) 3 (nI (v 10))) 4 (nI (v 9))) 5 (nI (v 4)))) 9 g) a v u) := by
    obtain ⟨g, eg⟩ := O (LN (wA h 8 (up1 (up1 (up1 (up1 (up1 (up1 (hI h 8) 0 (nI (v 0))) 1 (nI (r 3))) 2 (nI (v 2))) 3 (nI (v 10))) 4 (nI (v 9))) 5 (nI (v 4)))) a v u) l cd ⟨V1, V2, V3, V4, V5, V6, V7, V8, V9, V10⟩ (fun q _ hq => by rw [LN_o _ _ _ hcd.2.1 hcd.2.2, wA_O _ _ hcd.1]; exact hc q hq) (fun q hq => by rw [LN_o _ _ _ (Ne.symm n8) (by omega), wA_I]; exact LT_up _ _ _ _ _ _ _ q hq) (hI (LN (wA h 8 (up1 (up1 (up1 (up1 (up1 (up1 (hI h 8) 0 (nI (v 0))) 1 (nI (r 3))) 2 (nI (v 2))) 3 (nI (v 10))) 4 (nI (v 9))) 5 (nI (v 4)))) a v u) 9) none
    refine ⟨g, ?_⟩
    rw [← LN_9 _ _ _ _ n9 n8, tX1_worth, ← eg]
    unfold WR
    rw [wA_self, nI_0]
  obtain ⟨g, eg⟩ := wor
  refine ⟨up1 (up1 (up1 (up1 (up1 (up1 (hI h 8) 0 (nI (v 0))) 1 (nI (r 3))) 2 (nI (v 2))) 3 (nI (v 10))) 4 (nI (v 9))) 5 (nI (v 4)), g, ?_⟩
  rw [tX10_takes, base]
  simp only [oB_some, dR_some, cond_true, cond_false, if_true, if_false, Bool.true_and, Bool.and_true, Nat.beq_refl, hK_sI, hR_sI, hE_sI, LN_K, LN_R, LN_E, wA_K, wA_R, wA_E, w1, w2, w8, w9, l0, nl_some, L1, V6, V7, V1, i0, i1, i2, i3, i4, i5, tc0, tc1, tc2, tc3, tc4, tc5, LN_a, LN_8 h v u _ n8 n7, l1, l2, l5, l6, iaK20, show inb 3 7 = true by decide, r3, eg]
  have := (ck_sp fv).1
  unfold ckI at this
  rw [this]
/-- what the reference's reading leaves as it was -/
def Mo (h h' : Hp) : Prop := hN h' = hN h ∧ hS h' = hS h ∧ hK h' = hK h ∧ hE h' = hE h ∧ hL h' = hL h ∧ (∀ a k, a ≠ 147 ∨ k ≠ 5 → hR h' a k = hR h a k) ∧ (∀ a, a ≠ 147 → a ≠ 151 → hI h' a = hI h a) ∧ (∀ k, k ∉ [8, 9, 10, 11, 12, 13, 14, 17] → hI h' 147 k = hI h 147 k)
theorem Mo.refl (h : Hp) : Mo h h := ⟨rfl, rfl, rfl, rfl, rfl, fun _ _ _ => rfl, fun _ _ _ => rfl, fun _ _ => rfl⟩
theorem Mo.trans {h h' h'' : Hp} (A : Mo h h') (B : Mo h' h'') : Mo h h'' := by
  obtain ⟨a1, a2, a3, a4, a5, a6, a7, a8⟩ := A
  obtain ⟨b1, b2, b3, b4, b5, b6, b7, b8⟩ := B
  exact ⟨b1.trans a1, b2.trans a2, b3.trans a3, b4.trans a4, b5.trans a5, fun a k z => (b6 a k z).trans (a6 a k z), fun a y z => (b7 a y z).trans (a7 a y z), fun k z => (b8 k z).trans (a8 k z)⟩
/-- the reference's law that holds -/
def LM (h : Hp) (li n : Nat) (t : Nat → Int32) : Prop := (hI h 147 34 = nI li ∧ li < 4) ∧ (hR h 147 2 = some 149 ∧ hK h 149 = 21 ∧ hE h 149 = 960) ∧ (hR h 147 3 = some 150 ∧ hK h 150 = 20 ∧ hE h 150 = 4) ∧ (hI h 150 li = nI n ∧ n ≤ 240) ∧ (∀ i, i < n → isBy (hI h 149 (240 * li + i)) ∧ hI h 149 (240 * li + i) &&& 255 = t i) ∧ (hR h 147 4 = some 151 ∧ hK h 151 = 20 ∧ hE h 151 = 128) ∧ StL h (PRE + 10) 1 (bT [121]) ∧ StL h (PRE + 11) 6 (bT [119, 116, 107, 110, 121, 109])
theorem takesBy_0 {h : Hp} {r d b : Nat → Nat} {dc bc : Nat} {x1 x2 x3 x4 x5 : Int32} (W : MW h r d b dc bc) (l0 : hI h 147 34 = -1) : FX12_takesBy [vR (some 147), vI x1, vI x2, vI x3, vI x4, vI x5] h = some (rI (nI (r 3)), h) := by
  obtain ⟨w1, ⟨w2, w3, w4⟩, _, _, _, _, hr, _, _, br, _⟩ := W
  have r3 := hr 3 (by omega)
  have b3 := br 3
  have := (ck_sp (nI (r 3))).1
  have e : ckI (nI (r 3)) = nI (r 3) := by
    unfold ckI
    by_cases z : r 3 < 60
    · have q1 : nI (r 3) < 60 := by rw [show (60 : Int32) = nI 60 from rfl, nI_nlt' (by omega) (by omega)]; exact z
      rw [if_pos q1]
      have q := nI_0lt (a := r 3) (by omega)
      by_cases y : 0 < r 3
      · rw [if_pos (by rw [q]; exact y)]
      · rw [if_neg (by rw [q]; exact y), show r 3 = 0 by omega, nI_0]
    · have z' : r 3 = 60 := by omega
      rw [z']; decide
  unfold ckI at e
  rw [tX12_takesBy]
  simp only [oB_some, dR_some, cond_true, cond_false, if_true, if_false, Bool.true_and, Bool.and_true, Nat.beq_refl, w1, w2, w3, w4, iaK20, show inb 3 7 = true by decide, tc3, r3, l0, e]
theorem takesBy_l {h : Hp} {li n s : Nat} {r d b : Nat → Nat} {t c : Nat → Int32} {dc bc x1 x2 x3 x4 x5 : Nat} (W : MW h r d b dc bc) (K : LK n s t c) (M : LM h li n t) :
    ∃ fv h', FX12_takesBy [vR (some 147), vI (nI x1), vI (nI x2), vI (nI x3), vI (nI x4), vI (nI x5)] h = some (rI (nI (ck fv)), h') ∧ Mo h h' ∧ WO c (LT x1 (r 3) x2 x3 x4 x5) 0 s fv := by
  obtain ⟨w1, ⟨w2, w3, w4⟩, _, _, _, _, hr, _, _, br, _⟩ := W
  obtain ⟨⟨m1, m2⟩, ⟨m3, m4, m5⟩, ⟨m6, m7, m8⟩, ⟨m9, m10⟩, m11, ⟨m12, m13, m14⟩, m15, m16⟩ := M
  have r3 := hr 3 (by omega)
  let F : Nat → Int32 := up1 (up1 (up1 (up1 (up1 (up1 (hI h 151) 119 (nI x1)) 116 (nI (r 3))) 107 (nI x2)) 110 (nI x3)) 121 (nI x4)) 109 (nI x5)
  have R : RT (wA h 151 F) 149 (240 * li) n := by
    refine ⟨w1, m4, ?_, ?_, by decide, fun i hi => ?_, ⟨m12, m13, m14⟩, ?_, ?_⟩
    · show 240 * li + n ≤ hE h 149; omega
    · show hE h 149 ≤ 1000; omega
    · rw [wA_O _ _ (by decide)]; exact (m11 i hi).1
    · unfold StL; rw [wA_O _ _ (show PRE + 10 + 100 ≠ 151 by decide)]; exact m15
    · unfold StL; rw [wA_O _ _ (show PRE + 11 + 100 ≠ 151 by decide)]; exact m16
  obtain ⟨x, p, hf, fv, D, _, _, O⟩ := law_again K (L := LT x1 (r 3) x2 x3 x4 x5) R (fun i hi => by rw [wA_O _ _ (by decide)]; exact (m11 i hi).2) ⟨by rw [wA_I]; rfl, by rw [wA_I]; rfl, by rw [wA_I]; rfl, by rw [wA_I]; rfl, by rw [wA_I]; rfl, by rw [wA_I]; rfl⟩
  refine ⟨fv, MS (fw (mB (wA h 151 F) 149 (240 * li) n) hf fv) x p (-1), ?_, ?_, O⟩
  · have e34 : (wA h 151 F).2.2.2.2 147 34 = nI li := by
      show hI (wA h 151 F) 147 34 = nI li
      rw [wA_O _ _ (by decide)]; exact m1
    have l34 : ∀ f, hI (wA h 151 f) 147 34 = nI li := fun f => by rw [wA_O _ _ (by decide)]; exact m1
    have l150 : ∀ f, hI (wA h 151 f) 150 li = nI n := fun f => by rw [wA_O _ _ (by decide)]; exact m9
    have l152 : ∀ f, hI (wA h 151 f) 152 3 = nI (r 3) := fun f => by rw [wA_O _ _ (by decide)]; exact r3
    have nl : ¬ nI li = -1 := nI_nm1 (by omega)
    have b4 : inb (nI li) 4 = true := inb_nI (by omega) (by omega)
    have k4 : (nI li).toNatClampNeg = li := nI_clamp (by omega)
    have e240 : (240 : Int32) * nI li = nI (240 * li) := pk_mul 240 li
    have f14 : hI (MS (fw (mB (wA h 151 F) 149 (240 * li) n) hf fv) x p (-1)) 147 14 = fv := by rw [MS_s _ _ _ _ (by decide) (by decide) (by decide), fw_14]
    have km : hK (MS (fw (mB (wA h 151 F) 149 (240 * li) n) hf fv) x p (-1)) 147 = 12 := w1
    have base : h = wA h 151 (hI h 151) := (wA_self h 151).symm
    have i119 : inb 119 128 = true := by decide
    have i116 : inb 116 128 = true := by decide
    have i107 : inb 107 128 = true := by decide
    have i110 : inb 110 128 = true := by decide
    have i121 : inb 121 128 = true := by decide
    have i109 : inb 109 128 = true := by decide
    have t119 : Int32.toNatClampNeg 119 = 119 := by decide
    have t116 : Int32.toNatClampNeg 116 = 116 := by decide
    have t107 : Int32.toNatClampNeg 107 = 107 := by decide
    have t110 : Int32.toNatClampNeg 110 = 110 := by decide
    have t121 : Int32.toNatClampNeg 121 = 121 := by decide
    have t109 : Int32.toNatClampNeg 109 = 109 := by decide
    have cc := (ck_sp fv).1
    unfold ckI at cc
    rw [tX12_takesBy]
    rw [base]
    simp only [wA_wA, oB_some, dR_some, cond_true, cond_false, if_true, if_false, Bool.true_and, Bool.and_true, Nat.beq_refl, wA_K, wA_E, wA_R, wA_I, w1, w2, w3, w4, m3, m6, m7, m8, m12, m13, m14, iaK20, show inb 3 7 = true by decide, tc3, l34, l150, l152, nl, i119, i116, i107, i110, i121, i109, t119, t116, t107, t110, t121, t109, sI_ws, b4, k4, e240]
    rw [show up1 (up1 (up1 (up1 (up1 (up1 (hI h 151) 119 (nI x1)) 116 (nI (r 3))) 107 (nI x2)) 110 (nI x3)) 121 (nI x4)) 109 (nI x5) = F from rfl, D]
    simp only [oB_some, dR_some, cond_true, cond_false, if_true, if_false, Bool.true_and, Bool.and_true, Nat.beq_refl, km, f14, cc]
  · have z1 : ∀ a, a ≠ 147 → a ≠ 151 → hI (MS (fw (mB (wA h 151 F) 149 (240 * li) n) hf fv) x p (-1)) a = hI h a := fun a h1 h2 => by
      rw [MS_o _ _ _ _ h1, fw_o _ _ _ h1]
      unfold mB
      rw [hI_row _ _ _ _ h1, hI_row _ _ _ _ h1, hI_row _ _ _ _ h1]
      show hI (wA h 151 F) a = hI h a
      rw [wA_O _ _ h2]
    have z2 : ∀ k, k ∉ [8, 9, 10, 11, 12, 13, 14, 17] → hI (MS (fw (mB (wA h 151 F) 149 (240 * li) n) hf fv) x p (-1)) 147 k = hI h 147 k := fun k hk => by
      simp only [List.mem_cons, List.mem_nil_iff, or_false, not_or] at hk
      obtain ⟨k8, k9, k10, k11, k12, k13, k14, k17⟩ := hk
      rw [MS_s _ _ _ _ k10 k11 k12, fw_s _ _ _ k17 k14]
      unfold mB
      rw [hI_slot _ _ _ _ k13, hI_slot _ _ _ _ k9, hI_slot _ _ _ _ k8]
      show hI (wA h 151 F) 147 k = hI h 147 k
      rw [wA_O _ _ (by decide)]
    refine ⟨rfl, rfl, rfl, rfl, rfl, fun a k z => ?_, z1, z2⟩
    show (if a = 147 then (if k = 5 then some 149 else hR (wA h 151 F) a k) else hR (wA h 151 F) a k) = hR h a k
    by_cases c1 : a = 147
    · have c2 : k ≠ 5 := by omega
      rw [if_pos c1, if_neg c2]; rfl
    · rw [if_neg c1]; rfl
