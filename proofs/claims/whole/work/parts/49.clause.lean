/-! ===== PURE: a clause, and a law, by both readers ===== -/
noncomputable def YT (h : Hp) : Option (RV × Hp) := if hK h 135 = 2 then dR (hR h 135 0) (fun a21 => bif Nat.beq (hK h a21) 9 then oB (FX9_demand [vR (some a21), vI 63] h) (fun r22 h23 => bif Nat.beq (hK h23 135) 2 then oB (FX2_emit [vR (some 135), vI (-20)] h23) (fun r24 h25 => bif Nat.beq (hK h25 135) 2 then oB (FX2_readSum [vR (some 135), vI 0] h25) (fun r26 h27 => bif Nat.beq (hK h27 135) 2 then oB (FX2_emit [vR (some 135), vI (-21)] h27) (fun r28 h29 => some (rV, h29)) else none) else none) else none) else none) else none
noncomputable def PK (h : Hp) : Option (RV × Hp) := if hK h 135 = 2 then dR (hR h 135 0) (fun a12 => bif Nat.beq (hK h a12) 9 then oB (FX9_peek [vR (some a12)] h) (fun r13 h14 => oB (FX2_comparison [vI r13.1] h14) (fun r15 h16 => if r15.1 = (-1) then bif Nat.beq (hK h16 135) 2 then oB (FX2_emit [vR (some 135), vI (-21)] h16) (fun r17 h18 => some (rV, h18)) else none else bif Nat.beq (hK h16 135) 2 then oB (FX2_readCondition [vR (some 135), vI 0, vI 1] h16) (fun r19 h20 => YT h20) else none)) else none) else none
noncomputable def ZC (h : Hp) (ch : Int32) : Option (RV × Hp) := if ch = 33 then oB (FX2_readCondition [vR (some 135), vI 0, vI 0] h) (fun r19 h20 => YT h20) else if ch = 40 then oB (FX2_readCondition [vR (some 135), vI 0, vI 0] h) (fun r19 h20 => YT h20) else oB (FX2_readSum [vR (some 135), vI 0] h) (fun r10 h11 => PK h11)
def dm (t : Nat → Int32) (n : Nat) (x : Int32) (p : Nat) (w : Int32) : Nat × Int32 := if w = -1 then (if chT t n (sk t n p) = x then (sk t n p + 1, -1) else (sk t n p, nI (sk t n p))) else (p, w)
theorem cs_dm {h : Hp} {n s p : Nat} {c : Nat → Int32} {w x : Int32} (H : HT h n) (hp : p ≤ 240) : FX9_demand [vR (some 1), vI x] (CS h s c p w) = some (rV, CS h s c (dm (hI h 2) n x p w).1 (dm (hI h 2) n x p w).2) := by
  rw [cs_demand H hp]
  unfold dm
  by_cases q : w = -1
  · subst q
    by_cases q2 : chT (hI h 2) n (sk (hI h 2) n p) = x <;> simp only [q2, if_true, if_false]
  · simp only [q, if_false]
theorem dm_le {t : Nat → Int32} {n p : Nat} {w x : Int32} (hx : x ≠ -1) (hp : p ≤ n) : (dm t n x p w).1 ≤ n := by
  have hk := (sk_le (t := t) (n := n) p).2 hp
  unfold dm
  by_cases q : w = -1
  · by_cases q2 : chT t n (sk t n p) = x
    · have := ch_lt q2 hx
      simp only [q, q2, if_true]; omega
    · simp only [q, q2, if_true, if_false]; exact hk
  · simp only [q, if_false]; exact hp
theorem clause_hd {h : Hp} {n s p : Nat} {c : Nat → Int32} {w : Int32} (H : HT h n) (W : LwL h) (hp : p ≤ n) : FX2_readClause [vR (some 135)] (CS h s c p w) = ZC (CS h s c (sk (hI h 2) n (dm (hI h 2) n 58 (dm (hI h 2) n 121 p w).1 (dm (hI h 2) n 121 p w).2).1) (dm (hI h 2) n 58 (dm (hI h 2) n 121 p w).1 (dm (hI h 2) n 121 p w).2).2) (chT (hI h 2) n (sk (hI h 2) n (dm (hI h 2) n 58 (dm (hI h 2) n 121 p w).1 (dm (hI h 2) n 121 p w).2).1)) := by
  have hn := H.2.2
  have d1 := dm_le (t := hI h 2) (w := w) (show (121 : Int32) ≠ -1 by decide) hp
  have d2 := dm_le (t := hI h 2) (w := (dm (hI h 2) n 121 p w).2) (show (58 : Int32) ≠ -1 by decide) d1
  generalize hg1 : dm (hI h 2) n 121 p w = g1 at d1 d2 ⊢
  generalize hg2 : dm (hI h 2) n 58 g1.1 g1.2 = g2 at d2 ⊢
  rw [tX2_readClause]
  simp only [oB_some, dR_some, cond_true, cond_false, if_true, if_false, Bool.true_and, Bool.and_true, Nat.beq_refl, CS_K, CS_R, W.1, W.2.1, H.1.1, cs_dm H (show p ≤ 240 by omega), hg1, cs_dm H (show g1.1 ≤ 240 by omega), hg2, cs_peek H (show g2.1 ≤ 240 by omega), show ¬ ((1 : Int32) = 0) by decide]
  unfold ZC
  by_cases q1 : chT (hI h 2) n (sk (hI h 2) n g2.1) = 33
  · simp only [q1, if_true]
    rfl
  · by_cases q2 : chT (hI h 2) n (sk (hI h 2) n g2.1) = 40
    · simp only [q2, if_true, show ¬ ((40 : Int32) = 33) by decide, if_false]
      rfl
    · simp only [q1, q2, if_false]
      rfl
theorem cf_YT {h : Hp} {n s p : Nat} {c : Nat → Int32} {w : Int32} (H : HT h n) (W : LwL h) (P : PL h) (hw : w ≠ -1) (hs : s ≤ 240) (hp : p ≤ n) : ∃ s' c' p', s' ≤ 240 ∧ p' ≤ n ∧ YT (CS h s c p w) = some (rV, CS h s' c' p' w) := by
  have hn := H.2.2
  obtain ⟨s1, c1, a1, b1⟩ := cs_emitF (p := p) (w := w) (c := c) (x := -20) W hs
  obtain ⟨s2, c2, p2, a2, a3, b2⟩ := cf_sum H W P hw 57 s1 p 0 c1 a1 hp (by omega)
  obtain ⟨s3, c3, a4, b3⟩ := cs_emitF (p := p2) (w := w) (c := c2) (x := -21) W a2
  have b2' : FX2_readSum [vR (some 135), vI 0] (CS h s1 c1 p w) = some (rV, CS h s2 c2 p2 w) := b2
  refine ⟨s3, c3, p2, a4, a3, ?_⟩
  unfold YT
  simp only [oB_some, dR_some, cond_true, cond_false, if_true, if_false, Bool.true_and, Bool.and_true, Nat.beq_refl, CS_K, CS_R, W.1, W.2.1, H.1.1, cs_demand H (show p ≤ 240 by omega), hw, b1, b2', b3]
theorem cf_PK {h : Hp} {n s p : Nat} {c : Nat → Int32} {w : Int32} (H : HT h n) (W : LwL h) (P : PL h) (hw : w ≠ -1) (hs : s ≤ 240) (hp : p ≤ n) : ∃ s' c' p', s' ≤ 240 ∧ p' ≤ n ∧ PK (CS h s c p w) = some (rV, CS h s' c' p' w) := by
  have hn := H.2.2
  have hk := (sk_le (t := hI h 2) (n := n) p).2 hp
  by_cases q : cmp3 (chT (hI h 2) n (sk (hI h 2) n p)) = -1
  · obtain ⟨s3, c3, a4, b3⟩ := cs_emitF (p := sk (hI h 2) n p) (w := w) (c := c) (x := -21) W hs
    refine ⟨s3, c3, _, a4, hk, ?_⟩
    unfold PK
    simp only [oB_some, dR_some, cond_true, cond_false, if_true, if_false, Bool.true_and, Bool.and_true, Nat.beq_refl, CS_K, CS_R, W.1, W.2.1, H.1.1, cs_peek H (show p ≤ 240 by omega), comparison_sp, q, b3]
  · obtain ⟨s1, c1, p1, a1, a2, b1⟩ := cf_cond H W P hw 54 s (sk (hI h 2) n p) 0 c hs hk (by omega) 1
    have b1' : FX2_readCondition [vR (some 135), vI 0, vI 1] (CS h s c (sk (hI h 2) n p) w) = some (rV, CS h s1 c1 p1 w) := b1
    obtain ⟨s2, c2, p2, a3, a4, b2⟩ := cf_YT (c := c1) H W P hw a1 a2
    refine ⟨s2, c2, p2, a3, a4, ?_⟩
    unfold PK
    simp only [oB_some, dR_some, cond_true, cond_false, if_true, if_false, Bool.true_and, Bool.and_true, Nat.beq_refl, CS_K, CS_R, W.1, W.2.1, H.1.1, cs_peek H (show p ≤ 240 by omega), comparison_sp, q, b1', b2]
theorem cf_ZC {h : Hp} {n s p : Nat} {c : Nat → Int32} {w : Int32} (H : HT h n) (W : LwL h) (P : PL h) (hw : w ≠ -1) (hs : s ≤ 240) (hp : p ≤ n) (ch : Int32) : ∃ s' c' p', s' ≤ 240 ∧ p' ≤ n ∧ ZC (CS h s c p w) ch = some (rV, CS h s' c' p' w) := by
  obtain ⟨s1, c1, p1, a1, a2, b1⟩ := cf_cond H W P hw 54 s p 0 c hs hp (by omega) 0
  have b1' : FX2_readCondition [vR (some 135), vI 0, vI 0] (CS h s c p w) = some (rV, CS h s1 c1 p1 w) := b1
  obtain ⟨s2, c2, p2, a3, a4, b2⟩ := cf_YT (c := c1) H W P hw a1 a2
  obtain ⟨s3, c3, p3, a5, a6, b3⟩ := cf_sum H W P hw 57 s p 0 c hs hp (by omega)
  have b3' : FX2_readSum [vR (some 135), vI 0] (CS h s c p w) = some (rV, CS h s3 c3 p3 w) := b3
  obtain ⟨s4, c4, p4, a7, a8, b4⟩ := cf_PK (c := c3) H W P hw a5 a6
  unfold ZC
  by_cases q1 : ch = 33
  · exact ⟨s2, c2, p2, a3, a4, by simp only [oB_some, dR_some, cond_true, cond_false, if_true, if_false, Bool.true_and, Bool.and_true, Nat.beq_refl, q1, b1', b2]⟩
  · by_cases q2 : ch = 40
    · exact ⟨s2, c2, p2, a3, a4, by simp only [oB_some, dR_some, cond_true, cond_false, if_true, if_false, Bool.true_and, Bool.and_true, Nat.beq_refl, q1, q2, b1', b2, show ¬ ((40 : Int32) = 33) by decide]⟩
    · exact ⟨s4, c4, p4, a7, a8, by simp only [oB_some, dR_some, cond_true, cond_false, if_true, if_false, Bool.true_and, Bool.and_true, Nat.beq_refl, q1, q2, b3', b4]⟩
/-- the worth from i on is v -/
def WO (c L : Nat → Int32) (i N : Nat) (v : Int32) : Prop := ∀ (h : Hp) (a cd : Nat), WL h a cd N → (∀ q, i ≤ q → q < N → hI h cd q = c q) → (∀ q, q < 6 → hI h 8 q = L q) → ∀ (row : Nat → Int32) (o : Option EV), ∃ row', WR h a i 0 0 row o = some (rI v, wA h 9 row')
theorem WO.fin (c L : Nat → Int32) (N : Nat) : WO c L N N 0 := fun h a cd V _ _ row o => ⟨row, W_end V (Nat.le_refl _) (by have := V.2.2.2.2.1; omega)⟩
theorem WO.sum {c L : Nat → Int32} {i j m N : Nat} {v : Int32} (Q : PU c L i j v m) (hm : m ≤ 64) (hc : c j = -21) (hj : j < N) : WO c L i N v := by
  intro h a cd V hc' hl row o
  obtain ⟨r1, o1, e1, _, p2⟩ := Q.2 h a cd N V (by omega) (fun q h1 h2 => hc' q h1 (by omega)) hl 0 row o (by omega)
  refine ⟨r1, ?_⟩
  rw [e1, W_answer V hj ((hc' j (Nat.le_of_lt Q.1) hj).trans hc), p2]
theorem WO.cond1 {c L : Nat → Int32} {i j k m m' N : Nat} {b v : Int32} (Q : PU c L i j b m) (hm : m ≤ 64) (hb : b ≠ 0) (hc : c j = -20) (Q' : PU c L (j + 1) k v m') (hm' : m' ≤ 64) (hk : c k = -21) (hkN : k < N) : WO c L i N v := by
  intro h a cd V hc' hl row o
  have q1 := Q.1
  have q2 := Q'.1
  obtain ⟨r1, o1, e1, _, p2⟩ := Q.2 h a cd N V (by omega) (fun q h1 h2 => hc' q h1 (by omega)) hl 0 row o (by omega)
  obtain ⟨r2, o2, e2, _, p4⟩ := Q'.2 h a cd N V (by omega) (fun q h1 h2 => hc' q (by omega) (by omega)) hl 0 r1 (some (vI (-20))) (by omega)
  refine ⟨r2, ?_⟩
  rw [e1, W_choose V (show j < N by omega) ((hc' j (by omega) (by omega)).trans hc), p2, if_neg hb, e2, W_answer V hkN ((hc' k (by omega) hkN).trans hk), p4]
theorem W_skip {h : Hp} {a cd N : Nat} (V : WL h a cd N) {k : Nat} (hk : hI h cd k = -21) (hkN : k < N) (row : Nat → Int32) : ∀ (f i : Nat) (o : Option EV), k - i = f → i ≤ k → (∀ q, i ≤ q → q < k → hI h cd q ≠ -21) → ∃ o', WR h a i 0 1 row o = WR h a (k + 1) 0 0 row o' := by
  intro f
  induction f with
  | zero =>
    intro i o hf hi hq
    have : i = k := by omega
    subst this
    exact ⟨_, by rw [W_pass V hkN hk, if_pos rfl]⟩
  | succ f ih =>
    intro i o hf hi hq
    obtain ⟨o', e⟩ := ih (i + 1) (some (vI (hI h cd i))) (by omega) (by omega) (fun q h1 h2 => hq q (by omega) h2)
    exact ⟨o', by rw [W_pass V (show i < N by omega) rfl, if_neg (hq i (Nat.le_refl _) (by omega)), e]⟩
theorem WO.cond0 {c L : Nat → Int32} {i j k m N : Nat} {b y : Int32} (Q : PU c L i j b m) (hm : m ≤ 64) (hb : b = 0) (hc : c j = -20) (hjk : j < k) (hn : ∀ q, j < q → q < k → c q ≠ -21) (hk : c k = -21) (hkN : k < N) (R : WO c L (k + 1) N y) : WO c L i N y := by
  intro h a cd V hc' hl row o
  have q1 := Q.1
  obtain ⟨r1, o1, e1, _, p2⟩ := Q.2 h a cd N V (by omega) (fun q h1 h2 => hc' q h1 (by omega)) hl 0 row o (by omega)
  obtain ⟨o2, e2⟩ := W_skip V ((hc' k (by omega) hkN).trans hk) hkN r1 (k - (j + 1)) (j + 1) (some (vI (-20))) rfl (by omega) (fun q h1 h2 => by rw [hc' q (by omega) (by omega)]; exact hn q (by omega) h2)
  obtain ⟨r3, e3⟩ := R h a cd V (fun q h1 h2 => hc' q (by omega) h2) hl r1 o2
  refine ⟨r3, ?_⟩
  rw [e1, W_choose V (show j < N by omega) ((hc' j (by omega) (by omega)).trans hc), p2, if_pos hb, e2, e3]
/-- what was found -/
def fw (h : Hp) (hf fv : Int32) : Hp := sI (sI h 147 17 hf) 147 14 fv
theorem fw_17 (h : Hp) (hf fv : Int32) : hI (fw h hf fv) 147 17 = hf := by unfold fw; rw [hI_slot _ _ _ _ (by decide), hI_same]
theorem fw_14 (h : Hp) (hf fv : Int32) : hI (fw h hf fv) 147 14 = fv := by unfold fw; rw [hI_same]
theorem fw_s (h : Hp) (hf fv : Int32) {k : Nat} (h1 : k ≠ 17) (h2 : k ≠ 14) : hI (fw h hf fv) 147 k = hI h 147 k := by unfold fw; rw [hI_slot _ _ _ _ h2, hI_slot _ _ _ _ h1]
theorem fw_o (h : Hp) (hf fv : Int32) {a : Nat} (ha : a ≠ 147) : hI (fw h hf fv) a = hI h a := by unfold fw; rw [hI_row _ _ _ _ ha, hI_row _ _ _ _ ha]
theorem fw_MS (h : Hp) (hf fv x w v : Int32) (p : Nat) : sI (sI (MS (fw h hf fv) x p w) 147 17 1) 147 14 v = MS (fw h 1 v) x p w := by
  unfold MS
  rw [mw_sI _ _ _ _ (Or.inr ⟨by decide, by decide⟩), mw_sI _ _ _ _ (Or.inr ⟨by decide, by decide⟩)]
  congr 1
  unfold fw
  rw [sI_comm _ (Or.inr (by decide)) x 1, sI_comm _ (Or.inr (by decide)) x v, sI_comm _ (Or.inr (by decide)) fv 1, sI_sI, sI_sI]
theorem LC.fw {h hb : Hp} {n T B : Nat} {L : Nat → Int32} (C : LC h hb n T B L) (hf fv : Int32) : LC h (fw hb hf fv) n T B L := by
  obtain ⟨H, W, P, ⟨⟨⟨M1, M2, M3, M4, M5, M6, M7, M8⟩, hby⟩, ht⟩, Q, S⟩ := C
  refine ⟨H, W, P, ⟨⟨⟨M1, M2, M3, M4, M5, ?_, ?_, M8⟩, ?_⟩, ?_⟩, ?_, ?_⟩
  · rw [fw_s _ _ _ (by decide) (by decide)]; exact M6
  · rw [fw_s _ _ _ (by decide) (by decide)]; exact M7
  · rw [fw_o _ _ _ M8]; exact hby
  · unfold mt; rw [fw_o _ _ _ M8]; exact ht
  · rw [fw_o _ _ _ (show (151 : Nat) ≠ 147 by decide)]; exact Q
  · unfold StL; rw [fw_o _ _ _ (show PRE + 11 + 100 ≠ 147 by decide)]; exact S
theorem ref_134 {hb : Hp} {hf fv x b v w : Int32} {p : Nat} {o : Option EV} (M1 : hK hb 147 = 12) (hl : hI hb 147 13 = 121) :
    (w ≠ -1 ∨ hf ≠ 0 ∨ b = 0 → Run kX12_clause 134 [some (vR (some 147)), some (vI 121), some (vI b), some (vI v), o] [] (MS (fw hb hf fv) x p w) = some (rV, MS (fw hb hf fv) x p w)) ∧
    (w = -1 → hf = 0 → b ≠ 0 → Run kX12_clause 134 [some (vR (some 147)), some (vI 121), some (vI b), some (vI v), o] [] (MS (fw hb hf fv) x p w) = some (rV, MS (fw hb 1 v) x p w)) := by
  have K : ∀ a, hK (fw hb hf fv) a = hK hb a := fun _ => rfl
  have e17 : hI (MS (fw hb hf fv) x p w) 147 17 = hf := by rw [MS_s _ _ _ _ (by decide) (by decide) (by decide), fw_17]
  have e13 : hI (MS (fw hb hf fv) x p w) 147 13 = 121 := by rw [MS_s _ _ _ _ (by decide) (by decide) (by decide), fw_s _ _ _ (by decide) (by decide), hl]
  refine ⟨fun z => ?_, fun z1 z2 z3 => ?_⟩
  · rw [tX12_clause_134]
    by_cases q1 : w = -1
    · subst q1
      by_cases q2 : hf = 0
      · subst q2
        have q3 : b = 0 := by
          rcases z with y | y | y
          · exact absurd rfl y
          · exact absurd rfl y
          · exact y
        simp only [MS_K, K, M1, MS_11, e17, e13, q3, if_true]
      · simp only [MS_K, K, M1, MS_11, e17, q2, if_true, if_false]
    · simp only [MS_K, K, M1, MS_11, q1, if_true, if_false]
  · rw [tX12_clause_134]
    subst z1
    subst z2
    simp only [oB_some, dR_some, cond_true, cond_false, if_true, if_false, Bool.true_and, Bool.and_true, Nat.beq_refl, hK_sI, MS_K, K, M1, MS_11, e17, e13, z3, isZ1, fw_MS]
def KO (h hb : Hp) (n : Nat) (L : Nat → Int32) (p0 s0 : Nat) (c0 : Nat → Int32) (hf fv : Int32) (A D : Option (RV × Hp)) : Prop :=
  (∃ s' c' p' hf' fv', (p0 < p' ∧ p' ≤ n ∧ s0 < s' ∧ s' + 1 ≤ s0 + (p' - p0) ∧ (∀ q, q < s0 → c' q = c0 q)) ∧ A = some (rV, CS h s' c' p' (-1)) ∧ D = some (rV, MS (fw hb hf' fv') (nI 0) p' (-1)) ∧ (hf' = 0 ∨ hf' = 1) ∧ (hf ≠ 0 → hf' = hf ∧ fv' = fv) ∧ (hf = 0 → (hf' = 1 ∧ ∀ c'' N, s' ≤ N → (∀ q, s0 ≤ q → q < s' → c'' q = c' q) → WO c'' L s0 N fv') ∨ (hf' = 0 ∧ fv' = fv ∧ ∀ c'' N y, s' ≤ N → (∀ q, s0 ≤ q → q < s' → c'' q = c' q) → WO c'' L s' N y → WO c'' L s0 N y))) ∨
  (∃ w s' c' p' p'' x, w ≠ -1 ∧ s' ≤ 240 ∧ p' ≤ n ∧ p'' ≤ n ∧ A = some (rV, CS h s' c' p' w) ∧ D = some (rV, MS (fw hb hf fv) x p'' w))
theorem k_sum0 {h hm : Hp} {n T B : Nat} {L : Nat → Int32} (C : LC h hm n T B L) (s : Nat) (c : Nat → Int32) (p : Nat) (hp : p ≤ n) (hs : s ≤ p) : JO h hm n L p s c 15 0 False (FX2_readSum [vR (some 135), vI 0] (CS h s c p (-1))) (FX12_sum [vR (some 147)] (MS hm (nI 0) p (-1))) := j_sums C 6 0 60 80 rfl (by omega) (by omega) s c p hp hs
theorem k_cond0 {h hm : Hp} {n T B : Nat} {L : Nat → Int32} (C : LC h hm n T B L) (s : Nat) (c : Nat → Int32) (p : Nat) (hp : p ≤ n) (hs : s ≤ p) : JO h hm n L p s c 18 0 True (FX2_readCondition [vR (some 135), vI 0, vI 0] (CS h s c p (-1))) (FX12_condition [vR (some 147), vI 0, vI 0] (MS hm (nI 0) p (-1))) := (j_conds C 6 0 rfl).2.2 60 80 (by omega) (by omega) s c p hp hs
theorem k_cond1 {h hm : Hp} {n T B : Nat} {L : Nat → Int32} (C : LC h hm n T B L) {p0 s0 p s : Nat} {c0 c : Nat → Int32} {v : Int32} (J : JR n L p0 s0 c0 15 p s c v) (hs0 : s0 ≤ p0) : JO h hm n L p0 s0 c0 18 0 True (FX2_readCondition [vR (some 135), vI 0, vI 1] (CS h s c p (-1))) (FX12_condition [vR (some 147), vI 1, vI v] (MS hm (nI 0) p (-1))) := j_condB C (by omega) (by omega) J hs0
/-- behind a condition -/
theorem j_tail {h hb : Hp} {n T B : Nat} {L : Nat → Int32} {hf fv : Int32} (C : LC h hb n T B L) (hl : hI hb 147 13 = 121) (h01 : hf = 0 ∨ hf = 1) {p00 p0 s0 p s : Nat} {c0 c : Nat → Int32} {b : Int32} {o : Option EV} (J : JR n L p0 s0 c0 18 p s c b) (hb01 : b = 0 ∨ b = 1) (hs : s ≤ p) (hp0 : p00 + 2 ≤ p0) (hs00 : s0 ≤ p00) :
    KO h hb n L p00 s0 c0 hf fv (YT (CS h s c p (-1))) (bif Nat.beq (hK (MS (fw hb hf fv) (nI 0) p (-1)) 147) 12 && true then oB (FX12_takes [vR (some 147), vI (63)] (MS (fw hb hf fv) (nI 0) p (-1))) (fun r14 h15 => if r14.1 = 0 then some (rV, h15) else bif Nat.beq (hK h15 147) 12 && true then oB (FX12_sum [vR (some 147)] h15) (fun r16 h17 => Run kX12_clause 134 [some (vR (some 147)), some (vI 121), some (vI b), some (vI (r16.1)), o] [] h17) else none) else none) := by
  have C' := C.fw hf fv
  obtain ⟨H, W, P, M, _, _⟩ := id C'
  have hn := H.2.2
  have T1 := H.1.1
  have W1 := W.1
  have W2 := W.2.1
  have M1 := M.1.1.1
  have M1b : hK hb 147 = 12 := M1
  have j1 := J.1
  have j2 := J.2.1
  have j3 := J.2.2.1
  have j4 := J.2.2.2.1
  have hk0 := (sk_le (t := hI h 2) (n := n) p).1
  have hk := (sk_le (t := hI h 2) (n := n) p).2 j2
  by_cases qa : chT (hI h 2) n (sk (hI h 2) n p) = 63
  · have hq := ch_lt qa (by decide)
    have e20 := cs_emit (p := sk (hI h 2) n p + 1) (c := c) (w := -1) (x := -20) W (show s < 240 by omega)
    rcases k_sum0 C' (s + 1) (up1 c s (-20)) (sk (hI h 2) n p + 1) (by omega) (by omega) with ⟨s1, c1, p1, v, J1, _, fA, fB⟩ | ⟨w, s1, c1, p1, p2, x, y, hw, i1, i2, i3, _, fA, fB⟩
    · have g1 := J1.1
      have g2 := J1.2.1
      have g3 := J1.2.2.1
      have g4 := J1.2.2.2.1
      have e21 := cs_emit (p := p1) (c := c1) (w := -1) (x := -21) W (show s1 < 240 by omega)
      have pre : ∀ q, q < s + 1 → c1 q = up1 c s (-20) q := J1.2.2.2.2.1
      have P1 : ∀ c'', (∀ q, s0 ≤ q → q < s1 + 1 → c'' q = up1 c1 s1 (-21) q) → PU c'' L s0 s b 18 ∧ c'' s = -20 ∧ PU c'' L (s + 1) s1 v 15 ∧ c'' s1 = -21 ∧ ∀ q, s < q → q < s1 → c'' q ≠ -21 := by
        intro c'' hc
        refine ⟨J.2.2.2.2.2.2.ext (fun q h1 h2 => ?_), ?_, J1.2.2.2.2.2.2.ext (fun q h1 h2 => ?_), ?_, fun q h1 h2 => ?_⟩
        · rw [hc q h1 (by omega), up1_o _ _ (by omega), pre q (by omega), up1_o _ _ (by omega)]
        · rw [hc s (by omega) (by omega), up1_o _ _ (by omega), pre s (by omega), up1_s]
        · rw [hc q (by omega) (by omega), up1_o _ _ (by omega)]
        · rw [hc s1 (by omega) (by omega), up1_s]
        · rw [hc q (by omega) (by omega), up1_o _ _ (by omega)]; exact J1.2.2.2.2.2.1 q (by omega) h2
      have eA : YT (CS h s c p (-1)) = some (rV, CS h (s1 + 1) (up1 c1 s1 (-21)) p1 (-1)) := by
        unfold YT
        simp only [oB_some, dR_some, cond_true, cond_false, if_true, if_false, Bool.true_and, Bool.and_true, Nat.beq_refl, CS_K, CS_R, W1, W2, T1, cs_demand H (show p ≤ 240 by omega), qa, e20, fA, e21]
      rw [eA]
      have bounds : p00 < p1 ∧ p1 ≤ n ∧ s0 < s1 + 1 ∧ s1 + 1 + 1 ≤ s0 + (p1 - p00) ∧ (∀ q, q < s0 → up1 c1 s1 (-21) q = c0 q) := ⟨by omega, g2, by omega, by omega, fun q z => by rw [up1_o _ _ (by omega), pre q (by omega), up1_o _ _ (by omega)]; exact J.2.2.2.2.1 q z⟩
      by_cases z : hf ≠ 0 ∨ b = 0
      · refine Or.inl ⟨s1 + 1, up1 c1 s1 (-21), p1, hf, fv, bounds, rfl, ?_, h01, fun _ => ⟨rfl, rfl⟩, fun z0 => Or.inr ⟨z0, rfl, fun c'' N y h1 h2 R => ?_⟩⟩
        · simp only [oB_some, dR_some, cond_true, cond_false, if_true, if_false, Bool.true_and, Bool.and_true, Nat.beq_refl, MS_K, M1, ms_takes M j2, qa, show ¬ ((1 : Int32) = 0) by decide, fB, (ref_134 (b := b) M1b hl).1 (Or.inr z)]
        · have hb0 : b = 0 := by
            rcases z with y | y
            · exact absurd z0 y
            · exact y
          obtain ⟨u1, u2, u3, u4, u5⟩ := P1 c'' h2
          exact WO.cond0 u1 (by omega) hb0 u2 (by omega) u5 u4 (by omega) R
      · have hf0 : hf = 0 := Classical.byContradiction fun y => z (Or.inl y)
        have hb1 : b ≠ 0 := fun y => z (Or.inr y)
        refine Or.inl ⟨s1 + 1, up1 c1 s1 (-21), p1, 1, v, bounds, rfl, ?_, Or.inr rfl, fun y => absurd hf0 y, fun z0 => Or.inl ⟨rfl, fun c'' N h1 h2 => ?_⟩⟩
        · simp only [oB_some, dR_some, cond_true, cond_false, if_true, if_false, Bool.true_and, Bool.and_true, Nat.beq_refl, MS_K, M1, ms_takes M j2, qa, show ¬ ((1 : Int32) = 0) by decide, fB, (ref_134 (b := b) M1b hl).2 rfl hf0 hb1]
        · obtain ⟨u1, u2, u3, u4, u5⟩ := P1 c'' h2
          exact WO.cond1 u1 (by omega) hb1 u2 u3 (by omega) u4 (by omega)
    · obtain ⟨s3, c3, a4, b3⟩ := cs_emitF (p := p1) (w := w) (c := c1) (x := -21) W i1
      refine Or.inr ⟨w, s3, c3, p1, p2, x, hw, a4, i2, i3, ?_, ?_⟩
      · unfold YT
        simp only [oB_some, dR_some, cond_true, cond_false, if_true, if_false, Bool.true_and, Bool.and_true, Nat.beq_refl, CS_K, CS_R, W1, W2, T1, cs_demand H (show p ≤ 240 by omega), qa, e20, fA, b3]
      · simp only [oB_some, dR_some, cond_true, cond_false, if_true, if_false, Bool.true_and, Bool.and_true, Nat.beq_refl, MS_K, M1, ms_takes M j2, qa, show ¬ ((1 : Int32) = 0) by decide, fB, (ref_134 (b := b) M1b hl).1 (Or.inl hw)]
  · have nq : nI (sk (hI h 2) n p) ≠ -1 := nI_nm1 (by omega)
    obtain ⟨s1, c1, a1, b1⟩ := cs_emitF (p := sk (hI h 2) n p) (w := nI (sk (hI h 2) n p)) (c := c) (x := -20) W (show s ≤ 240 by omega)
    obtain ⟨s2, c2, p2, a2, a3, b2⟩ := cf_sum H W P nq 57 s1 (sk (hI h 2) n p) 0 c1 a1 hk (by omega)
    have b2' : FX2_readSum [vR (some 135), vI 0] (CS h s1 c1 (sk (hI h 2) n p) (nI (sk (hI h 2) n p))) = some (rV, CS h s2 c2 p2 (nI (sk (hI h 2) n p))) := b2
    obtain ⟨s3, c3, a4, b3⟩ := cs_emitF (p := p2) (w := nI (sk (hI h 2) n p)) (c := c2) (x := -21) W a2
    refine Or.inr ⟨nI (sk (hI h 2) n p), s3, c3, p2, sk (hI h 2) n p, nI 0, nq, a4, a3, hk, ?_, ?_⟩
    · unfold YT
      simp only [oB_some, dR_some, cond_true, cond_false, if_true, if_false, Bool.true_and, Bool.and_true, Nat.beq_refl, CS_K, CS_R, W1, W2, T1, cs_demand H (show p ≤ 240 by omega), qa, b1, b2', b3]
    · simp only [oB_some, dR_some, cond_true, cond_false, if_true, if_false, Bool.true_and, Bool.and_true, Nat.beq_refl, MS_K, M1, ms_takes M j2, qa]
