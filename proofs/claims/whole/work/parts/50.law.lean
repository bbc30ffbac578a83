/-! ===== PURE: a whole law, by both readers ===== -/
theorem among1 {h : Hp} (S : StL h (PRE + 10) 1 (bT [121])) (x : Int32) : FX12_isAmong [vR (some (PRE + 10)), vI x] h = some (rI (if x = 121 then 1 else 0), h) := by
  rw [tX12_isAmong, show (0 : Int32) = nI 0 from rfl, among_go S (by omega), show (0 + 1 : Nat) = 1 from rfl, among_end S]
  by_cases q : x = 121
  · subst q; rfl
  · have n0 : ¬ x = nI (bT [121] 0) := q
    rw [if_neg n0, if_neg q]; rfl
theorem j_clause {h hb : Hp} {n T B : Nat} {L : Nat → Int32} {hf fv : Int32} (C : LC h hb n T B L) (S10 : StL hb (PRE + 10) 1 (bT [121])) (hl : hI hb 147 13 = 121) (h01 : hf = 0 ∨ hf = 1) (s : Nat) (c : Nat → Int32) (p : Nat) (hp : p ≤ n) (hs : s ≤ p) : KO h hb n L p s c hf fv (FX2_readClause [vR (some 135)] (CS h s c p (-1))) (FX12_clause [vR (some 147)] (MS (fw hb hf fv) (nI 0) p (-1))) := by
  have C' := C.fw hf fv
  obtain ⟨H, W, P, M, _, _⟩ := id C'
  have hn := H.2.2
  have T1 := H.1.1
  have W1 := W.1
  have W2 := W.2.1
  have M1 := M.1.1.1
  have M1b : hK hb 147 = 12 := M1
  have hk1 := (sk_le (t := hI h 2) (n := n) p).1
  have hk := (sk_le (t := hI h 2) (n := n) p).2 hp
  have S10' : ∀ x p w, StL (MS (fw hb hf fv) x p w) (PRE + 10) 1 (bT [121]) := by
    intro x p w
    unfold StL
    rw [MS_K, MS_K, MS_E, MS_K, MS_o _ x p w (show PRE + 10 + 100 ≠ 147 by decide), fw_o _ _ _ (show PRE + 10 + 100 ≠ 147 by decide)]
    exact S10
  rw [clause_hd H W hp]
  by_cases qa : chT (hI h 2) n (sk (hI h 2) n p) = 121
  · have hq1 := ch_lt qa (by decide)
    have d1 : dm (hI h 2) n 121 p (-1) = (sk (hI h 2) n p + 1, -1) := by unfold dm; rw [if_pos rfl, if_pos qa]
    rw [d1]
    have hk2 := (sk_le (t := hI h 2) (n := n) (sk (hI h 2) n p + 1)).1
    have hk2' := (sk_le (t := hI h 2) (n := n) (sk (hI h 2) n p + 1)).2 (by omega)
    by_cases qb : chT (hI h 2) n (sk (hI h 2) n (sk (hI h 2) n p + 1)) = 58
    · have hq2 := ch_lt qb (by decide)
      have d2 : dm (hI h 2) n 58 (sk (hI h 2) n p + 1) (-1) = (sk (hI h 2) n (sk (hI h 2) n p + 1) + 1, -1) := by unfold dm; rw [if_pos rfl, if_pos qb]
      simp only [d2]
      have hk3 := (sk_le (t := hI h 2) (n := n) (sk (hI h 2) n (sk (hI h 2) n p + 1) + 1)).1
      have hk3' := (sk_le (t := hI h 2) (n := n) (sk (hI h 2) n (sk (hI h 2) n p + 1) + 1)).2 (by omega)
      generalize hq3 : sk (hI h 2) n (sk (hI h 2) n (sk (hI h 2) n p + 1) + 1) = q3 at hk3 hk3' ⊢
      have hp2 : p + 2 ≤ q3 := by omega
      by_cases qc : chT (hI h 2) n q3 = 33 ∨ chT (hI h 2) n q3 = 40
      · have eA : ZC (CS h s c q3 (-1)) (chT (hI h 2) n q3) = oB (FX2_readCondition [vR (some 135), vI 0, vI 0] (CS h s c q3 (-1))) (fun r19 h20 => YT h20) := by
          unfold ZC
          rcases qc with z | z <;> rw [z]
          · rw [if_pos rfl]
          · rw [if_neg (by decide), if_pos rfl]
        have eB : FX12_clause [vR (some 147)] (MS (fw hb hf fv) (nI 0) p (-1)) = oB (FX12_condition [vR (some 147), vI 0, vI 0] (MS (fw hb hf fv) (nI 0) q3 (-1))) (fun r12 h13 => bif Nat.beq (hK h13 147) 12 && true then oB (FX12_takes [vR (some 147), vI (63)] h13) (fun r14 h15 => if r14.1 = 0 then some (rV, h15) else bif Nat.beq (hK h15 147) 12 && true then oB (FX12_sum [vR (some 147)] h15) (fun r16 h17 => Run kX12_clause 134 [some (vR (some 147)), some (vI 121), some (vI (r12.1)), some (vI (r16.1)), some (vI (chT (hI h 2) n q3))] [] h17) else none) else none) := by
          rw [tX12_clause]
          rcases qc with z | z
          · simp only [oB_some, dR_some, cond_true, cond_false, if_true, if_false, Bool.true_and, Bool.and_true, Nat.beq_refl, hK_sI, MS_K, M1, ms_look M hp, among1 (S10' _ _ _), qa, show ¬ ((1 : Int32) = 0) by decide, MS_10, nI_1, MS_p, ms_takes M (show sk (hI h 2) n p + 1 ≤ n by omega), qb, ms_look M (show sk (hI h 2) n (sk (hI h 2) n p + 1) + 1 ≤ n by omega), hq3, z]
          · simp only [oB_some, dR_some, cond_true, cond_false, if_true, if_false, Bool.true_and, Bool.and_true, Nat.beq_refl, hK_sI, MS_K, M1, ms_look M hp, among1 (S10' _ _ _), qa, show ¬ ((1 : Int32) = 0) by decide, MS_10, nI_1, MS_p, ms_takes M (show sk (hI h 2) n p + 1 ≤ n by omega), qb, ms_look M (show sk (hI h 2) n (sk (hI h 2) n p + 1) + 1 ≤ n by omega), hq3, z, show ¬ ((40 : Int32) = 33) by decide]
        rw [eA, eB]
        rcases k_cond0 C' s c q3 hk3' (by omega) with ⟨s1, c1, p1, b, J1, hb1, fA, fB⟩ | ⟨w, s1, c1, p1, p2, x, y, hw, i1, i2, i3, _, fA, fB⟩
        · rw [fA, fB]
          have g1 := J1.1
          have g4 := J1.2.2.2.1
          exact j_tail C hl h01 J1 (hb1 trivial) (by omega) hp2 hs
        · rw [fA, fB]
          obtain ⟨s2, c2, p3, a3, a4, b2⟩ := cf_YT (c := c1) H W P hw i1 i2
          refine Or.inr ⟨w, s2, c2, p3, p2, x, hw, a3, a4, i3, b2, ?_⟩
          simp only [oB_some, dR_some, cond_true, cond_false, if_true, if_false, Bool.true_and, Bool.and_true, Nat.beq_refl, MS_K, M1, ms_takes M i3, hw]
      · have n33 : ¬ chT (hI h 2) n q3 = 33 := fun z => qc (Or.inl z)
        have n40 : ¬ chT (hI h 2) n q3 = 40 := fun z => qc (Or.inr z)
        have eA : ZC (CS h s c q3 (-1)) (chT (hI h 2) n q3) = oB (FX2_readSum [vR (some 135), vI 0] (CS h s c q3 (-1))) (fun r10 h11 => PK h11) := by
          unfold ZC
          rw [if_neg n33, if_neg n40]
        have eB : FX12_clause [vR (some 147)] (MS (fw hb hf fv) (nI 0) p (-1)) = oB (FX12_sum [vR (some 147)] (MS (fw hb hf fv) (nI 0) q3 (-1))) (fun r24 h25 => if hK h25 147 = 12 then if (hI h25 147 11) = (-1) then bif Nat.beq (hK h25 147) 12 && true then oB (FX12_look [vR (some 147)] h25) (fun r26 h27 => oB (FX12_isSign [vI (r26.1)] h27) (fun r28 h29 => if r28.1 = 0 then Run kX12_clause 134 [some (vR (some 147)), some (vI 121), some (vI (1)), some (vI (r24.1)), some (vI (chT (hI h 2) n q3))] [] h29 else bif Nat.beq (hK h29 147) 12 && true then oB (FX12_condition [vR (some 147), vI (1), vI (r24.1)] h29) (fun r30 h31 => bif Nat.beq (hK h31 147) 12 && true then oB (FX12_takes [vR (some 147), vI (63)] h31) (fun r32 h33 => if r32.1 = 0 then some (rV, h33) else bif Nat.beq (hK h33 147) 12 && true then oB (FX12_sum [vR (some 147)] h33) (fun r34 h35 => Run kX12_clause 134 [some (vR (some 147)), some (vI 121), some (vI (r30.1)), some (vI (r34.1)), some (vI (chT (hI h 2) n q3))] [] h35) else none) else none) else none)) else none else Run kX12_clause 134 [some (vR (some 147)), some (vI 121), some (vI (1)), some (vI (r24.1)), some (vI (chT (hI h 2) n q3))] [] h25 else none) := by
          rw [tX12_clause]
          simp only [oB_some, dR_some, cond_true, cond_false, if_true, if_false, Bool.true_and, Bool.and_true, Nat.beq_refl, hK_sI, MS_K, M1, ms_look M hp, among1 (S10' _ _ _), qa, show ¬ ((1 : Int32) = 0) by decide, MS_10, nI_1, MS_p, ms_takes M (show sk (hI h 2) n p + 1 ≤ n by omega), qb, ms_look M (show sk (hI h 2) n (sk (hI h 2) n p + 1) + 1 ≤ n by omega), hq3, n33, n40]
        rw [eA, eB]
        rcases k_sum0 C' s c q3 hk3' (by omega) with ⟨s1, c1, p1, v, J1, _, fA, fB⟩ | ⟨w, s1, c1, p1, p2, x, y, hw, i1, i2, i3, _, fA, fB⟩
        · rw [fA, fB]
          have g1 := J1.1
          have g2 := J1.2.1
          have g3 := J1.2.2.1
          have g4 := J1.2.2.2.1
          have hk4 := (sk_le (t := hI h 2) (n := n) p1).1
          have hk4' := (sk_le (t := hI h 2) (n := n) p1).2 g2
          by_cases qd : cmp3 (chT (hI h 2) n (sk (hI h 2) n p1)) = -1
          · have e21 := cs_emit (p := sk (hI h 2) n p1) (c := c1) (w := -1) (x := -21) W (show s1 < 240 by omega)
            have fA2 : oB (some (rV, CS h s1 c1 p1 (-1))) (fun r10 h11 => PK h11) = some (rV, CS h (s1 + 1) (up1 c1 s1 (-21)) (sk (hI h 2) n p1) (-1)) := by
              unfold PK
              simp only [oB_some, dR_some, cond_true, cond_false, if_true, if_false, Bool.true_and, Bool.and_true, Nat.beq_refl, CS_K, CS_R, W1, W2, T1, cs_peek H (show p1 ≤ 240 by omega), comparison_sp, qd, e21]
            rw [fA2]
            have bounds : p < sk (hI h 2) n p1 ∧ sk (hI h 2) n p1 ≤ n ∧ s < s1 + 1 ∧ s1 + 1 + 1 ≤ s + (sk (hI h 2) n p1 - p) ∧ (∀ q, q < s → up1 c1 s1 (-21) q = c q) := ⟨by omega, hk4', by omega, by omega, fun q z => by rw [up1_o _ _ (by omega)]; exact J1.2.2.2.2.1 q z⟩
            have wo : ∀ c'' N, s1 + 1 ≤ N → (∀ q, s ≤ q → q < s1 + 1 → c'' q = up1 c1 s1 (-21) q) → WO c'' L s N v := by
              intro c'' N hN hc
              exact WO.sum (J1.2.2.2.2.2.2.ext (fun q h1 h2 => by rw [hc q h1 (by omega), up1_o _ _ (by omega)])) (by omega) (by rw [hc s1 (by omega) (by omega), up1_s]) (by omega)
            by_cases z : hf = 0
            · refine Or.inl ⟨s1 + 1, _, _, 1, v, bounds, rfl, ?_, Or.inr rfl, fun y => absurd z y, fun _ => Or.inl ⟨rfl, wo⟩⟩
              simp only [oB_some, dR_some, cond_true, cond_false, if_true, if_false, Bool.true_and, Bool.and_true, Nat.beq_refl, MS_K, M1, MS_11, ms_look M g2, issign_sp, qd, (ref_134 (b := 1) M1b hl).2 rfl z (by decide)]
            · refine Or.inl ⟨s1 + 1, _, _, hf, fv, bounds, rfl, ?_, h01, fun _ => ⟨rfl, rfl⟩, fun y => absurd y z⟩
              simp only [oB_some, dR_some, cond_true, cond_false, if_true, if_false, Bool.true_and, Bool.and_true, Nat.beq_refl, MS_K, M1, MS_11, ms_look M g2, issign_sp, qd, (ref_134 (b := 1) M1b hl).1 (Or.inr (Or.inl z))]
          · have fA2 : oB (some (rV, CS h s1 c1 p1 (-1))) (fun r10 h11 => PK h11) = oB (FX2_readCondition [vR (some 135), vI 0, vI 1] (CS h s1 c1 (sk (hI h 2) n p1) (-1))) (fun r19 h20 => YT h20) := by
              unfold PK
              simp only [oB_some, dR_some, cond_true, cond_false, if_true, if_false, Bool.true_and, Bool.and_true, Nat.beq_refl, CS_K, CS_R, W1, W2, T1, cs_peek H (show p1 ≤ 240 by omega), comparison_sp, qd]
            have fB2 : oB (some (rI v, MS (fw hb hf fv) (nI 0) p1 (-1))) (fun r24 h25 => if hK h25 147 = 12 then if (hI h25 147 11) = (-1) then bif Nat.beq (hK h25 147) 12 && true then oB (FX12_look [vR (some 147)] h25) (fun r26 h27 => oB (FX12_isSign [vI (r26.1)] h27) (fun r28 h29 => if r28.1 = 0 then Run kX12_clause 134 [some (vR (some 147)), some (vI 121), some (vI (1)), some (vI (r24.1)), some (vI (chT (hI h 2) n q3))] [] h29 else bif Nat.beq (hK h29 147) 12 && true then oB (FX12_condition [vR (some 147), vI (1), vI (r24.1)] h29) (fun r30 h31 => bif Nat.beq (hK h31 147) 12 && true then oB (FX12_takes [vR (some 147), vI (63)] h31) (fun r32 h33 => if r32.1 = 0 then some (rV, h33) else bif Nat.beq (hK h33 147) 12 && true then oB (FX12_sum [vR (some 147)] h33) (fun r34 h35 => Run kX12_clause 134 [some (vR (some 147)), some (vI 121), some (vI (r30.1)), some (vI (r34.1)), some (vI (chT (hI h 2) n q3))] [] h35) else none) else none) else none)) else none else Run kX12_clause 134 [some (vR (some 147)), some (vI 121), some (vI (1)), some (vI (r24.1)), some (vI (chT (hI h 2) n q3))] [] h25 else none) = oB (FX12_condition [vR (some 147), vI (1), vI v] (MS (fw hb hf fv) (nI 0) (sk (hI h 2) n p1) (-1))) (fun r30 h31 => bif Nat.beq (hK h31 147) 12 && true then oB (FX12_takes [vR (some 147), vI (63)] h31) (fun r32 h33 => if r32.1 = 0 then some (rV, h33) else bif Nat.beq (hK h33 147) 12 && true then oB (FX12_sum [vR (some 147)] h33) (fun r34 h35 => Run kX12_clause 134 [some (vR (some 147)), some (vI 121), some (vI (r30.1)), some (vI (r34.1)), some (vI (chT (hI h 2) n q3))] [] h35) else none) else none) := by
              simp only [oB_some, dR_some, cond_true, cond_false, if_true, if_false, Bool.true_and, Bool.and_true, Nat.beq_refl, MS_K, M1, MS_11, ms_look M g2, issign_sp, qd, show ¬ ((1 : Int32) = 0) by decide]
            rw [fA2, fB2]
            rcases k_cond1 C' (J1.wide hk4 hk4' (Nat.le_refl _)) (show s ≤ q3 by omega) with ⟨s2, c2, p2, b, J2, hb1, gA, gB⟩ | ⟨w, s2, c2, p2, p3, x, y, hw, i1, i2, i3, _, gA, gB⟩
            · rw [gA, gB]
              have g5 := J2.1
              have g6 := J2.2.2.2.1
              exact j_tail C hl h01 J2 (hb1 trivial) (by omega) hp2 hs
            · rw [gA, gB]
              obtain ⟨s4, c4, p4, a3, a4, b2⟩ := cf_YT (c := c2) H W P hw i1 i2
              refine Or.inr ⟨w, s4, c4, p4, p3, x, hw, a3, a4, i3, b2, ?_⟩
              simp only [oB_some, dR_some, cond_true, cond_false, if_true, if_false, Bool.true_and, Bool.and_true, Nat.beq_refl, MS_K, M1, ms_takes M i3, hw]
        · rw [fA, fB]
          obtain ⟨s4, c4, p4, a3, a4, b2⟩ := cf_PK (c := c1) H W P hw i1 i2
          refine Or.inr ⟨w, s4, c4, p4, p2, x, hw, a3, a4, i3, b2, ?_⟩
          simp only [oB_some, dR_some, cond_true, cond_false, if_true, if_false, Bool.true_and, Bool.and_true, Nat.beq_refl, MS_K, M1, MS_11, hw, (ref_134 (b := 1) M1b hl).1 (Or.inl hw)]
    · have d2 : dm (hI h 2) n 58 (sk (hI h 2) n p + 1) (-1) = (sk (hI h 2) n (sk (hI h 2) n p + 1), nI (sk (hI h 2) n (sk (hI h 2) n p + 1))) := by unfold dm; rw [if_pos rfl, if_neg qb]
      simp only [d2, sk_sk]
      have nq : nI (sk (hI h 2) n (sk (hI h 2) n p + 1)) ≠ -1 := nI_nm1 (by omega)
      obtain ⟨s4, c4, p4, a3, a4, b2⟩ := cf_ZC (s := s) (c := c) H W P nq (by omega) hk2' (chT (hI h 2) n (sk (hI h 2) n (sk (hI h 2) n p + 1)))
      refine Or.inr ⟨_, s4, c4, p4, sk (hI h 2) n (sk (hI h 2) n p + 1), nI 0, nq, a3, a4, hk2', b2, ?_⟩
      rw [tX12_clause]
      simp only [oB_some, dR_some, cond_true, cond_false, if_true, if_false, Bool.true_and, Bool.and_true, Nat.beq_refl, hK_sI, MS_K, M1, ms_look M hp, among1 (S10' _ _ _), qa, show ¬ ((1 : Int32) = 0) by decide, MS_10, nI_1, MS_p, ms_takes M (show sk (hI h 2) n p + 1 ≤ n by omega), qb]
  · have nq : nI (sk (hI h 2) n p) ≠ -1 := nI_nm1 (by omega)
    have d1 : dm (hI h 2) n 121 p (-1) = (sk (hI h 2) n p, nI (sk (hI h 2) n p)) := by unfold dm; rw [if_pos rfl, if_neg qa]
    have d2 : dm (hI h 2) n 58 (sk (hI h 2) n p) (nI (sk (hI h 2) n p)) = (sk (hI h 2) n p, nI (sk (hI h 2) n p)) := by unfold dm; rw [if_neg nq]
    simp only [d1, d2, sk_sk]
    obtain ⟨s4, c4, p4, a3, a4, b2⟩ := cf_ZC (s := s) (c := c) H W P nq (by omega) hk (chT (hI h 2) n (sk (hI h 2) n p))
    refine Or.inr ⟨_, s4, c4, p4, sk (hI h 2) n p, nI 0, nq, a3, a4, hk, b2, ?_⟩
    rw [tX12_clause]
    simp only [oB_some, dR_some, cond_true, cond_false, if_true, if_false, Bool.true_and, Bool.and_true, Nat.beq_refl, hK_sI, MS_K, M1, ms_look M hp, among1 (S10' _ _ _), qa, ms_fails M1]
/-- what was read so far -/
def LI (L : Nat → Int32) (s : Nat) (c : Nat → Int32) (hf fv : Int32) : Prop := (hf = 0 ∧ fv = 0 ∧ ∀ c'' N y, s ≤ N → (∀ q, q < s → c'' q = c q) → WO c'' L s N y → WO c'' L 0 N y) ∨ (hf = 1 ∧ ∀ c'' N, s ≤ N → (∀ q, q < s → c'' q = c q) → WO c'' L 0 N fv)
def LO (h hb : Hp) (L : Nat → Int32) (A D : Option (RV × Hp)) : Prop := ∃ w s c p', A = some (rI w, CS h s c p' w) ∧ s ≤ 240 ∧ ∃ x p'' hf fv, D = some (rV, MS (fw hb hf fv) x p'' w) ∧ (w = -1 → 0 < s ∧ s < 240 ∧ WO c L 0 s fv)
theorem law_end {h : Hp} {n s p i : Nat} {c : Nat → Int32} {w : Int32} (H : HT h n) (W : LwL h) (hp : p ≤ n) (hi : i < 240) : Run kX2_readLaw 16 [some (vR (some 135)), some (vI 0), some (vI (nI i))] [] (CS h s c p w) = some (rI (if chT (hI h 2) n (sk (hI h 2) n p) = -1 then w else if w = -1 then nI (sk (hI h 2) n p) else w), CS h s c (sk (hI h 2) n p) (if chT (hI h 2) n (sk (hI h 2) n p) = -1 then w else if w = -1 then nI (sk (hI h 2) n p) else w)) := by
  have hn := H.2.2
  have e1 := nI_nle' (a := 240) (b := i) (by omega) (by omega)
  have q1 : ¬ 240 ≤ i := by omega
  rw [tX2_readLaw_16]
  simp only [oB_some, dR_some, cond_true, cond_false, if_true, if_false, Bool.true_and, Bool.and_true, Nat.beq_refl, CS_K, CS_R, W.1, W.2.1, H.1.1, show (240 : Int32) = nI 240 from rfl, e1, q1, cs_demandEnd H (show p ≤ 240 by omega)]
  have e3 : ∀ p w, hI (CS h s c p w) 1 3 = w := fun p w => tw_wr _ _ _
  rw [e3]
theorem law_loop {h hb : Hp} {n T B : Nat} {L : Nat → Int32} (C : LC h hb n T B L) (S10 : StL hb (PRE + 10) 1 (bT [121])) (hl : hI hb 147 13 = 121) : ∀ (f p s i : Nat) (c : Nat → Int32) (hf fv : Int32) (o1 o2 o3 : Option EV), n - p ≤ f → p ≤ n → s ≤ p → 2 * i ≤ p → LI L s c hf fv →
    LO h hb L (Run kX2_readLaw 16 [some (vR (some 135)), some (vI 1), some (vI (nI i))] [] (CS h s c p (-1))) (oB (FX12_clause [vR (some 147)] (MS (fw hb hf fv) (nI 0) p (-1))) (fun r7 h8 => Run kX12_goThrough 32 [some (vR (some 147)), o1, o2, o3] [] h8)) := by
  obtain ⟨H, W, P, Mb, _, _⟩ := id C
  have hn := H.2.2
  have T1 := H.1.1
  have W1 := W.1
  have W2 := W.2.1
  intro f
  induction f with
  | zero =>
    intro p s i c hf fv o1 o2 o3 hfu hp hs hi I
    have h01 : hf = 0 ∨ hf = 1 := by rcases I with z | z; exact Or.inl z.1; exact Or.inr z.1
    have M := (C.fw hf fv).2.2.2.1
    have M1 := M.1.1.1
    have e1 := nI_nle' (a := 240) (b := i) (by omega) (by omega)
    have q1 : ¬ 240 ≤ i := by omega
    have eA : Run kX2_readLaw 16 [some (vR (some 135)), some (vI 1), some (vI (nI i))] [] (CS h s c p (-1)) = oB (FX2_readClause [vR (some 135)] (CS h s c p (-1))) (fun r9 h10 => if hK h10 135 = 2 then dR (hR h10 135 0) (fun a11 => bif Nat.beq (hK h10 a11) 9 && true then oB (FX9_accept [vR (some a11), vI (59)] h10) (fun r12 h13 => Run kX2_readLaw 16 [some (vR (some 135)), some (vI (r12.1)), some (vI (nI (i + 1)))] [] h13) else none) else none) := by
      rw [tX2_readLaw_16]
      simp only [oB_some, dR_some, cond_true, cond_false, if_true, if_false, Bool.true_and, Bool.and_true, Nat.beq_refl, CS_K, W1, show (240 : Int32) = nI 240 from rfl, e1, q1, show ¬ ((1 : Int32) = 0) by decide, nI_1]
    rw [eA]
    rcases j_clause (fv := fv) C S10 hl h01 s c p hp hs with ⟨s1, c1, p1, hf1, fv1, ⟨b1, b2, _⟩, _⟩ | ⟨w, s1, c1, p1, p2, x, hw, i1, i2, i3, fA, fB⟩
    · omega
    · rw [fA, fB]
      have hk' := (sk_le (t := hI h 2) (n := n) p1).2 i2
      refine ⟨w, s1, c1, sk (hI h 2) n p1, ?_, i1, x, p2, hf, fv, ?_, fun z => absurd z hw⟩
      · simp only [oB_some, dR_some, cond_true, cond_false, if_true, if_false, Bool.true_and, Bool.and_true, Nat.beq_refl, CS_K, CS_R, W1, W2, T1, cs_accept H (show p1 ≤ 240 by omega), hw]
        rw [law_end H W i2 (by omega)]
        simp only [hw, if_false, ite_self]
      · simp only [oB_some, dR_some, cond_true, cond_false, if_true, if_false, Bool.true_and, Bool.and_true, Nat.beq_refl]
        rw [tX12_goThrough_32]
        simp only [oB_some, dR_some, cond_true, cond_false, if_true, if_false, Bool.true_and, Bool.and_true, Nat.beq_refl, MS_K, M1, MS_11, hw]
  | succ f ih =>
    intro p s i c hf fv o1 o2 o3 hfu hp hs hi I
    have h01 : hf = 0 ∨ hf = 1 := by rcases I with z | z; exact Or.inl z.1; exact Or.inr z.1
    have M := (C.fw hf fv).2.2.2.1
    have M1 := M.1.1.1
    have e1 := nI_nle' (a := 240) (b := i) (by omega) (by omega)
    have q1 : ¬ 240 ≤ i := by omega
    have eA : Run kX2_readLaw 16 [some (vR (some 135)), some (vI 1), some (vI (nI i))] [] (CS h s c p (-1)) = oB (FX2_readClause [vR (some 135)] (CS h s c p (-1))) (fun r9 h10 => if hK h10 135 = 2 then dR (hR h10 135 0) (fun a11 => bif Nat.beq (hK h10 a11) 9 && true then oB (FX9_accept [vR (some a11), vI (59)] h10) (fun r12 h13 => Run kX2_readLaw 16 [some (vR (some 135)), some (vI (r12.1)), some (vI (nI (i + 1)))] [] h13) else none) else none) := by
      rw [tX2_readLaw_16]
      simp only [oB_some, dR_some, cond_true, cond_false, if_true, if_false, Bool.true_and, Bool.and_true, Nat.beq_refl, CS_K, W1, show (240 : Int32) = nI 240 from rfl, e1, q1, show ¬ ((1 : Int32) = 0) by decide, nI_1]
    rw [eA]
    rcases j_clause (fv := fv) C S10 hl h01 s c p hp hs with ⟨s1, c1, p1, hf1, fv1, ⟨b1, b2, b3, b4, b5⟩, fA, fB, h01', hk1, hk0⟩ | ⟨w, s1, c1, p1, p2, x, hw, i1, i2, i3, fA, fB⟩
    · rw [fA, fB]
      have M' := (C.fw hf1 fv1).2.2.2.1
      have M1' := M'.1.1.1
      have I' : LI L s1 c1 hf1 fv1 := by
        rcases I with ⟨z1, z2, z3⟩ | ⟨z1, z3⟩
        · rcases hk0 z1 with ⟨y1, y2⟩ | ⟨y1, y2, y3⟩
          · exact Or.inr ⟨y1, fun c'' N hN hc => z3 c'' N fv1 (by omega) (fun q hq => by rw [hc q (by omega)]; exact b5 q hq) (y2 c'' N hN (fun q _ hq => hc q hq))⟩
          · exact Or.inl ⟨y1, y2.trans z2, fun c'' N y hN hc R => z3 c'' N y (by omega) (fun q hq => by rw [hc q (by omega)]; exact b5 q hq) (y3 c'' N y hN (fun q _ hq => hc q hq) R)⟩
        · obtain ⟨y1, y2⟩ := hk1 (by rw [z1]; decide)
          refine Or.inr ⟨y1.trans z1, fun c'' N hN hc => ?_⟩
          rw [y2]
          exact z3 c'' N (by omega) (fun q hq => by rw [hc q (by omega)]; exact b5 q hq)
      have hk := (sk_le (t := hI h 2) (n := n) p1).1
      have hk' := (sk_le (t := hI h 2) (n := n) p1).2 b2
      by_cases qa : chT (hI h 2) n (sk (hI h 2) n p1) = 59
      · have hq := ch_lt qa (by decide)
        have gA : oB (some (rV, CS h s1 c1 p1 (-1))) (fun r9 h10 => if hK h10 135 = 2 then dR (hR h10 135 0) (fun a11 => bif Nat.beq (hK h10 a11) 9 && true then oB (FX9_accept [vR (some a11), vI (59)] h10) (fun r12 h13 => Run kX2_readLaw 16 [some (vR (some 135)), some (vI (r12.1)), some (vI (nI (i + 1)))] [] h13) else none) else none) = Run kX2_readLaw 16 [some (vR (some 135)), some (vI 1), some (vI (nI (i + 1)))] [] (CS h s1 c1 (sk (hI h 2) n p1 + 1) (-1)) := by
          simp only [oB_some, dR_some, cond_true, cond_false, if_true, if_false, Bool.true_and, Bool.and_true, Nat.beq_refl, CS_K, CS_R, W1, W2, T1, cs_accept H (show p1 ≤ 240 by omega), qa]
        have gB : oB (some (rV, MS (fw hb hf1 fv1) (nI 0) p1 (-1))) (fun r7 h8 => Run kX12_goThrough 32 [some (vR (some 147)), o1, o2, o3] [] h8) = oB (FX12_clause [vR (some 147)] (MS (fw hb hf1 fv1) (nI 0) (sk (hI h 2) n p1 + 1) (-1))) (fun r4 h5 => Run kX12_goThrough 32 [some (vR (some 147)), none, none, none] [] h5) := by
          simp only [oB_some]
          rw [tX12_goThrough_32]
          simp only [oB_some, dR_some, cond_true, cond_false, if_true, if_false, Bool.true_and, Bool.and_true, Nat.beq_refl, hK_sI, MS_K, M1', MS_11, ms_look M' b2, qa, MS_10, nI_1, MS_p]
        rw [gA, gB]
        exact ih (sk (hI h 2) n p1 + 1) s1 (i + 1) c1 hf1 fv1 none none none (by omega) (by omega) (by omega) (by omega) I'
      · by_cases qb : chT (hI h 2) n (sk (hI h 2) n p1) = -1
        · refine ⟨-1, s1, c1, sk (hI h 2) n p1, ?_, by omega, nI 0, sk (hI h 2) n p1, hf1, fv1, ?_, fun _ => ⟨by omega, by omega, ?_⟩⟩
          · simp only [oB_some, dR_some, cond_true, cond_false, if_true, if_false, Bool.true_and, Bool.and_true, Nat.beq_refl, CS_K, CS_R, W1, W2, T1, cs_accept H (show p1 ≤ 240 by omega), qa]
            rw [law_end H W hk' (by omega)]
            simp only [sk_sk, qb, if_true]
          · simp only [oB_some]
            rw [tX12_goThrough_32]
            simp only [oB_some, dR_some, cond_true, cond_false, if_true, if_false, Bool.true_and, Bool.and_true, Nat.beq_refl, MS_K, M1', MS_11, ms_look M' b2, ms_look M' hk', sk_sk, qb, show ¬ ((-1 : Int32) = 59) by decide]
          · rcases I' with ⟨z1, z2, z3⟩ | ⟨z1, z3⟩
            · rw [z2]; exact z3 c1 s1 0 (Nat.le_refl _) (fun _ _ => rfl) (WO.fin c1 L s1)
            · exact z3 c1 s1 (Nat.le_refl _) (fun _ _ => rfl)
        · have nq : nI (sk (hI h 2) n p1) ≠ -1 := nI_nm1 (by omega)
          refine ⟨nI (sk (hI h 2) n p1), s1, c1, sk (hI h 2) n p1, ?_, by omega, nI 0, sk (hI h 2) n p1, hf1, fv1, ?_, fun z => absurd z nq⟩
          · simp only [oB_some, dR_some, cond_true, cond_false, if_true, if_false, Bool.true_and, Bool.and_true, Nat.beq_refl, CS_K, CS_R, W1, W2, T1, cs_accept H (show p1 ≤ 240 by omega), qa]
            rw [law_end H W hk' (by omega)]
            simp only [sk_sk, qb, if_true, if_false]
          · simp only [oB_some]
            rw [tX12_goThrough_32]
            simp only [oB_some, dR_some, cond_true, cond_false, if_true, if_false, Bool.true_and, Bool.and_true, Nat.beq_refl, MS_K, M1', MS_11, ms_look M' b2, ms_look M' hk', sk_sk, qa, qb, ms_fails M1']
    · rw [fA, fB]
      refine ⟨w, s1, c1, sk (hI h 2) n p1, ?_, i1, x, p2, hf, fv, ?_, fun z => absurd z hw⟩
      · simp only [oB_some, dR_some, cond_true, cond_false, if_true, if_false, Bool.true_and, Bool.and_true, Nat.beq_refl, CS_K, CS_R, W1, W2, T1, cs_accept H (show p1 ≤ 240 by omega), hw]
        rw [law_end H W i2 (by omega)]
        simp only [hw, if_false, ite_self]
      · simp only [oB_some]
        rw [tX12_goThrough_32]
        simp only [oB_some, dR_some, cond_true, cond_false, if_true, if_false, Bool.true_and, Bool.and_true, Nat.beq_refl, MS_K, M1, MS_11, hw]
/-- the reference's reading begins -/
def mB (h : Hp) (T B n : Nat) : Hp := sI (sI (sI (sR h 147 5 (some T)) 147 8 (nI B)) 147 9 (nI n)) 147 13 121
theorem mB_go (h : Hp) (T B n : Nat) : sI (sI (sI (sI (sI (sI (sI (sI (sR h 147 5 (some T)) 147 8 (nI B)) 147 9 (nI n)) 147 10 0) 147 11 (-1)) 147 13 121) 147 12 0) 147 17 0) 147 14 0 = MS (fw (mB h T B n) 0 0) (nI 0) 0 (-1) := by
  unfold MS mw fw mB
  rw [nI_0]
  simp only [sI_wA (sR h 147 5 (some T)), sI_ws]
  congr 1
  funext k
  simp only [up1]
  by_cases h8 : k = 8
  · subst h8; rfl
  by_cases h9 : k = 9
  · subst h9; rfl
  by_cases h10 : k = 10
  · subst h10; rfl
  by_cases h11 : k = 11
  · subst h11; rfl
  by_cases h12 : k = 12
  · subst h12; rfl
  by_cases h13 : k = 13
  · subst h13; rfl
  by_cases h14 : k = 14
  · subst h14; rfl
  by_cases h17 : k = 17
  · subst h17; rfl
  simp only [h8, h9, h10, h11, h12, h13, h14, h17, if_false]
/-- what the reference needs of its cells to read the text of T from B on -/
def RT (h : Hp) (T B n : Nat) : Prop := hK h 147 = 12 ∧ hK h T = 21 ∧ B + n ≤ hE h T ∧ hE h T ≤ 1000 ∧ T ≠ 147 ∧ (∀ i, i < n → isBy (hI h T (B + i))) ∧ (hR h 147 4 = some 151 ∧ hK h 151 = 20 ∧ hE h 151 = 128) ∧ StL h (PRE + 10) 1 (bT [121]) ∧ StL h (PRE + 11) 6 (bT [119, 116, 107, 110, 121, 109])
theorem law_both {h hm : Hp} {n T B : Nat} {L : Nat → Int32} (H : HT h n) (W : LwL h) (P : PL h) (R : RT hm T B n) (ht : ∀ i, i < n → hI hm T (B + i) &&& 255 = hI h 2 i) (hL : hI hm 151 119 = L 0 ∧ hI hm 151 116 = L 1 ∧ hI hm 151 107 = L 2 ∧ hI hm 151 110 = L 3 ∧ hI hm 151 121 = L 4 ∧ hI hm 151 109 = L 5) :
    LO h (mB hm T B n) L (FX2_readLaw [vR (some 135)] h) (FX12_goThrough [vR (some 147), vR (some T), vI (nI B), vI (nI n)] hm) := by
  obtain ⟨R1, R2, R3, R4, R5, R6, ⟨R7, R8, R9⟩, R10, R11⟩ := R
  have oI : ∀ a, a ≠ 147 → hI (mB hm T B n) a = hI hm a := by
    intro a ha
    unfold mB
    rw [hI_row _ _ _ _ ha, hI_row _ _ _ _ ha, hI_row _ _ _ _ ha]
    rfl
  have C : LC h (mB hm T B n) n T B L := by
    refine ⟨H, W, P, ⟨⟨⟨R1, ?_, R2, R3, R4, ?_, ?_, R5⟩, fun i hi => ?_⟩, fun i hi => ?_⟩, ⟨?_, R8, R9, ?_⟩, ?_⟩
    · unfold mB; simp only [hR_sI, hR_sR, if_true]
    · unfold mB; rw [hI_slot _ _ _ _ (by decide), hI_slot _ _ _ _ (by decide), hI_same]
    · unfold mB; rw [hI_slot _ _ _ _ (by decide), hI_same]
    · rw [oI T R5]; exact R6 i hi
    · unfold mt; rw [oI T R5]; exact ht i hi
    · unfold mB; simp only [hR_sI, hR_sR, if_true, show ¬ ((4 : Nat) = 5) by decide, if_false]; exact R7
    · rw [oI 151 (by decide)]; exact hL
    · unfold StL; rw [oI _ (show PRE + 11 + 100 ≠ 147 by decide)]; exact R11
  have S10 : StL (mB hm T B n) (PRE + 10) 1 (bT [121]) := by
    unfold StL; rw [oI _ (show PRE + 10 + 100 ≠ 147 by decide)]; exact R10
  have hl : hI (mB hm T B n) 147 13 = 121 := by unfold mB; rw [hI_same]
  have eA : FX2_readLaw [vR (some 135)] h = Run kX2_readLaw 16 [some (vR (some 135)), some (vI 1), some (vI (nI 0))] [] (CS h 0 (hI h 136) 0 (-1)) := by
    rw [tX2_readLaw]
    simp only [oB_some, dR_some, cond_true, cond_false, if_true, if_false, Bool.true_and, Bool.and_true, Nat.beq_refl, W.1, W.2.1, H.1.1, tp_rewind H.1, tw_K]
    rw [tw_sI _ _ _ _ _ (by decide), nI_0]
    unfold CS cw
    rw [nI_0]
    have := wA_self (sI h 135 2 0) 136
    rw [hI_row _ _ _ _ (by decide)] at this
    rw [this]
  have eB : FX12_goThrough [vR (some 147), vR (some T), vI (nI B), vI (nI n)] hm = oB (FX12_clause [vR (some 147)] (MS (fw (mB hm T B n) 0 0) (nI 0) 0 (-1))) (fun r7 h8 => Run kX12_goThrough 32 [some (vR (some 147)), some (vR (some T)), some (vI (nI B)), some (vI (nI n))] [] h8) := by
    rw [tX12_goThrough, tX12_starts]
    simp only [oB_some, dR_some, cond_true, cond_false, if_true, if_false, Bool.true_and, Bool.and_true, Nat.beq_refl, hK_sI, hK_sR, R1, isZ0, mB_go, MS_K]
  rw [eA, eB]
  exact law_loop C S10 hl n 0 0 0 (hI h 136) 0 0 _ _ _ (by omega) (by omega) (by omega) (by omega) (Or.inl ⟨rfl, rfl, fun _ _ _ _ _ R => R⟩)
