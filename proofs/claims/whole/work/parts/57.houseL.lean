/-! ===== PURE: a house, by both readers ===== -/
theorem HB.peek {h0 h hm0 : Hp} {n T B s p : Nat} {w : Int32} (Z : HB h0 hm0 n T B s) (C : HCl h0 h n s p w) (hp : p ≤ n) : FX9_peek [vR (some 1)] h = some (rI (chT (hI h0 2) n (sk (hI h0 2) n p)), tw h (sk (hI h0 2) n p) w) := by
  have hn := Z.1.2.2
  have := tp_peek (p := p) (w := w) (Z.HT' C) (by omega)
  rw [C.self', Z.row2' C] at this
  exact this
theorem HB.accept {h0 h hm0 : Hp} {n T B s p : Nat} {w x : Int32} (Z : HB h0 hm0 n T B s) (C : HCl h0 h n s p w) (hp : p ≤ n) : FX9_accept [vR (some 1), vI x] h = if w = -1 then (if chT (hI h0 2) n (sk (hI h0 2) n p) = x then some (rI 1, tw h (sk (hI h0 2) n p + 1) w) else some (rI 0, tw h (sk (hI h0 2) n p) w)) else some (rI 0, h) := by
  have hn := Z.1.2.2
  have := tp_accept (p := p) (w := w) (s := x) (Z.HT' C) (by omega)
  rw [C.self', Z.row2' C] at this
  exact this
theorem HB.fin {h0 h hm0 : Hp} {n T B s p : Nat} {w : Int32} (Z : HB h0 hm0 n T B s) (C : HCl h0 h n s p w) (hp : p ≤ n) : FX9_demandEnd [vR (some 1)] h = some (rV, tw h (sk (hI h0 2) n p) (enW (hI h0 2) n p w)) := by
  have hn := Z.1.2.2
  have := tp_demandEnd (p := p) (w := w) (Z.HT' C) (by omega)
  rw [C.self', Z.row2' C] at this
  exact this
theorem HB.look {h0 hm0 hm : Hp} {n T B s p : Nat} {w : Int32} (Z : HB h0 hm0 n T B s) (R : RCl hm0 hm w) (pm : hI hm 147 10 = nI p) (hp : p ≤ n) : FX12_look [vR (some 147)] hm = some (rI (chT (hI h0 2) n (sk (hI h0 2) n p)), mw hm (sk (hI h0 2) n p) w) := by
  have := tx_look (w := w) (Z.TX' R) hp
  rw [mw_self pm R.2.2] at this
  exact this
theorem isZ1' : isZ 1 = true := isZ1
theorem nI_nz {a : Nat} (h : 0 < a) (hb : a < 2 ^ 31) : ¬ nI a = 0 := by rw [← nI_0, nI_neq' hb (by omega)]; omega
theorem hs_clause {h0 h hm0 hm : Hp} {n T B s p ru dc bc : Nat} (Z : HB h0 hm0 n T B s) (V : HV h0 h hm0 hm n s p p ru dc bc) (hp : p ≤ n) :
    CO h0 hm0 n s (ru + dc + bc) (FX0_readClause [vR (some s), vR (some 1)] h) (FX12_readClause [vR (some 147)] hm) := by
  have V' := V
  obtain ⟨C, R, pm, ⟨F1, F2, F3, F4⟩, ⟨G1, G2, G3⟩, ⟨l1, l2, l3⟩, _⟩ := V
  have H := Z.HT' C
  have T1 := H.1.1
  have hn := H.2.2
  obtain ⟨L1, L2, L3, L4, _, _, _, b1, b2⟩ := Z.HL' C
  obtain ⟨M1, M2, M3, M4, _⟩ := Z.ML' R
  have hq := (sk_le (t := hI h0 2) (n := n) p).2 hp
  have nq : nI (sk (hI h0 2) n p) ≠ -1 := nI_nm1 (by omega)
  have x1 : ∀ q w, hI (tw h q w) s 1 = nI ru := fun q w => by rw [tw_row _ _ _ (by omega)]; exact F2
  have x5 : ∀ q w, hI (tw h q w) s 5 = nI dc := fun q w => by rw [tw_row _ _ _ (by omega)]; exact F3
  have x6 : ∀ q w, hI (tw h q w) s 6 = nI bc := fun q w => by rw [tw_row _ _ _ (by omega)]; exact F4
  have y1 : ∀ q w, hI (mw hm q w) 147 31 = nI ru := fun q w => by rw [mw_sl _ _ _ (by decide) (by decide)]; exact G3
  have y5 : ∀ q w, hI (mw hm q w) 147 28 = nI dc := fun q w => by rw [mw_sl _ _ _ (by decide) (by decide)]; exact G1
  have y6 : ∀ q w, hI (mw hm q w) 147 29 = nI bc := fun q w => by rw [mw_sl _ _ _ (by decide) (by decide)]; exact G2
  have d1 : ((6 : Int32) ≤ nI dc) = (6 ≤ dc) := nI_nle' (a := 6) (b := dc) (by omega) (by omega)
  have d2 : (nI dc < (6 : Int32)) = (dc < 6) := nI_nlt' (a := dc) (b := 6) (by omega) (by omega)
  have d3 : ((5 : Int32) ≤ nI bc) = (5 ≤ bc) := nI_nle' (a := 5) (b := bc) (by omega) (by omega)
  have bad : ∀ A D, A = some (rV, tw h (sk (hI h0 2) n p) (nI (sk (hI h0 2) n p))) → D = some (rV, mw hm (sk (hI h0 2) n p) (nI (sk (hI h0 2) n p))) → CO h0 hm0 n s (ru + dc + bc) A D :=
    fun A D a d => Or.inr (Or.inr ⟨_, _, sk (hI h0 2) n p, nI (sk (hI h0 2) n p), nq, hq, a, d, C.tw' _ _, R.mw' _ _⟩)
  rw [tX0_readClause, tX12_readClause]
  by_cases qs : chT (hI h0 2) n (sk (hI h0 2) n p) = 115
  · have hlt := ch_lt qs (by decide)
    by_cases r0 : ru = 0
    · subst r0
      have := co_s (q := sk (hI h0 2) n p) Z V' hlt
      simp only [oB_some, dR_some, cond_true, cond_false, if_true, if_false, Bool.true_and, Bool.and_true, Nat.beq_refl, hK_sI, hR_sI, tw_K, tw_R, mw_K, mw_R, T1, L1, L2, M1, M2, Z.peek C hp, Z.look R pm hp, qs, x1, y1, nI_0, tp_skip H.1, isZ1, tX12_readClause_52, show ¬ (1 : Int32) = 0 by decide, mw_at, nI_1, mw_pat]
      exact this
    · have r1 : ¬ nI ru = 0 := nI_nz (by omega) (by omega)
      refine bad _ _ ?_ ?_
      · simp only [oB_some, dR_some, cond_true, cond_false, if_true, if_false, Bool.true_and, Bool.and_true, Nat.beq_refl, tw_K, T1, L1, Z.peek C hp, qs, x1, r1, show ¬ (115 : Int32) = 100 by decide, show ¬ (115 : Int32) = 98 by decide, tp_refuse H.1]
      · simp only [oB_some, dR_some, cond_true, cond_false, if_true, if_false, Bool.true_and, Bool.and_true, Nat.beq_refl, mw_K, M1, Z.look R pm hp, qs, y1, r1, show ¬ (115 : Int32) = 100 by decide, show ¬ (115 : Int32) = 98 by decide, tX12_readClause_52, md_fails M1]
  by_cases qd : chT (hI h0 2) n (sk (hI h0 2) n p) = 100
  · have hlt := ch_lt qd (by decide)
    by_cases r0 : dc < 6
    · have := co_d (q := sk (hI h0 2) n p) Z V' hlt r0
      have e3 : (3 : Int32) * nI dc = nI (3 * dc) := pk_mul 3 dc
      simp only [oB_some, dR_some, cond_true, cond_false, if_true, if_false, Bool.true_and, Bool.and_true, Nat.beq_refl, hK_sI, hR_sI, tw_K, tw_R, mw_K, mw_R, T1, L1, L3, M1, M3, Z.peek C hp, Z.look R pm hp, qd, x5, y5, d1, d2, r0, show ¬ 6 ≤ dc by omega, show ¬ (100 : Int32) = 115 by decide, tp_skip H.1, tX12_readClause_52, show ¬ (1 : Int32) = 0 by decide, mw_at, nI_1, mw_pat, hI_same, nI_p1, e3]
      exact this
    · refine bad _ _ ?_ ?_
      · simp only [oB_some, dR_some, cond_true, cond_false, if_true, if_false, Bool.true_and, Bool.and_true, Nat.beq_refl, tw_K, T1, L1, Z.peek C hp, qd, x5, d1, show 6 ≤ dc by omega, show ¬ (100 : Int32) = 115 by decide, show ¬ (100 : Int32) = 98 by decide, tp_refuse H.1]
      · simp only [oB_some, dR_some, cond_true, cond_false, if_true, if_false, Bool.true_and, Bool.and_true, Nat.beq_refl, mw_K, M1, Z.look R pm hp, qd, y5, d2, r0, show ¬ (100 : Int32) = 115 by decide, show ¬ (100 : Int32) = 98 by decide, tX12_readClause_52, md_fails M1]
  by_cases qb : chT (hI h0 2) n (sk (hI h0 2) n p) = 98
  · have hlt := ch_lt qb (by decide)
    by_cases r0 : bc < 5
    · have := co_b (q := sk (hI h0 2) n p) Z V' hlt r0
      have e3 : (3 : Int32) * nI bc = nI (3 * bc) := pk_mul 3 bc
      simp only [oB_some, dR_some, cond_true, cond_false, if_true, if_false, Bool.true_and, Bool.and_true, Nat.beq_refl, hK_sI, hR_sI, tw_K, tw_R, mw_K, mw_R, T1, L1, L4, M1, M4, Z.peek C hp, Z.look R pm hp, qb, x6, y6, d3, show ¬ 5 ≤ bc by omega, show ¬ (98 : Int32) = 115 by decide, show ¬ (98 : Int32) = 100 by decide, tp_skip H.1, tX12_readClause_52, show ¬ (1 : Int32) = 0 by decide, mw_at, nI_1, mw_pat, hI_same, nI_p1, e3]
      exact this
    · refine bad _ _ ?_ ?_
      · simp only [oB_some, dR_some, cond_true, cond_false, if_true, if_false, Bool.true_and, Bool.and_true, Nat.beq_refl, tw_K, T1, L1, Z.peek C hp, qb, x6, d3, show 5 ≤ bc by omega, show ¬ (98 : Int32) = 115 by decide, show ¬ (98 : Int32) = 100 by decide, tp_refuse H.1]
      · simp only [oB_some, dR_some, cond_true, cond_false, if_true, if_false, Bool.true_and, Bool.and_true, Nat.beq_refl, mw_K, M1, Z.look R pm hp, qb, y6, d3, show 5 ≤ bc by omega, show ¬ (98 : Int32) = 115 by decide, show ¬ (98 : Int32) = 100 by decide, tX12_readClause_52, md_fails M1]
  refine bad _ _ ?_ ?_
  · simp only [oB_some, dR_some, cond_true, cond_false, if_true, if_false, Bool.true_and, Bool.and_true, Nat.beq_refl, tw_K, T1, Z.peek C hp, qs, qd, qb, tp_refuse H.1]
  · simp only [oB_some, dR_some, cond_true, cond_false, if_true, if_false, Bool.true_and, Bool.and_true, Nat.beq_refl, mw_K, M1, Z.look R pm hp, qs, qd, qb, tX12_readClause_52, md_fails M1]
/-- the fault behind all clauses -/
def feW (h : Hp) (s q : Nat) (w : Int32) : Int32 := if hI h s 6 = 0 then (if w = -1 then nI q else w) else if hI h (s + 1) 0 ≤ hI h (s + 1) 1 then w else (if w = -1 then nI q else w)
theorem feW_w {h : Hp} {s q : Nat} {w : Int32} (hw : w ≠ -1) : feW h s q w = w := by unfold feW; rw [if_neg hw, ite_self, ite_self]
theorem hs_end {h0 h hm0 : Hp} {n T B s p : Nat} {w x : Int32} (Z : HB h0 hm0 n T B s) (C : HCl h0 h n s p w) (hp : p ≤ n) : Run kX0_readFrom 39 [some (vR (some s)), some (vR (some 1)), some (vI 0), some (vI x)] [] h = some (rI (feW h s (sk (hI h0 2) n p) (enW (hI h0 2) n p w)), tw h (sk (hI h0 2) n p) (feW h s (sk (hI h0 2) n p) (enW (hI h0 2) n p w))) := by
  have H := Z.HT' C
  have T1 := H.1.1
  have hn := H.2.2
  obtain ⟨L1, L2, L3, L4, ⟨L5, L6⟩, _, _, b1, b2⟩ := Z.HL' C
  have x6 : ∀ q w, hI (tw h q w) s 6 = hI h s 6 := fun q w => by rw [tw_row _ _ _ (by omega)]
  have xr : ∀ q w, hI (tw h q w) (s + 1) = hI h (s + 1) := fun q w => tw_row _ _ _ (by omega)
  have i0 : inb 0 7 = true := by decide
  have i1 : inb 1 7 = true := by decide
  have c0 : Int32.toNatClampNeg 0 = 0 := by decide
  have c1 : Int32.toNatClampNeg 1 = 1 := by decide
  have fn := Z.fin C hp
  rw [tX0_readFrom_39]
  unfold feW
  by_cases c : (12 : Int32) < x
  · rw [if_pos c]
    by_cases z6 : hI h s 6 = 0
    · simp only [oB_some, dR_some, cond_true, cond_false, if_true, if_false, Bool.true_and, Bool.and_true, Nat.beq_refl, T1, L1, tw_K, fn, x6, z6, tp_refuse H.1, tw_wr]
    · by_cases zr : hI h (s + 1) 0 ≤ hI h (s + 1) 1
      · simp only [oB_some, dR_some, cond_true, cond_false, if_true, if_false, Bool.true_and, Bool.and_true, Nat.beq_refl, T1, L1, L2, L5, L6, iaK20, i0, i1, c0, c1, tw_K, tw_E, tw_R, fn, x6, xr, z6, zr, tw_wr]
      · simp only [oB_some, dR_some, cond_true, cond_false, if_true, if_false, Bool.true_and, Bool.and_true, Nat.beq_refl, T1, L1, L2, L5, L6, iaK20, i0, i1, c0, c1, tw_K, tw_E, tw_R, fn, x6, xr, z6, zr, tp_refuse H.1, tw_wr]
  · rw [if_neg c, if_pos rfl]
    by_cases z6 : hI h s 6 = 0
    · simp only [oB_some, dR_some, cond_true, cond_false, if_true, if_false, Bool.true_and, Bool.and_true, Nat.beq_refl, T1, L1, tw_K, fn, x6, z6, tp_refuse H.1, tw_wr]
    · by_cases zr : hI h (s + 1) 0 ≤ hI h (s + 1) 1
      · simp only [oB_some, dR_some, cond_true, cond_false, if_true, if_false, Bool.true_and, Bool.and_true, Nat.beq_refl, T1, L1, L2, L5, L6, iaK20, i0, i1, c0, c1, tw_K, tw_E, tw_R, fn, x6, xr, z6, zr, tw_wr]
      · simp only [oB_some, dR_some, cond_true, cond_false, if_true, if_false, Bool.true_and, Bool.and_true, Nat.beq_refl, T1, L1, L2, L5, L6, iaK20, i0, i1, c0, c1, tw_K, tw_E, tw_R, fn, x6, xr, z6, zr, tp_refuse H.1, tw_wr]
theorem hm_bad {h0 hm0 hm : Hp} {n T B s : Nat} {w : Int32} (Z : HB h0 hm0 n T B s) (R : RCl hm0 hm w) (hw : w ≠ -1) : Run kX12_readHouse 56 [some (vR (some 147)), some (vI 0)] [] hm = some (rV, hm) := by
  have M1 := (Z.ML' R).1
  rw [tX12_readHouse_56]
  simp only [oB_some, dR_some, cond_true, cond_false, if_true, if_false, Bool.true_and, Bool.and_true, Nat.beq_refl, M1, R.2.2, hw]
def FO (h0 hm0 : Hp) (n s : Nat) (A D : Option (RV × Hp)) : Prop :=
  (∃ h' hm' p' ru dc bc, A = some (rI (-1), h') ∧ D = some (rV, hm') ∧ HCl h0 h' n s p' (-1) ∧ RCl hm0 hm' (-1) ∧ HF h' hm' s ru dc bc ∧ 0 < bc ∧ hI h' (s + 1) 0 ≤ hI h' (s + 1) 1) ∨
  (∃ h' hm' p' w, w ≠ -1 ∧ A = some (rI w, h') ∧ D = some (rV, hm') ∧ HCl h0 h' n s p' w ∧ RCl hm0 hm' w)
theorem HF.mv {h hm : Hp} {s ru dc bc : Nat} (F : HF h hm s ru dc bc) (hs : 2 < s) (p q : Nat) (w v : Int32) : HF (tw h p w) (mw hm q v) s ru dc bc := by
  obtain ⟨⟨F1, F2, F3, F4⟩, ⟨G1, G2, G3⟩, l, ⟨E1, E2, E3⟩, ⟨Q1, Q2, Q3⟩⟩ := F
  refine ⟨⟨?_, ?_, ?_, ?_⟩, ⟨?_, ?_, ?_⟩, l, ⟨?_, ?_, ?_⟩, ?_, ?_, ?_⟩
  all_goals simp (disch := omega) only [tw_row, mw_row, mw_sl]
  all_goals assumption
theorem hs_fin {h0 h hm0 hm : Hp} {n T B s p pm ru dc bc : Nat} {x : Int32} (Z : HB h0 hm0 n T B s) (V : HV h0 h hm0 hm n s p pm ru dc bc) (hp : p ≤ n) (hpm : pm ≤ n) (e : sk (hI h0 2) n pm = sk (hI h0 2) n p) :
    FO h0 hm0 n s (Run kX0_readFrom 39 [some (vR (some s)), some (vR (some 1)), some (vI 0), some (vI x)] [] h) (Run kX12_readHouse 56 [some (vR (some 147)), some (vI 0)] [] hm) := by
  obtain ⟨C, R, pm', F⟩ := V
  have F' := F
  obtain ⟨⟨F1, F2, F3, F4⟩, ⟨G1, G2, G3⟩, ⟨l1, l2, l3⟩, ⟨E1, _⟩, _⟩ := F'
  have hn := Z.1.2.2
  obtain ⟨M1, M2, M3, M4, ⟨M5, M6⟩, _⟩ := Z.ML' R
  have b1 := Z.2.1.2.2.2.2.2.2.2.1
  have hq := (sk_le (t := hI h0 2) (n := n) p).2 hp
  have nq : nI (sk (hI h0 2) n p) ≠ -1 := nI_nm1 (by omega)
  have y6 : ∀ q w, hI (mw hm q w) 147 29 = nI bc := fun q w => by rw [mw_sl _ _ _ (by decide) (by decide)]; exact G2
  have yr : ∀ q w, hI (mw hm q w) 153 = hI hm 153 := fun q w => mw_row _ _ _ (by decide)
  have i0 : inb 0 7 = true := by decide
  have i1 : inb 1 7 = true := by decide
  have c0 : Int32.toNatClampNeg 0 = 0 := by decide
  have c1 : Int32.toNatClampNeg 1 = 1 := by decide
  have r0 := E1 0 (by omega)
  have r1 := E1 1 (by omega)
  have lk := Z.look R pm' hpm
  rw [e] at lk
  rw [hs_end Z C hp]
  have bad : ∀ A D, A = some (rI (nI (sk (hI h0 2) n p)), tw h (sk (hI h0 2) n p) (nI (sk (hI h0 2) n p))) → D = some (rV, mw hm (sk (hI h0 2) n p) (nI (sk (hI h0 2) n p))) → FO h0 hm0 n s A D :=
    fun A D a d => Or.inr ⟨_, _, sk (hI h0 2) n p, nI (sk (hI h0 2) n p), nq, a, d, C.tw' _ _, R.mw' _ _⟩
  by_cases c : chT (hI h0 2) n (sk (hI h0 2) n p) = -1
  · have w1 : enW (hI h0 2) n p (-1) = -1 := by unfold enW; rw [if_pos c]
    by_cases z6 : bc = 0
    · subst z6
      have : feW h s (sk (hI h0 2) n p) (-1) = nI (sk (hI h0 2) n p) := by unfold feW; rw [F4, if_pos rfl, if_pos nI_0]
      refine bad _ _ (by rw [w1, this]) ?_
      rw [tX12_readHouse_56]
      simp only [oB_some, dR_some, cond_true, cond_false, if_true, if_false, Bool.true_and, Bool.and_true, Nat.beq_refl, M1, mw_K, R.2.2, lk, c, y6, nI_0, md_fails M1]
    · have n6 : ¬ nI bc = 0 := nI_nz (by omega) (by omega)
      by_cases zr : hI h (s + 1) 0 ≤ hI h (s + 1) 1
      · have : feW h s (sk (hI h0 2) n p) (-1) = -1 := by unfold feW; rw [F4, if_neg n6, if_pos zr]
        refine Or.inl ⟨_, mw hm (sk (hI h0 2) n p) (-1), sk (hI h0 2) n p, ru, dc, bc, by rw [w1, this], ?_, C.tw' _ _, R.mw' _ _, F.mv b1 _ _ _ _, by omega, ?_⟩
        · rw [r0, r1] at zr
          rw [tX12_readHouse_56]
          simp only [oB_some, dR_some, cond_true, cond_false, if_true, if_false, Bool.true_and, Bool.and_true, Nat.beq_refl, M1, M2, M5, M6, mw_K, mw_R, mw_E, iaK20, i0, i1, c0, c1, R.2.2, lk, c, y6, yr, n6, zr]
        · rw [tw_row _ _ _ (by omega)]; exact zr
      · have : feW h s (sk (hI h0 2) n p) (-1) = nI (sk (hI h0 2) n p) := by unfold feW; rw [F4, if_neg n6, if_neg zr, if_pos rfl]
        refine bad _ _ (by rw [w1, this]) ?_
        rw [r0, r1] at zr
        rw [tX12_readHouse_56]
        simp only [oB_some, dR_some, cond_true, cond_false, if_true, if_false, Bool.true_and, Bool.and_true, Nat.beq_refl, M1, M2, M5, M6, mw_K, mw_R, mw_E, iaK20, i0, i1, c0, c1, R.2.2, lk, c, y6, yr, n6, zr, md_fails M1]
  · have w1 : enW (hI h0 2) n p (-1) = nI (sk (hI h0 2) n p) := by unfold enW; rw [if_neg c, if_pos rfl]
    refine bad _ _ (by rw [w1, feW_w nq]) ?_
    rw [tX12_readHouse_56]
    simp only [oB_some, dR_some, cond_true, cond_false, if_true, if_false, Bool.true_and, Bool.and_true, Nat.beq_refl, M1, mw_K, R.2.2, lk, c, md_fails M1]
theorem hs_loop {h0 hm0 : Hp} {n T B s : Nat} (Z : HB h0 hm0 n T B s) : ∀ k i h hm p ru dc bc, i + k = 12 → i = ru + dc + bc → p ≤ n → HV h0 h hm0 hm n s p p ru dc bc →
    FO h0 hm0 n s (Run kX0_readFrom 39 [some (vR (some s)), some (vR (some 1)), some (vI 1), some (vI (nI i))] [] h) (Run kX12_readHouse 56 [some (vR (some 147)), some (vI 1)] [] hm) := by
  have hn := Z.1.2.2
  have b1 := Z.2.1.2.2.2.2.2.2.2.1
  intro k
  induction k with
  | zero =>
    intro i h hm p ru dc bc hk hi hp V
    have C := V.1
    have R := V.2.1
    have L1 := (Z.HL' C).1
    have M1 := (Z.ML' R).1
    have k0 : ¬ (12 : Int32) < nI i := by rw [show (12 : Int32) = nI 12 from rfl, nI_nlt' (by omega) (by omega)]; omega
    rw [tX0_readFrom_39, if_neg k0, if_neg (show ¬ (1 : Int32) = 0 by decide), tX12_readHouse_56, if_neg (show ¬ (1 : Int32) = 0 by decide)]
    rcases hs_clause Z V hp with ⟨h', hm', p', ru', dc', bc', k1, A, D, V', k2⟩ | ⟨h', hm', p', k1, A, D, C', R', k2, k3⟩ | ⟨h', hm', p', w, k1, k2, A, D, C', R'⟩
    · have := V'.2.2.2.2.2.1
      omega
    · have nq : nI (sk (hI h0 2) n p') ≠ -1 := nI_nm1 (by have := (sk_le (t := hI h0 2) (n := n) p').2 k1; omega)
      have T1' := (Z.HT' C').1.1
      have M1' := (Z.ML' R').1
      have hq := (sk_le (t := hI h0 2) (n := n) p').2 k1
      have w1 : enW (hI h0 2) n (sk (hI h0 2) n p') (-1) = nI (sk (hI h0 2) n p') := by unfold enW; rw [sk_sk, if_neg k3, if_pos rfl]
      refine Or.inr ⟨tw (tw h' (sk (hI h0 2) n p') (-1)) (sk (hI h0 2) n p') (nI (sk (hI h0 2) n p')), hm', sk (hI h0 2) n p', nI (sk (hI h0 2) n p'), nq, ?_, ?_, (C'.tw' _ _).tw' _ _, R'⟩
      · simp only [oB_some, dR_some, cond_true, cond_false, if_true, if_false, Bool.true_and, Bool.and_true, Nat.beq_refl, L1, A, T1', Z.accept C' k1, k2, hs_end Z (C'.tw' (sk (hI h0 2) n p') (-1)) hq, w1, feW_w nq, sk_sk]
      · simp only [oB_some, dR_some, cond_true, cond_false, if_true, if_false, Bool.true_and, Bool.and_true, Nat.beq_refl, M1, R.2.2, D, M1', R'.2.2, nq, hm_bad Z R' nq]
    · have T1' := (Z.HT' C').1.1
      have M1' := (Z.ML' R').1
      refine Or.inr ⟨tw h' (sk (hI h0 2) n p') w, hm', sk (hI h0 2) n p', w, k1, ?_, ?_, C'.tw' _ _, R'⟩
      · simp only [oB_some, dR_some, cond_true, cond_false, if_true, if_false, Bool.true_and, Bool.and_true, Nat.beq_refl, L1, A, T1', Z.accept C' k2, k1, hs_end Z C' k2, enW_w k1, feW_w k1]
      · simp only [oB_some, dR_some, cond_true, cond_false, if_true, if_false, Bool.true_and, Bool.and_true, Nat.beq_refl, M1, R.2.2, D, M1', R'.2.2, k1, hm_bad Z R' k1]
  | succ k ih =>
    intro i h hm p ru dc bc hk hi hp V
    have C := V.1
    have R := V.2.1
    have L1 := (Z.HL' C).1
    have M1 := (Z.ML' R).1
    have k0 : ¬ (12 : Int32) < nI i := by rw [show (12 : Int32) = nI 12 from rfl, nI_nlt' (by omega) (by omega)]; omega
    rw [tX0_readFrom_39, if_neg k0, if_neg (show ¬ (1 : Int32) = 0 by decide), tX12_readHouse_56, if_neg (show ¬ (1 : Int32) = 0 by decide)]
    rcases hs_clause Z V hp with ⟨h', hm', p', ru', dc', bc', k1, A, D, V', k2⟩ | ⟨h', hm', p', k1, A, D, C', R', k2, k3⟩ | ⟨h', hm', p', w, k1, k2, A, D, C', R'⟩
    · have C' := V'.1
      have R' := V'.2.1
      have T1' := (Z.HT' C').1.1
      have M1' := (Z.ML' R').1
      have hq := (sk_le (t := hI h0 2) (n := n) p').2 k1
      have lk := Z.look R' V'.2.2.1 hq
      rw [sk_sk] at lk
      by_cases c : chT (hI h0 2) n (sk (hI h0 2) n p') = 59
      · have hlt := ch_lt c (by decide)
        have := ih (i + 1) (tw h' (sk (hI h0 2) n p' + 1) (-1)) (mw hm' (sk (hI h0 2) n p' + 1) (-1)) (sk (hI h0 2) n p' + 1) ru' dc' bc' (by omega) (by omega) (by omega) ⟨C'.tw' _ _, R'.mw' _ _, mw_at _ _ _, V'.2.2.2.mv b1 _ _ _ _⟩
        simp only [oB_some, dR_some, cond_true, cond_false, if_true, if_false, Bool.true_and, Bool.and_true, Nat.beq_refl, L1, A, T1', Z.accept C' k1, c, nI_1, M1, R.2.2, D, M1', R'.2.2, lk, show ¬ (1 : Int32) = 0 by decide, mw_K, mw_at, mw_pat]
        exact this
      · have := hs_fin (x := nI (i + 1)) Z (h := tw h' (sk (hI h0 2) n p') (-1)) (hm := mw hm' (sk (hI h0 2) n p') (-1)) ⟨C'.tw' _ _, R'.mw' _ _, mw_at _ _ _, V'.2.2.2.mv b1 _ _ _ _⟩ hq hq rfl
        simp only [oB_some, dR_some, cond_true, cond_false, if_true, if_false, Bool.true_and, Bool.and_true, Nat.beq_refl, L1, A, T1', Z.accept C' k1, c, nI_1, M1, R.2.2, D, M1', R'.2.2, lk, mw_K]
        exact this
    · have nq : nI (sk (hI h0 2) n p') ≠ -1 := nI_nm1 (by have := (sk_le (t := hI h0 2) (n := n) p').2 k1; omega)
      have T1' := (Z.HT' C').1.1
      have M1' := (Z.ML' R').1
      have hq := (sk_le (t := hI h0 2) (n := n) p').2 k1
      have w1 : enW (hI h0 2) n (sk (hI h0 2) n p') (-1) = nI (sk (hI h0 2) n p') := by unfold enW; rw [sk_sk, if_neg k3, if_pos rfl]
      refine Or.inr ⟨tw (tw h' (sk (hI h0 2) n p') (-1)) (sk (hI h0 2) n p') (nI (sk (hI h0 2) n p')), hm', sk (hI h0 2) n p', nI (sk (hI h0 2) n p'), nq, ?_, ?_, (C'.tw' _ _).tw' _ _, R'⟩
      · simp only [oB_some, dR_some, cond_true, cond_false, if_true, if_false, Bool.true_and, Bool.and_true, Nat.beq_refl, L1, A, T1', Z.accept C' k1, k2, hs_end Z (C'.tw' (sk (hI h0 2) n p') (-1)) hq, w1, feW_w nq, sk_sk]
      · simp only [oB_some, dR_some, cond_true, cond_false, if_true, if_false, Bool.true_and, Bool.and_true, Nat.beq_refl, M1, R.2.2, D, M1', R'.2.2, nq, hm_bad Z R' nq]
    · have T1' := (Z.HT' C').1.1
      have M1' := (Z.ML' R').1
      refine Or.inr ⟨tw h' (sk (hI h0 2) n p') w, hm', sk (hI h0 2) n p', w, k1, ?_, ?_, C'.tw' _ _, R'⟩
      · simp only [oB_some, dR_some, cond_true, cond_false, if_true, if_false, Bool.true_and, Bool.and_true, Nat.beq_refl, L1, A, T1', Z.accept C' k2, k1, hs_end Z C' k2, enW_w k1, feW_w k1]
      · simp only [oB_some, dR_some, cond_true, cond_false, if_true, if_false, Bool.true_and, Bool.and_true, Nat.beq_refl, M1, R.2.2, D, M1', R'.2.2, k1, hm_bad Z R' k1]
