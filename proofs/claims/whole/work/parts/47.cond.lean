/-! ===== PURE: truths and conditions, by both readers (written by program) ===== -/
theorem j_truth_loop {h hm : Hp} {n T B : Nat} {L : Nat → Int32} (C : LC h hm n T B L) {d i i' m m' : Nat} (hd : d ≤ 6) (hm1 : m' + 1 ≤ m) (hm2 : 2 ≤ m)
    (AJ : ∀ (s : Nat) (c : Nat → Int32) (p : Nat), p ≤ n → s ≤ p → JO h hm n L p s c m' d True (gRd i 2 [vR (some 135), vI (nI d), vI 0] (CS h s c p (-1))) (gMd i' 4 [vR (some 147)] (MS hm (nI d) p (-1))))
    (p0 s0 : Nat) (c0 : Nat → Int32) : ∀ (f p s : Nat) (c : Nat → Int32) (v : Int32) (j : Nat) (oc o1 o2 o4 : Option EV), n - p ≤ f → JR n L p0 s0 c0 m p s c v → (v = 0 ∨ v = 1) → s ≤ p → 2 * j ≤ p →
      JO h hm n L p0 s0 c0 m d True (Run (kX2_readTruth (gRd i)) 8 [some (vR (some 135)), some (vI (nI d)), oc, some (vI (nI j))] [] (CS h s c p (-1))) (Run (kX12_part (gMd i')) 18 [some (vR (some 147)), o1, o2, some (vI v), o4] [] (MS hm (nI d) p (-1))) := by
  obtain ⟨H, W, P, M, _, _⟩ := id C
  have hn := H.2.2
  have T1 := H.1.1
  have W1 := W.1
  have W2 := W.2.1
  have M1 := M.1.1.1
  have zz : ∀ v : Int32, (v = 0 ∨ v = 1) → isZ v = true := by
    intro v z
    rcases z with z | z <;> subst z <;> decide
  intro f
  induction f with
  | zero =>
    intro p s c v j oc o1 o2 o4 hf J hv hs hj
    have hpn := J.2.1
    have hk : sk (hI h 2) n p = p := sk_stay (fun z => by omega)
    have hc : chT (hI h 2) n p = -1 := if_neg (by omega)
    have e1 := nI_nle' (a := 240) (b := j) (by omega) (by omega)
    have q1 : ¬ 240 ≤ j := by omega
    refine Or.inl ⟨s, c, p, v, J, fun _ => hv, ?_, ?_⟩
    · rw [tX2_readTruth_8 (gRd_G i)]
      simp only [oB_some, dR_some, cond_true, cond_false, if_true, if_false, Bool.true_and, Bool.and_true, Nat.beq_refl, CS_K, CS_R, W1, W2, T1, show (240 : Int32) = nI 240 from rfl, e1, q1, cs_accept H (show p ≤ 240 by omega), hk, hc, show ¬ ((-1 : Int32) = 38) by decide]
    · rw [tX12_part_18 (gMd_G i')]
      simp only [oB_some, dR_some, cond_true, cond_false, if_true, if_false, Bool.true_and, Bool.and_true, Nat.beq_refl, MS_K, M1, MS_11, ms_look M hpn, hk, hc, show ¬ ((-1 : Int32) = 38) by decide, zz v hv]
  | succ f ih =>
    intro p s c v j oc o1 o2 o4 hf J hv hs hj
    have hpn := J.2.1
    have hk0 := (sk_le (t := hI h 2) (n := n) p).1
    have hk := (sk_le (t := hI h 2) (n := n) p).2 hpn
    have hp240 : p ≤ 240 := by omega
    have e1 := nI_nle' (a := 240) (b := j) (by omega) (by omega)
    have q1 : ¬ 240 ≤ j := by omega
    by_cases qa : chT (hI h 2) n (sk (hI h 2) n p) = 38
    · have hq := ch_lt qa (by decide)
      have eA : Run (kX2_readTruth (gRd i)) 8 [some (vR (some 135)), some (vI (nI d)), oc, some (vI (nI j))] [] (CS h s c p (-1)) = oB (gRd i 2 [vR (some 135), vI (nI d), vI 0] (CS h s c (sk (hI h 2) n p + 1) (-1))) (fun r13 h14 => bif Nat.beq (hK h14 135) 2 && true then oB (FX2_emit [vR (some 135), vI (-17)] h14) (fun r17 h18 => Run (kX2_readTruth (gRd i)) 8 [some (vR (some 135)), some (vI (nI d)), none, some (vI (nI (j + 1)))] [] h18) else none) := by
        rw [tX2_readTruth_8 (gRd_G i)]
        simp only [oB_some, dR_some, cond_true, cond_false, if_true, if_false, Bool.true_and, Bool.and_true, Nat.beq_refl, CS_K, CS_R, W1, W2, T1, show (240 : Int32) = nI 240 from rfl, e1, q1, cs_accept H hp240, qa, show ¬ ((1 : Int32) = 0) by decide, nI_1]
      rw [eA]
      rcases AJ s c (sk (hI h 2) n p + 1) (by omega) (by omega) with ⟨s1, c1, p1, w, J1, hb, fA, fB⟩ | ⟨w, s1, c1, p1, p2, x, y, hw, j1, j2, j3, hb, fA, fB⟩
      · have g1 := J1.1
        have g2 := J1.2.1
        have g4 := J1.2.2.2.1
        have hs1 : s1 < 240 := by omega
        have hb' := hb trivial
        have eB : Run (kX12_part (gMd i')) 18 [some (vR (some 147)), o1, o2, some (vI v), o4] [] (MS hm (nI d) p (-1)) = Run (kX12_part (gMd i')) 18 [some (vR (some 147)), none, none, some (vI (if v = 0 then 0 else if w = 0 then 0 else 1)), some (vI w)] [] (MS hm (nI d) p1 (-1)) := by
          rw [tX12_part_18 (gMd_G i')]
          by_cases z1 : v = 0 <;> by_cases z2 : w = 0 <;> simp only [oB_some, dR_some, cond_true, cond_false, if_true, if_false, Bool.true_and, Bool.and_true, Nat.beq_refl, MS_K, hK_sI, M1, MS_11, ms_look M hpn, qa, MS_10, nI_1, MS_p, fB, z1, z2]
        rw [fA, eB]
        simp only [oB_some, dR_some, cond_true, cond_false, if_true, if_false, Bool.true_and, Bool.and_true, Nat.beq_refl, CS_K, W1, cs_emit W hs1]
        have hval : (if v = 0 then 0 else if w = 0 then 0 else 1) = (0 : Int32) ∨ (if v = 0 then 0 else if w = 0 then 0 else 1) = (1 : Int32) := by
          rcases hv with z | z <;> rcases hb' with y | y <;> subst z <;> subst y <;> decide
        exact ih p1 (s1 + 1) (up1 c1 s1 (-17)) _ (j + 1) _ _ _ _ (by omega) (J.bin (by omega) J1 hm1 hm2 isJn17 (fun h' => jn17 hv hb' h')) hval (by omega) (by omega)
      · obtain ⟨s', c', hs', he⟩ := cs_emitF (p := p1) (w := w) (c := c1) (x := -17) W j1
        have hb' := hb trivial
        have eB : Run (kX12_part (gMd i')) 18 [some (vR (some 147)), o1, o2, some (vI v), o4] [] (MS hm (nI d) p (-1)) = Run (kX12_part (gMd i')) 18 [some (vR (some 147)), none, none, some (vI (if v = 0 then 0 else if y = 0 then 0 else 1)), some (vI y)] [] (MS hm x p2 w) := by
          rw [tX12_part_18 (gMd_G i')]
          by_cases z1 : v = 0 <;> by_cases z2 : y = 0 <;> simp only [oB_some, dR_some, cond_true, cond_false, if_true, if_false, Bool.true_and, Bool.and_true, Nat.beq_refl, MS_K, hK_sI, M1, MS_11, ms_look M hpn, qa, MS_10, nI_1, MS_p, fB, z1, z2]
        rw [fA, eB]
        have hval : (if v = 0 then 0 else if y = 0 then 0 else 1) = (0 : Int32) ∨ (if v = 0 then 0 else if y = 0 then 0 else 1) = (1 : Int32) := by
          rcases hv with z | z <;> rcases hb' with y | y <;> subst z <;> subst y <;> decide
        refine Or.inr ⟨w, s', c', p1, p2, x, if v = 0 then 0 else if y = 0 then 0 else 1, hw, hs', j2, j3, fun _ => hval, ?_, ?_⟩
        · simp only [oB_some, dR_some, cond_true, cond_false, if_true, if_false, Bool.true_and, Bool.and_true, Nat.beq_refl, CS_K, W1, he]
          have e2 := nI_nle' (a := 240) (b := j + 1) (by omega) (by omega)
          have q2 : ¬ 240 ≤ j + 1 := by omega
          rw [tX2_readTruth_8 (gRd_G i)]
          simp only [oB_some, dR_some, cond_true, cond_false, if_true, if_false, Bool.true_and, Bool.and_true, Nat.beq_refl, CS_K, CS_R, W1, W2, T1, show (240 : Int32) = nI 240 from rfl, e2, q2, cs_accept H (show p1 ≤ 240 by omega), hw]
        · rw [tX12_part_18 (gMd_G i')]
          simp only [oB_some, dR_some, cond_true, cond_false, if_true, if_false, Bool.true_and, Bool.and_true, Nat.beq_refl, MS_K, M1, MS_11, hw, zz _ hval]
    · refine Or.inl ⟨s, c, sk (hI h 2) n p, v, J.wide hk0 hk (Nat.le_refl _), fun _ => hv, ?_, ?_⟩
      · rw [tX2_readTruth_8 (gRd_G i)]
        simp only [oB_some, dR_some, cond_true, cond_false, if_true, if_false, Bool.true_and, Bool.and_true, Nat.beq_refl, CS_K, CS_R, W1, W2, T1, show (240 : Int32) = nI 240 from rfl, e1, q1, cs_accept H hp240, qa]
      · rw [tX12_part_18 (gMd_G i')]
        simp only [oB_some, dR_some, cond_true, cond_false, if_true, if_false, Bool.true_and, Bool.and_true, Nat.beq_refl, MS_K, M1, MS_11, ms_look M hpn, qa, zz v hv]
theorem j_truth_from {h hm : Hp} {n T B : Nat} {L : Nat → Int32} (C : LC h hm n T B L) {d i i' m m' : Nat} (hd : d ≤ 6) (hm1 : m' + 1 ≤ m) (hm2 : 2 ≤ m)
    (AJ : ∀ (s : Nat) (c : Nat → Int32) (p : Nat), p ≤ n → s ≤ p → JO h hm n L p s c m' d True (gRd i 2 [vR (some 135), vI (nI d), vI 0] (CS h s c p (-1))) (gMd i' 4 [vR (some 147)] (MS hm (nI d) p (-1))))
    {p0 s0 : Nat} {c0 : Nat → Int32} (hs0 : s0 ≤ p0) {A D : Option (RV × Hp)} {oc o1 o2 : Option EV} (J0 : JO h hm n L p0 s0 c0 m' d True A D) :
      JO h hm n L p0 s0 c0 m d True (oB A (fun r1 h2 => Run (kX2_readTruth (gRd i)) 8 [some (vR (some 135)), some (vI (nI d)), oc, some (vI 0)] [] h2)) (oB D (fun r1 h2 => Run (kX12_part (gMd i')) 18 [some (vR (some 147)), o1, o2, some (vI r1.1), none] [] h2)) := by
  obtain ⟨H, W, P, M, _, _⟩ := id C
  have hn := H.2.2
  have T1 := H.1.1
  have W1 := W.1
  have W2 := W.2.1
  have M1 := M.1.1.1
  rcases J0 with ⟨s1, c1, p1, w, J1, hb, fA, fB⟩ | ⟨w, s1, c1, p1, p2, x, y, hw, j1, j2, j3, hb, fA, fB⟩
  · rw [fA, fB]
    have g1 := J1.1
    have g4 := J1.2.2.2.1
    exact j_truth_loop C hd hm1 hm2 AJ p0 s0 c0 (n - p1) p1 s1 c1 w 0 oc o1 o2 none (Nat.le_refl _) (J1.wide (Nat.le_refl _) J1.2.1 (by omega)) (hb trivial) (by omega) (by omega)
  · rw [fA, fB]
    refine Or.inr ⟨w, s1, c1, p1, p2, x, y, hw, j1, j2, j3, hb, ?_, ?_⟩
    · simp only [oB_some, dR_some, cond_true, cond_false, if_true, if_false, Bool.true_and, Bool.and_true, Nat.beq_refl]
      rw [tX2_readTruth_8 (gRd_G i)]
      simp only [oB_some, dR_some, cond_true, cond_false, if_true, if_false, Bool.true_and, Bool.and_true, Nat.beq_refl, CS_K, CS_R, W1, W2, T1, show ¬ ((240 : Int32) ≤ 0) by decide, cs_accept H (show p1 ≤ 240 by omega), hw]
    · simp only [oB_some, dR_some, cond_true, cond_false, if_true, if_false, Bool.true_and, Bool.and_true, Nat.beq_refl]
      rw [tX12_part_18 (gMd_G i')]
      have : isZ y = true := by rcases hb trivial with z | z <;> subst z <;> decide
      simp only [oB_some, dR_some, cond_true, cond_false, if_true, if_false, Bool.true_and, Bool.and_true, Nat.beq_refl, MS_K, M1, MS_11, hw, this]
theorem j_cond_loop {h hm : Hp} {n T B : Nat} {L : Nat → Int32} (C : LC h hm n T B L) {d i i' m m' : Nat} (hd : d ≤ 6) (hm1 : m' + 1 ≤ m) (hm2 : 2 ≤ m)
    (AJ : ∀ (s : Nat) (c : Nat → Int32) (p : Nat), p ≤ n → s ≤ p → JO h hm n L p s c m' d True (gRd i 1 [vR (some 135), vI (nI d), vI 0] (CS h s c p (-1))) (gMd i' 5 [vR (some 147), vI 0, vI 0] (MS hm (nI d) p (-1))))
    (p0 s0 : Nat) (c0 : Nat → Int32) : ∀ (f p s : Nat) (c : Nat → Int32) (v : Int32) (j : Nat) (oc o1 o2 o4 : Option EV), n - p ≤ f → JR n L p0 s0 c0 m p s c v → (v = 0 ∨ v = 1) → s ≤ p → 2 * j ≤ p →
      JO h hm n L p0 s0 c0 m d True (Run (kX2_readCondition (gRd i)) 8 [some (vR (some 135)), some (vI (nI d)), oc, some (vI (nI j))] [] (CS h s c p (-1))) (Run (kX12_condition (gMd i')) 7 [some (vR (some 147)), o1, o2, some (vI v), o4] [] (MS hm (nI d) p (-1))) := by
  obtain ⟨H, W, P, M, _, _⟩ := id C
  have hn := H.2.2
  have T1 := H.1.1
  have W1 := W.1
  have W2 := W.2.1
  have M1 := M.1.1.1
  have zz : ∀ v : Int32, (v = 0 ∨ v = 1) → isZ v = true := by
    intro v z
    rcases z with z | z <;> subst z <;> decide
  intro f
  induction f with
  | zero =>
    intro p s c v j oc o1 o2 o4 hf J hv hs hj
    have hpn := J.2.1
    have hk : sk (hI h 2) n p = p := sk_stay (fun z => by omega)
    have hc : chT (hI h 2) n p = -1 := if_neg (by omega)
    have e1 := nI_nle' (a := 240) (b := j) (by omega) (by omega)
    have q1 : ¬ 240 ≤ j := by omega
    refine Or.inl ⟨s, c, p, v, J, fun _ => hv, ?_, ?_⟩
    · rw [tX2_readCondition_8 (gRd_G i)]
      simp only [oB_some, dR_some, cond_true, cond_false, if_true, if_false, Bool.true_and, Bool.and_true, Nat.beq_refl, CS_K, CS_R, W1, W2, T1, show (240 : Int32) = nI 240 from rfl, e1, q1, cs_accept H (show p ≤ 240 by omega), hk, hc, show ¬ ((-1 : Int32) = 124) by decide]
    · rw [tX12_condition_7 (gMd_G i')]
      simp only [oB_some, dR_some, cond_true, cond_false, if_true, if_false, Bool.true_and, Bool.and_true, Nat.beq_refl, MS_K, M1, MS_11, ms_look M hpn, hk, hc, show ¬ ((-1 : Int32) = 124) by decide, zz v hv]
  | succ f ih =>
    intro p s c v j oc o1 o2 o4 hf J hv hs hj
    have hpn := J.2.1
    have hk0 := (sk_le (t := hI h 2) (n := n) p).1
    have hk := (sk_le (t := hI h 2) (n := n) p).2 hpn
    have hp240 : p ≤ 240 := by omega
    have e1 := nI_nle' (a := 240) (b := j) (by omega) (by omega)
    have q1 : ¬ 240 ≤ j := by omega
    by_cases qa : chT (hI h 2) n (sk (hI h 2) n p) = 124
    · have hq := ch_lt qa (by decide)
      have eA : Run (kX2_readCondition (gRd i)) 8 [some (vR (some 135)), some (vI (nI d)), oc, some (vI (nI j))] [] (CS h s c p (-1)) = oB (gRd i 1 [vR (some 135), vI (nI d), vI 0] (CS h s c (sk (hI h 2) n p + 1) (-1))) (fun r13 h14 => bif Nat.beq (hK h14 135) 2 && true then oB (FX2_emit [vR (some 135), vI (-18)] h14) (fun r17 h18 => Run (kX2_readCondition (gRd i)) 8 [some (vR (some 135)), some (vI (nI d)), none, some (vI (nI (j + 1)))] [] h18) else none) := by
        rw [tX2_readCondition_8 (gRd_G i)]
        simp only [oB_some, dR_some, cond_true, cond_false, if_true, if_false, Bool.true_and, Bool.and_true, Nat.beq_refl, CS_K, CS_R, W1, W2, T1, show (240 : Int32) = nI 240 from rfl, e1, q1, cs_accept H hp240, qa, show ¬ ((1 : Int32) = 0) by decide, nI_1]
      rw [eA]
      rcases AJ s c (sk (hI h 2) n p + 1) (by omega) (by omega) with ⟨s1, c1, p1, w, J1, hb, fA, fB⟩ | ⟨w, s1, c1, p1, p2, x, y, hw, j1, j2, j3, hb, fA, fB⟩
      · have g1 := J1.1
        have g2 := J1.2.1
        have g4 := J1.2.2.2.1
        have hs1 : s1 < 240 := by omega
        have hb' := hb trivial
        have eB : Run (kX12_condition (gMd i')) 7 [some (vR (some 147)), o1, o2, some (vI v), o4] [] (MS hm (nI d) p (-1)) = Run (kX12_condition (gMd i')) 7 [some (vR (some 147)), none, none, some (vI (if v = 0 then (if w = 0 then 0 else 1) else 1)), some (vI w)] [] (MS hm (nI d) p1 (-1)) := by
          rw [tX12_condition_7 (gMd_G i')]
          by_cases z1 : v = 0 <;> by_cases z2 : w = 0 <;> simp only [oB_some, dR_some, cond_true, cond_false, if_true, if_false, Bool.true_and, Bool.and_true, Nat.beq_refl, MS_K, hK_sI, M1, MS_11, ms_look M hpn, qa, MS_10, nI_1, MS_p, fB, z1, z2]
        rw [fA, eB]
        simp only [oB_some, dR_some, cond_true, cond_false, if_true, if_false, Bool.true_and, Bool.and_true, Nat.beq_refl, CS_K, W1, cs_emit W hs1]
        have hval : (if v = 0 then (if w = 0 then 0 else 1) else 1) = (0 : Int32) ∨ (if v = 0 then (if w = 0 then 0 else 1) else 1) = (1 : Int32) := by
          rcases hv with z | z <;> rcases hb' with y | y <;> subst z <;> subst y <;> decide
        exact ih p1 (s1 + 1) (up1 c1 s1 (-18)) _ (j + 1) _ _ _ _ (by omega) (J.bin (by omega) J1 hm1 hm2 isJn18 (fun h' => jn18 hv hb' h')) hval (by omega) (by omega)
      · obtain ⟨s', c', hs', he⟩ := cs_emitF (p := p1) (w := w) (c := c1) (x := -18) W j1
        have hb' := hb trivial
        have eB : Run (kX12_condition (gMd i')) 7 [some (vR (some 147)), o1, o2, some (vI v), o4] [] (MS hm (nI d) p (-1)) = Run (kX12_condition (gMd i')) 7 [some (vR (some 147)), none, none, some (vI (if v = 0 then (if y = 0 then 0 else 1) else 1)), some (vI y)] [] (MS hm x p2 w) := by
          rw [tX12_condition_7 (gMd_G i')]
          by_cases z1 : v = 0 <;> by_cases z2 : y = 0 <;> simp only [oB_some, dR_some, cond_true, cond_false, if_true, if_false, Bool.true_and, Bool.and_true, Nat.beq_refl, MS_K, hK_sI, M1, MS_11, ms_look M hpn, qa, MS_10, nI_1, MS_p, fB, z1, z2]
        rw [fA, eB]
        have hval : (if v = 0 then (if y = 0 then 0 else 1) else 1) = (0 : Int32) ∨ (if v = 0 then (if y = 0 then 0 else 1) else 1) = (1 : Int32) := by
          rcases hv with z | z <;> rcases hb' with y | y <;> subst z <;> subst y <;> decide
        refine Or.inr ⟨w, s', c', p1, p2, x, if v = 0 then (if y = 0 then 0 else 1) else 1, hw, hs', j2, j3, fun _ => hval, ?_, ?_⟩
        · simp only [oB_some, dR_some, cond_true, cond_false, if_true, if_false, Bool.true_and, Bool.and_true, Nat.beq_refl, CS_K, W1, he]
          have e2 := nI_nle' (a := 240) (b := j + 1) (by omega) (by omega)
          have q2 : ¬ 240 ≤ j + 1 := by omega
          rw [tX2_readCondition_8 (gRd_G i)]
          simp only [oB_some, dR_some, cond_true, cond_false, if_true, if_false, Bool.true_and, Bool.and_true, Nat.beq_refl, CS_K, CS_R, W1, W2, T1, show (240 : Int32) = nI 240 from rfl, e2, q2, cs_accept H (show p1 ≤ 240 by omega), hw]
        · rw [tX12_condition_7 (gMd_G i')]
          simp only [oB_some, dR_some, cond_true, cond_false, if_true, if_false, Bool.true_and, Bool.and_true, Nat.beq_refl, MS_K, M1, MS_11, hw, zz _ hval]
    · refine Or.inl ⟨s, c, sk (hI h 2) n p, v, J.wide hk0 hk (Nat.le_refl _), fun _ => hv, ?_, ?_⟩
      · rw [tX2_readCondition_8 (gRd_G i)]
        simp only [oB_some, dR_some, cond_true, cond_false, if_true, if_false, Bool.true_and, Bool.and_true, Nat.beq_refl, CS_K, CS_R, W1, W2, T1, show (240 : Int32) = nI 240 from rfl, e1, q1, cs_accept H hp240, qa]
      · rw [tX12_condition_7 (gMd_G i')]
        simp only [oB_some, dR_some, cond_true, cond_false, if_true, if_false, Bool.true_and, Bool.and_true, Nat.beq_refl, MS_K, M1, MS_11, ms_look M hpn, qa, zz v hv]
theorem j_cond_from {h hm : Hp} {n T B : Nat} {L : Nat → Int32} (C : LC h hm n T B L) {d i i' m m' : Nat} (hd : d ≤ 6) (hm1 : m' + 1 ≤ m) (hm2 : 2 ≤ m)
    (AJ : ∀ (s : Nat) (c : Nat → Int32) (p : Nat), p ≤ n → s ≤ p → JO h hm n L p s c m' d True (gRd i 1 [vR (some 135), vI (nI d), vI 0] (CS h s c p (-1))) (gMd i' 5 [vR (some 147), vI 0, vI 0] (MS hm (nI d) p (-1))))
    {p0 s0 : Nat} {c0 : Nat → Int32} (hs0 : s0 ≤ p0) {A D : Option (RV × Hp)} {oc o1 o2 : Option EV} (J0 : JO h hm n L p0 s0 c0 m' d True A D) :
      JO h hm n L p0 s0 c0 m d True (oB A (fun r1 h2 => Run (kX2_readCondition (gRd i)) 8 [some (vR (some 135)), some (vI (nI d)), oc, some (vI 0)] [] h2)) (oB D (fun r1 h2 => Run (kX12_condition (gMd i')) 7 [some (vR (some 147)), o1, o2, some (vI r1.1), none] [] h2)) := by
  obtain ⟨H, W, P, M, _, _⟩ := id C
  have hn := H.2.2
  have T1 := H.1.1
  have W1 := W.1
  have W2 := W.2.1
  have M1 := M.1.1.1
  rcases J0 with ⟨s1, c1, p1, w, J1, hb, fA, fB⟩ | ⟨w, s1, c1, p1, p2, x, y, hw, j1, j2, j3, hb, fA, fB⟩
  · rw [fA, fB]
    have g1 := J1.1
    have g4 := J1.2.2.2.1
    exact j_cond_loop C hd hm1 hm2 AJ p0 s0 c0 (n - p1) p1 s1 c1 w 0 oc o1 o2 none (Nat.le_refl _) (J1.wide (Nat.le_refl _) J1.2.1 (by omega)) (hb trivial) (by omega) (by omega)
  · rw [fA, fB]
    refine Or.inr ⟨w, s1, c1, p1, p2, x, y, hw, j1, j2, j3, hb, ?_, ?_⟩
    · simp only [oB_some, dR_some, cond_true, cond_false, if_true, if_false, Bool.true_and, Bool.and_true, Nat.beq_refl]
      rw [tX2_readCondition_8 (gRd_G i)]
      simp only [oB_some, dR_some, cond_true, cond_false, if_true, if_false, Bool.true_and, Bool.and_true, Nat.beq_refl, CS_K, CS_R, W1, W2, T1, show ¬ ((240 : Int32) ≤ 0) by decide, cs_accept H (show p1 ≤ 240 by omega), hw]
    · simp only [oB_some, dR_some, cond_true, cond_false, if_true, if_false, Bool.true_and, Bool.and_true, Nat.beq_refl]
      rw [tX12_condition_7 (gMd_G i')]
      have : isZ y = true := by rcases hb trivial with z | z <;> subst z <;> decide
      simp only [oB_some, dR_some, cond_true, cond_false, if_true, if_false, Bool.true_and, Bool.and_true, Nat.beq_refl, MS_K, M1, MS_11, hw, this]
