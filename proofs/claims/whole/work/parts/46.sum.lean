/-! ===== PURE: terms and sums, by both readers (written by program) ===== -/
theorem j_term_loop {h hm : Hp} {n T B : Nat} {L : Nat → Int32} (C : LC h hm n T B L) {d i i' m m' : Nat} (hd : d ≤ 6) (hm1 : m' + 1 ≤ m) (hm2 : 2 ≤ m)
    (AJ : ∀ (s : Nat) (c : Nat → Int32) (p : Nat), p ≤ n → s ≤ p → JO h hm n L p s c m' d False (gRd (i + 1) 5 [vR (some 135), vI (nI d)] (CS h s c p (-1))) (gMd i' 0 [vR (some 147)] (MS hm (nI d) p (-1))))
    (p0 s0 : Nat) (c0 : Nat → Int32) : ∀ (f p s : Nat) (c : Nat → Int32) (v : Int32) (j : Nat) (oc o2 o3 o4 : Option EV), n - p ≤ f → JR n L p0 s0 c0 m p s c v → s ≤ p → 2 * j ≤ p →
      JO h hm n L p0 s0 c0 m d False (Run (kX2_readTerm (gRd (i + 1))) 7 [some (vR (some 135)), some (vI (nI d)), some (vI (nI j)), oc] [] (CS h s c p (-1))) (Run (kX12_term (gMd i')) 5 [some (vR (some 147)), some (vI v), o2, o3, o4] [] (MS hm (nI d) p (-1))) := by
  obtain ⟨H, W, P, M, _, _⟩ := id C
  have hn := H.2.2
  have T1 := H.1.1
  have W1 := W.1
  have W2 := W.2.1
  have M1 := M.1.1.1
  intro f
  induction f with
  | zero =>
    intro p s c v j oc o2 o3 o4 hf J hs hj
    have hpn := J.2.1
    have hpn' : p = n := by omega
    have hk : sk (hI h 2) n p = p := sk_stay (fun z => by omega)
    have hc : chT (hI h 2) n p = -1 := if_neg (by omega)
    have e1 := nI_nle' (a := 240) (b := j) (by omega) (by omega)
    have q1 : ¬ 240 ≤ j := by omega
    refine Or.inl ⟨s, c, p, v, J, fun z => z.elim, ?_, ?_⟩
    · rw [tX2_readTerm_7 (gRd_G (i + 1))]
      simp only [oB_some, dR_some, cond_true, cond_false, if_true, if_false, Bool.true_and, Bool.and_true, Nat.beq_refl, CS_K, CS_R, W1, W2, T1, show (240 : Int32) = nI 240 from rfl, e1, q1, cs_accept H (show p ≤ 240 by omega), hk, hc, show ¬ ((-1 : Int32) = 42) by decide, show ¬ ((-1 : Int32) = 47) by decide]
    · rw [tX12_term_5 (gMd_G i')]
      simp only [oB_some, dR_some, cond_true, cond_false, if_true, if_false, Bool.true_and, Bool.and_true, Nat.beq_refl, MS_K, M1, MS_11, ms_look M hpn, hk, hc, show ¬ ((-1 : Int32) = 42) by decide, show ¬ ((-1 : Int32) = 47) by decide]
  | succ f ih =>
    intro p s c v j oc o2 o3 o4 hf J hs hj
    have hpn := J.2.1
    have hk0 := (sk_le (t := hI h 2) (n := n) p).1
    have hk := (sk_le (t := hI h 2) (n := n) p).2 hpn
    have hp240 : p ≤ 240 := by omega
    have hq240 : sk (hI h 2) n p ≤ 240 := by omega
    have e1 := nI_nle' (a := 240) (b := j) (by omega) (by omega)
    have q1 : ¬ 240 ≤ j := by omega
    by_cases qa : chT (hI h 2) n (sk (hI h 2) n p) = 42
    · have hq := ch_lt qa (by decide)
      have eA : Run (kX2_readTerm (gRd (i + 1))) 7 [some (vR (some 135)), some (vI (nI d)), some (vI (nI j)), oc] [] (CS h s c p (-1)) = oB (gRd (i + 1) 5 [vR (some 135), vI (nI d)] (CS h s c (sk (hI h 2) n p + 1) (-1))) (fun r13 h14 => bif Nat.beq (hK h14 135) 2 && true then oB (FX2_emit [vR (some 135), vI (-12)] h14) (fun r17 h18 => Run (kX2_readTerm (gRd (i + 1))) 7 [some (vR (some 135)), some (vI (nI d)), some (vI (nI (j + 1))), some (vI 1)] [] h18) else none) := by
        rw [tX2_readTerm_7 (gRd_G (i + 1))]
        simp only [oB_some, dR_some, cond_true, cond_false, if_true, if_false, Bool.true_and, Bool.and_true, Nat.beq_refl, CS_K, CS_R, W1, W2, T1, show (240 : Int32) = nI 240 from rfl, e1, q1, cs_accept H hp240, qa, show ¬ ((1 : Int32) = 0) by decide, nI_1]
      have eB : Run (kX12_term (gMd i')) 5 [some (vR (some 147)), some (vI v), o2, o3, o4] [] (MS hm (nI d) p (-1)) = oB (gMd i' 0 [vR (some 147)] (MS hm (nI d) (sk (hI h 2) n p + 1) (-1))) (fun r6 h7 => oB (FX12_within [vL ((Int32.toInt64 v) * (Int32.toInt64 r6.1))] h7) (fun r12 h13 => Run (kX12_term (gMd i')) 5 [some (vR (some 147)), some (vI r12.1), some (vI 1), some (vL (Int32.toInt64 r6.1)), none] [] h13)) := by
        rw [tX12_term_5 (gMd_G i')]
        simp only [oB_some, dR_some, cond_true, cond_false, if_true, if_false, Bool.true_and, Bool.and_true, Nat.beq_refl, MS_K, hK_sI, M1, MS_11, ms_look M hpn, ms_look M hk, sk_sk, qa, show ¬ ((1 : Int32) = 0) by decide, MS_10, nI_1, MS_p]
      rw [eA, eB]
      rcases AJ s c (sk (hI h 2) n p + 1) (by omega) (by omega) with ⟨s1, c1, p1, w, J1, _, fA, fB⟩ | ⟨w, s1, c1, p1, p2, x, y, hw, j1, j2, j3, _, fA, fB⟩
      · have g1 := J1.1
        have g2 := J1.2.1
        have g4 := J1.2.2.2.1
        have hs1 : s1 < 240 := by omega
        rw [fA, fB]
        simp only [oB_some, dR_some, cond_true, cond_false, if_true, if_false, Bool.true_and, Bool.and_true, Nat.beq_refl, CS_K, W1, cs_emit W hs1, within_sp]
        exact ih p1 (s1 + 1) (up1 c1 s1 (-12)) _ (j + 1) _ _ _ _ (by omega) (J.bin (by omega) J1 hm1 hm2 isJn12 (fun h' => jn12 _ _ h')) (by omega) (by omega)
      · obtain ⟨s', c', hs', he⟩ := cs_emitF (p := p1) (w := w) (c := c1) (x := -12) W j1
        rw [fA, fB]
        refine Or.inr ⟨w, s', c', p1, p2, x, wi (Int32.toInt64 v * Int32.toInt64 y), hw, hs', j2, j3, fun z => z.elim, ?_, ?_⟩
        · simp only [oB_some, dR_some, cond_true, cond_false, if_true, if_false, Bool.true_and, Bool.and_true, Nat.beq_refl, CS_K, W1, he]
          have e2 := nI_nle' (a := 240) (b := j + 1) (by omega) (by omega)
          have q2 : ¬ 240 ≤ j + 1 := by omega
          rw [tX2_readTerm_7 (gRd_G (i + 1))]
          simp only [oB_some, dR_some, cond_true, cond_false, if_true, if_false, Bool.true_and, Bool.and_true, Nat.beq_refl, CS_K, CS_R, W1, W2, T1, show (240 : Int32) = nI 240 from rfl, e2, q2, cs_accept H (show p1 ≤ 240 by omega), hw]
        · simp only [oB_some, dR_some, cond_true, cond_false, if_true, if_false, Bool.true_and, Bool.and_true, Nat.beq_refl, within_sp]
          rw [tX12_term_5 (gMd_G i')]
          simp only [oB_some, dR_some, cond_true, cond_false, if_true, if_false, Bool.true_and, Bool.and_true, Nat.beq_refl, MS_K, M1, MS_11, hw]
    · by_cases qb : chT (hI h 2) n (sk (hI h 2) n p) = 47
      · have hq := ch_lt qb (by decide)
        have eA : Run (kX2_readTerm (gRd (i + 1))) 7 [some (vR (some 135)), some (vI (nI d)), some (vI (nI j)), oc] [] (CS h s c p (-1)) = oB (gRd (i + 1) 5 [vR (some 135), vI (nI d)] (CS h s c (sk (hI h 2) n p + 1) (-1))) (fun r13 h14 => bif Nat.beq (hK h14 135) 2 && true then oB (FX2_emit [vR (some 135), vI (-13)] h14) (fun r17 h18 => Run (kX2_readTerm (gRd (i + 1))) 7 [some (vR (some 135)), some (vI (nI d)), some (vI (nI (j + 1))), some (vI 0)] [] h18) else none) := by
          rw [tX2_readTerm_7 (gRd_G (i + 1))]
          simp only [oB_some, dR_some, cond_true, cond_false, if_true, if_false, Bool.true_and, Bool.and_true, Nat.beq_refl, CS_K, CS_R, W1, W2, T1, show (240 : Int32) = nI 240 from rfl, e1, q1, cs_accept H hp240, cs_accept H hq240, sk_sk, qb, show ¬ ((47 : Int32) = 42) by decide, show ¬ ((1 : Int32) = 0) by decide, nI_1]
        rw [eA]
        rcases AJ s c (sk (hI h 2) n p + 1) (by omega) (by omega) with ⟨s1, c1, p1, w, J1, _, fA, fB⟩ | ⟨w, s1, c1, p1, p2, x, y, hw, j1, j2, j3, _, fA, fB⟩
        · have g1 := J1.1
          have g2 := J1.2.1
          have g4 := J1.2.2.2.1
          have hs1 : s1 < 240 := by omega
          have eB : Run (kX12_term (gMd i')) 5 [some (vR (some 147)), some (vI v), o2, o3, o4] [] (MS hm (nI d) p (-1)) = Run (kX12_term (gMd i')) 5 [some (vR (some 147)), some (vI (if Int32.toInt64 w = 0 then wi 0 else wi (Int32.toInt64 v / Int32.toInt64 w))), some (vI 0), some (vL (Int32.toInt64 w)), none] [] (MS hm (nI d) p1 (-1)) := by
            rw [tX12_term_5 (gMd_G i')]
            by_cases hz : Int32.toInt64 w = 0 <;> simp only [oB_some, dR_some, cond_true, cond_false, if_true, if_false, Bool.true_and, Bool.and_true, Nat.beq_refl, MS_K, hK_sI, M1, MS_11, ms_look M hpn, ms_look M hk, sk_sk, qb, show ¬ ((47 : Int32) = 42) by decide, show ¬ ((1 : Int32) = 0) by decide, MS_10, nI_1, MS_p, fB, within_sp, lg_cmp_eq, hz]
          rw [fA, eB]
          simp only [oB_some, dR_some, cond_true, cond_false, if_true, if_false, Bool.true_and, Bool.and_true, Nat.beq_refl, CS_K, W1, cs_emit W hs1]
          exact ih p1 (s1 + 1) (up1 c1 s1 (-13)) _ (j + 1) _ _ _ _ (by omega) (J.bin (by omega) J1 hm1 hm2 isJn13 (fun h' => jn13 _ _ h')) (by omega) (by omega)
        · obtain ⟨s', c', hs', he⟩ := cs_emitF (p := p1) (w := w) (c := c1) (x := -13) W j1
          have eB : Run (kX12_term (gMd i')) 5 [some (vR (some 147)), some (vI v), o2, o3, o4] [] (MS hm (nI d) p (-1)) = Run (kX12_term (gMd i')) 5 [some (vR (some 147)), some (vI (if Int32.toInt64 y = 0 then wi 0 else wi (Int32.toInt64 v / Int32.toInt64 y))), some (vI 0), some (vL (Int32.toInt64 y)), none] [] (MS hm x p2 w) := by
            rw [tX12_term_5 (gMd_G i')]
            by_cases hz : Int32.toInt64 y = 0 <;> simp only [oB_some, dR_some, cond_true, cond_false, if_true, if_false, Bool.true_and, Bool.and_true, Nat.beq_refl, MS_K, hK_sI, M1, MS_11, ms_look M hpn, ms_look M hk, sk_sk, qb, show ¬ ((47 : Int32) = 42) by decide, show ¬ ((1 : Int32) = 0) by decide, MS_10, nI_1, MS_p, fB, within_sp, lg_cmp_eq, hz]
          rw [fA, eB]
          refine Or.inr ⟨w, s', c', p1, p2, x, if Int32.toInt64 y = 0 then wi 0 else wi (Int32.toInt64 v / Int32.toInt64 y), hw, hs', j2, j3, fun z => z.elim, ?_, ?_⟩
          · simp only [oB_some, dR_some, cond_true, cond_false, if_true, if_false, Bool.true_and, Bool.and_true, Nat.beq_refl, CS_K, W1, he]
            have e2 := nI_nle' (a := 240) (b := j + 1) (by omega) (by omega)
            have q2 : ¬ 240 ≤ j + 1 := by omega
            rw [tX2_readTerm_7 (gRd_G (i + 1))]
            simp only [oB_some, dR_some, cond_true, cond_false, if_true, if_false, Bool.true_and, Bool.and_true, Nat.beq_refl, CS_K, CS_R, W1, W2, T1, show (240 : Int32) = nI 240 from rfl, e2, q2, cs_accept H (show p1 ≤ 240 by omega), hw]
          · rw [tX12_term_5 (gMd_G i')]
            simp only [oB_some, dR_some, cond_true, cond_false, if_true, if_false, Bool.true_and, Bool.and_true, Nat.beq_refl, MS_K, M1, MS_11, hw]
      · refine Or.inl ⟨s, c, sk (hI h 2) n p, v, J.wide hk0 hk (Nat.le_refl _), fun z => z.elim, ?_, ?_⟩
        · rw [tX2_readTerm_7 (gRd_G (i + 1))]
          simp only [oB_some, dR_some, cond_true, cond_false, if_true, if_false, Bool.true_and, Bool.and_true, Nat.beq_refl, CS_K, CS_R, W1, W2, T1, show (240 : Int32) = nI 240 from rfl, e1, q1, cs_accept H hp240, cs_accept H hq240, sk_sk, qa, qb]
        · rw [tX12_term_5 (gMd_G i')]
          simp only [oB_some, dR_some, cond_true, cond_false, if_true, if_false, Bool.true_and, Bool.and_true, Nat.beq_refl, MS_K, M1, MS_11, ms_look M hpn, ms_look M hk, sk_sk, qa, qb]
theorem j_term {h hm : Hp} {n T B : Nat} {L : Nat → Int32} (C : LC h hm n T B L) {d i i' m m' : Nat} (hd : d ≤ 6) (hm1 : m' + 1 ≤ m) (hm2 : 2 ≤ m)
    (AJ : ∀ (s : Nat) (c : Nat → Int32) (p : Nat), p ≤ n → s ≤ p → JO h hm n L p s c m' d False (gRd (i + 1) 5 [vR (some 135), vI (nI d)] (CS h s c p (-1))) (gMd i' 0 [vR (some 147)] (MS hm (nI d) p (-1))))
    (s : Nat) (c : Nat → Int32) (p : Nat) (hp : p ≤ n) (hs : s ≤ p) : JO h hm n L p s c m d False (gRd (i + 1 + 1) 4 [vR (some 135), vI (nI d)] (CS h s c p (-1))) (gMd (i' + 1) 1 [vR (some 147)] (MS hm (nI d) p (-1))) := by
  obtain ⟨H, W, P, M, _, _⟩ := id C
  have hn := H.2.2
  have T1 := H.1.1
  have W1 := W.1
  have W2 := W.2.1
  have M1 := M.1.1.1
  have eA : gRd (i + 1 + 1) 4 [vR (some 135), vI (nI d)] (CS h s c p (-1)) = oB (gRd (i + 1) 5 [vR (some 135), vI (nI d)] (CS h s c p (-1))) (fun r1 h2 => Run (kX2_readTerm (gRd (i + 1))) 7 [some (vR (some 135)), some (vI (nI d)), some (vI (nI 0)), none] [] h2) := by
    show Fm (kX2_readTerm (gRd (i + 1))) 4 [vR (some 135), vI (nI d)] (CS h s c p (-1)) = _
    rw [tX2_readTerm (gRd_G (i + 1))]
    simp only [oB_some, dR_some, cond_true, cond_false, if_true, if_false, Bool.true_and, Bool.and_true, Nat.beq_refl, CS_K, W1, nI_0]
  have eB : gMd (i' + 1) 1 [vR (some 147)] (MS hm (nI d) p (-1)) = oB (gMd i' 0 [vR (some 147)] (MS hm (nI d) p (-1))) (fun r1 h2 => Run (kX12_term (gMd i')) 5 [some (vR (some 147)), some (vI r1.1), none, none, none] [] h2) := by
    show Fm (kX12_term (gMd i')) 5 [vR (some 147)] (MS hm (nI d) p (-1)) = _
    rw [tX12_term (gMd_G i')]
    simp only [oB_some, dR_some, cond_true, cond_false, if_true, if_false, Bool.true_and, Bool.and_true, Nat.beq_refl, MS_K, M1]
  rw [eA, eB]
  rcases AJ s c p hp hs with ⟨s1, c1, p1, w, J1, _, fA, fB⟩ | ⟨w, s1, c1, p1, p2, x, y, hw, j1, j2, j3, _, fA, fB⟩
  · rw [fA, fB]
    have g1 := J1.1
    have g4 := J1.2.2.2.1
    exact j_term_loop C hd hm1 hm2 AJ p s c (n - p1) p1 s1 c1 w 0 none none none none (Nat.le_refl _) (J1.wide (Nat.le_refl _) J1.2.1 (by omega)) (by omega) (by omega)
  · rw [fA, fB]
    refine Or.inr ⟨w, s1, c1, p1, p2, x, y, hw, j1, j2, j3, fun z => z.elim, ?_, ?_⟩
    · simp only [oB_some, dR_some, cond_true, cond_false, if_true, if_false, Bool.true_and, Bool.and_true, Nat.beq_refl]
      rw [tX2_readTerm_7 (gRd_G (i + 1))]
      simp only [oB_some, dR_some, cond_true, cond_false, if_true, if_false, Bool.true_and, Bool.and_true, Nat.beq_refl, CS_K, CS_R, W1, W2, T1, show ¬ ((240 : Int32) ≤ nI 0) by decide, cs_accept H (show p1 ≤ 240 by omega), hw]
    · simp only [oB_some, dR_some, cond_true, cond_false, if_true, if_false, Bool.true_and, Bool.and_true, Nat.beq_refl]
      rw [tX12_term_5 (gMd_G i')]
      simp only [oB_some, dR_some, cond_true, cond_false, if_true, if_false, Bool.true_and, Bool.and_true, Nat.beq_refl, MS_K, M1, MS_11, hw]
theorem j_sum_loop {h hm : Hp} {n T B : Nat} {L : Nat → Int32} (C : LC h hm n T B L) {d i i' m m' : Nat} (hd : d ≤ 6) (hm1 : m' + 1 ≤ m) (hm2 : 2 ≤ m)
    (AJ : ∀ (s : Nat) (c : Nat → Int32) (p : Nat), p ≤ n → s ≤ p → JO h hm n L p s c m' d False (gRd (i + 2) 4 [vR (some 135), vI (nI d)] (CS h s c p (-1))) (gMd i' 1 [vR (some 147)] (MS hm (nI d) p (-1))))
    (p0 s0 : Nat) (c0 : Nat → Int32) : ∀ (f p s : Nat) (c : Nat → Int32) (v : Int32) (j : Nat) (oc o2 o3 o4 : Option EV), n - p ≤ f → JR n L p0 s0 c0 m p s c v → s ≤ p → 2 * j ≤ p →
      JO h hm n L p0 s0 c0 m d False (Run (kX2_readSum (gRd (i + 2))) 7 [some (vR (some 135)), some (vI (nI d)), some (vI (nI j)), oc] [] (CS h s c p (-1))) (Run (kX12_sum (gMd i')) 5 [some (vR (some 147)), some (vI v), o2, o3, o4] [] (MS hm (nI d) p (-1))) := by
  obtain ⟨H, W, P, M, _, _⟩ := id C
  have hn := H.2.2
  have T1 := H.1.1
  have W1 := W.1
  have W2 := W.2.1
  have M1 := M.1.1.1
  intro f
  induction f with
  | zero =>
    intro p s c v j oc o2 o3 o4 hf J hs hj
    have hpn := J.2.1
    have hpn' : p = n := by omega
    have hk : sk (hI h 2) n p = p := sk_stay (fun z => by omega)
    have hc : chT (hI h 2) n p = -1 := if_neg (by omega)
    have e1 := nI_nle' (a := 240) (b := j) (by omega) (by omega)
    have q1 : ¬ 240 ≤ j := by omega
    refine Or.inl ⟨s, c, p, v, J, fun z => z.elim, ?_, ?_⟩
    · rw [tX2_readSum_7 (gRd_G (i + 2))]
      simp only [oB_some, dR_some, cond_true, cond_false, if_true, if_false, Bool.true_and, Bool.and_true, Nat.beq_refl, CS_K, CS_R, W1, W2, T1, show (240 : Int32) = nI 240 from rfl, e1, q1, cs_accept H (show p ≤ 240 by omega), hk, hc, show ¬ ((-1 : Int32) = 43) by decide, show ¬ ((-1 : Int32) = 45) by decide]
    · rw [tX12_sum_5 (gMd_G i')]
      simp only [oB_some, dR_some, cond_true, cond_false, if_true, if_false, Bool.true_and, Bool.and_true, Nat.beq_refl, MS_K, M1, MS_11, ms_look M hpn, hk, hc, show ¬ ((-1 : Int32) = 43) by decide, show ¬ ((-1 : Int32) = 45) by decide]
  | succ f ih =>
    intro p s c v j oc o2 o3 o4 hf J hs hj
    have hpn := J.2.1
    have hk0 := (sk_le (t := hI h 2) (n := n) p).1
    have hk := (sk_le (t := hI h 2) (n := n) p).2 hpn
    have hp240 : p ≤ 240 := by omega
    have hq240 : sk (hI h 2) n p ≤ 240 := by omega
    have e1 := nI_nle' (a := 240) (b := j) (by omega) (by omega)
    have q1 : ¬ 240 ≤ j := by omega
    by_cases qa : chT (hI h 2) n (sk (hI h 2) n p) = 43
    · have hq := ch_lt qa (by decide)
      have eA : Run (kX2_readSum (gRd (i + 2))) 7 [some (vR (some 135)), some (vI (nI d)), some (vI (nI j)), oc] [] (CS h s c p (-1)) = oB (gRd (i + 2) 4 [vR (some 135), vI (nI d)] (CS h s c (sk (hI h 2) n p + 1) (-1))) (fun r13 h14 => bif Nat.beq (hK h14 135) 2 && true then oB (FX2_emit [vR (some 135), vI (-10)] h14) (fun r17 h18 => Run (kX2_readSum (gRd (i + 2))) 7 [some (vR (some 135)), some (vI (nI d)), some (vI (nI (j + 1))), some (vI 1)] [] h18) else none) := by
        rw [tX2_readSum_7 (gRd_G (i + 2))]
        simp only [oB_some, dR_some, cond_true, cond_false, if_true, if_false, Bool.true_and, Bool.and_true, Nat.beq_refl, CS_K, CS_R, W1, W2, T1, show (240 : Int32) = nI 240 from rfl, e1, q1, cs_accept H hp240, qa, show ¬ ((1 : Int32) = 0) by decide, nI_1]
      have eB : Run (kX12_sum (gMd i')) 5 [some (vR (some 147)), some (vI v), o2, o3, o4] [] (MS hm (nI d) p (-1)) = oB (gMd i' 1 [vR (some 147)] (MS hm (nI d) (sk (hI h 2) n p + 1) (-1))) (fun r6 h7 => oB (FX12_within [vL ((Int32.toInt64 v) + (Int32.toInt64 r6.1))] h7) (fun r12 h13 => Run (kX12_sum (gMd i')) 5 [some (vR (some 147)), some (vI r12.1), some (vI 1), some (vL (Int32.toInt64 r6.1)), none] [] h13)) := by
        rw [tX12_sum_5 (gMd_G i')]
        simp only [oB_some, dR_some, cond_true, cond_false, if_true, if_false, Bool.true_and, Bool.and_true, Nat.beq_refl, MS_K, hK_sI, M1, MS_11, ms_look M hpn, ms_look M hk, sk_sk, qa, show ¬ ((1 : Int32) = 0) by decide, MS_10, nI_1, MS_p]
      rw [eA, eB]
      rcases AJ s c (sk (hI h 2) n p + 1) (by omega) (by omega) with ⟨s1, c1, p1, w, J1, _, fA, fB⟩ | ⟨w, s1, c1, p1, p2, x, y, hw, j1, j2, j3, _, fA, fB⟩
      · have g1 := J1.1
        have g2 := J1.2.1
        have g4 := J1.2.2.2.1
        have hs1 : s1 < 240 := by omega
        rw [fA, fB]
        simp only [oB_some, dR_some, cond_true, cond_false, if_true, if_false, Bool.true_and, Bool.and_true, Nat.beq_refl, CS_K, W1, cs_emit W hs1, within_sp]
        exact ih p1 (s1 + 1) (up1 c1 s1 (-10)) _ (j + 1) _ _ _ _ (by omega) (J.bin (by omega) J1 hm1 hm2 isJn10 (fun h' => jn10 _ _ h')) (by omega) (by omega)
      · obtain ⟨s', c', hs', he⟩ := cs_emitF (p := p1) (w := w) (c := c1) (x := -10) W j1
        rw [fA, fB]
        refine Or.inr ⟨w, s', c', p1, p2, x, wi (Int32.toInt64 v + Int32.toInt64 y), hw, hs', j2, j3, fun z => z.elim, ?_, ?_⟩
        · simp only [oB_some, dR_some, cond_true, cond_false, if_true, if_false, Bool.true_and, Bool.and_true, Nat.beq_refl, CS_K, W1, he]
          have e2 := nI_nle' (a := 240) (b := j + 1) (by omega) (by omega)
          have q2 : ¬ 240 ≤ j + 1 := by omega
          rw [tX2_readSum_7 (gRd_G (i + 2))]
          simp only [oB_some, dR_some, cond_true, cond_false, if_true, if_false, Bool.true_and, Bool.and_true, Nat.beq_refl, CS_K, CS_R, W1, W2, T1, show (240 : Int32) = nI 240 from rfl, e2, q2, cs_accept H (show p1 ≤ 240 by omega), hw]
        · simp only [oB_some, dR_some, cond_true, cond_false, if_true, if_false, Bool.true_and, Bool.and_true, Nat.beq_refl, within_sp]
          rw [tX12_sum_5 (gMd_G i')]
          simp only [oB_some, dR_some, cond_true, cond_false, if_true, if_false, Bool.true_and, Bool.and_true, Nat.beq_refl, MS_K, M1, MS_11, hw]
    · by_cases qb : chT (hI h 2) n (sk (hI h 2) n p) = 45
      · have hq := ch_lt qb (by decide)
        have eA : Run (kX2_readSum (gRd (i + 2))) 7 [some (vR (some 135)), some (vI (nI d)), some (vI (nI j)), oc] [] (CS h s c p (-1)) = oB (gRd (i + 2) 4 [vR (some 135), vI (nI d)] (CS h s c (sk (hI h 2) n p + 1) (-1))) (fun r13 h14 => bif Nat.beq (hK h14 135) 2 && true then oB (FX2_emit [vR (some 135), vI (-11)] h14) (fun r17 h18 => Run (kX2_readSum (gRd (i + 2))) 7 [some (vR (some 135)), some (vI (nI d)), some (vI (nI (j + 1))), some (vI 0)] [] h18) else none) := by
          rw [tX2_readSum_7 (gRd_G (i + 2))]
          simp only [oB_some, dR_some, cond_true, cond_false, if_true, if_false, Bool.true_and, Bool.and_true, Nat.beq_refl, CS_K, CS_R, W1, W2, T1, show (240 : Int32) = nI 240 from rfl, e1, q1, cs_accept H hp240, cs_accept H hq240, sk_sk, qb, show ¬ ((45 : Int32) = 43) by decide, show ¬ ((1 : Int32) = 0) by decide, nI_1]
        rw [eA]
        rcases AJ s c (sk (hI h 2) n p + 1) (by omega) (by omega) with ⟨s1, c1, p1, w, J1, _, fA, fB⟩ | ⟨w, s1, c1, p1, p2, x, y, hw, j1, j2, j3, _, fA, fB⟩
        · have g1 := J1.1
          have g2 := J1.2.1
          have g4 := J1.2.2.2.1
          have hs1 : s1 < 240 := by omega
          have eB : Run (kX12_sum (gMd i')) 5 [some (vR (some 147)), some (vI v), o2, o3, o4] [] (MS hm (nI d) p (-1)) = Run (kX12_sum (gMd i')) 5 [some (vR (some 147)), some (vI (wi (Int32.toInt64 v - Int32.toInt64 w))), some (vI 0), some (vL (Int32.toInt64 w)), none] [] (MS hm (nI d) p1 (-1)) := by
            rw [tX12_sum_5 (gMd_G i')]
            simp only [oB_some, dR_some, cond_true, cond_false, if_true, if_false, Bool.true_and, Bool.and_true, Nat.beq_refl, MS_K, hK_sI, M1, MS_11, ms_look M hpn, ms_look M hk, sk_sk, qb, show ¬ ((45 : Int32) = 43) by decide, show ¬ ((1 : Int32) = 0) by decide, MS_10, nI_1, MS_p, fB, within_sp]
          rw [fA, eB]
          simp only [oB_some, dR_some, cond_true, cond_false, if_true, if_false, Bool.true_and, Bool.and_true, Nat.beq_refl, CS_K, W1, cs_emit W hs1]
          exact ih p1 (s1 + 1) (up1 c1 s1 (-11)) _ (j + 1) _ _ _ _ (by omega) (J.bin (by omega) J1 hm1 hm2 isJn11 (fun h' => jn11 _ _ h')) (by omega) (by omega)
        · obtain ⟨s', c', hs', he⟩ := cs_emitF (p := p1) (w := w) (c := c1) (x := -11) W j1
          have eB : Run (kX12_sum (gMd i')) 5 [some (vR (some 147)), some (vI v), o2, o3, o4] [] (MS hm (nI d) p (-1)) = Run (kX12_sum (gMd i')) 5 [some (vR (some 147)), some (vI (wi (Int32.toInt64 v - Int32.toInt64 y))), some (vI 0), some (vL (Int32.toInt64 y)), none] [] (MS hm x p2 w) := by
            rw [tX12_sum_5 (gMd_G i')]
            simp only [oB_some, dR_some, cond_true, cond_false, if_true, if_false, Bool.true_and, Bool.and_true, Nat.beq_refl, MS_K, hK_sI, M1, MS_11, ms_look M hpn, ms_look M hk, sk_sk, qb, show ¬ ((45 : Int32) = 43) by decide, show ¬ ((1 : Int32) = 0) by decide, MS_10, nI_1, MS_p, fB, within_sp]
          rw [fA, eB]
          refine Or.inr ⟨w, s', c', p1, p2, x, wi (Int32.toInt64 v - Int32.toInt64 y), hw, hs', j2, j3, fun z => z.elim, ?_, ?_⟩
          · simp only [oB_some, dR_some, cond_true, cond_false, if_true, if_false, Bool.true_and, Bool.and_true, Nat.beq_refl, CS_K, W1, he]
            have e2 := nI_nle' (a := 240) (b := j + 1) (by omega) (by omega)
            have q2 : ¬ 240 ≤ j + 1 := by omega
            rw [tX2_readSum_7 (gRd_G (i + 2))]
            simp only [oB_some, dR_some, cond_true, cond_false, if_true, if_false, Bool.true_and, Bool.and_true, Nat.beq_refl, CS_K, CS_R, W1, W2, T1, show (240 : Int32) = nI 240 from rfl, e2, q2, cs_accept H (show p1 ≤ 240 by omega), hw]
          · rw [tX12_sum_5 (gMd_G i')]
            simp only [oB_some, dR_some, cond_true, cond_false, if_true, if_false, Bool.true_and, Bool.and_true, Nat.beq_refl, MS_K, M1, MS_11, hw]
      · refine Or.inl ⟨s, c, sk (hI h 2) n p, v, J.wide hk0 hk (Nat.le_refl _), fun z => z.elim, ?_, ?_⟩
        · rw [tX2_readSum_7 (gRd_G (i + 2))]
          simp only [oB_some, dR_some, cond_true, cond_false, if_true, if_false, Bool.true_and, Bool.and_true, Nat.beq_refl, CS_K, CS_R, W1, W2, T1, show (240 : Int32) = nI 240 from rfl, e1, q1, cs_accept H hp240, cs_accept H hq240, sk_sk, qa, qb]
        · rw [tX12_sum_5 (gMd_G i')]
          simp only [oB_some, dR_some, cond_true, cond_false, if_true, if_false, Bool.true_and, Bool.and_true, Nat.beq_refl, MS_K, M1, MS_11, ms_look M hpn, ms_look M hk, sk_sk, qa, qb]
theorem j_sum {h hm : Hp} {n T B : Nat} {L : Nat → Int32} (C : LC h hm n T B L) {d i i' m m' : Nat} (hd : d ≤ 6) (hm1 : m' + 1 ≤ m) (hm2 : 2 ≤ m)
    (AJ : ∀ (s : Nat) (c : Nat → Int32) (p : Nat), p ≤ n → s ≤ p → JO h hm n L p s c m' d False (gRd (i + 2) 4 [vR (some 135), vI (nI d)] (CS h s c p (-1))) (gMd i' 1 [vR (some 147)] (MS hm (nI d) p (-1))))
    (s : Nat) (c : Nat → Int32) (p : Nat) (hp : p ≤ n) (hs : s ≤ p) : JO h hm n L p s c m d False (gRd (i + 2 + 1) 3 [vR (some 135), vI (nI d)] (CS h s c p (-1))) (gMd (i' + 1) 2 [vR (some 147)] (MS hm (nI d) p (-1))) := by
  obtain ⟨H, W, P, M, _, _⟩ := id C
  have hn := H.2.2
  have T1 := H.1.1
  have W1 := W.1
  have W2 := W.2.1
  have M1 := M.1.1.1
  have eA : gRd (i + 2 + 1) 3 [vR (some 135), vI (nI d)] (CS h s c p (-1)) = oB (gRd (i + 2) 4 [vR (some 135), vI (nI d)] (CS h s c p (-1))) (fun r1 h2 => Run (kX2_readSum (gRd (i + 2))) 7 [some (vR (some 135)), some (vI (nI d)), some (vI (nI 0)), none] [] h2) := by
    show Fm (kX2_readSum (gRd (i + 2))) 4 [vR (some 135), vI (nI d)] (CS h s c p (-1)) = _
    rw [tX2_readSum (gRd_G (i + 2))]
    simp only [oB_some, dR_some, cond_true, cond_false, if_true, if_false, Bool.true_and, Bool.and_true, Nat.beq_refl, CS_K, W1, nI_0]
  have eB : gMd (i' + 1) 2 [vR (some 147)] (MS hm (nI d) p (-1)) = oB (gMd i' 1 [vR (some 147)] (MS hm (nI d) p (-1))) (fun r1 h2 => Run (kX12_sum (gMd i')) 5 [some (vR (some 147)), some (vI r1.1), none, none, none] [] h2) := by
    show Fm (kX12_sum (gMd i')) 5 [vR (some 147)] (MS hm (nI d) p (-1)) = _
    rw [tX12_sum (gMd_G i')]
    simp only [oB_some, dR_some, cond_true, cond_false, if_true, if_false, Bool.true_and, Bool.and_true, Nat.beq_refl, MS_K, M1]
  rw [eA, eB]
  rcases AJ s c p hp hs with ⟨s1, c1, p1, w, J1, _, fA, fB⟩ | ⟨w, s1, c1, p1, p2, x, y, hw, j1, j2, j3, _, fA, fB⟩
  · rw [fA, fB]
    have g1 := J1.1
    have g4 := J1.2.2.2.1
    exact j_sum_loop C hd hm1 hm2 AJ p s c (n - p1) p1 s1 c1 w 0 none none none none (Nat.le_refl _) (J1.wide (Nat.le_refl _) J1.2.1 (by omega)) (by omega) (by omega)
  · rw [fA, fB]
    refine Or.inr ⟨w, s1, c1, p1, p2, x, y, hw, j1, j2, j3, fun z => z.elim, ?_, ?_⟩
    · simp only [oB_some, dR_some, cond_true, cond_false, if_true, if_false, Bool.true_and, Bool.and_true, Nat.beq_refl]
      rw [tX2_readSum_7 (gRd_G (i + 2))]
      simp only [oB_some, dR_some, cond_true, cond_false, if_true, if_false, Bool.true_and, Bool.and_true, Nat.beq_refl, CS_K, CS_R, W1, W2, T1, show ¬ ((240 : Int32) ≤ nI 0) by decide, cs_accept H (show p1 ≤ 240 by omega), hw]
    · simp only [oB_some, dR_some, cond_true, cond_false, if_true, if_false, Bool.true_and, Bool.and_true, Nat.beq_refl]
      rw [tX12_sum_5 (gMd_G i')]
      simp only [oB_some, dR_some, cond_true, cond_false, if_true, if_false, Bool.true_and, Bool.and_true, Nat.beq_refl, MS_K, M1, MS_11, hw]
