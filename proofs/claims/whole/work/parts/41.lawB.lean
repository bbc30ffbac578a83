/-! ===== PURE: the class's reader of laws behind a fault: it changes nothing that counts ===== -/
theorem cf_atom {h : Hp} {n : Nat} {w : Int32} (H : HT h n) (W : LwL h) (P : PL h) (hw : w ≠ -1) (i s p d : Nat) (c : Nat → Int32) (hs : s ≤ 240) (hp : p ≤ n) (hd : d ≤ 6) : ∃ s' c' p', s' ≤ 240 ∧ p' ≤ n ∧ gRd (i + 1) 5 [vR (some 135), vI (nI d)] (CS h s c p w) = some (rV, CS h s' c' p' w) := by
  have hn := H.2.2
  have T1 := H.1.1
  have W1 := W.1
  have W2 := W.2.1
  have hk := (sk_le (t := hI h 2) (n := n) p).2 hp
  show ∃ s' c' p', s' ≤ 240 ∧ p' ≤ n ∧ Fm (kX2_readAtom (gRd i)) 4 [vR (some 135), vI (nI d)] (CS h s c p w) = some (rV, CS h s' c' p' w)
  rw [tX2_readAtom (gRd_G i)]
  by_cases q : lt6 (chT (hI h 2) n (sk (hI h 2) n p)) = -1
  · by_cases q2 : chT (hI h 2) n (sk (hI h 2) n p) = 91
    · have q' : lt6 91 = -1 := by rw [← q2]; exact q
      refine ⟨s, c, sk (hI h 2) n p, hs, hk, ?_⟩
      simp only [oB_some, dR_some, cond_true, cond_false, if_true, if_false, Bool.true_and, Bool.and_true, Nat.beq_refl, CS_K, CS_R, W1, W2, T1, cs_peek H (show p ≤ 240 by omega), cs_letter P, q', q2, cs_opens H W hd (show sk (hI h 2) n p < 2 ^ 31 by omega), hw]
    · obtain ⟨s', c', hs', he⟩ := cs_emitF (p := sk (hI h 2) n p) (w := w) (c := c) (x := 0) W hs
      refine ⟨s', c', sk (hI h 2) n p, hs', hk, ?_⟩
      have hN := (cs_number (s := s) (c := c) (lo := 0) (hi := 9999) (k := 4) H hk (by decide)).2.2 hw
      simp only [oB_some, dR_some, cond_true, cond_false, if_true, if_false, Bool.true_and, Bool.and_true, Nat.beq_refl, CS_K, CS_R, W1, W2, T1, cs_peek H (show p ≤ 240 by omega), cs_letter P, q, q2, show (4 : Int32) = nI 4 from rfl, hN, he]
  · obtain ⟨s', c', hs', he⟩ := cs_emitF (p := sk (hI h 2) n p) (w := w) (c := c) (x := -1 - lt6 (chT (hI h 2) n (sk (hI h 2) n p))) W hs
    refine ⟨s', c', sk (hI h 2) n p, hs', hk, ?_⟩
    simp only [oB_some, dR_some, cond_true, cond_false, if_true, if_false, Bool.true_and, Bool.and_true, Nat.beq_refl, CS_K, CS_R, W1, W2, T1, cs_peek H (show p ≤ 240 by omega), cs_letter P, q, cs_skip H, hw, he]
theorem cf_term {h : Hp} {n : Nat} {w : Int32} (H : HT h n) (W : LwL h) (P : PL h) (hw : w ≠ -1) (i s p d : Nat) (c : Nat → Int32) (hs : s ≤ 240) (hp : p ≤ n) (hd : d ≤ 6) : ∃ s' c' p', s' ≤ 240 ∧ p' ≤ n ∧ gRd (i + 2) 4 [vR (some 135), vI (nI d)] (CS h s c p w) = some (rV, CS h s' c' p' w) := by
  have hn := H.2.2
  obtain ⟨s', c', p', h1, h2, he⟩ := cf_atom H W P hw i s p d c hs hp hd
  refine ⟨s', c', p', h1, h2, ?_⟩
  show Fm (kX2_readTerm (gRd (i + 1))) 4 [vR (some 135), vI (nI d)] (CS h s c p w) = _
  rw [tX2_readTerm (gRd_G (i + 1))]
  simp only [oB_some, dR_some, cond_true, cond_false, if_true, if_false, Bool.true_and, Bool.and_true, Nat.beq_refl, CS_K, W.1, he]
  rw [tX2_readTerm_7 (gRd_G (i + 1))]
  simp only [oB_some, dR_some, cond_true, cond_false, if_true, if_false, Bool.true_and, Bool.and_true, Nat.beq_refl, CS_K, CS_R, W.1, W.2.1, H.1.1, show ¬ ((240 : Int32) ≤ 0) by decide, cs_accept H (show p' ≤ 240 by omega), hw]
theorem cf_sum {h : Hp} {n : Nat} {w : Int32} (H : HT h n) (W : LwL h) (P : PL h) (hw : w ≠ -1) (i s p d : Nat) (c : Nat → Int32) (hs : s ≤ 240) (hp : p ≤ n) (hd : d ≤ 6) : ∃ s' c' p', s' ≤ 240 ∧ p' ≤ n ∧ gRd (i + 3) 3 [vR (some 135), vI (nI d)] (CS h s c p w) = some (rV, CS h s' c' p' w) := by
  have hn := H.2.2
  obtain ⟨s', c', p', h1, h2, he⟩ := cf_term H W P hw i s p d c hs hp hd
  refine ⟨s', c', p', h1, h2, ?_⟩
  show Fm (kX2_readSum (gRd (i + 2))) 4 [vR (some 135), vI (nI d)] (CS h s c p w) = _
  rw [tX2_readSum (gRd_G (i + 2))]
  simp only [oB_some, dR_some, cond_true, cond_false, if_true, if_false, Bool.true_and, Bool.and_true, Nat.beq_refl, CS_K, W.1, he]
  rw [tX2_readSum_7 (gRd_G (i + 2))]
  simp only [oB_some, dR_some, cond_true, cond_false, if_true, if_false, Bool.true_and, Bool.and_true, Nat.beq_refl, CS_K, CS_R, W.1, W.2.1, H.1.1, show ¬ ((240 : Int32) ≤ 0) by decide, cs_accept H (show p' ≤ 240 by omega), hw]
theorem cf_cmp {h : Hp} {n : Nat} {w : Int32} (H : HT h n) (W : LwL h) (hw : w ≠ -1) (i s p d : Nat) (c : Nat → Int32) (hp : p ≤ n) {o3 o4 : Option EV} {x : Int32} (hx : x ≠ 0) : ∃ p', p' ≤ n ∧ Run (kX2_readUnit (gRd i)) 77 [some (vR (some 135)), some (vI (nI d)), some (vI x), o3, o4] [] (CS h s c p w) = some (rV, CS h s c p' w) := by
  have hn := H.2.2
  have hk := (sk_le (t := hI h 2) (n := n) p).2 hp
  refine ⟨sk (hI h 2) n p, hk, ?_⟩
  rw [tX2_readUnit_77 (gRd_G i)]
  by_cases q : cmp3 (chT (hI h 2) n (sk (hI h 2) n p)) = -1
  · simp only [oB_some, dR_some, cond_true, cond_false, if_true, if_false, Bool.true_and, Bool.and_true, Nat.beq_refl, CS_K, CS_R, W.1, W.2.1, H.1.1, hx, cs_peek H (show p ≤ 240 by omega), comparison_sp, q, cs_refuse H, hw]
  · simp only [oB_some, dR_some, cond_true, cond_false, if_true, if_false, Bool.true_and, Bool.and_true, Nat.beq_refl, CS_K, CS_R, W.1, W.2.1, H.1.1, hx, cs_peek H (show p ≤ 240 by omega), comparison_sp, q, cs_skip H, hw]
theorem cf_unit {h : Hp} {n : Nat} {w : Int32} (H : HT h n) (W : LwL h) (P : PL h) (hw : w ≠ -1) (i s p d : Nat) (c : Nat → Int32) (hs : s ≤ 240) (hp : p ≤ n) (hd : d ≤ 6) (b : Int32) : ∃ s' c' p', s' ≤ 240 ∧ p' ≤ n ∧ gRd (i + 4) 2 [vR (some 135), vI (nI d), vI b] (CS h s c p w) = some (rV, CS h s' c' p' w) := by
  have hn := H.2.2
  have hk := (sk_le (t := hI h 2) (n := n) p).2 hp
  have hk2 : sk (hI h 2) n p < 2 ^ 31 := by omega
  show ∃ s' c' p', s' ≤ 240 ∧ p' ≤ n ∧ Fm (kX2_readUnit (gRd (i + 3))) 5 [vR (some 135), vI (nI d), vI b] (CS h s c p w) = some (rV, CS h s' c' p' w)
  rw [tX2_readUnit (gRd_G (i + 3))]
  by_cases hb : b = 0
  · subst hb
    by_cases q1 : chT (hI h 2) n (sk (hI h 2) n p) = 33
    · refine ⟨s, c, sk (hI h 2) n p, hs, hk, ?_⟩
      simp only [oB_some, dR_some, cond_true, cond_false, if_true, if_false, Bool.true_and, Bool.and_true, Nat.beq_refl, CS_K, CS_R, W.1, W.2.1, H.1.1, cs_peek H (show p ≤ 240 by omega), q1, cs_opens H W hd hk2, hw]
    by_cases q2 : chT (hI h 2) n (sk (hI h 2) n p) = 40
    · refine ⟨s, c, sk (hI h 2) n p, hs, hk, ?_⟩
      have q3 : ¬ ((40 : Int32) = 33) := by decide
      simp only [oB_some, dR_some, cond_true, cond_false, if_true, if_false, Bool.true_and, Bool.and_true, Nat.beq_refl, CS_K, CS_R, W.1, W.2.1, H.1.1, cs_peek H (show p ≤ 240 by omega), q2, q3, cs_opens H W hd hk2, hw]
    obtain ⟨s', c', p', h1, h2, he⟩ := cf_sum H W P hw i s (sk (hI h 2) n p) d c hs hk hd
    have hk' := (sk_le (t := hI h 2) (n := n) p').2 h2
    refine ⟨s', c', sk (hI h 2) n p', h1, hk', ?_⟩
    simp only [oB_some, dR_some, cond_true, cond_false, if_true, if_false, Bool.true_and, Bool.and_true, Nat.beq_refl, CS_K, CS_R, W.1, W.2.1, H.1.1, cs_peek H (show p ≤ 240 by omega), q1, q2]
    rw [tX2_readUnit_77 (gRd_G (i + 3))]
    by_cases q : cmp3 (chT (hI h 2) n (sk (hI h 2) n p')) = -1
    · simp only [oB_some, dR_some, cond_true, cond_false, if_true, if_false, Bool.true_and, Bool.and_true, Nat.beq_refl, CS_K, CS_R, W.1, W.2.1, H.1.1, he, cs_peek H (show p' ≤ 240 by omega), comparison_sp, q, cs_refuse H, hw]
    · simp only [oB_some, dR_some, cond_true, cond_false, if_true, if_false, Bool.true_and, Bool.and_true, Nat.beq_refl, CS_K, CS_R, W.1, W.2.1, H.1.1, he, cs_peek H (show p' ≤ 240 by omega), comparison_sp, q, cs_skip H, hw]
  · obtain ⟨p', h2, he⟩ := cf_cmp (o3 := some (vI (chT (hI h 2) n (sk (hI h 2) n p)))) (o4 := none) H W hw (i + 3) s (sk (hI h 2) n p) d c hk hb
    refine ⟨s, c, p', hs, h2, ?_⟩
    simp only [oB_some, dR_some, cond_true, cond_false, if_true, if_false, Bool.true_and, Bool.and_true, Nat.beq_refl, CS_K, CS_R, W.1, W.2.1, H.1.1, cs_peek H (show p ≤ 240 by omega), hb, he]
theorem cf_truth {h : Hp} {n : Nat} {w : Int32} (H : HT h n) (W : LwL h) (P : PL h) (hw : w ≠ -1) (i s p d : Nat) (c : Nat → Int32) (hs : s ≤ 240) (hp : p ≤ n) (hd : d ≤ 6) (b : Int32) : ∃ s' c' p', s' ≤ 240 ∧ p' ≤ n ∧ gRd (i + 5) 1 [vR (some 135), vI (nI d), vI b] (CS h s c p w) = some (rV, CS h s' c' p' w) := by
  have hn := H.2.2
  obtain ⟨s', c', p', h1, h2, he⟩ := cf_unit H W P hw i s p d c hs hp hd b
  refine ⟨s', c', p', h1, h2, ?_⟩
  show Fm (kX2_readTruth (gRd (i + 4))) 4 [vR (some 135), vI (nI d), vI b] (CS h s c p w) = _
  rw [tX2_readTruth (gRd_G (i + 4))]
  simp only [oB_some, dR_some, cond_true, cond_false, if_true, if_false, Bool.true_and, Bool.and_true, Nat.beq_refl, CS_K, W.1, he]
  rw [tX2_readTruth_8 (gRd_G (i + 4))]
  simp only [oB_some, dR_some, cond_true, cond_false, if_true, if_false, Bool.true_and, Bool.and_true, Nat.beq_refl, CS_K, CS_R, W.1, W.2.1, H.1.1, show ¬ ((240 : Int32) ≤ 0) by decide, cs_accept H (show p' ≤ 240 by omega), hw]
theorem cf_cond {h : Hp} {n : Nat} {w : Int32} (H : HT h n) (W : LwL h) (P : PL h) (hw : w ≠ -1) (i s p d : Nat) (c : Nat → Int32) (hs : s ≤ 240) (hp : p ≤ n) (hd : d ≤ 6) (b : Int32) : ∃ s' c' p', s' ≤ 240 ∧ p' ≤ n ∧ gRd (i + 6) 0 [vR (some 135), vI (nI d), vI b] (CS h s c p w) = some (rV, CS h s' c' p' w) := by
  have hn := H.2.2
  obtain ⟨s', c', p', h1, h2, he⟩ := cf_truth H W P hw i s p d c hs hp hd b
  refine ⟨s', c', p', h1, h2, ?_⟩
  show Fm (kX2_readCondition (gRd (i + 5))) 4 [vR (some 135), vI (nI d), vI b] (CS h s c p w) = _
  rw [tX2_readCondition (gRd_G (i + 5))]
  simp only [oB_some, dR_some, cond_true, cond_false, if_true, if_false, Bool.true_and, Bool.and_true, Nat.beq_refl, CS_K, W.1, he]
  rw [tX2_readCondition_8 (gRd_G (i + 5))]
  simp only [oB_some, dR_some, cond_true, cond_false, if_true, if_false, Bool.true_and, Bool.and_true, Nat.beq_refl, CS_K, CS_R, W.1, W.2.1, H.1.1, show ¬ ((240 : Int32) ≤ 0) by decide, cs_accept H (show p' ≤ 240 by omega), hw]
