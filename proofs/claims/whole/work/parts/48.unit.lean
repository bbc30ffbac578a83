/-! ===== PURE: units; conditions and sums of all depths, by both readers ===== -/
theorem cmp3_in {x : Int32} (hx : cmp3 x ≠ -1) : (x = 60 ∧ cmp3 x = -15) ∨ (x = 61 ∧ cmp3 x = -14) ∨ (x = 62 ∧ cmp3 x = -16) := by
  unfold cmp3 at hx ⊢
  by_cases q0 : x = 60
  · subst q0; exact Or.inl ⟨rfl, rfl⟩
  by_cases q1 : x = 61
  · subst q1; exact Or.inr (Or.inl ⟨rfl, rfl⟩)
  by_cases q2 : x = 62
  · subst q2; exact Or.inr (Or.inr ⟨rfl, rfl⟩)
  simp only [q0, q1, q2, if_false] at hx
  exact absurd rfl hx
theorem cmp3_m1 : cmp3 (-1) = -1 := by decide
def cv (x v w : Int32) : Int32 := if x = 61 then (if v = w then 1 else 0) else if x = 60 then (if w ≤ v then 0 else 1) else (if v ≤ w then 0 else 1)
theorem cv_01 (x v w : Int32) : cv x v w = 0 ∨ cv x v w = 1 := by
  unfold cv
  by_cases q1 : x = 61
  · rw [if_pos q1]; by_cases z : v = w
    · rw [if_pos z]; exact Or.inr rfl
    · rw [if_neg z]; exact Or.inl rfl
  · rw [if_neg q1]; by_cases q2 : x = 60
    · rw [if_pos q2]; by_cases z : w ≤ v
      · rw [if_pos z]; exact Or.inl rfl
      · rw [if_neg z]; exact Or.inr rfl
    · rw [if_neg q2]; by_cases z : v ≤ w
      · rw [if_pos z]; exact Or.inl rfl
      · rw [if_neg z]; exact Or.inr rfl
theorem cmp3_jn {x : Int32} (hx : cmp3 x ≠ -1) (v w : Int32) (h' : Hp) : isJn (cmp3 x) ∧ FX1_joined [vI (cmp3 x), vL v.toInt64, vL w.toInt64] h' = some (rI (cv x v w), h') := by
  rcases cmp3_in hx with ⟨e, f⟩ | ⟨e, f⟩ | ⟨e, f⟩ <;> rw [f] <;> subst e
  · exact ⟨isJn15, jn15 v w h'⟩
  · exact ⟨isJn14, jn14 v w h'⟩
  · exact ⟨isJn16, jn16 v w h'⟩
theorem isZ_01 {v : Int32} (h : v = 0 ∨ v = 1) : isZ v = true := by rcases h with z | z <;> subst z <;> decide
/-- the first sum was read: its sign, and the other -/
theorem j_begun {h hm : Hp} {n T B : Nat} {L : Nat → Int32} (C : LC h hm n T B L) {d i i' m m' : Nat} (hd : d ≤ 6) (hm1 : m' + 1 ≤ m) (hm2 : 2 ≤ m)
    (SJ : ∀ (s : Nat) (c : Nat → Int32) (p : Nat), p ≤ n → s ≤ p → JO h hm n L p s c m' d False (gRd i 3 [vR (some 135), vI (nI d)] (CS h s c p (-1))) (gMd i' 2 [vR (some 147)] (MS hm (nI d) p (-1))))
    {p0 s0 p s : Nat} {c0 c : Nat → Int32} {v b : Int32} {o3 o4 : Option EV} (hb : ¬ b = 0) (J : JR n L p0 s0 c0 m p s c v) (hs : s ≤ p) :
    JO h hm n L p0 s0 c0 m d True (Run (kX2_readUnit (gRd i)) 77 [some (vR (some 135)), some (vI (nI d)), some (vI b), o3, o4] [] (CS h s c p (-1))) (Fm (kX12_compares (gMd i')) 6 [vR (some 147), vI 1, vI v] (MS hm (nI d) p (-1))) := by
  obtain ⟨H, W, P, M, _, _⟩ := id C
  have hn := H.2.2
  have T1 := H.1.1
  have W1 := W.1
  have W2 := W.2.1
  have M1 := M.1.1.1
  have hpn := J.2.1
  have hk0 := (sk_le (t := hI h 2) (n := n) p).1
  have hk := (sk_le (t := hI h 2) (n := n) p).2 hpn
  have hp240 : p ≤ 240 := by omega
  by_cases q : cmp3 (chT (hI h 2) n (sk (hI h 2) n p)) = -1
  · refine Or.inr ⟨nI (sk (hI h 2) n p), s, c, sk (hI h 2) n p, sk (hI h 2) n p, nI d, 0, nI_nm1 (by omega), by omega, hk, hk, fun _ => Or.inl rfl, ?_, ?_⟩
    · rw [tX2_readUnit_77 (gRd_G i)]
      simp only [oB_some, dR_some, cond_true, cond_false, if_true, if_false, Bool.true_and, Bool.and_true, Nat.beq_refl, CS_K, CS_R, W1, W2, T1, hb, cs_peek H hp240, comparison_sp, q, cs_refuse H]
    · rw [tX12_compares (gMd_G i')]
      simp only [oB_some, dR_some, cond_true, cond_false, if_true, if_false, Bool.true_and, Bool.and_true, Nat.beq_refl, MS_K, M1, MS_11, show ¬ ((1 : Int32) = 0) by decide, ms_look M hpn, issign_sp, q, ms_fails M1, isZ0]
  · have hq : sk (hI h 2) n p < n := by
      refine Classical.byContradiction fun z => q ?_
      rw [show chT (hI h 2) n (sk (hI h 2) n p) = -1 from if_neg z, cmp3_m1]
    have eA : Run (kX2_readUnit (gRd i)) 77 [some (vR (some 135)), some (vI (nI d)), some (vI b), o3, o4] [] (CS h s c p (-1)) = oB (gRd i 3 [vR (some 135), vI (nI d)] (CS h s c (sk (hI h 2) n p + 1) (-1))) (fun r29 h30 => bif Nat.beq (hK h30 135) 2 && true then oB (FX2_emit [vR (some 135), vI (cmp3 (chT (hI h 2) n (sk (hI h 2) n p)))] h30) (fun r31 h32 => some (rV, h32)) else none) := by
      rw [tX2_readUnit_77 (gRd_G i)]
      simp only [oB_some, dR_some, cond_true, cond_false, if_true, if_false, Bool.true_and, Bool.and_true, Nat.beq_refl, CS_K, CS_R, W1, W2, T1, hb, cs_peek H hp240, comparison_sp, q, cs_skip H, show ¬ ((1 : Int32) = 0) by decide]
    have eB : ∀ (w : Int32) (x : Int32) (p' : Nat) (wr : Int32), gMd i' 2 [vR (some 147)] (MS hm (nI d) (sk (hI h 2) n p + 1) (-1)) = some (rI w, MS hm x p' wr) → Fm (kX12_compares (gMd i')) 6 [vR (some 147), vI 1, vI v] (MS hm (nI d) p (-1)) = some (rI (cv (chT (hI h 2) n (sk (hI h 2) n p)) v w), MS hm x p' wr) := by
      intro w x p' wr fB
      rw [tX12_compares (gMd_G i')]
      simp only [oB_some, dR_some, cond_true, cond_false, if_true, if_false, Bool.true_and, Bool.and_true, Nat.beq_refl, MS_K, hK_sI, M1, MS_11, show ¬ ((1 : Int32) = 0) by decide, ms_look M hpn, issign_sp, q, MS_10, nI_1, MS_p, fB, isZ0, isZ1]
      unfold cv
      by_cases z1 : chT (hI h 2) n (sk (hI h 2) n p) = 61
      · by_cases z : v = w <;> simp only [z1, z, if_true, if_false]
      · by_cases z2 : chT (hI h 2) n (sk (hI h 2) n p) = 60
        · have z3 : ¬ ((60 : Int32) = 61) := by decide
          by_cases z : w ≤ v <;> simp only [z2, z3, z, if_true, if_false]
        · by_cases z : v ≤ w <;> simp only [z1, z2, z, if_true, if_false]
    rw [eA]
    rcases SJ s c (sk (hI h 2) n p + 1) (by omega) (by omega) with ⟨s1, c1, p1, w, J1, _, fA, fB⟩ | ⟨w, s1, c1, p1, p2, x, y, hw, j1, j2, j3, _, fA, fB⟩
    · have g1 := J1.1
      have g2 := J1.2.1
      have g4 := J1.2.2.2.1
      rw [eB _ _ _ _ fB, fA]
      refine Or.inl ⟨s1 + 1, up1 c1 s1 (cmp3 (chT (hI h 2) n (sk (hI h 2) n p))), p1, cv (chT (hI h 2) n (sk (hI h 2) n p)) v w, ?_, fun _ => cv_01 _ _ _, ?_, rfl⟩
      · exact J.bin (by omega) J1 hm1 hm2 (cmp3_jn q v w hm).1 (fun h' => (cmp3_jn q v w h').2)
      · simp only [oB_some, dR_some, cond_true, cond_false, if_true, if_false, Bool.true_and, Bool.and_true, Nat.beq_refl, CS_K, W1, cs_emit W (show s1 < 240 by omega)]
    · obtain ⟨s', c', hs', he⟩ := cs_emitF (p := p1) (w := w) (c := c1) (x := cmp3 (chT (hI h 2) n (sk (hI h 2) n p))) W j1
      rw [eB _ _ _ _ fB, fA]
      refine Or.inr ⟨w, s', c', p1, p2, x, cv (chT (hI h 2) n (sk (hI h 2) n p)) v y, hw, hs', j2, j3, fun _ => cv_01 _ _ _, ?_, rfl⟩
      simp only [oB_some, dR_some, cond_true, cond_false, if_true, if_false, Bool.true_and, Bool.and_true, Nat.beq_refl, CS_K, W1, he]
theorem unit_two {h : Hp} {i d : Nat} {o3 o4 : Option EV} (hK2 : hK h 135 = 2) : Run (kX2_readUnit (gRd i)) 77 [some (vR (some 135)), some (vI (nI d)), some (vI 0), o3, o4] [] h = oB (gRd i 3 [vR (some 135), vI (nI d)] h) (fun r1 h2 => Run (kX2_readUnit (gRd i)) 77 [some (vR (some 135)), some (vI (nI d)), some (vI 1), none, none] [] h2) := by
  rw [tX2_readUnit_77 (gRd_G i)]
  simp only [hK2, Nat.beq_refl, Bool.and_true, cond_true, if_true]
  congr 1
  funext r1 h2
  rw [tX2_readUnit_77 (gRd_G i)]
  simp only [show ¬ ((1 : Int32) = 0) by decide, if_false, Bool.and_true]
theorem cmp_two {h : Hp} {i' : Nat} {y : Int32} (hK12 : hK h 147 = 12) : Fm (kX12_compares (gMd i')) 6 [vR (some 147), vI 0, vI y] h = oB (gMd i' 2 [vR (some 147)] h) (fun r1 h2 => Fm (kX12_compares (gMd i')) 6 [vR (some 147), vI 1, vI r1.1] h2) := by
  rw [tX12_compares (gMd_G i')]
  simp only [hK12, Nat.beq_refl, Bool.and_true, cond_true, if_true]
  congr 1
  funext r1 h2
  rw [tX12_compares (gMd_G i')]
  simp only [show ¬ ((1 : Int32) = 0) by decide, if_false, Bool.and_true]
/-- two sums and a sign -/
theorem j_cmp {h hm : Hp} {n T B : Nat} {L : Nat → Int32} (C : LC h hm n T B L) {d i i' m m' : Nat} (hd : d ≤ 6) (hm1 : m' + 1 ≤ m) (hm2 : 2 ≤ m)
    (SJ : ∀ (s : Nat) (c : Nat → Int32) (p : Nat), p ≤ n → s ≤ p → JO h hm n L p s c m' d False (gRd i 3 [vR (some 135), vI (nI d)] (CS h s c p (-1))) (gMd i' 2 [vR (some 147)] (MS hm (nI d) p (-1))))
    {p s : Nat} {c : Nat → Int32} {o3 o4 : Option EV} (hp : p ≤ n) (hs : s ≤ p) :
    JO h hm n L p s c m d True (Run (kX2_readUnit (gRd i)) 77 [some (vR (some 135)), some (vI (nI d)), some (vI 0), o3, o4] [] (CS h s c p (-1))) (Fm (kX12_compares (gMd i')) 6 [vR (some 147), vI 0, vI 0] (MS hm (nI d) p (-1))) := by
  obtain ⟨H, W, P, M, _, _⟩ := id C
  have hn := H.2.2
  rw [unit_two (h := CS h s c p (-1)) W.1, cmp_two (h := MS hm (nI d) p (-1)) M.1.1.1]
  rcases SJ s c p hp hs with ⟨s1, c1, p1, w, J1, _, fA, fB⟩ | ⟨w, s1, c1, p1, p2, x, y, hw, j1, j2, j3, _, fA, fB⟩
  · rw [fA, fB]
    have g1 := J1.1
    have g4 := J1.2.2.2.1
    exact j_begun C hd hm1 hm2 SJ (by decide) (J1.wide (Nat.le_refl _) J1.2.1 (by omega)) (by omega)
  · rw [fA, fB]
    obtain ⟨p3, h3, he⟩ := cf_cmp (o3 := none) (o4 := none) (x := 1) H W hw i s1 p1 d c1 j2 (by decide)
    refine Or.inr ⟨w, s1, c1, p3, p2, x, 0, hw, j1, h3, j3, fun _ => Or.inl rfl, he, ?_⟩
    simp only [oB_some, dR_some, cond_true, cond_false, if_true, if_false, Bool.true_and, Bool.and_true, Nat.beq_refl]
    rw [tX12_compares (gMd_G i')]
    simp only [oB_some, dR_some, cond_true, cond_false, if_true, if_false, Bool.true_and, Bool.and_true, Nat.beq_refl, MS_K, M.1.1.1, MS_11, hw, show ¬ ((1 : Int32) = 0) by decide, isZ0]
theorem JR.not {n : Nat} {L c0 c : Nat → Int32} {p0 s0 m p s : Nat} {v : Int32} (A : JR n L p0 s0 c0 m p s c v) (hm : 1 ≤ m) {q : Nat} (hq : q < p0) : JR n L q s0 c0 m p (s + 1) (up1 c s (-19)) (1 - v) := by
  obtain ⟨a1, a2, a3, a4, a5, a6, a7⟩ := A
  refine ⟨by omega, a2, by omega, by omega, fun r z => ?_, fun r z1 z2 => ?_, ?_⟩
  · rw [up1_o _ _ (by omega)]; exact a5 r z
  · by_cases e : r = s
    · rw [e, up1_s]; decide
    · rw [up1_o _ _ e]; exact a6 r z1 (by omega)
  · exact PU.not (a7.ext (fun r z1 z2 => up1_o _ _ (by omega))) hm (up1_s _ _ _)
theorem flip_01 {v : Int32} (h : v = 0 ∨ v = 1) : (if v = 0 then (1 : Int32) else 0) = 1 - v := by rcases h with z | z <;> subst z <;> decide
theorem j_unit {h hm : Hp} {n T B : Nat} {L : Nat → Int32} (C : LC h hm n T B L) {k d i i' m m' : Nat} (hd : d + k = 6) (hm1 : m' + 1 ≤ m) (hm2 : 2 ≤ m)
    (SJ : ∀ (s : Nat) (c : Nat → Int32) (p : Nat), p ≤ n → s ≤ p → JO h hm n L p s c m' d False (gRd i 3 [vR (some 135), vI (nI d)] (CS h s c p (-1))) (gMd i' 2 [vR (some 147)] (MS hm (nI d) p (-1))))
    (UJ : 0 < k → ∀ (s : Nat) (c : Nat → Int32) (p : Nat), p ≤ n → s ≤ p → JO h hm n L p s c m (d + 1) True (gRd i 2 [vR (some 135), vI (nI (d + 1)), vI 0] (CS h s c p (-1))) (gMd (i' + 1) 4 [vR (some 147)] (MS hm (nI (d + 1)) p (-1))))
    (CJ : 0 < k → ∀ (s : Nat) (c : Nat → Int32) (p : Nat), p ≤ n → s ≤ p → JO h hm n L p s c m (d + 1) True (gRd i 0 [vR (some 135), vI (nI (d + 1)), vI 0] (CS h s c p (-1))) (gMd (i' + 1) 6 [vR (some 147), vI 0, vI 0] (MS hm (nI (d + 1)) p (-1))))
    (s : Nat) (c : Nat → Int32) (p : Nat) (hp : p ≤ n) (hs : s ≤ p) : JO h hm n L p s c m d True (gRd (i + 1) 2 [vR (some 135), vI (nI d), vI 0] (CS h s c p (-1))) (gMd (i' + 2) 4 [vR (some 147)] (MS hm (nI d) p (-1))) := by
  obtain ⟨H, W, P, M, _, _⟩ := id C
  have hn := H.2.2
  have T1 := H.1.1
  have W1 := W.1
  have W2 := W.2.1
  have M1 := M.1.1.1
  have hk0 := (sk_le (t := hI h 2) (n := n) p).1
  have hk := (sk_le (t := hI h 2) (n := n) p).2 hp
  have hp240 : p ≤ 240 := by omega
  have hq31 : sk (hI h 2) n p < 2 ^ 31 := by omega
  have nq : nI (sk (hI h 2) n p) ≠ -1 := nI_nm1 hq31
  show JO h hm n L p s c m d True (Fm (kX2_readUnit (gRd i)) 5 [vR (some 135), vI (nI d), vI 0] (CS h s c p (-1))) (Fm (kX12_unit (gMd (i' + 1))) 3 [vR (some 147)] (MS hm (nI d) p (-1)))
  by_cases qa : chT (hI h 2) n (sk (hI h 2) n p) = 33
  · have hq := ch_lt qa (by decide)
    by_cases q6 : d < 6
    · have eA : Fm (kX2_readUnit (gRd i)) 5 [vR (some 135), vI (nI d), vI 0] (CS h s c p (-1)) = oB (gRd i 2 [vR (some 135), vI (nI (d + 1)), vI 0] (CS h s c (sk (hI h 2) n p + 1) (-1))) (fun r6 h7 => bif Nat.beq (hK h7 135) 2 && true then oB (FX2_emit [vR (some 135), vI (-19)] h7) (fun r8 h9 => some (rV, h9)) else none) := by
        rw [tX2_readUnit (gRd_G i)]
        simp only [oB_some, dR_some, cond_true, cond_false, if_true, if_false, Bool.true_and, Bool.and_true, Nat.beq_refl, CS_K, CS_R, W1, W2, T1, cs_peek H hp240, qa, cs_opens H W (show d ≤ 6 by omega) hq31, q6, show ¬ ((1 : Int32) = 0) by decide, nI_1]
      have eB : Fm (kX12_unit (gMd (i' + 1))) 3 [vR (some 147)] (MS hm (nI d) p (-1)) = oB (gMd (i' + 1) 4 [vR (some 147)] (MS hm (nI (d + 1)) (sk (hI h 2) n p + 1) (-1))) (fun r5 h6 => if hK h6 147 = 12 then if hK h6 147 = 12 then oB (some (rV, sI h6 147 12 ((hI h6 147 12) - 1))) (fun _ h7 => if r5.1 = 0 then (bif isZ 1 then some (rI 1, h7) else none) else (bif isZ 0 then some (rI 0, h7) else none)) else none else none) := by
        rw [tX12_unit (gMd_G (i' + 1))]
        simp only [oB_some, dR_some, cond_true, cond_false, if_true, if_false, Bool.true_and, Bool.and_true, Nat.beq_refl, MS_K, M1, ms_look M hp, qa, ms_goesIn M1 (show d ≤ 6 by omega), q6, show ¬ ((1 : Int32) = 0) by decide]
      rw [eA, eB]
      rcases UJ (by omega) s c (sk (hI h 2) n p + 1) (by omega) (by omega) with ⟨s1, c1, p1, w, J1, hb, fA, fB⟩ | ⟨w, s1, c1, p1, p2, x, y, hw, j1, j2, j3, hb, fA, fB⟩
      · have g1 := J1.1
        have g2 := J1.2.1
        have g4 := J1.2.2.2.1
        have hb' := hb trivial
        rw [fA, fB]
        refine Or.inl ⟨s1 + 1, up1 c1 s1 (-19), p1, 1 - w, J1.not (by omega) (by omega), fun _ => ?_, ?_, ?_⟩
        · rcases hb' with z | z <;> subst z <;> decide
        · simp only [oB_some, dR_some, cond_true, cond_false, if_true, if_false, Bool.true_and, Bool.and_true, Nat.beq_refl, CS_K, W1, cs_emit W (show s1 < 240 by omega)]
        · rw [← flip_01 hb']
          by_cases z : w = 0 <;> simp only [oB_some, dR_some, cond_true, cond_false, if_true, if_false, Bool.true_and, Bool.and_true, Nat.beq_refl, MS_K, hK_sI, M1, MS_12, MS_d, show nI (d + 1) - 1 = nI d from nI_pred d, z, isZ0, isZ1]
      · obtain ⟨s', c', hs', he⟩ := cs_emitF (p := p1) (w := w) (c := c1) (x := -19) W j1
        rw [fA, fB]
        refine Or.inr ⟨w, s', c', p1, p2, x - 1, if y = 0 then 1 else 0, hw, hs', j2, j3, fun _ => ?_, ?_, ?_⟩
        · by_cases z : y = 0
          · rw [if_pos z]; exact Or.inr rfl
          · rw [if_neg z]; exact Or.inl rfl
        · simp only [oB_some, dR_some, cond_true, cond_false, if_true, if_false, Bool.true_and, Bool.and_true, Nat.beq_refl, CS_K, W1, he]
        · by_cases z : y = 0 <;> simp only [oB_some, dR_some, cond_true, cond_false, if_true, if_false, Bool.true_and, Bool.and_true, Nat.beq_refl, MS_K, hK_sI, M1, MS_12, MS_d, z, isZ0, isZ1]
    · refine Or.inr ⟨nI (sk (hI h 2) n p), s, c, sk (hI h 2) n p, sk (hI h 2) n p, nI d, 0, nq, by omega, hk, hk, fun _ => Or.inl rfl, ?_, ?_⟩
      · rw [tX2_readUnit (gRd_G i)]
        simp only [oB_some, dR_some, cond_true, cond_false, if_true, if_false, Bool.true_and, Bool.and_true, Nat.beq_refl, CS_K, CS_R, W1, W2, T1, cs_peek H hp240, qa, cs_opens H W (show d ≤ 6 by omega) hq31, q6]
      · rw [tX12_unit (gMd_G (i' + 1))]
        simp only [oB_some, dR_some, cond_true, cond_false, if_true, if_false, Bool.true_and, Bool.and_true, Nat.beq_refl, MS_K, M1, ms_look M hp, qa, ms_goesIn M1 (show d ≤ 6 by omega), q6, isZ0]
  · by_cases qb : chT (hI h 2) n (sk (hI h 2) n p) = 40
    · have hq := ch_lt qb (by decide)
      have n33 : ¬ ((40 : Int32) = 33) := by decide
      by_cases q6 : d < 6
      · have eA : Fm (kX2_readUnit (gRd i)) 5 [vR (some 135), vI (nI d), vI 0] (CS h s c p (-1)) = oB (gRd i 0 [vR (some 135), vI (nI (d + 1)), vI 0] (CS h s c (sk (hI h 2) n p + 1) (-1))) (fun r12 h13 => if hK h13 135 = 2 then dR (hR h13 135 0) (fun a14 => bif Nat.beq (hK h13 a14) 9 && true then oB (FX9_demand [vR (some a14), vI (41)] h13) (fun r15 h16 => some (rV, h16)) else none) else none) := by
          rw [tX2_readUnit (gRd_G i)]
          simp only [oB_some, dR_some, cond_true, cond_false, if_true, if_false, Bool.true_and, Bool.and_true, Nat.beq_refl, CS_K, CS_R, W1, W2, T1, cs_peek H hp240, qb, n33, cs_opens H W (show d ≤ 6 by omega) hq31, q6, show ¬ ((1 : Int32) = 0) by decide, nI_1]
        have eB : Fm (kX12_unit (gMd (i' + 1))) 3 [vR (some 147)] (MS hm (nI d) p (-1)) = oB (gMd (i' + 1) 6 [vR (some 147), vI 0, vI 0] (MS hm (nI (d + 1)) (sk (hI h 2) n p + 1) (-1))) (fun r10 h11 => bif Nat.beq (hK h11 147) 12 && true then oB (FX12_takes [vR (some 147), vI (41)] h11) (fun r12 h13 => if r12.1 = 0 then (bif isZ 0 then some (rI 0, h13) else none) else if hK h13 147 = 12 then if hK h13 147 = 12 then oB (some (rV, sI h13 147 12 ((hI h13 147 12) - 1))) (fun _ h14 => (bif isZ r10.1 then some (rI r10.1, h14) else none)) else none else none) else none) := by
          rw [tX12_unit (gMd_G (i' + 1))]
          simp only [oB_some, dR_some, cond_true, cond_false, if_true, if_false, Bool.true_and, Bool.and_true, Nat.beq_refl, MS_K, M1, ms_look M hp, qb, n33, ms_goesIn M1 (show d ≤ 6 by omega), q6, show ¬ ((1 : Int32) = 0) by decide]
        rw [eA, eB]
        rcases CJ (by omega) s c (sk (hI h 2) n p + 1) (by omega) (by omega) with ⟨s1, c1, p1, w, J1, hb, fA, fB⟩ | ⟨w, s1, c1, p1, p2, x, y, hw, j1, j2, j3, hb, fA, fB⟩
        · have g1 := J1.1
          have g2 := J1.2.1
          have g4 := J1.2.2.2.1
          have hb' := hb trivial
          have hk1 := (sk_le (t := hI h 2) (n := n) p1)
          have hk1' := hk1.2 g2
          rw [fA, fB]
          by_cases qc : chT (hI h 2) n (sk (hI h 2) n p1) = 41
          · have hq2 := ch_lt qc (by decide)
            refine Or.inl ⟨s1, c1, sk (hI h 2) n p1 + 1, w, ?_, hb, ?_, ?_⟩
            · exact (J1.early (by omega)).wide (by omega) (by omega) (Nat.le_refl _)
            · simp only [oB_some, dR_some, cond_true, cond_false, if_true, if_false, Bool.true_and, Bool.and_true, Nat.beq_refl, CS_K, CS_R, W1, W2, T1, cs_demand H (show p1 ≤ 240 by omega), qc]
            · simp only [oB_some, dR_some, cond_true, cond_false, if_true, if_false, Bool.true_and, Bool.and_true, Nat.beq_refl, MS_K, hK_sI, M1, ms_takes M g2, qc, show ¬ ((1 : Int32) = 0) by decide, MS_12, MS_d, show nI (d + 1) - 1 = nI d from nI_pred d, isZ_01 hb']
          · refine Or.inr ⟨nI (sk (hI h 2) n p1), s1, c1, sk (hI h 2) n p1, sk (hI h 2) n p1, nI (d + 1), 0, nI_nm1 (by omega), by omega, hk1', hk1', fun _ => Or.inl rfl, ?_, ?_⟩
            · simp only [oB_some, dR_some, cond_true, cond_false, if_true, if_false, Bool.true_and, Bool.and_true, Nat.beq_refl, CS_K, CS_R, W1, W2, T1, cs_demand H (show p1 ≤ 240 by omega), qc]
            · simp only [oB_some, dR_some, cond_true, cond_false, if_true, if_false, Bool.true_and, Bool.and_true, Nat.beq_refl, MS_K, hK_sI, M1, ms_takes M g2, qc, isZ0]
        · rw [fA, fB]
          refine Or.inr ⟨w, s1, c1, p1, p2, x, 0, hw, j1, j2, j3, fun _ => Or.inl rfl, ?_, ?_⟩
          · simp only [oB_some, dR_some, cond_true, cond_false, if_true, if_false, Bool.true_and, Bool.and_true, Nat.beq_refl, CS_K, CS_R, W1, W2, T1, cs_demand H (show p1 ≤ 240 by omega), hw]
          · simp only [oB_some, dR_some, cond_true, cond_false, if_true, if_false, Bool.true_and, Bool.and_true, Nat.beq_refl, MS_K, hK_sI, M1, ms_takes M j3, hw, isZ0]
      · refine Or.inr ⟨nI (sk (hI h 2) n p), s, c, sk (hI h 2) n p, sk (hI h 2) n p, nI d, 0, nq, by omega, hk, hk, fun _ => Or.inl rfl, ?_, ?_⟩
        · rw [tX2_readUnit (gRd_G i)]
          simp only [oB_some, dR_some, cond_true, cond_false, if_true, if_false, Bool.true_and, Bool.and_true, Nat.beq_refl, CS_K, CS_R, W1, W2, T1, cs_peek H hp240, qb, n33, cs_opens H W (show d ≤ 6 by omega) hq31, q6]
        · rw [tX12_unit (gMd_G (i' + 1))]
          simp only [oB_some, dR_some, cond_true, cond_false, if_true, if_false, Bool.true_and, Bool.and_true, Nat.beq_refl, MS_K, M1, ms_look M hp, qb, n33, ms_goesIn M1 (show d ≤ 6 by omega), q6, isZ0]
    · have eA : Fm (kX2_readUnit (gRd i)) 5 [vR (some 135), vI (nI d), vI 0] (CS h s c p (-1)) = Run (kX2_readUnit (gRd i)) 77 [some (vR (some 135)), some (vI (nI d)), some (vI 0), some (vI (chT (hI h 2) n (sk (hI h 2) n p))), none] [] (CS h s c (sk (hI h 2) n p) (-1)) := by
        rw [tX2_readUnit (gRd_G i)]
        simp only [oB_some, dR_some, cond_true, cond_false, if_true, if_false, Bool.true_and, Bool.and_true, Nat.beq_refl, CS_K, CS_R, W1, W2, T1, cs_peek H hp240, qa, qb]
      have eB : Fm (kX12_unit (gMd (i' + 1))) 3 [vR (some 147)] (MS hm (nI d) p (-1)) = oB (Fm (kX12_compares (gMd i')) 6 [vR (some 147), vI 0, vI 0] (MS hm (nI d) (sk (hI h 2) n p) (-1))) (fun r15 h16 => (bif isZ r15.1 then some (rI r15.1, h16) else none)) := by
        rw [tX12_unit (gMd_G (i' + 1))]
        simp only [oB_some, dR_some, cond_true, cond_false, if_true, if_false, Bool.true_and, Bool.and_true, Nat.beq_refl, MS_K, M1, ms_look M hp, qa, qb]
        rfl
      rw [eA, eB]
      rcases j_cmp (o3 := some (vI (chT (hI h 2) n (sk (hI h 2) n p)))) (o4 := none) C (show d ≤ 6 by omega) hm1 hm2 SJ (c := c) hk (show s ≤ sk (hI h 2) n p by omega) with ⟨s1, c1, p1, w, J1, hb, fA, fB⟩ | ⟨w, s1, c1, p1, p2, x, y, hw, j1, j2, j3, hb, fA, fB⟩
      · rw [fA, fB]
        refine Or.inl ⟨s1, c1, p1, w, J1.early hk0, hb, rfl, ?_⟩
        simp only [oB_some, dR_some, cond_true, cond_false, if_true, if_false, Bool.true_and, Bool.and_true, Nat.beq_refl, isZ_01 (hb trivial)]
      · rw [fA, fB]
        refine Or.inr ⟨w, s1, c1, p1, p2, x, y, hw, j1, j2, j3, hb, rfl, ?_⟩
        simp only [oB_some, dR_some, cond_true, cond_false, if_true, if_false, Bool.true_and, Bool.and_true, Nat.beq_refl, isZ_01 (hb trivial)]
theorem j_sums {h hm : Hp} {n T B : Nat} {L : Nat → Int32} (C : LC h hm n T B L) : ∀ (k d i i' : Nat), d + k = 6 → 3 * k + 3 ≤ i → 3 * k + 3 ≤ i' → ∀ (s : Nat) (c : Nat → Int32) (p : Nat), p ≤ n → s ≤ p → JO h hm n L p s c (2 * k + 3) d False (gRd i 3 [vR (some 135), vI (nI d)] (CS h s c p (-1))) (gMd i' 2 [vR (some 147)] (MS hm (nI d) p (-1))) := by
  intro k
  induction k with
  | zero =>
    intro d i i' hd hi hi' s c p hp hs
    obtain ⟨i0, rfl⟩ : ∃ i0, i = i0 + 3 := ⟨i - 3, by omega⟩
    obtain ⟨i1, rfl⟩ : ∃ i1, i' = i1 + 3 := ⟨i' - 3, by omega⟩
    have A := j_atom (i := i0) (i' := i1) C (k := 0) (d := d) hd (fun z => absurd z (by decide))
    have D := j_term (i := i0) (i' := i1 + 1) (m := 2) C (show d ≤ 6 by omega) (by omega) (by omega) A
    exact j_sum (i := i0) (i' := i1 + 2) (m := 3) C (show d ≤ 6 by omega) (by omega) (by omega) D s c p hp hs
  | succ k ih =>
    intro d i i' hd hi hi' s c p hp hs
    obtain ⟨i0, rfl⟩ : ∃ i0, i = i0 + 3 := ⟨i - 3, by omega⟩
    obtain ⟨i1, rfl⟩ : ∃ i1, i' = i1 + 3 := ⟨i' - 3, by omega⟩
    have A := j_atom (i := i0) (i' := i1) C (k := k + 1) (d := d) hd (fun _ s c p hp hs => ih (d + 1) i0 i1 (by omega) (by omega) (by omega) s c p hp hs)
    have D := j_term (i := i0) (i' := i1 + 1) (m := 2 * (k + 1) + 2) C (show d ≤ 6 by omega) (by omega) (by omega) A
    exact j_sum (i := i0) (i' := i1 + 2) (m := 2 * (k + 1) + 3) C (show d ≤ 6 by omega) (by omega) (by omega) D s c p hp hs
theorem JO.mono {h hm : Hp} {n : Nat} {L : Nat → Int32} {p0 s0 : Nat} {c0 : Nat → Int32} {m m' d : Nat} {bl : Prop} {A D : Option (RV × Hp)} (J : JO h hm n L p0 s0 c0 m d bl A D) (hmm : m ≤ m') : JO h hm n L p0 s0 c0 m' d bl A D := by
  rcases J with ⟨s1, c1, p1, w, J1, r⟩ | r
  · exact Or.inl ⟨s1, c1, p1, w, J1.wide (Nat.le_refl _) J1.2.1 hmm, r⟩
  · exact Or.inr r
/-- units, truths and conditions of depth d -/
theorem j_conds {h hm : Hp} {n T B : Nat} {L : Nat → Int32} (C : LC h hm n T B L) : ∀ (k d : Nat), d + k = 6 →
    (∀ (i i' : Nat), 3 * k + 4 ≤ i → 3 * k + 5 ≤ i' → ∀ (s : Nat) (c : Nat → Int32) (p : Nat), p ≤ n → s ≤ p → JO h hm n L p s c (2 * k + 4) d True (gRd i 2 [vR (some 135), vI (nI d), vI 0] (CS h s c p (-1))) (gMd i' 4 [vR (some 147)] (MS hm (nI d) p (-1)))) ∧
    (∀ (i i' : Nat), 3 * k + 5 ≤ i → 3 * k + 6 ≤ i' → ∀ (s : Nat) (c : Nat → Int32) (p : Nat), p ≤ n → s ≤ p → JO h hm n L p s c (2 * k + 5) d True (gRd i 1 [vR (some 135), vI (nI d), vI 0] (CS h s c p (-1))) (gMd i' 5 [vR (some 147), vI 0, vI 0] (MS hm (nI d) p (-1)))) ∧
    (∀ (i i' : Nat), 3 * k + 6 ≤ i → 3 * k + 7 ≤ i' → ∀ (s : Nat) (c : Nat → Int32) (p : Nat), p ≤ n → s ≤ p → JO h hm n L p s c (2 * k + 6) d True (gRd i 0 [vR (some 135), vI (nI d), vI 0] (CS h s c p (-1))) (gMd i' 6 [vR (some 147), vI 0, vI 0] (MS hm (nI d) p (-1)))) := by
  obtain ⟨H, W, P, M, _, _⟩ := id C
  have W1 := W.1
  have M1 := M.1.1.1
  intro k
  induction k with
  | zero =>
    intro d hd
    have U : ∀ (i i' : Nat), 3 * 0 + 4 ≤ i → 3 * 0 + 5 ≤ i' → ∀ (s : Nat) (c : Nat → Int32) (p : Nat), p ≤ n → s ≤ p → JO h hm n L p s c (2 * 0 + 4) d True (gRd i 2 [vR (some 135), vI (nI d), vI 0] (CS h s c p (-1))) (gMd i' 4 [vR (some 147)] (MS hm (nI d) p (-1))) := by
      intro i i' hi hi' s c p hp hs
      obtain ⟨i0, rfl⟩ : ∃ i0, i = i0 + 1 := ⟨i - 1, by omega⟩
      obtain ⟨i1, rfl⟩ : ∃ i1, i' = i1 + 2 := ⟨i' - 2, by omega⟩
      exact j_unit C (k := 0) hd (m' := 3) (by omega) (by omega) (j_sums C 0 d i0 i1 hd (by omega) (by omega)) (fun z => absurd z (by decide)) (fun z => absurd z (by decide)) s c p hp hs
    have R : ∀ (i i' : Nat), 3 * 0 + 5 ≤ i → 3 * 0 + 6 ≤ i' → ∀ (s : Nat) (c : Nat → Int32) (p : Nat), p ≤ n → s ≤ p → JO h hm n L p s c (2 * 0 + 5) d True (gRd i 1 [vR (some 135), vI (nI d), vI 0] (CS h s c p (-1))) (gMd i' 5 [vR (some 147), vI 0, vI 0] (MS hm (nI d) p (-1))) := by
      intro i i' hi hi' s c p hp hs
      obtain ⟨i0, rfl⟩ : ∃ i0, i = i0 + 1 := ⟨i - 1, by omega⟩
      obtain ⟨i1, rfl⟩ : ∃ i1, i' = i1 + 1 := ⟨i' - 1, by omega⟩
      have := j_truth_from (oc := some (vI 0)) (o1 := some (vI 0)) (o2 := some (vI 0)) C (show d ≤ 6 by omega) (m := 2 * 0 + 5) (m' := 2 * 0 + 4) (by omega) (by omega) (U i0 i1 (by omega) (by omega)) hs (U i0 i1 (by omega) (by omega) s c p hp hs)
      have eA : gRd (i0 + 1) 1 [vR (some 135), vI (nI d), vI 0] (CS h s c p (-1)) = oB (gRd i0 2 [vR (some 135), vI (nI d), vI 0] (CS h s c p (-1))) (fun r1 h2 => Run (kX2_readTruth (gRd i0)) 8 [some (vR (some 135)), some (vI (nI d)), some (vI 0), some (vI 0)] [] h2) := by
        show Fm (kX2_readTruth (gRd i0)) 4 [vR (some 135), vI (nI d), vI 0] (CS h s c p (-1)) = _
        rw [tX2_readTruth (gRd_G i0)]
        simp only [oB_some, dR_some, cond_true, cond_false, if_true, if_false, Bool.true_and, Bool.and_true, Nat.beq_refl, CS_K, W1]
      have eB : gMd (i1 + 1) 5 [vR (some 147), vI 0, vI 0] (MS hm (nI d) p (-1)) = oB (gMd i1 4 [vR (some 147)] (MS hm (nI d) p (-1))) (fun r1 h2 => Run (kX12_part (gMd i1)) 18 [some (vR (some 147)), some (vI 0), some (vI 0), some (vI r1.1), none] [] h2) := by
        show Fm (kX12_part (gMd i1)) 5 [vR (some 147), vI 0, vI 0] (MS hm (nI d) p (-1)) = _
        rw [tX12_part (gMd_G i1)]
        simp only [oB_some, dR_some, cond_true, cond_false, if_true, if_false, Bool.true_and, Bool.and_true, Nat.beq_refl, MS_K, M1]
      rw [eA, eB]; exact this
    refine ⟨U, R, ?_⟩
    intro i i' hi hi' s c p hp hs
    obtain ⟨i0, rfl⟩ : ∃ i0, i = i0 + 1 := ⟨i - 1, by omega⟩
    obtain ⟨i1, rfl⟩ : ∃ i1, i' = i1 + 1 := ⟨i' - 1, by omega⟩
    have := j_cond_from (oc := some (vI 0)) (o1 := some (vI 0)) (o2 := some (vI 0)) C (show d ≤ 6 by omega) (m := 2 * 0 + 6) (m' := 2 * 0 + 5) (by omega) (by omega) (R i0 i1 (by omega) (by omega)) hs (R i0 i1 (by omega) (by omega) s c p hp hs)
    have eA : gRd (i0 + 1) 0 [vR (some 135), vI (nI d), vI 0] (CS h s c p (-1)) = oB (gRd i0 1 [vR (some 135), vI (nI d), vI 0] (CS h s c p (-1))) (fun r1 h2 => Run (kX2_readCondition (gRd i0)) 8 [some (vR (some 135)), some (vI (nI d)), some (vI 0), some (vI 0)] [] h2) := by
      show Fm (kX2_readCondition (gRd i0)) 4 [vR (some 135), vI (nI d), vI 0] (CS h s c p (-1)) = _
      rw [tX2_readCondition (gRd_G i0)]
      simp only [oB_some, dR_some, cond_true, cond_false, if_true, if_false, Bool.true_and, Bool.and_true, Nat.beq_refl, CS_K, W1]
    have eB : gMd (i1 + 1) 6 [vR (some 147), vI 0, vI 0] (MS hm (nI d) p (-1)) = oB (gMd i1 5 [vR (some 147), vI 0, vI 0] (MS hm (nI d) p (-1))) (fun r1 h2 => Run (kX12_condition (gMd i1)) 7 [some (vR (some 147)), some (vI 0), some (vI 0), some (vI r1.1), none] [] h2) := by
      show Fm (kX12_condition (gMd i1)) 5 [vR (some 147), vI 0, vI 0] (MS hm (nI d) p (-1)) = _
      rw [tX12_condition (gMd_G i1)]
      simp only [oB_some, dR_some, cond_true, cond_false, if_true, if_false, Bool.true_and, Bool.and_true, Nat.beq_refl, MS_K, M1]
    rw [eA, eB]; exact this
  | succ k ih =>
    intro d hd
    obtain ⟨U', R', C'⟩ := ih (d + 1) (by omega)
    have U : ∀ (i i' : Nat), 3 * (k + 1) + 4 ≤ i → 3 * (k + 1) + 5 ≤ i' → ∀ (s : Nat) (c : Nat → Int32) (p : Nat), p ≤ n → s ≤ p → JO h hm n L p s c (2 * (k + 1) + 4) d True (gRd i 2 [vR (some 135), vI (nI d), vI 0] (CS h s c p (-1))) (gMd i' 4 [vR (some 147)] (MS hm (nI d) p (-1))) := by
      intro i i' hi hi' s c p hp hs
      obtain ⟨i0, rfl⟩ : ∃ i0, i = i0 + 1 := ⟨i - 1, by omega⟩
      obtain ⟨i1, rfl⟩ : ∃ i1, i' = i1 + 2 := ⟨i' - 2, by omega⟩
      exact j_unit C (k := k + 1) hd (m := 2 * (k + 1) + 4) (m' := 2 * (k + 1) + 3) (by omega) (by omega) (j_sums C (k + 1) d i0 i1 hd (by omega) (by omega)) (fun _ s c p hp hs => (U' i0 (i1 + 1) (by omega) (by omega) s c p hp hs).mono (by omega)) (fun _ s c p hp hs => (C' i0 (i1 + 1) (by omega) (by omega) s c p hp hs).mono (by omega)) s c p hp hs
    have R : ∀ (i i' : Nat), 3 * (k + 1) + 5 ≤ i → 3 * (k + 1) + 6 ≤ i' → ∀ (s : Nat) (c : Nat → Int32) (p : Nat), p ≤ n → s ≤ p → JO h hm n L p s c (2 * (k + 1) + 5) d True (gRd i 1 [vR (some 135), vI (nI d), vI 0] (CS h s c p (-1))) (gMd i' 5 [vR (some 147), vI 0, vI 0] (MS hm (nI d) p (-1))) := by
      intro i i' hi hi' s c p hp hs
      obtain ⟨i0, rfl⟩ : ∃ i0, i = i0 + 1 := ⟨i - 1, by omega⟩
      obtain ⟨i1, rfl⟩ : ∃ i1, i' = i1 + 1 := ⟨i' - 1, by omega⟩
      have := j_truth_from (oc := some (vI 0)) (o1 := some (vI 0)) (o2 := some (vI 0)) C (show d ≤ 6 by omega) (m := 2 * (k + 1) + 5) (m' := 2 * (k + 1) + 4) (by omega) (by omega) (U i0 i1 (by omega) (by omega)) hs (U i0 i1 (by omega) (by omega) s c p hp hs)
      have eA : gRd (i0 + 1) 1 [vR (some 135), vI (nI d), vI 0] (CS h s c p (-1)) = oB (gRd i0 2 [vR (some 135), vI (nI d), vI 0] (CS h s c p (-1))) (fun r1 h2 => Run (kX2_readTruth (gRd i0)) 8 [some (vR (some 135)), some (vI (nI d)), some (vI 0), some (vI 0)] [] h2) := by
        show Fm (kX2_readTruth (gRd i0)) 4 [vR (some 135), vI (nI d), vI 0] (CS h s c p (-1)) = _
        rw [tX2_readTruth (gRd_G i0)]
        simp only [oB_some, dR_some, cond_true, cond_false, if_true, if_false, Bool.true_and, Bool.and_true, Nat.beq_refl, CS_K, W1]
      have eB : gMd (i1 + 1) 5 [vR (some 147), vI 0, vI 0] (MS hm (nI d) p (-1)) = oB (gMd i1 4 [vR (some 147)] (MS hm (nI d) p (-1))) (fun r1 h2 => Run (kX12_part (gMd i1)) 18 [some (vR (some 147)), some (vI 0), some (vI 0), some (vI r1.1), none] [] h2) := by
        show Fm (kX12_part (gMd i1)) 5 [vR (some 147), vI 0, vI 0] (MS hm (nI d) p (-1)) = _
        rw [tX12_part (gMd_G i1)]
        simp only [oB_some, dR_some, cond_true, cond_false, if_true, if_false, Bool.true_and, Bool.and_true, Nat.beq_refl, MS_K, M1]
      rw [eA, eB]; exact this
    refine ⟨U, R, ?_⟩
    intro i i' hi hi' s c p hp hs
    obtain ⟨i0, rfl⟩ : ∃ i0, i = i0 + 1 := ⟨i - 1, by omega⟩
    obtain ⟨i1, rfl⟩ : ∃ i1, i' = i1 + 1 := ⟨i' - 1, by omega⟩
    have := j_cond_from (oc := some (vI 0)) (o1 := some (vI 0)) (o2 := some (vI 0)) C (show d ≤ 6 by omega) (m := 2 * (k + 1) + 6) (m' := 2 * (k + 1) + 5) (by omega) (by omega) (R i0 i1 (by omega) (by omega)) hs (R i0 i1 (by omega) (by omega) s c p hp hs)
    have eA : gRd (i0 + 1) 0 [vR (some 135), vI (nI d), vI 0] (CS h s c p (-1)) = oB (gRd i0 1 [vR (some 135), vI (nI d), vI 0] (CS h s c p (-1))) (fun r1 h2 => Run (kX2_readCondition (gRd i0)) 8 [some (vR (some 135)), some (vI (nI d)), some (vI 0), some (vI 0)] [] h2) := by
      show Fm (kX2_readCondition (gRd i0)) 4 [vR (some 135), vI (nI d), vI 0] (CS h s c p (-1)) = _
      rw [tX2_readCondition (gRd_G i0)]
      simp only [oB_some, dR_some, cond_true, cond_false, if_true, if_false, Bool.true_and, Bool.and_true, Nat.beq_refl, CS_K, W1]
    have eB : gMd (i1 + 1) 6 [vR (some 147), vI 0, vI 0] (MS hm (nI d) p (-1)) = oB (gMd i1 5 [vR (some 147), vI 0, vI 0] (MS hm (nI d) p (-1))) (fun r1 h2 => Run (kX12_condition (gMd i1)) 7 [some (vR (some 147)), some (vI 0), some (vI 0), some (vI r1.1), none] [] h2) := by
      show Fm (kX12_condition (gMd i1)) 5 [vR (some 147), vI 0, vI 0] (MS hm (nI d) p (-1)) = _
      rw [tX12_condition (gMd_G i1)]
      simp only [oB_some, dR_some, cond_true, cond_false, if_true, if_false, Bool.true_and, Bool.and_true, Nat.beq_refl, MS_K, M1]
    rw [eA, eB]; exact this
/-- a condition whose first sum was read -/
theorem j_condB {h hm : Hp} {n T B : Nat} {L : Nat → Int32} (C : LC h hm n T B L) {i i' : Nat} (hi : 24 ≤ i) (hi' : 25 ≤ i') {p0 s0 p s : Nat} {c0 c : Nat → Int32} {v : Int32} (J : JR n L p0 s0 c0 15 p s c v) (hs0 : s0 ≤ p0) : JO h hm n L p0 s0 c0 18 0 True (gRd i 0 [vR (some 135), vI 0, vI 1] (CS h s c p (-1))) (gMd i' 6 [vR (some 147), vI 1, vI v] (MS hm (nI 0) p (-1))) := by
  obtain ⟨H, W, P, M, _, _⟩ := id C
  have hn := H.2.2
  have T1 := H.1.1
  have W1 := W.1
  have W2 := W.2.1
  have M1 := M.1.1.1
  obtain ⟨U, R, _⟩ := j_conds C 6 0 rfl
  obtain ⟨i0, rfl⟩ : ∃ i0, i = i0 + 3 := ⟨i - 3, by omega⟩
  obtain ⟨i1, rfl⟩ : ∃ i1, i' = i1 + 3 := ⟨i' - 3, by omega⟩
  have hpn := J.2.1
  have hk0 := (sk_le (t := hI h 2) (n := n) p).1
  have hk := (sk_le (t := hI h 2) (n := n) p).2 hpn
  have g1 := J.1
  have g4 := J.2.2.2.1
  have hbeg := j_begun (o3 := some (vI (chT (hI h 2) n (sk (hI h 2) n p)))) (o4 := none) (b := 1) (m := 16) (m' := 15) C (show 0 ≤ 6 by omega) (by omega) (by omega) (j_sums C 6 0 i0 i1 rfl (by omega) (by omega)) (by decide) (J.wide hk0 hk (by omega)) (show s ≤ sk (hI h 2) n p by omega)
  have eU : gRd (i0 + 1) 2 [vR (some 135), vI (nI 0), vI 1] (CS h s c p (-1)) = Run (kX2_readUnit (gRd i0)) 77 [some (vR (some 135)), some (vI (nI 0)), some (vI 1), some (vI (chT (hI h 2) n (sk (hI h 2) n p))), none] [] (CS h s c (sk (hI h 2) n p) (-1)) := by
    show Fm (kX2_readUnit (gRd i0)) 5 [vR (some 135), vI (nI 0), vI 1] (CS h s c p (-1)) = _
    rw [tX2_readUnit (gRd_G i0)]
    simp only [oB_some, dR_some, cond_true, cond_false, if_true, if_false, Bool.true_and, Bool.and_true, Nat.beq_refl, CS_K, CS_R, W1, W2, T1, cs_peek H (show p ≤ 240 by omega), show ¬ ((1 : Int32) = 0) by decide]
  have eV : Fm (kX12_compares (gMd i1)) 6 [vR (some 147), vI 1, vI v] (MS hm (nI 0) (sk (hI h 2) n p) (-1)) = gMd (i1 + 1) 3 [vR (some 147), vI 1, vI v] (MS hm (nI 0) p (-1)) := by
    show _ = Fm (kX12_compares (gMd i1)) 6 [vR (some 147), vI 1, vI v] (MS hm (nI 0) p (-1))
    rw [tX12_compares (gMd_G i1), tX12_compares (gMd_G i1)]
    simp only [oB_some, dR_some, cond_true, cond_false, if_true, if_false, Bool.true_and, Bool.and_true, Nat.beq_refl, MS_K, M1, MS_11, show ¬ ((1 : Int32) = 0) by decide, ms_look M hpn, ms_look M hk, sk_sk]
  rw [← eU, eV] at hbeg
  have htr := j_truth_from (oc := some (vI 1)) (o1 := some (vI 1)) (o2 := some (vI v)) C (show 0 ≤ 6 by omega) (m := 17) (m' := 16) (by omega) (by omega) (U (i0 + 1) (i1 + 1) (by omega) (by omega)) hs0 hbeg
  have eA1 : gRd (i0 + 2) 1 [vR (some 135), vI (nI 0), vI 1] (CS h s c p (-1)) = oB (gRd (i0 + 1) 2 [vR (some 135), vI (nI 0), vI 1] (CS h s c p (-1))) (fun r1 h2 => Run (kX2_readTruth (gRd (i0 + 1))) 8 [some (vR (some 135)), some (vI (nI 0)), some (vI 1), some (vI 0)] [] h2) := by
    show Fm (kX2_readTruth (gRd (i0 + 1))) 4 [vR (some 135), vI (nI 0), vI 1] (CS h s c p (-1)) = _
    rw [tX2_readTruth (gRd_G (i0 + 1))]
    simp only [oB_some, dR_some, cond_true, cond_false, if_true, if_false, Bool.true_and, Bool.and_true, Nat.beq_refl, CS_K, W1]
  have eB1 : gMd (i1 + 2) 5 [vR (some 147), vI 1, vI v] (MS hm (nI 0) p (-1)) = oB (gMd (i1 + 1) 3 [vR (some 147), vI 1, vI v] (MS hm (nI 0) p (-1))) (fun r1 h2 => Run (kX12_part (gMd (i1 + 1))) 18 [some (vR (some 147)), some (vI 1), some (vI v), some (vI r1.1), none] [] h2) := by
    show Fm (kX12_part (gMd (i1 + 1))) 5 [vR (some 147), vI 1, vI v] (MS hm (nI 0) p (-1)) = _
    rw [tX12_part (gMd_G (i1 + 1))]
    simp only [oB_some, dR_some, cond_true, cond_false, if_true, if_false, Bool.true_and, Bool.and_true, Nat.beq_refl, MS_K, M1, show ¬ ((1 : Int32) = 0) by decide]
  rw [← eA1, ← eB1] at htr
  have hco := j_cond_from (oc := some (vI 1)) (o1 := some (vI 1)) (o2 := some (vI v)) C (show 0 ≤ 6 by omega) (m := 18) (m' := 17) (by omega) (by omega) (R (i0 + 2) (i1 + 2) (by omega) (by omega)) hs0 htr
  have eA2 : gRd (i0 + 3) 0 [vR (some 135), vI (nI 0), vI 1] (CS h s c p (-1)) = oB (gRd (i0 + 2) 1 [vR (some 135), vI (nI 0), vI 1] (CS h s c p (-1))) (fun r1 h2 => Run (kX2_readCondition (gRd (i0 + 2))) 8 [some (vR (some 135)), some (vI (nI 0)), some (vI 1), some (vI 0)] [] h2) := by
    show Fm (kX2_readCondition (gRd (i0 + 2))) 4 [vR (some 135), vI (nI 0), vI 1] (CS h s c p (-1)) = _
    rw [tX2_readCondition (gRd_G (i0 + 2))]
    simp only [oB_some, dR_some, cond_true, cond_false, if_true, if_false, Bool.true_and, Bool.and_true, Nat.beq_refl, CS_K, W1]
  have eB2 : gMd (i1 + 3) 6 [vR (some 147), vI 1, vI v] (MS hm (nI 0) p (-1)) = oB (gMd (i1 + 2) 5 [vR (some 147), vI 1, vI v] (MS hm (nI 0) p (-1))) (fun r1 h2 => Run (kX12_condition (gMd (i1 + 2))) 7 [some (vR (some 147)), some (vI 1), some (vI v), some (vI r1.1), none] [] h2) := by
    show Fm (kX12_condition (gMd (i1 + 2))) 5 [vR (some 147), vI 1, vI v] (MS hm (nI 0) p (-1)) = _
    rw [tX12_condition (gMd_G (i1 + 2))]
    simp only [oB_some, dR_some, cond_true, cond_false, if_true, if_false, Bool.true_and, Bool.and_true, Nat.beq_refl, MS_K, M1]
  rw [← eA2, ← eB2] at hco
  exact hco
