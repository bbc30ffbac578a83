/-! ===== PURE: an atom, by both readers ===== -/
theorem lt6_in {x : Int32} (hx : lt6 x ≠ -1) : x = 119 ∨ x = 116 ∨ x = 107 ∨ x = 110 ∨ x = 121 ∨ x = 109 := by
  unfold lt6 at hx
  by_cases q0 : x = 119
  · exact Or.inl q0
  by_cases q1 : x = 116
  · exact Or.inr (Or.inl q1)
  by_cases q2 : x = 107
  · exact Or.inr (Or.inr (Or.inl q2))
  by_cases q3 : x = 110
  · exact Or.inr (Or.inr (Or.inr (Or.inl q3)))
  by_cases q4 : x = 121
  · exact Or.inr (Or.inr (Or.inr (Or.inr (Or.inl q4))))
  by_cases q5 : x = 109
  · exact Or.inr (Or.inr (Or.inr (Or.inr (Or.inr q5))))
  simp only [q0, q1, q2, q3, q4, q5, if_false] at hx
  exact absurd rfl hx
theorem let_ref {h hm : Hp} {n T B : Nat} {L : Nat → Int32} {x : Int32} (C : LC h hm n T B L) (hx : lt6 x ≠ -1) : ∃ j, j < 6 ∧ lt6 x = nI j ∧ inb x 128 = true ∧ hI hm 151 x.toNatClampNeg = L j := by
  obtain ⟨_, _, _, _, ⟨_, _, _, l0, l1, l2, l3, l4, l5⟩, _⟩ := C
  rcases lt6_in hx with e | e | e | e | e | e <;> subst e
  · exact ⟨0, by omega, by decide, by decide, l0⟩
  · exact ⟨1, by omega, by decide, by decide, l1⟩
  · exact ⟨2, by omega, by decide, by decide, l2⟩
  · exact ⟨3, by omega, by decide, by decide, l3⟩
  · exact ⟨4, by omega, by decide, by decide, l4⟩
  · exact ⟨5, by omega, by decide, by decide, l5⟩
theorem by_digit : ∀ z : Int8, ¬ z.toInt32 < 48 → ¬ 57 < z.toInt32 → z.toInt32 &&& 255 = z.toInt32 := by
  intro z
  have key : ∀ n : Fin 256, ¬ (Int8.ofNat n.val).toInt32 < 48 → ¬ 57 < (Int8.ofNat n.val).toInt32 → (Int8.ofNat n.val).toInt32 &&& 255 = (Int8.ofNat n.val).toInt32 := by decide +kernel
  have hz : z = Int8.ofNat z.toBitVec.toNat := by
    apply Int8.toBitVec_inj.mp
    show z.toBitVec = BitVec.ofNat 8 z.toBitVec.toNat
    simp
  have := key ⟨z.toBitVec.toNat, z.toBitVec.isLt⟩
  rw [hz]
  exact this
theorem by_raw {x : Int32} (h : isBy x) (hd : dg (x &&& 255)) : x = x &&& 255 := by
  have h2 := (by_dg h).mpr hd
  have := by_digit x.toInt8
  unfold isBy at h
  rw [h] at this
  exact (this h2.1 h2.2).symm
theorem dg_nat {c : Int32} (h : dg c) : ∃ m, 48 ≤ m ∧ m ≤ 57 ∧ c = nI m := by
  obtain ⟨m, hm, e⟩ := nI_of (x := c) (fun z => h.1 (by
    rw [Int32.lt_iff_toInt_lt] at z ⊢
    have e0 : (0 : Int32).toInt = 0 := by decide
    have e48 : (48 : Int32).toInt = 48 := by decide
    omega))
  subst e
  have h1 := h.1
  have h2 := h.2
  rw [show (48 : Int32) = nI 48 from rfl, nI_nlt' hm (by decide)] at h1
  rw [show (57 : Int32) = nI 57 from rfl, nI_nlt' (by decide) hm] at h2
  exact ⟨m, by omega, by omega, rfl⟩
theorem dg_step {a m : Nat} (hm : 48 ≤ m) : (10 : Int32) * nI a + nI m - 48 = nI (10 * a + m - 48) := by
  rw [show (10 : Int32) = nI 10 from rfl, show (48 : Int32) = nI 48 from rfl, pk_mul, nI_add, pk_sub (by omega)]
theorem nuS_nat {t : Nat → Int32} {n : Nat} : ∀ (k p a : Nat), k ≤ 4 → a < 10 ^ (4 - k) → p ≤ n → ∃ r b, nuS t n k p (nI a) = (r, nI b) ∧ b < 10000 ∧ p ≤ r ∧ r ≤ n := by
  intro k
  induction k with
  | zero => intro p a hk ha hp; exact ⟨p, a, rfl, ha, Nat.le_refl _, hp⟩
  | succ k ih =>
    intro p a hk ha hp
    by_cases q : dg (chT t n p)
    · obtain ⟨m, h1, h2, e⟩ := dg_nat q
      rw [nuS_go q, e, dg_step h1]
      have hp1 := dg_lt q
      have hk4 : 4 - k = (4 - (k + 1)) + 1 := by omega
      obtain ⟨r, b, e1, e2, e3, e4⟩ := ih (p + 1) (10 * a + m - 48) (by omega) (by rw [hk4, Nat.pow_succ]; omega) (by omega)
      exact ⟨r, b, e1, e2, by omega, e4⟩
    · rw [nuS_stop q]
      refine ⟨p, a, rfl, ?_, Nat.le_refl _, hp⟩
      have : 10 ^ (4 - (k + 1)) ≤ 10 ^ 4 := Nat.pow_le_pow_right (by omega) (by omega)
      omega
theorem ref_num {h hm : Hp} {n T B : Nat} {L : Nat → Int32} {g : Nat → List EV → Hp → Option (RV × Hp)} (hG : ∀ i, Gr (g i)) (C : LC h hm n T B L) (x : Int32) : ∀ (k p : Nat) (v : Int32) (o1 : Option EV), k ≤ 4 → p ≤ n →
    (dg (chT (hI h 2) n (nuS (hI h 2) n k p v).1) → Run (kX12_atom g) 90 [some (vR (some 147)), o1, some (vI v), some (vI (nI (4 - k)))] [] (MS hm x p (-1)) = some (rI 0, MS hm x (nuS (hI h 2) n k p v).1 (nI (nuS (hI h 2) n k p v).1))) ∧
    (¬ dg (chT (hI h 2) n (nuS (hI h 2) n k p v).1) → Run (kX12_atom g) 90 [some (vR (some 147)), o1, some (vI v), some (vI (nI (4 - k)))] [] (MS hm x p (-1)) = some (rI (nuS (hI h 2) n k p v).2, MS hm x (nuS (hI h 2) n k p v).1 (-1))) := by
  have M := C.2.2.2.1
  obtain ⟨M1, M2, M3, M4, M5, M6, M7, M8⟩ := M.1.1
  intro k
  induction k with
  | zero =>
    intro p v o1 hk hp
    refine ⟨fun q => ?_, fun q => ?_⟩
    · rw [tX12_atom_90 hG]
      have q' : dg (chT (hI h 2) n p) := q
      simp only [oB_some, dR_some, cond_true, cond_false, if_true, if_false, Bool.true_and, Bool.and_true, Nat.beq_refl, MS_K, M1, (ms_isDigit M hp).1 q', show ¬ ((1 : Int32) = 0) by decide, MS_11, show nI (4 - 0) = (4 : Int32) from rfl, ms_fails M1]
      rfl
    · rw [tX12_atom_90 hG]
      have q' : ¬ dg (chT (hI h 2) n p) := q
      simp only [oB_some, dR_some, cond_true, cond_false, if_true, if_false, Bool.true_and, Bool.and_true, Nat.beq_refl, MS_K, M1, (ms_isDigit M hp).2 q']
      rfl
  | succ k ih =>
    intro p v o1 hk hp
    by_cases q : dg (chT (hI h 2) n p)
    · rw [nuS_go q]
      have hp1 := dg_lt q
      have e4 : ¬ nI (4 - (k + 1)) = (4 : Int32) := by
        rw [show (4 : Int32) = nI 4 from rfl, nI_neq' (by omega) (by decide)]; omega
      have e5 : chT (hI h 2) n p = hI hm T (B + p) := by
        have a1 : chT (hI h 2) n p = hI hm T (B + p) &&& 255 := by
          unfold chT; rw [if_pos hp1, ← M.2 p hp1]; rfl
        rw [a1] at q ⊢
        exact (by_raw (M.1.2 p hp1) q).symm
      have e6 : inb (nI (B + p)) (hE hm T) = true := inb_nI (by omega) (by omega)
      have e7 : (nI (B + p)).toNatClampNeg = B + p := nI_clamp (by omega)
      have step : Run (kX12_atom g) 90 [some (vR (some 147)), o1, some (vI v), some (vI (nI (4 - (k + 1))))] [] (MS hm x p (-1)) = Run (kX12_atom g) 90 [some (vR (some 147)), none, some (vI (10 * v + chT (hI h 2) n p - 48)), some (vI (nI (4 - k)))] [] (MS hm x (p + 1) (-1)) := by
        rw [tX12_atom_90 hG, e5]
        simp only [oB_some, dR_some, cond_true, cond_false, if_true, if_false, Bool.true_and, Bool.and_true, Nat.beq_refl, MS_K, MS_E, MS_R, M1, M2, M3, (ms_isDigit M hp).1 q, show ¬ ((1 : Int32) = 0) by decide, MS_11, MS_10, MS_s _ _ _ _ (show (8 : Nat) ≠ 10 by decide) (show (8 : Nat) ≠ 11 by decide) (show (8 : Nat) ≠ 12 by decide), M6, e4, nI_add, e6, e7, MS_o _ _ _ _ M8, nI_1, MS_p, show 4 - (k + 1) + 1 = 4 - k by omega]
      rw [step]
      exact ih (p + 1) _ none (by omega) (by omega)
    · rw [nuS_stop q]
      refine ⟨fun z => absurd z q, fun _ => ?_⟩
      rw [tX12_atom_90 hG]
      simp only [oB_some, dR_some, cond_true, cond_false, if_true, if_false, Bool.true_and, Bool.and_true, Nat.beq_refl, MS_K, M1, (ms_isDigit M hp).2 q]
theorem lt6_91 : lt6 91 = -1 := by decide
theorem lt6_m1 : lt6 (-1) = -1 := by decide
theorem j_atom {h hm : Hp} {n T B : Nat} {L : Nat → Int32} (C : LC h hm n T B L) {k d i i' : Nat} (hd : d + k = 6)
    (SJ : 0 < k → ∀ (s : Nat) (c : Nat → Int32) (p : Nat), p ≤ n → s ≤ p → JO h hm n L p s c (2 * k + 1) (d + 1) False (gRd i 3 [vR (some 135), vI (nI (d + 1))] (CS h s c p (-1))) (gMd i' 2 [vR (some 147)] (MS hm (nI (d + 1)) p (-1))))
    (s : Nat) (c : Nat → Int32) (p : Nat) (hp : p ≤ n) (hs : s ≤ p) : JO h hm n L p s c (2 * k + 1) d False (gRd (i + 1) 5 [vR (some 135), vI (nI d)] (CS h s c p (-1))) (gMd (i' + 1) 0 [vR (some 147)] (MS hm (nI d) p (-1))) := by
  obtain ⟨H, W, P, M, ⟨R4, K151, E151, _⟩, S11⟩ := id C
  have hn := H.2.2
  have T1 := H.1.1
  have W1 := W.1
  have W2 := W.2.1
  have M1 := M.1.1.1
  have hk0 := (sk_le (t := hI h 2) (n := n) p).1
  have hk := (sk_le (t := hI h 2) (n := n) p).2 hp
  have hp240 : p ≤ 240 := by omega
  have hq31 : sk (hI h 2) n p < 2 ^ 31 := by omega
  have nq : nI (sk (hI h 2) n p) ≠ -1 := nI_nm1 hq31
  have S11' : ∀ x p w, StL (MS hm x p w) (PRE + 11) 6 (bT [119, 116, 107, 110, 121, 109]) := by
    intro x p w
    unfold StL
    rw [MS_K, MS_K, MS_E, MS_K, MS_o hm x p w (show PRE + 11 + 100 ≠ 147 by decide)]
    exact S11
  by_cases qa : lt6 (chT (hI h 2) n (sk (hI h 2) n p)) = -1
  · by_cases qb : chT (hI h 2) n (sk (hI h 2) n p) = 91
    · have hq := ch_lt qb (by decide)
      by_cases q6 : d < 6
      · have e1 : gRd (i + 1) 5 [vR (some 135), vI (nI d)] (CS h s c p (-1)) = oB (gRd i 3 [vR (some 135), vI (nI (d + 1))] (CS h s c (sk (hI h 2) n p + 1) (-1))) (fun r8 h9 => if hK h9 135 = 2 then dR (hR h9 135 0) (fun a10 => bif Nat.beq (hK h9 a10) 9 && true then oB (FX9_demand [vR (some a10), vI 93] h9) (fun r11 h12 => some (rV, h12)) else none) else none) := by
          show Fm (kX2_readAtom (gRd i)) 4 [vR (some 135), vI (nI d)] (CS h s c p (-1)) = _
          rw [tX2_readAtom (gRd_G i)]
          simp only [oB_some, dR_some, cond_true, cond_false, if_true, if_false, Bool.true_and, Bool.and_true, Nat.beq_refl, CS_K, CS_R, W1, W2, T1, cs_peek H hp240, cs_letter P, qb, lt6_91, cs_opens H W (show d ≤ 6 by omega) hq31, q6, show ¬ ((1 : Int32) = 0) by decide, nI_1]
        have e2 : gMd (i' + 1) 0 [vR (some 147)] (MS hm (nI d) p (-1)) = oB (gMd i' 2 [vR (some 147)] (MS hm (nI (d + 1)) (sk (hI h 2) n p + 1) (-1))) (fun r7 h8 => bif Nat.beq (hK h8 147) 12 && true then oB (FX12_takes [vR (some 147), vI 93] h8) (fun r9 h10 => if r9.1 = 0 then some (rI 0, h10) else if hK h10 147 = 12 then if hK h10 147 = 12 then oB (some (rV, sI h10 147 12 ((hI h10 147 12) - 1))) (fun _ h11 => some (rI r7.1, h11)) else none else none) else none) := by
          show Fm (kX12_atom (gMd i')) 4 [vR (some 147)] (MS hm (nI d) p (-1)) = _
          rw [tX12_atom (gMd_G i')]
          simp only [oB_some, dR_some, cond_true, cond_false, if_true, if_false, Bool.true_and, Bool.and_true, Nat.beq_refl, MS_K, M1, ms_look M hp, among6 (S11' _ _ _), qb, lt6_91, ms_goesIn M1 (show d ≤ 6 by omega), q6, show ¬ ((1 : Int32) = 0) by decide]
        rw [e1, e2]
        rcases SJ (by omega) s c (sk (hI h 2) n p + 1) (by omega) (by omega) with ⟨s1, c1, p1, v, J, _, eA, eB⟩ | ⟨w, s1, c1, p1, p2, x, v, hw, j1, j2, j3, _, eA, eB⟩
        · rw [eA, eB]
          have hp1 := J.2.1
          have hk1 := (sk_le (t := hI h 2) (n := n) p1)
          have hk1' := hk1.2 hp1
          by_cases qc : chT (hI h 2) n (sk (hI h 2) n p1) = 93
          · have hq2 := ch_lt qc (by decide)
            refine Or.inl ⟨s1, c1, sk (hI h 2) n p1 + 1, v, ?_, fun z => z.elim, ?_, ?_⟩
            · exact (J.early (by omega)).wide (by omega) (by omega) (Nat.le_refl _)
            · simp only [oB_some, dR_some, cond_true, cond_false, if_true, if_false, Bool.true_and, Bool.and_true, Nat.beq_refl, CS_K, CS_R, W1, W2, T1, cs_demand H (show p1 ≤ 240 by omega), qc]
            · simp only [oB_some, dR_some, cond_true, cond_false, if_true, if_false, Bool.true_and, Bool.and_true, Nat.beq_refl, MS_K, hK_sI, M1, ms_takes M hp1, qc, show ¬ ((1 : Int32) = 0) by decide, MS_12, MS_d, show nI (d + 1) - 1 = nI d from nI_pred d]
          · refine Or.inr ⟨nI (sk (hI h 2) n p1), s1, c1, sk (hI h 2) n p1, sk (hI h 2) n p1, nI (d + 1), 0, nI_nm1 (by omega), ?_, hk1', hk1', fun z => z.elim, ?_, ?_⟩
            · have := J.2.2.2.1; have := J.1; omega
            · simp only [oB_some, dR_some, cond_true, cond_false, if_true, if_false, Bool.true_and, Bool.and_true, Nat.beq_refl, CS_K, CS_R, W1, W2, T1, cs_demand H (show p1 ≤ 240 by omega), qc]
            · simp only [oB_some, dR_some, cond_true, cond_false, if_true, if_false, Bool.true_and, Bool.and_true, Nat.beq_refl, MS_K, hK_sI, M1, ms_takes M hp1, qc]
        · rw [eA, eB]
          refine Or.inr ⟨w, s1, c1, p1, p2, x, 0, hw, j1, j2, j3, fun z => z.elim, ?_, ?_⟩
          · simp only [oB_some, dR_some, cond_true, cond_false, if_true, if_false, Bool.true_and, Bool.and_true, Nat.beq_refl, CS_K, CS_R, W1, W2, T1, cs_demand H (show p1 ≤ 240 by omega), hw]
          · simp only [oB_some, dR_some, cond_true, cond_false, if_true, if_false, Bool.true_and, Bool.and_true, Nat.beq_refl, MS_K, hK_sI, M1, ms_takes M j3, hw]
      · have hd6 : d = 6 := by omega
        refine Or.inr ⟨nI (sk (hI h 2) n p), s, c, sk (hI h 2) n p, sk (hI h 2) n p, nI d, 0, nq, by omega, hk, hk, fun z => z.elim, ?_, ?_⟩
        · show Fm (kX2_readAtom (gRd i)) 4 [vR (some 135), vI (nI d)] (CS h s c p (-1)) = _
          rw [tX2_readAtom (gRd_G i)]
          simp only [oB_some, dR_some, cond_true, cond_false, if_true, if_false, Bool.true_and, Bool.and_true, Nat.beq_refl, CS_K, CS_R, W1, W2, T1, cs_peek H hp240, cs_letter P, qb, lt6_91, cs_opens H W (show d ≤ 6 by omega) hq31, q6]
        · show Fm (kX12_atom (gMd i')) 4 [vR (some 147)] (MS hm (nI d) p (-1)) = _
          rw [tX12_atom (gMd_G i')]
          simp only [oB_some, dR_some, cond_true, cond_false, if_true, if_false, Bool.true_and, Bool.and_true, Nat.beq_refl, MS_K, M1, ms_look M hp, among6 (S11' _ _ _), qb, lt6_91, ms_goesIn M1 (show d ≤ 6 by omega), q6]
    · by_cases qd : dg (chT (hI h 2) n (sk (hI h 2) n p))
      · have hq := dg_lt qd
        have hN := (cs_number (s := s) (c := c) (w := -1) (lo := 0) (hi := 9999) (k := 4) H hk (by decide)).1 rfl (by rw [sk_sk]; exact qd)
        rw [sk_sk] at hN
        obtain ⟨r, b, e1, e2, e3, e4⟩ := nuS_nat (t := hI h 2) (n := n) 4 (sk (hI h 2) n p) 0 (by omega) (by omega) hk
        have hr : sk (hI h 2) n p < r := by
          have := nuS_go (t := hI h 2) (n := n) (k := 3) (v := nI 0) qd
          obtain ⟨m, g1, g2, g3⟩ := dg_nat qd
          rw [g3, dg_step g1] at this
          obtain ⟨r', b', f1, f2, f3, f4⟩ := nuS_nat (t := hI h 2) (n := n) 3 (sk (hI h 2) n p + 1) (10 * 0 + m - 48) (by omega) (by omega) (by omega)
          rw [f1, e1] at this
          have := congrArg Prod.fst this
          simp only at this
          omega
        rw [nI_0] at e1
        rw [e1] at hN
        have hR := ref_num (gMd_G i') C (nI d) 4 (sk (hI h 2) n p) 0 (some (vI (chT (hI h 2) n (sk (hI h 2) n p)))) (by omega) hk
        rw [e1] at hR
        have hB : gMd (i' + 1) 0 [vR (some 147)] (MS hm (nI d) p (-1)) = Run (kX12_atom (gMd i')) 90 [some (vR (some 147)), some (vI (chT (hI h 2) n (sk (hI h 2) n p))), some (vI 0), some (vI (nI (4 - 4)))] [] (MS hm (nI d) (sk (hI h 2) n p) (-1)) := by
          show Fm (kX12_atom (gMd i')) 4 [vR (some 147)] (MS hm (nI d) p (-1)) = _
          rw [tX12_atom (gMd_G i')]
          simp only [oB_some, dR_some, cond_true, cond_false, if_true, if_false, Bool.true_and, Bool.and_true, Nat.beq_refl, MS_K, M1, ms_look M hp, among6 (S11' _ _ _), qa, qb, (ms_isDigit M hk).1 qd, show ¬ ((1 : Int32) = 0) by decide]
          rfl
        have hA : ∀ w', nuW (hI h 2) n 0 9999 (r, nI b) = w' → gRd (i + 1) 5 [vR (some 135), vI (nI d)] (CS h s c p (-1)) = some (rV, CS h (s + 1) (up1 c s (nI b)) r w') := by
          intro w' hw'
          show Fm (kX2_readAtom (gRd i)) 4 [vR (some 135), vI (nI d)] (CS h s c p (-1)) = _
          rw [tX2_readAtom (gRd_G i)]
          simp only [oB_some, dR_some, cond_true, cond_false, if_true, if_false, Bool.true_and, Bool.and_true, Nat.beq_refl, CS_K, CS_R, W1, W2, T1, cs_peek H hp240, cs_letter P, qa, qb, show (4 : Int32) = nI 4 from rfl, hN, hw', cs_emit W (show s < 240 by omega)]
        by_cases q5 : dg (chT (hI h 2) n r)
        · refine Or.inr ⟨nI r, s + 1, up1 c s (nI b), r, r, nI d, 0, nI_nm1 (by omega), by omega, e4, e4, fun z => z.elim, hA _ ?_, ?_⟩
          · unfold nuW; exact if_pos q5
          · rw [hB]; exact hR.1 q5
        · refine Or.inl ⟨s + 1, up1 c s (nI b), r, nI b, ⟨by omega, e4, by omega, by omega, fun q z => up1_o _ _ (by omega), fun q z1 z2 => ?_, ?_⟩, fun z => z.elim, hA _ ?_, ?_⟩
          · have : q = s := by omega
            rw [this, up1_s]
            intro z
            exact nI_pos (show b < 2 ^ 31 by omega) (by rw [z]; decide)
          · exact (PU.num (up1_s _ _ _) (nI_pos (by omega))).mono (by omega)
          · unfold nuW
            rw [if_neg q5]
            simp only
            rw [if_neg (nI_pos (show b < 2 ^ 31 by omega)), show (9999 : Int32) = nI 9999 from rfl, if_pos (nI_le (show b ≤ 9999 by omega) (by decide))]
          · rw [hB]; exact hR.2 q5
      · have hN := (cs_number (s := s) (c := c) (w := -1) (lo := 0) (hi := 9999) (k := 4) H hk (by decide)).2.1 rfl (by rw [sk_sk]; exact qd)
        rw [sk_sk] at hN
        obtain ⟨s', c', hs', he⟩ := cs_emitF (p := sk (hI h 2) n p) (w := nI (sk (hI h 2) n p)) (c := c) (x := 0) W (show s ≤ 240 by omega)
        refine Or.inr ⟨nI (sk (hI h 2) n p), s', c', sk (hI h 2) n p, sk (hI h 2) n p, nI d, 0, nq, hs', hk, hk, fun z => z.elim, ?_, ?_⟩
        · show Fm (kX2_readAtom (gRd i)) 4 [vR (some 135), vI (nI d)] (CS h s c p (-1)) = _
          rw [tX2_readAtom (gRd_G i)]
          simp only [oB_some, dR_some, cond_true, cond_false, if_true, if_false, Bool.true_and, Bool.and_true, Nat.beq_refl, CS_K, CS_R, W1, W2, T1, cs_peek H hp240, cs_letter P, qa, qb, show (4 : Int32) = nI 4 from rfl, hN, he]
        · show Fm (kX12_atom (gMd i')) 4 [vR (some 147)] (MS hm (nI d) p (-1)) = _
          rw [tX12_atom (gMd_G i')]
          simp only [oB_some, dR_some, cond_true, cond_false, if_true, if_false, Bool.true_and, Bool.and_true, Nat.beq_refl, MS_K, M1, ms_look M hp, among6 (S11' _ _ _), qa, qb, (ms_isDigit M hk).2 qd, ms_fails M1]
          rw [tX12_atom_90 (gMd_G i')]
          simp only [oB_some, dR_some, cond_true, cond_false, if_true, if_false, Bool.true_and, Bool.and_true, Nat.beq_refl, MS_K, M1, (ms_isDigit M hk).2 qd]
  · obtain ⟨j, j1, j2, j3, j4⟩ := let_ref C qa
    have hq : sk (hI h 2) n p < n := by
      refine Classical.byContradiction fun z => qa ?_
      rw [show chT (hI h 2) n (sk (hI h 2) n p) = -1 from if_neg z, lt6_m1]
    refine Or.inl ⟨s + 1, up1 c s (-1 - nI j), sk (hI h 2) n p + 1, L j, ⟨by omega, by omega, by omega, by omega, fun q z => up1_o _ _ (by omega), fun q z1 z2 => ?_, ?_⟩, fun z => z.elim, ?_, ?_⟩
    · have : q = s := by omega
      rw [this, up1_s]
      exact (let_ar j j1).2.2.2.1
    · exact (PU.let j1 (up1_s _ _ _)).mono (by omega)
    · show Fm (kX2_readAtom (gRd i)) 4 [vR (some 135), vI (nI d)] (CS h s c p (-1)) = _
      rw [tX2_readAtom (gRd_G i)]
      simp only [oB_some, dR_some, cond_true, cond_false, if_true, if_false, Bool.true_and, Bool.and_true, Nat.beq_refl, CS_K, CS_R, W1, W2, T1, cs_peek H hp240, cs_letter P, qa, cs_skip H, cs_emit W (show s < 240 by omega)]
      rw [j2]
    · show Fm (kX12_atom (gMd i')) 4 [vR (some 147)] (MS hm (nI d) p (-1)) = _
      rw [tX12_atom (gMd_G i')]
      simp only [oB_some, dR_some, cond_true, cond_false, if_true, if_false, Bool.true_and, Bool.and_true, Nat.beq_refl, MS_K, hK_sI, M1, ms_look M hp, among6 (S11' _ _ _), qa, show ¬ ((1 : Int32) = 0) by decide, MS_10, nI_1, MS_p, MS_R, MS_E, R4, K151, E151, iaK20, j3, MS_o _ _ _ _ (show (151 : Nat) ≠ 147 by decide), j4]
