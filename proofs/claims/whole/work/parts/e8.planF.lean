/-! ===== PURE: a plan read by both, once more: rows below 192 stay ===== -/
def SO2 (h hm : Hp) (n : Nat) (q : Option Nat) (f r : Nat → Int32) (i p : Nat) (A D : Option (RV × Hp)) : Prop :=
  (∃ p' x y z, p < p' ∧ p' ≤ n ∧ stp x y ∧ A = some (rV, PS h q (put3 f (3 * i) x y z) p' (-1)) ∧ D = some (rV, MP hm (put3 r (192 + 3 * i) x y z) p' (-1))) ∨
  (∃ w f' r' p' p'', w ≠ -1 ∧ p' ≤ n ∧ p'' ≤ n ∧ A = some (rV, PS h q f' p' w) ∧ D = some (rV, MP hm r' p'' w) ∧ ∀ j, j < 192 → r' j = r j)
theorem j_step2 {h hm : Hp} {n T B i p : Nat} {q : Option Nat} {f r : Nat → Int32} (H : HT h n) (Q : QL h q) (M : RP hm T B n (hI h 2)) (hi : i < 16) (hp : p ≤ n) : SO2 h hm n q f r i p (FX6_readStep [vR (some 1), vR q, vI (nI i)] (PS h q f p (-1))) (FX12_readStep [vR (some 147), vI (nI (192 + 3 * i))] (MP hm r p (-1))) := by
  have hn := H.2.2
  have T1 := H.1.1
  have M1 := M.1.1.1.1
  obtain ⟨R1, R2, R3, _⟩ := M.2
  have hk0 := (sk_le (t := hI h 2) (n := n) p).1
  have hk := (sk_le (t := hI h 2) (n := n) p).2 hp
  have hp240 : p ≤ 240 := by omega
  have hq240 : sk (hI h 2) n p ≤ 240 := by omega
  have m1 : nI (192 + 3 * i) + 1 = nI (192 + 3 * i + 1) := nI_1 _
  have m2 : nI (192 + 3 * i) + 2 = nI (192 + 3 * i + 2) := nI_add _ 2
  have b0 : inb (nI (192 + 3 * i)) 240 = true := inb_nI (by omega) (by omega)
  have b1 : inb (nI (192 + 3 * i + 1)) 240 = true := inb_nI (by omega) (by omega)
  have b2 : inb (nI (192 + 3 * i + 2)) 240 = true := inb_nI (by omega) (by omega)
  have c0 : (nI (192 + 3 * i)).toNatClampNeg = 192 + 3 * i := nI_clamp (by omega)
  have c1 : (nI (192 + 3 * i + 1)).toNatClampNeg = 192 + 3 * i + 1 := nI_clamp (by omega)
  have c2 : (nI (192 + 3 * i + 2)).toNatClampNeg = 192 + 3 * i + 2 := nI_clamp (by omega)
  by_cases qw : chT (hI h 2) n (sk (hI h 2) n p) = 119
  · have hq := ch_lt qw (by decide)
    have hk2 := (sk_le (t := hI h 2) (n := n) (sk (hI h 2) n p + 1)).1
    have hk2' := (sk_le (t := hI h 2) (n := n) (sk (hI h 2) n p + 1)).2 (by omega)
    by_cases qd : dgo (hI h 2) n 3 (sk (hI h 2) n p + 1)
    · have hq2 := dgo_lt qd
      refine Or.inl ⟨sk (hI h 2) n (sk (hI h 2) n p + 1) + 1, 0, chT (hI h 2) n (sk (hI h 2) n (sk (hI h 2) n p + 1)) - 48, -1, by omega, by omega, Or.inl ⟨rfl, dgo_3 qd⟩, ?_, ?_⟩
      · rw [tX6_readStep]
        simp only [oB_some, dR_some, cond_true, cond_false, if_true, if_false, Bool.true_and, Bool.and_true, Nat.beq_refl, PS_K, T1, pq_accept H Q hp240, qw, show ¬ ((1 : Int32) = 0) by decide, (pq_digit (f := f) H Q (show sk (hI h 2) n p + 1 ≤ n by omega)).1 rfl qd, pq_put Q hi]
      · rw [tX12_readStep]
        simp only [oB_some, dR_some, cond_true, cond_false, if_true, if_false, Bool.true_and, Bool.and_true, Nat.beq_refl, hK_sI, MP_K, MP_E, MP_R, M1, R1, R2, R3, mp_look M hp, mp_spot M, qw, show sp4 119 = 0 from rfl, show ¬ ((0 : Int32) = -1) by decide, show ¬ ((0 : Int32) = 1) by decide, show ¬ ((0 : Int32) = 2) by decide, MP_10, nI_1, MP_p, m1, m2, b0, b1, b2, c0, c1, c2, MP_w, (mp_digit M (show sk (hI h 2) n p + 1 ≤ n by omega)).1 qd, MP_11]
        rfl
    · have nq : nI (sk (hI h 2) n (sk (hI h 2) n p + 1)) ≠ -1 := nI_nm1 (by omega)
      refine Or.inr ⟨_, put3 f (3 * i) 0 0 (-1), put3 r (192 + 3 * i) 0 0 (-1), _, _, nq, hk2', hk2', ?_, ?_, (by first | exact fun j hj => rfl | exact fun j hj => put3_o _ _ _ _ _ (Or.inl (by omega)))⟩
      · rw [tX6_readStep]
        simp only [oB_some, dR_some, cond_true, cond_false, if_true, if_false, Bool.true_and, Bool.and_true, Nat.beq_refl, PS_K, T1, pq_accept H Q hp240, qw, show ¬ ((1 : Int32) = 0) by decide, (pq_digit (f := f) H Q (show sk (hI h 2) n p + 1 ≤ n by omega)).2.1 rfl qd, pq_put Q hi]
      · rw [tX12_readStep]
        simp only [oB_some, dR_some, cond_true, cond_false, if_true, if_false, Bool.true_and, Bool.and_true, Nat.beq_refl, hK_sI, MP_K, MP_E, MP_R, M1, R1, R2, R3, mp_look M hp, mp_spot M, qw, show sp4 119 = 0 from rfl, show ¬ ((0 : Int32) = -1) by decide, show ¬ ((0 : Int32) = 1) by decide, show ¬ ((0 : Int32) = 2) by decide, MP_10, nI_1, MP_p, m1, m2, b0, b1, b2, c0, c1, c2, MP_w, (mp_digit M (show sk (hI h 2) n p + 1 ≤ n by omega)).2 qd, MP_11, nq]
        rfl
  by_cases qc : chT (hI h 2) n (sk (hI h 2) n p) = 99
  · have hq := ch_lt qc (by decide)
    refine Or.inl ⟨sk (hI h 2) n p + 1, 1, -1, -1, by omega, by omega, Or.inr (Or.inl rfl), ?_, ?_⟩
    · rw [tX6_readStep]
      simp only [oB_some, dR_some, cond_true, cond_false, if_true, if_false, Bool.true_and, Bool.and_true, Nat.beq_refl, PS_K, T1, pq_accept H Q hp240, pq_accept H Q hq240, sk_sk, qc, show ¬ ((99 : Int32) = 119) by decide, show ¬ ((1 : Int32) = 0) by decide, pq_put Q hi]
    · rw [tX12_readStep]
      simp only [oB_some, dR_some, cond_true, cond_false, if_true, if_false, Bool.true_and, Bool.and_true, Nat.beq_refl, hK_sI, MP_K, MP_E, MP_R, M1, R1, R2, R3, mp_look M hp, mp_spot M, qc, show sp4 99 = 1 from rfl, show ¬ ((1 : Int32) = -1) by decide, show ¬ ((1 : Int32) = 2) by decide, MP_10, nI_1, MP_p, m1, m2, b0, b1, b2, c0, c1, c2, MP_w, MP_11]
      rfl
  by_cases qs : chT (hI h 2) n (sk (hI h 2) n p) = 115
  · have hq := ch_lt qs (by decide)
    have hk2 := (sk_le (t := hI h 2) (n := n) (sk (hI h 2) n p + 1)).1
    have hk2' := (sk_le (t := hI h 2) (n := n) (sk (hI h 2) n p + 1)).2 (by omega)
    by_cases qd : dgo (hI h 2) n 9 (sk (hI h 2) n p + 1)
    · have hq2 := dgo_lt qd
      have hk3 := (sk_le (t := hI h 2) (n := n) (sk (hI h 2) n (sk (hI h 2) n p + 1) + 1)).1
      have hk3' := (sk_le (t := hI h 2) (n := n) (sk (hI h 2) n (sk (hI h 2) n p + 1) + 1)).2 (by omega)
      by_cases qe : dgo (hI h 2) n 1 (sk (hI h 2) n (sk (hI h 2) n p + 1) + 1)
      · have hq3 := dgo_lt qe
        refine Or.inl ⟨sk (hI h 2) n (sk (hI h 2) n (sk (hI h 2) n p + 1) + 1) + 1, 2, chT (hI h 2) n (sk (hI h 2) n (sk (hI h 2) n p + 1)) - 48, chT (hI h 2) n (sk (hI h 2) n (sk (hI h 2) n (sk (hI h 2) n p + 1) + 1)) - 48, by omega, by omega, Or.inr (Or.inr (Or.inl rfl)), ?_, ?_⟩
        · rw [tX6_readStep]
          simp only [oB_some, dR_some, cond_true, cond_false, if_true, if_false, Bool.true_and, Bool.and_true, Nat.beq_refl, PS_K, T1, pq_accept H Q hp240, pq_accept H Q hq240, sk_sk, qs, show ¬ ((115 : Int32) = 119) by decide, show ¬ ((115 : Int32) = 99) by decide, show ¬ ((1 : Int32) = 0) by decide, (pq_digit (f := f) H Q (show sk (hI h 2) n p + 1 ≤ n by omega)).1 rfl qd, (pq_digit (f := f) H Q (show sk (hI h 2) n (sk (hI h 2) n p + 1) + 1 ≤ n by omega)).1 rfl qe, pq_put Q hi]
        · rw [tX12_readStep]
          simp only [oB_some, dR_some, cond_true, cond_false, if_true, if_false, Bool.true_and, Bool.and_true, Nat.beq_refl, hK_sI, MP_K, MP_E, MP_R, M1, R1, R2, R3, mp_look M hp, mp_spot M, qs, show sp4 115 = 2 from rfl, show ¬ ((2 : Int32) = -1) by decide, show ¬ ((2 : Int32) = 1) by decide, show ¬ ((2 : Int32) = 0) by decide, MP_10, nI_1, MP_p, m1, m2, b0, b1, b2, c0, c1, c2, MP_w, (mp_digit M (show sk (hI h 2) n p + 1 ≤ n by omega)).1 qd, (mp_digit M (show sk (hI h 2) n (sk (hI h 2) n p + 1) + 1 ≤ n by omega)).1 qe, MP_11, up1_up1]
          rfl
      · have nq : nI (sk (hI h 2) n (sk (hI h 2) n (sk (hI h 2) n p + 1) + 1)) ≠ -1 := nI_nm1 (by omega)
        refine Or.inr ⟨_, put3 f (3 * i) 2 (chT (hI h 2) n (sk (hI h 2) n (sk (hI h 2) n p + 1)) - 48) 0, put3 r (192 + 3 * i) 2 (chT (hI h 2) n (sk (hI h 2) n (sk (hI h 2) n p + 1)) - 48) 0, _, _, nq, hk3', hk3', ?_, ?_, (by first | exact fun j hj => rfl | exact fun j hj => put3_o _ _ _ _ _ (Or.inl (by omega)))⟩
        · rw [tX6_readStep]
          simp only [oB_some, dR_some, cond_true, cond_false, if_true, if_false, Bool.true_and, Bool.and_true, Nat.beq_refl, PS_K, T1, pq_accept H Q hp240, pq_accept H Q hq240, sk_sk, qs, show ¬ ((115 : Int32) = 119) by decide, show ¬ ((115 : Int32) = 99) by decide, show ¬ ((1 : Int32) = 0) by decide, (pq_digit (f := f) H Q (show sk (hI h 2) n p + 1 ≤ n by omega)).1 rfl qd, (pq_digit (f := f) H Q (show sk (hI h 2) n (sk (hI h 2) n p + 1) + 1 ≤ n by omega)).2.1 rfl qe, pq_put Q hi]
        · rw [tX12_readStep]
          simp only [oB_some, dR_some, cond_true, cond_false, if_true, if_false, Bool.true_and, Bool.and_true, Nat.beq_refl, hK_sI, MP_K, MP_E, MP_R, M1, R1, R2, R3, mp_look M hp, mp_spot M, qs, show sp4 115 = 2 from rfl, show ¬ ((2 : Int32) = -1) by decide, show ¬ ((2 : Int32) = 1) by decide, show ¬ ((2 : Int32) = 0) by decide, MP_10, nI_1, MP_p, m1, m2, b0, b1, b2, c0, c1, c2, MP_w, (mp_digit M (show sk (hI h 2) n p + 1 ≤ n by omega)).1 qd, (mp_digit M (show sk (hI h 2) n (sk (hI h 2) n p + 1) + 1 ≤ n by omega)).2 qe, MP_11, up1_up1]
          rfl
    · have nq : nI (sk (hI h 2) n (sk (hI h 2) n p + 1)) ≠ -1 := nI_nm1 (by omega)
      refine Or.inr ⟨_, put3 f (3 * i) 2 0 0, put3 r (192 + 3 * i) 2 0 (-1), sk (hI h 2) n (sk (hI h 2) n p + 1), _, nq, hk2', hk2', ?_, ?_, (by first | exact fun j hj => rfl | exact fun j hj => put3_o _ _ _ _ _ (Or.inl (by omega)))⟩
      · rw [tX6_readStep]
        simp only [oB_some, dR_some, cond_true, cond_false, if_true, if_false, Bool.true_and, Bool.and_true, Nat.beq_refl, PS_K, T1, pq_accept H Q hp240, pq_accept H Q hq240, sk_sk, qs, show ¬ ((115 : Int32) = 119) by decide, show ¬ ((115 : Int32) = 99) by decide, show ¬ ((1 : Int32) = 0) by decide, (pq_digit (f := f) H Q (show sk (hI h 2) n p + 1 ≤ n by omega)).2.1 rfl qd, (pq_digit (f := f) H Q hk2').2.2 nq, pq_put Q hi]
      · rw [tX12_readStep]
        simp only [oB_some, dR_some, cond_true, cond_false, if_true, if_false, Bool.true_and, Bool.and_true, Nat.beq_refl, hK_sI, MP_K, MP_E, MP_R, M1, R1, R2, R3, mp_look M hp, mp_spot M, qs, show sp4 115 = 2 from rfl, show ¬ ((2 : Int32) = -1) by decide, show ¬ ((2 : Int32) = 1) by decide, show ¬ ((2 : Int32) = 0) by decide, MP_10, nI_1, MP_p, m1, m2, b0, b1, b2, c0, c1, c2, MP_w, (mp_digit M (show sk (hI h 2) n p + 1 ≤ n by omega)).2 qd, MP_11, nq]
        rfl
  by_cases qp : chT (hI h 2) n (sk (hI h 2) n p) = 112
  · have hq := ch_lt qp (by decide)
    have hk2 := (sk_le (t := hI h 2) (n := n) (sk (hI h 2) n p + 1)).1
    have hk2' := (sk_le (t := hI h 2) (n := n) (sk (hI h 2) n p + 1)).2 (by omega)
    by_cases qd : dgo (hI h 2) n 9 (sk (hI h 2) n p + 1)
    · have hq2 := dgo_lt qd
      refine Or.inl ⟨sk (hI h 2) n (sk (hI h 2) n p + 1) + 1, 3, chT (hI h 2) n (sk (hI h 2) n (sk (hI h 2) n p + 1)) - 48, -1, by omega, by omega, Or.inr (Or.inr (Or.inr rfl)), ?_, ?_⟩
      · rw [tX6_readStep]
        simp only [oB_some, dR_some, cond_true, cond_false, if_true, if_false, Bool.true_and, Bool.and_true, Nat.beq_refl, PS_K, T1, pq_accept H Q hp240, pq_accept H Q hq240, pq_demand H Q hq240, sk_sk, qp, show ¬ ((112 : Int32) = 119) by decide, show ¬ ((112 : Int32) = 99) by decide, show ¬ ((112 : Int32) = 115) by decide, (pq_digit (f := f) H Q (show sk (hI h 2) n p + 1 ≤ n by omega)).1 rfl qd, pq_put Q hi]
      · rw [tX12_readStep]
        simp only [oB_some, dR_some, cond_true, cond_false, if_true, if_false, Bool.true_and, Bool.and_true, Nat.beq_refl, hK_sI, MP_K, MP_E, MP_R, M1, R1, R2, R3, mp_look M hp, mp_spot M, qp, show sp4 112 = 3 from rfl, show ¬ ((3 : Int32) = -1) by decide, show ¬ ((3 : Int32) = 1) by decide, show ¬ ((3 : Int32) = 0) by decide, show ¬ ((3 : Int32) = 2) by decide, MP_10, nI_1, MP_p, m1, m2, b0, b1, b2, c0, c1, c2, MP_w, (mp_digit M (show sk (hI h 2) n p + 1 ≤ n by omega)).1 qd, MP_11]
        rfl
    · have nq : nI (sk (hI h 2) n (sk (hI h 2) n p + 1)) ≠ -1 := nI_nm1 (by omega)
      refine Or.inr ⟨_, put3 f (3 * i) 3 0 (-1), put3 r (192 + 3 * i) 3 0 (-1), _, _, nq, hk2', hk2', ?_, ?_, (by first | exact fun j hj => rfl | exact fun j hj => put3_o _ _ _ _ _ (Or.inl (by omega)))⟩
      · rw [tX6_readStep]
        simp only [oB_some, dR_some, cond_true, cond_false, if_true, if_false, Bool.true_and, Bool.and_true, Nat.beq_refl, PS_K, T1, pq_accept H Q hp240, pq_accept H Q hq240, pq_demand H Q hq240, sk_sk, qp, show ¬ ((112 : Int32) = 119) by decide, show ¬ ((112 : Int32) = 99) by decide, show ¬ ((112 : Int32) = 115) by decide, (pq_digit (f := f) H Q (show sk (hI h 2) n p + 1 ≤ n by omega)).2.1 rfl qd, pq_put Q hi]
      · rw [tX12_readStep]
        simp only [oB_some, dR_some, cond_true, cond_false, if_true, if_false, Bool.true_and, Bool.and_true, Nat.beq_refl, hK_sI, MP_K, MP_E, MP_R, M1, R1, R2, R3, mp_look M hp, mp_spot M, qp, show sp4 112 = 3 from rfl, show ¬ ((3 : Int32) = -1) by decide, show ¬ ((3 : Int32) = 1) by decide, show ¬ ((3 : Int32) = 0) by decide, show ¬ ((3 : Int32) = 2) by decide, MP_10, nI_1, MP_p, m1, m2, b0, b1, b2, c0, c1, c2, MP_w, (mp_digit M (show sk (hI h 2) n p + 1 ≤ n by omega)).2 qd, MP_11, nq]
        rfl
  have nq : nI (sk (hI h 2) n p) ≠ -1 := nI_nm1 (by omega)
  have es : sp4 (chT (hI h 2) n (sk (hI h 2) n p)) = -1 := by
    unfold sp4; rw [if_neg qw, if_neg qc, if_neg qs, if_neg qp]
  refine Or.inr ⟨_, put3 f (3 * i) 3 0 (-1), r, sk (hI h 2) n p, _, nq, hk, hk, ?_, ?_, (by first | exact fun j hj => rfl | exact fun j hj => put3_o _ _ _ _ _ (Or.inl (by omega)))⟩
  · have dd := (pq_digit (f := f) (x := 9) H Q hk).2.2 nq
    rw [sk_sk] at dd
    rw [tX6_readStep]
    simp only [oB_some, dR_some, cond_true, cond_false, if_true, if_false, Bool.true_and, Bool.and_true, Nat.beq_refl, PS_K, T1, pq_accept H Q hp240, pq_accept H Q hq240, pq_demand H Q hq240, sk_sk, qw, qc, qs, qp, dd, pq_put Q hi]
  · rw [tX12_readStep]
    simp only [oB_some, dR_some, cond_true, cond_false, if_true, if_false, Bool.true_and, Bool.and_true, Nat.beq_refl, hK_sI, MP_K, M1, mp_look M hp, mp_spot M, es, mp_fails M1]
def PO2 (h hm : Hp) (q : Option Nat) (r0 : Nat → Int32) (A D : Option (RV × Hp)) : Prop :=
  (∃ cnt f' r' p1 p2, 0 < cnt ∧ cnt ≤ 16 ∧ (∀ j, j < 3 * cnt → f' j = r' (192 + j)) ∧ (∀ i, i < cnt → stp (f' (3 * i)) (f' (3 * i + 1))) ∧ (∀ j, j < 192 → r' j = r0 j) ∧ A = some (rI (-1), PC (PS h q f' p1 (-1)) q (nI cnt)) ∧ D = some (rV, MP (sI hm 159 4 (nI cnt)) r' p2 (-1))) ∨
  (∃ w f' r' p1 p2 c hm', w ≠ -1 ∧ (∀ j, j < 192 → r' j = r0 j) ∧ A = some (rI w, PC (PS h q f' p1 w) q c) ∧ (hm' = hm ∨ ∃ d, hm' = sI hm 159 4 d) ∧ D = some (rV, MP hm' r' p2 w))
theorem plan_end2 {h hm : Hp} {n T B p cnt : Nat} {q : Option Nat} {f r r0 : Nat → Int32} {x : Int32} (H : HT h n) (Q : QL h q) (M : RP hm T B n (hI h 2)) (h0 : 0 < cnt) (h16 : cnt ≤ 16) (hp : p ≤ n) (e : ∀ j, j < 3 * cnt → f j = r (192 + j)) (es : ∀ i, i < cnt → stp (f (3 * i)) (f (3 * i + 1))) (er : ∀ j, j < 192 → r j = r0 j) :
    PO2 h hm q r0 (Run kX6_readFrom 11 [some (vR (some 1)), some (vR q), some (vI 0), some (vI (nI cnt)), some (vI x)] [] (PS h q f p (-1))) (Run kX12_readPlan 17 [some (vR (some 147)), some (vI (nI cnt)), some (vI 0)] [] (MP hm r p (-1))) := by
  have hn := H.2.2
  have hk := (sk_le (t := hI h 2) (n := n) p).2 hp
  rw [pl_stop H Q (by omega), rp_stop M hp]
  by_cases c : chT (hI h 2) n (sk (hI h 2) n p) = -1
  · have : enW (hI h 2) n p (-1) = -1 := by unfold enW; rw [if_pos c]
    rw [this]
    exact Or.inl ⟨cnt, f, r, _, _, h0, h16, e, es, er, rfl, rfl⟩
  · have : enW (hI h 2) n p (-1) = nI (sk (hI h 2) n p) := by unfold enW; rw [if_neg c, if_pos rfl]
    rw [this]
    exact Or.inr ⟨nI (sk (hI h 2) n p), f, r, _, _, _, _, nI_nm1 (by omega), er, rfl, Or.inr ⟨_, rfl⟩, rfl⟩
theorem plan_loop2 {h hm : Hp} {n T B : Nat} {q : Option Nat} {r0 : Nat → Int32} (H : HT h n) (Q : QL h q) (M : RP hm T B n (hI h 2)) : ∀ (k i p : Nat) (f r : Nat → Int32), i + (k + 1) = 16 → p ≤ n → (∀ j, j < 3 * i → f j = r (192 + j)) → (∀ i', i' < i → stp (f (3 * i')) (f (3 * i' + 1))) → (∀ j, j < 192 → r j = r0 j) →
    PO2 h hm q r0 (Run kX6_readFrom 11 [some (vR (some 1)), some (vR q), some (vI 1), some (vI (nI i)), some (vI (nI i))] [] (PS h q f p (-1))) (Run kX12_readPlan 17 [some (vR (some 147)), some (vI (nI i)), some (vI 1)] [] (MP hm r p (-1))) := by
  have hn := H.2.2
  have T1 := H.1.1
  have M1 := M.1.1.1.1
  intro k
  induction k with
  | zero =>
    intro i p f r hi hp e es er
    have hi' : i = 15 := by omega
    subst hi'
    have c0 : ¬ (16 : Int32) ≤ nI 15 := by decide
    have c1 : (16 : Int32) ≤ nI 16 := by decide
    have c2 : nI 15 + 1 = nI 16 := by decide
    have c3 : nI 15 + 1 = (16 : Int32) := by decide
    have c4 : (3 : Int32) * (64 + nI 15) = nI (192 + 3 * 15) := by decide
    rw [tX6_readFrom_11, tX12_readPlan_17, if_neg c0, if_neg (show ¬ (1 : Int32) = 0 by decide), if_neg (show ¬ (1 : Int32) = 0 by decide), c4]
    rcases j_step2 (f := f) (r := r) (i := 15) H Q M (by omega) hp with ⟨p', x, y, z, l1, l2, st, A, D⟩ | ⟨w, f', r', p', p'', hw, l1, l2, A, D, kr⟩
    · have hk' := (sk_le (t := hI h 2) (n := n) p').2 l2
      by_cases c : chT (hI h 2) n (sk (hI h 2) n p') = 59
      · have e1 : enW (hI h 2) n p' (-1) = nI (sk (hI h 2) n p') := by unfold enW; rw [if_neg (by rw [c]; decide), if_pos rfl]
        refine Or.inr ⟨nI (sk (hI h 2) n p'), put3 f (3 * 15) x y z, put3 r (192 + 3 * 15) x y z, sk (hI h 2) n p', sk (hI h 2) n p', nI 16, hm, nI_nm1 (by omega), (fun j hj => (put3_o _ _ _ _ _ (Or.inl (by omega))).trans (er j hj)), ?_, Or.inl rfl, ?_⟩
        · rw [A]
          simp only [oB_some, dR_some, cond_true, cond_false, if_true, if_false, Bool.true_and, Bool.and_true, Nat.beq_refl, c1, c2, pl_stop H Q (show p' ≤ 240 by omega), e1]
        · simp only [oB_some, dR_some, cond_true, cond_false, if_true, if_false, Bool.true_and, Bool.and_true, Nat.beq_refl, MP_K, M1, D, MP_11, mp_look M l2, c, show ¬ (1 : Int32) = 0 by decide, c3, mp_fails M1]
      · rw [A, D]
        simp only [oB_some, dR_some, cond_true, cond_false, if_true, if_false, Bool.true_and, Bool.and_true, Nat.beq_refl, c1, c2, MP_K, M1, MP_11, mp_look M l2, c]
        have := plan_end2 (x := nI 16) H Q M (show 0 < 16 by omega) (Nat.le_refl _) hk' (put3_agree e x y z) (put3_stp es st) (fun j hj => (put3_o _ _ _ _ _ (Or.inl (by omega))).trans (er j hj))
        rw [pl_stop H Q (show p' ≤ 240 by omega)]
        rw [pl_stop H Q (show sk (hI h 2) n p' ≤ 240 by omega)] at this
        unfold enW at this ⊢
        rw [sk_sk] at this
        exact this
    · refine Or.inr ⟨w, f', r', sk (hI h 2) n p', p'', nI 16, hm, hw, (fun j hj => (kr j hj).trans (er j hj)), ?_, Or.inl rfl, ?_⟩
      · rw [A]
        simp only [oB_some, dR_some, cond_true, cond_false, if_true, if_false, Bool.true_and, Bool.and_true, Nat.beq_refl, c1, c2, pl_stop H Q (show p' ≤ 240 by omega), enW_w hw]
      · simp only [oB_some, dR_some, cond_true, cond_false, if_true, if_false, Bool.true_and, Bool.and_true, Nat.beq_refl, MP_K, M1, D, MP_11, hw]
  | succ k ih =>
    intro i p f r hi hp e es er
    have c0 : ¬ (16 : Int32) ≤ nI i := by rw [show (16 : Int32) = nI 16 from rfl, nI_nle' (by omega) (by omega)]; omega
    have c2 : nI i + 1 = nI (i + 1) := nI_1 _
    have c1 : ¬ (16 : Int32) ≤ nI (i + 1) := by rw [show (16 : Int32) = nI 16 from rfl, nI_nle' (by omega) (by omega)]; omega
    have c3 : ¬ nI (i + 1) = (16 : Int32) := by rw [show (16 : Int32) = nI 16 from rfl, nI_neq' (by omega) (by omega)]; omega
    have c4 : (3 : Int32) * (64 + nI i) = nI (192 + 3 * i) := by
      rw [show (64 : Int32) = nI 64 from rfl, nI_add, show (3 : Int32) = nI 3 from rfl, pk_mul, Nat.mul_add]
    rw [tX6_readFrom_11, tX12_readPlan_17, if_neg c0, if_neg (show ¬ (1 : Int32) = 0 by decide), if_neg (show ¬ (1 : Int32) = 0 by decide), c4]
    rcases j_step2 (f := f) (r := r) (i := i) H Q M (by omega) hp with ⟨p', x, y, z, l1, l2, st, A, D⟩ | ⟨w, f', r', p', p'', hw, l1, l2, A, D, kr⟩
    · have hk' := (sk_le (t := hI h 2) (n := n) p').2 l2
      rw [A]
      by_cases c : chT (hI h 2) n (sk (hI h 2) n p') = 59
      · have hq := ch_lt c (by decide)
        have := ih (i + 1) (sk (hI h 2) n p' + 1) _ _ (by omega) (by omega) (put3_agree e x y z) (put3_stp es st) (fun j hj => (put3_o _ _ _ _ _ (Or.inl (by omega))).trans (er j hj))
        simp only [oB_some, dR_some, cond_true, cond_false, if_true, if_false, Bool.true_and, Bool.and_true, Nat.beq_refl, c1, c2, c3, MP_K, M1, PS_K, T1, pq_accept H Q (show p' ≤ 240 by omega), D, MP_11, mp_look M l2, c, show ¬ (1 : Int32) = 0 by decide, MP_10, nI_1, MP_p]
        exact this
      · have := plan_end2 (x := nI (i + 1)) H Q M (show 0 < i + 1 by omega) (by omega) hk' (put3_agree e x y z) (put3_stp es st) (fun j hj => (put3_o _ _ _ _ _ (Or.inl (by omega))).trans (er j hj))
        simp only [oB_some, dR_some, cond_true, cond_false, if_true, if_false, Bool.true_and, Bool.and_true, Nat.beq_refl, c1, c2, c3, MP_K, M1, PS_K, T1, pq_accept H Q (show p' ≤ 240 by omega), D, MP_11, mp_look M l2, c]
        exact this
    · refine Or.inr ⟨w, f', r', sk (hI h 2) n p', p'', nI (i + 1), hm, hw, (fun j hj => (kr j hj).trans (er j hj)), ?_, Or.inl rfl, ?_⟩
      · rw [A]
        simp only [oB_some, dR_some, cond_true, cond_false, if_true, if_false, Bool.true_and, Bool.and_true, Nat.beq_refl, c1, c2, PS_K, T1, pq_accept H Q (show p' ≤ 240 by omega), hw, pl_stop H Q (show p' ≤ 240 by omega), enW_w hw]
      · simp only [oB_some, dR_some, cond_true, cond_false, if_true, if_false, Bool.true_and, Bool.and_true, Nat.beq_refl, MP_K, M1, D, MP_11, hw]
