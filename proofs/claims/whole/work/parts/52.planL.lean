/-! ===== PURE: a plan's loop, by both readers ===== -/
theorem PS_3 (h : Hp) (q : Option Nat) (f : Nat → Int32) (p : Nat) (w : Int32) : hI (PS h q f p w) 1 3 = w := tw_wr _ _ _
theorem PC_K (h : Hp) (q : Option Nat) (x : Int32) (a : Nat) : hK (PC h q x) a = hK h a := by cases q <;> rfl
/-- where a reader that wants the end stands -/
def enW (t : Nat → Int32) (n p : Nat) (w : Int32) : Int32 := if chT t n (sk t n p) = -1 then w else if w = -1 then nI (sk t n p) else w
theorem enW_w {t : Nat → Int32} {n p : Nat} {w : Int32} (hw : w ≠ -1) : enW t n p w = w := by unfold enW; rw [if_neg hw, ite_self]
theorem pl_end {h : Hp} {n p : Nat} {q : Option Nat} {f : Nat → Int32} {w x : Int32} (H : HT h n) (Q : QL h q) (hp : p ≤ 240) :
    dR (some 1) (fun a1 => bif Nat.beq (hK (PS h q f p w) a1) 9 && true then oB (FX9_demandEnd [vR (some a1)] (PS h q f p w)) (fun r2 h3 => nl (q) (dR (some 1) (fun a4 => if hK h3 a4 = 9 then some (rI (hI h3 a4 3), h3) else none)) (dR (q) (fun a5 => if hK h3 a5 = 6 then oB (some (rV, sI h3 a5 1 x)) (fun _ h6 => dR (some 1) (fun a7 => if hK h6 a7 = 9 then some (rI (hI h6 a7 3), h6) else none)) else none))) else none) = some (rI (enW (hI h 2) n p w), PC (PS h q f (sk (hI h 2) n p) (enW (hI h 2) n p w)) q x) := by
  have T1 := H.1.1
  cases q with
  | none =>
    simp only [oB_some, dR_some, cond_true, cond_false, if_true, if_false, Bool.true_and, Bool.and_true, Nat.beq_refl, PS_K, T1, pq_end H Q hp, nl_none, PS_3]
    rfl
  | some P =>
    have Q' := Q P rfl
    have e : ∀ (p' : Nat) (w' : Int32), hI (sI (PS h (some P) f p' w') P 1 x) 1 3 = w' := fun p' w' => by rw [hI_oth _ _ _ _ _ (by omega), PS_3]
    simp only [oB_some, dR_some, cond_true, cond_false, if_true, if_false, Bool.true_and, Bool.and_true, Nat.beq_refl, hK_sI, PS_K, T1, Q'.1, pq_end H Q hp, nl_some, e]
    rfl
theorem pl_stop {h : Hp} {n p : Nat} {q : Option Nat} {f : Nat → Int32} {w x y : Int32} (H : HT h n) (Q : QL h q) (hp : p ≤ 240) : Run kX6_readFrom 11 [some (vR (some 1)), some (vR q), some (vI 0), some (vI x), some (vI y)] [] (PS h q f p w) = some (rI (enW (hI h 2) n p w), PC (PS h q f (sk (hI h 2) n p) (enW (hI h 2) n p w)) q x) := by
  rw [tX6_readFrom_11]
  by_cases c : (16 : Int32) ≤ y
  · rw [if_pos c]; exact pl_end H Q hp
  · rw [if_neg c, if_pos rfl]; exact pl_end H Q hp
theorem MP_c (h : Hp) (r : Nat → Int32) (p : Nat) (w v : Int32) : sI (MP h r p w) 159 4 v = MP (sI h 159 4 v) r p w := by
  unfold MP; rw [mw_sI _ _ _ _ (Or.inl (by decide)), sI_wo _ _ _ _ (by decide)]
theorem RP.c {h : Hp} {T B n : Nat} {t : Nat → Int32} (M : RP h T B n t) (v : Int32) : RP (sI h 159 4 v) T B n t := by
  obtain ⟨m, r1, r2, r3, r4, r5, r6, s, t1, t2⟩ := M
  refine ⟨?_, r1, r2, r3, r4, r5, r6, ?_, t1, t2⟩
  · rw [sI_wA]; exact m.wA _ t2 (by decide)
  · unfold StL
    rw [hI_row _ _ _ _ (show PRE + 15 + 100 ≠ 159 by decide)]
    exact s
theorem rp_stop {hm : Hp} {T B n p : Nat} {t r : Nat → Int32} {x : Int32} (M : RP hm T B n t) (hp : p ≤ n) : Run kX12_readPlan 17 [some (vR (some 147)), some (vI x), some (vI 0)] [] (MP hm r p (-1)) = some (rV, MP (sI hm 159 4 x) r (sk t n p) (enW t n p (-1))) := by
  have M1 := M.1.1.1.1
  obtain ⟨R1, R2, R3, R4, R5, R6, _⟩ := M.2
  have i4 : inb 4 5 = true := by decide
  have c4 : Int32.toNatClampNeg 4 = 4 := by decide
  rw [tX12_readPlan_17, if_pos rfl]
  simp only [oB_some, dR_some, cond_true, cond_false, if_true, if_false, Bool.true_and, Bool.and_true, Nat.beq_refl, hK_sI, MP_K, MP_E, MP_R, M1, R4, R5, R6, i4, c4, MP_c, mp_look (M.c x) hp]
  unfold enW
  by_cases c : chT t n (sk t n p) = -1
  · rw [if_pos c, if_pos c]
  · rw [if_neg c, if_neg c, mp_fails (show hK (sI hm 159 4 x) 147 = 12 from M1)]
    rfl
def PO (h hm : Hp) (q : Option Nat) (A D : Option (RV × Hp)) : Prop :=
  (∃ cnt f' r' p1 p2, 0 < cnt ∧ cnt ≤ 16 ∧ (∀ j, j < 3 * cnt → f' j = r' (192 + j)) ∧ (∀ i, i < cnt → stp (f' (3 * i)) (f' (3 * i + 1))) ∧ A = some (rI (-1), PC (PS h q f' p1 (-1)) q (nI cnt)) ∧ D = some (rV, MP (sI hm 159 4 (nI cnt)) r' p2 (-1))) ∨
  (∃ w f' r' p1 p2 c hm', w ≠ -1 ∧ A = some (rI w, PC (PS h q f' p1 w) q c) ∧ (hm' = hm ∨ ∃ d, hm' = sI hm 159 4 d) ∧ D = some (rV, MP hm' r' p2 w))
theorem plan_end {h hm : Hp} {n T B p cnt : Nat} {q : Option Nat} {f r : Nat → Int32} {x : Int32} (H : HT h n) (Q : QL h q) (M : RP hm T B n (hI h 2)) (h0 : 0 < cnt) (h16 : cnt ≤ 16) (hp : p ≤ n) (e : ∀ j, j < 3 * cnt → f j = r (192 + j)) (es : ∀ i, i < cnt → stp (f (3 * i)) (f (3 * i + 1))) :
    PO h hm q (Run kX6_readFrom 11 [some (vR (some 1)), some (vR q), some (vI 0), some (vI (nI cnt)), some (vI x)] [] (PS h q f p (-1))) (Run kX12_readPlan 17 [some (vR (some 147)), some (vI (nI cnt)), some (vI 0)] [] (MP hm r p (-1))) := by
  have hn := H.2.2
  have hk := (sk_le (t := hI h 2) (n := n) p).2 hp
  rw [pl_stop H Q (by omega), rp_stop M hp]
  by_cases c : chT (hI h 2) n (sk (hI h 2) n p) = -1
  · have : enW (hI h 2) n p (-1) = -1 := by unfold enW; rw [if_pos c]
    rw [this]
    exact Or.inl ⟨cnt, f, r, _, _, h0, h16, e, es, rfl, rfl⟩
  · have : enW (hI h 2) n p (-1) = nI (sk (hI h 2) n p) := by unfold enW; rw [if_neg c, if_pos rfl]
    rw [this]
    exact Or.inr ⟨nI (sk (hI h 2) n p), f, r, _, _, _, _, nI_nm1 (by omega), rfl, Or.inr ⟨_, rfl⟩, rfl⟩
theorem put3_agree {f r : Nat → Int32} {i : Nat} (e : ∀ j, j < 3 * i → f j = r (192 + j)) (x y z : Int32) : ∀ j, j < 3 * (i + 1) → put3 f (3 * i) x y z j = put3 r (192 + 3 * i) x y z (192 + j) := by
  intro j hj
  by_cases c : j < 3 * i
  · rw [put3_o _ _ _ _ _ (Or.inl c), put3_o _ _ _ _ _ (Or.inl (by omega)), e j c]
  by_cases c0 : j = 3 * i
  · subst c0; rw [put3_0, put3_0]
  by_cases c1 : j = 3 * i + 1
  · subst c1; rw [put3_1, show 192 + (3 * i + 1) = 192 + 3 * i + 1 by omega, put3_1]
  have c2 : j = 3 * i + 2 := by omega
  subst c2; rw [put3_2, show 192 + (3 * i + 2) = 192 + 3 * i + 2 by omega, put3_2]
theorem put3_stp {f : Nat → Int32} {i : Nat} {x y z : Int32} (es : ∀ i', i' < i → stp (f (3 * i')) (f (3 * i' + 1))) (st : stp x y) : ∀ i', i' < i + 1 → stp (put3 f (3 * i) x y z (3 * i')) (put3 f (3 * i) x y z (3 * i' + 1)) := by
  intro i' hi
  by_cases c : i' = i
  · subst c; rw [put3_0, put3_1]; exact st
  · rw [put3_o _ _ _ _ _ (Or.inl (by omega)), put3_o _ _ _ _ _ (Or.inl (by omega))]; exact es i' (by omega)
theorem plan_loop {h hm : Hp} {n T B : Nat} {q : Option Nat} (H : HT h n) (Q : QL h q) (M : RP hm T B n (hI h 2)) : ∀ (k i p : Nat) (f r : Nat → Int32), i + (k + 1) = 16 → p ≤ n → (∀ j, j < 3 * i → f j = r (192 + j)) → (∀ i', i' < i → stp (f (3 * i')) (f (3 * i' + 1))) →
    PO h hm q (Run kX6_readFrom 11 [some (vR (some 1)), some (vR q), some (vI 1), some (vI (nI i)), some (vI (nI i))] [] (PS h q f p (-1))) (Run kX12_readPlan 17 [some (vR (some 147)), some (vI (nI i)), some (vI 1)] [] (MP hm r p (-1))) := by
  have hn := H.2.2
  have T1 := H.1.1
  have M1 := M.1.1.1.1
  intro k
  induction k with
  | zero =>
    intro i p f r hi hp e es
    have hi' : i = 15 := by omega
    subst hi'
    have c0 : ¬ (16 : Int32) ≤ nI 15 := by decide
    have c1 : (16 : Int32) ≤ nI 16 := by decide
    have c2 : nI 15 + 1 = nI 16 := by decide
    have c3 : nI 15 + 1 = (16 : Int32) := by decide
    have c4 : (3 : Int32) * (64 + nI 15) = nI (192 + 3 * 15) := by decide
    rw [tX6_readFrom_11, tX12_readPlan_17, if_neg c0, if_neg (show ¬ (1 : Int32) = 0 by decide), if_neg (show ¬ (1 : Int32) = 0 by decide), c4]
    rcases j_step (f := f) (r := r) (i := 15) H Q M (by omega) hp with ⟨p', x, y, z, l1, l2, st, A, D⟩ | ⟨w, f', r', p', p'', hw, l1, l2, A, D⟩
    · have hk' := (sk_le (t := hI h 2) (n := n) p').2 l2
      by_cases c : chT (hI h 2) n (sk (hI h 2) n p') = 59
      · have e1 : enW (hI h 2) n p' (-1) = nI (sk (hI h 2) n p') := by unfold enW; rw [if_neg (by rw [c]; decide), if_pos rfl]
        refine Or.inr ⟨nI (sk (hI h 2) n p'), put3 f (3 * 15) x y z, put3 r (192 + 3 * 15) x y z, sk (hI h 2) n p', sk (hI h 2) n p', nI 16, hm, nI_nm1 (by omega), ?_, Or.inl rfl, ?_⟩
        · rw [A]
          simp only [oB_some, dR_some, cond_true, cond_false, if_true, if_false, Bool.true_and, Bool.and_true, Nat.beq_refl, c1, c2, pl_stop H Q (show p' ≤ 240 by omega), e1]
        · simp only [oB_some, dR_some, cond_true, cond_false, if_true, if_false, Bool.true_and, Bool.and_true, Nat.beq_refl, MP_K, M1, D, MP_11, mp_look M l2, c, show ¬ (1 : Int32) = 0 by decide, c3, mp_fails M1]
      · rw [A, D]
        simp only [oB_some, dR_some, cond_true, cond_false, if_true, if_false, Bool.true_and, Bool.and_true, Nat.beq_refl, c1, c2, MP_K, M1, MP_11, mp_look M l2, c]
        have := plan_end (x := nI 16) H Q M (show 0 < 16 by omega) (Nat.le_refl _) hk' (put3_agree e x y z) (put3_stp es st)
        rw [pl_stop H Q (show p' ≤ 240 by omega)]
        rw [pl_stop H Q (show sk (hI h 2) n p' ≤ 240 by omega)] at this
        unfold enW at this ⊢
        rw [sk_sk] at this
        exact this
    · refine Or.inr ⟨w, f', r', sk (hI h 2) n p', p'', nI 16, hm, hw, ?_, Or.inl rfl, ?_⟩
      · rw [A]
        simp only [oB_some, dR_some, cond_true, cond_false, if_true, if_false, Bool.true_and, Bool.and_true, Nat.beq_refl, c1, c2, pl_stop H Q (show p' ≤ 240 by omega), enW_w hw]
      · simp only [oB_some, dR_some, cond_true, cond_false, if_true, if_false, Bool.true_and, Bool.and_true, Nat.beq_refl, MP_K, M1, D, MP_11, hw]
  | succ k ih =>
    intro i p f r hi hp e es
    have c0 : ¬ (16 : Int32) ≤ nI i := by rw [show (16 : Int32) = nI 16 from rfl, nI_nle' (by omega) (by omega)]; omega
    have c2 : nI i + 1 = nI (i + 1) := nI_1 _
    have c1 : ¬ (16 : Int32) ≤ nI (i + 1) := by rw [show (16 : Int32) = nI 16 from rfl, nI_nle' (by omega) (by omega)]; omega
    have c3 : ¬ nI (i + 1) = (16 : Int32) := by rw [show (16 : Int32) = nI 16 from rfl, nI_neq' (by omega) (by omega)]; omega
    have c4 : (3 : Int32) * (64 + nI i) = nI (192 + 3 * i) := by
      rw [show (64 : Int32) = nI 64 from rfl, nI_add, show (3 : Int32) = nI 3 from rfl, pk_mul, Nat.mul_add]
    rw [tX6_readFrom_11, tX12_readPlan_17, if_neg c0, if_neg (show ¬ (1 : Int32) = 0 by decide), if_neg (show ¬ (1 : Int32) = 0 by decide), c4]
    rcases j_step (f := f) (r := r) (i := i) H Q M (by omega) hp with ⟨p', x, y, z, l1, l2, st, A, D⟩ | ⟨w, f', r', p', p'', hw, l1, l2, A, D⟩
    · have hk' := (sk_le (t := hI h 2) (n := n) p').2 l2
      rw [A]
      by_cases c : chT (hI h 2) n (sk (hI h 2) n p') = 59
      · have hq := ch_lt c (by decide)
        have := ih (i + 1) (sk (hI h 2) n p' + 1) _ _ (by omega) (by omega) (put3_agree e x y z) (put3_stp es st)
        simp only [oB_some, dR_some, cond_true, cond_false, if_true, if_false, Bool.true_and, Bool.and_true, Nat.beq_refl, c1, c2, c3, MP_K, M1, PS_K, T1, pq_accept H Q (show p' ≤ 240 by omega), D, MP_11, mp_look M l2, c, show ¬ (1 : Int32) = 0 by decide, MP_10, nI_1, MP_p]
        exact this
      · have := plan_end (x := nI (i + 1)) H Q M (show 0 < i + 1 by omega) (by omega) hk' (put3_agree e x y z) (put3_stp es st)
        simp only [oB_some, dR_some, cond_true, cond_false, if_true, if_false, Bool.true_and, Bool.and_true, Nat.beq_refl, c1, c2, c3, MP_K, M1, PS_K, T1, pq_accept H Q (show p' ≤ 240 by omega), D, MP_11, mp_look M l2, c]
        exact this
    · refine Or.inr ⟨w, f', r', sk (hI h 2) n p', p'', nI (i + 1), hm, hw, ?_, Or.inl rfl, ?_⟩
      · rw [A]
        simp only [oB_some, dR_some, cond_true, cond_false, if_true, if_false, Bool.true_and, Bool.and_true, Nat.beq_refl, c1, c2, PS_K, T1, pq_accept H Q (show p' ≤ 240 by omega), hw, pl_stop H Q (show p' ≤ 240 by omega), enW_w hw]
      · simp only [oB_some, dR_some, cond_true, cond_false, if_true, if_false, Bool.true_and, Bool.and_true, Nat.beq_refl, MP_K, M1, D, MP_11, hw]
