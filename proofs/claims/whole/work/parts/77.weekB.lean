/-! ===== PURE: the acts' invariant; the call of week ===== -/
def AINV (h : Hp) (s : Nat) (r d b : Nat → Nat) (dc bc : Nat) (lw : Option ((Nat → Int32) × Nat)) (v u w lg bk z : Nat → Nat) (A x : Nat) : Prop :=
  (CF h ∧ PTL h ∧ DP h 98 ∧ LL h 10 s ∧ UL h ∧ RLo h 160) ∧
  ((s = 4 ∨ s = 131) ∧ hI h s 0 = 1 ∧ WH h s r d b dc bc ∧ MW h r d b dc bc ∧ 0 < bc ∧ BH r d b ∧ LWS h lw) ∧
  (NowC h v u lg bk ∧ BV v u ∧ hI h 160 = nR w ∧ MR v u w ∧ LB v w lg bk) ∧
  (hI h 162 = nR z ∧ hI h 147 37 = nI A ∧ hI h 14 2 = nI A ∧ hI h 14 1 = nI x ∧ x < 41 ∧ A ≤ 40 ∧ PAST h v lg bk z A x)
theorem now_cla {h : Hp} {v u lg bk : Nat → Nat} (N : NowC h v u lg bk) : CLa h 10 v u := by
  obtain ⟨n1, n2, _⟩ := N
  refine ⟨fun k _ _ => by rw [n1]; rfl, fun k _ => by rw [n2]; rfl⟩
theorem past_fr {h h' : Hp} {v lg bk z : Nat → Nat} {A x : Nat} (P : PAST h v lg bk z A x) (hA : A ≤ 40) (hx : x < 41) (fr : ∀ i, i < 41 → i ≠ x → hI h' (16 + 2 * i) = hI h (16 + 2 * i) ∧ hI h' (16 + 2 * i + 1) = hI h (16 + 2 * i + 1)) : PAST h' v lg bk z A x := by
  obtain ⟨V, U, P1, P2⟩ := P
  refine ⟨V, U, fun j hj => ?_, P2⟩
  obtain ⟨c1, c2⟩ := P1 j hj
  have ne : (x + 40 - j) % 41 ≠ x := by omega
  obtain ⟨f1, f2⟩ := fr _ (Nat.mod_lt _ (by omega)) ne
  exact ⟨cla_fr c1 f1 f2, c2⟩
/-- what the class may write while it refuses an act -/
def refL (x : Nat) : List Nat := [8, 9, 16 + 2 * x, 16 + 2 * x + 1]
theorem ainv_c {h h' : Hp} {s : Nat} {r d b : Nat → Nat} {dc bc : Nat} {lw : Option ((Nat → Int32) × Nat)} {v u w lg bk z : Nat → Nat} {A x : Nat} (I : AINV h s r d b dc bc lw v u w lg bk z A x) (O : Only h h' (refL x)) : AINV h' s r d b dc bc lw v u w lg bk z A x := by
  obtain ⟨⟨i1, i2, i3, i4, i5, i6⟩, ⟨j1, j2, j3, j4, j5, j6, j7⟩, ⟨⟨n1, n2, n3, n4⟩, k2, k3, k4, k5⟩, ⟨l1, l2, l3, l4, l5, l6, l7⟩⟩ := I
  have nn : ∀ a, a ≠ 8 → a ≠ 9 → a ≠ 16 + 2 * x → a ≠ 16 + 2 * x + 1 → a ∉ refL x := fun a p q r' t => by unfold refL; simp; omega
  refine ⟨⟨cf_fr i1 O, ptl_fr i2 O, dp_fr i3 O, ll_fr i4 O, ul_only i5 O, rlo_only i6 O⟩, ⟨j1, ?_, wh_fr j3 O (nn _ (by omega) (by omega) (by omega) (by omega)) (nn _ (by omega) (by omega) (by omega) (by omega)) (nn _ (by omega) (by omega) (by omega) (by omega)) (nn _ (by omega) (by omega) (by omega) (by omega)), mw_fr j4 O (nn _ (by omega) (by omega) (by omega) (by omega)) (nn _ (by omega) (by omega) (by omega) (by omega)) (nn _ (by omega) (by omega) (by omega) (by omega)) (nn _ (by omega) (by omega) (by omega) (by omega)), j5, j6, lws_only j7 O (fun y hy => by unfold refL at hy; simp at hy; omega)⟩, ⟨⟨?_, ?_, ?_, ?_⟩, k2, ?_, k4, k5⟩, ⟨?_, ?_, ?_, ?_, l5, l6, past_fr l7 l6 l5 (fun i hi ne => ⟨O.I (nn _ (by omega) (by omega) (by omega) (by omega)), O.I (nn _ (by omega) (by omega) (by omega) (by omega))⟩)⟩⟩
  · rw [O.I (nn _ (by omega) (by omega) (by omega) (by omega))]; exact j2
  · rw [O.I (nn _ (by omega) (by omega) (by omega) (by omega))]; exact n1
  · rw [O.I (nn _ (by omega) (by omega) (by omega) (by omega))]; exact n2
  · rw [O.I (nn _ (by omega) (by omega) (by omega) (by omega))]; exact n3
  · rw [O.I (nn _ (by omega) (by omega) (by omega) (by omega))]; exact n4
  · rw [O.I (nn _ (by omega) (by omega) (by omega) (by omega))]; exact k3
  · rw [O.I (nn _ (by omega) (by omega) (by omega) (by omega))]; exact l1
  · rw [O.I (nn _ (by omega) (by omega) (by omega) (by omega))]; exact l2
  · rw [O.I (nn _ (by omega) (by omega) (by omega) (by omega))]; exact l3
  · rw [O.I (nn _ (by omega) (by omega) (by omega) (by omega))]; exact l4
theorem ainv_m {h h' : Hp} {s : Nat} {r d b : Nat → Nat} {dc bc : Nat} {lw : Option ((Nat → Int32) × Nat)} {v u w lg bk z : Nat → Nat} {A x : Nat} (I : AINV h s r d b dc bc lw v u w lg bk z A x) (Q : Mq h h' [] [0]) : AINV h' s r d b dc bc lw v u w lg bk z A x := by
  obtain ⟨⟨i1, i2, i3, i4, i5, i6⟩, ⟨j1, j2, j3, j4, j5, j6, j7⟩, ⟨⟨n1, n2, n3, n4⟩, k2, k3, k4, k5⟩, ⟨l1, l2, l3, l4, l5, l6, l7⟩⟩ := I
  have R : ∀ a, a ≠ 147 → a ≠ 151 → hI h' a = hI h a := fun a p q => Q.2.2.2.2.2.2.1 a p q (by simp)
  have S : ∀ k, k ∉ [8, 9, 10, 11, 12, 13, 14, 17] → k ≠ 0 → hI h' 147 k = hI h 147 k := fun k p q => Q.2.2.2.2.2.2.2 k p (by simp; exact q)
  refine ⟨⟨cf_mq i1 Q, ptl_mq i2 Q, dp_mq i3 Q (by omega), ll_mq i4 Q (by omega), ul_mq i5 Q, mq_rlo Q i6⟩, ⟨j1, ?_, wh_mq j3 Q (by omega) (fun y hy => by simp at hy), mq_mw Q j4 (by simp) (by simp) (by simp) (by simp) (by simp), j5, j6, lws_mq j7 Q j4.1 (by simp) (fun y hy => by simp at hy)⟩, ⟨⟨?_, ?_, ?_, ?_⟩, k2, ?_, k4, k5⟩, ⟨?_, ?_, ?_, ?_, l5, l6, past_fr l7 l6 l5 (fun i hi ne => ⟨R _ (by omega) (by omega), R _ (by omega) (by omega)⟩)⟩⟩
  · rw [R _ (by omega) (by omega)]; exact j2
  · rw [R _ (by omega) (by omega)]; exact n1
  · rw [R _ (by omega) (by omega)]; exact n2
  · rw [R _ (by omega) (by omega)]; exact n3
  · rw [R _ (by omega) (by omega)]; exact n4
  · rw [R _ (by omega) (by omega)]; exact k3
  · rw [R _ (by omega) (by omega)]; exact l1
  · rw [S 37 (by simp) (by decide)]; exact l2
  · rw [R _ (by omega) (by omega)]; exact l3
  · rw [R _ (by omega) (by omega)]; exact l4
theorem home_c {h : Hp} {s : Nat} {r d b : Nat → Nat} {dc bc : Nat} (F : CF h) (W : WH h s r d b dc bc) (t : hI h s 0 = 1) : FX11_homeless [vR (some 0)] h = some (rI 0, h) := by
  obtain ⟨F1, F2, _⟩ := F
  obtain ⟨⟨w1, w2⟩, ⟨l1, _⟩, _⟩ := W
  rw [tX11_homeless]
  simp only [oB_some, dR_some, cond_true, cond_false, if_true, if_false, Bool.true_and, Bool.and_true, Nat.beq_refl, F1, F2, w1, w2, l1, t, show ¬ (1 : Int32) = 0 by decide, isZ0]
/-- what the class writes in an act -/
def actL (x : Nat) : List Nat := [8, 9, 10, 11, 14, 99, 100, 16 + 2 * x, 16 + 2 * x + 1]
theorem mayPass_m {h : Hp} {r d b w : Nat → Nat} {dc bc : Nat} {k : Int32} (M : MW h r d b dc bc) (L : RLo h 160) (e : hI h 160 = nR w) (hb : 0 < bc) (h7 : w 7 < 2 ^ 30) : FX12_mayPass [vR (some 147), vR (some 160), vI k] h = some (rI (if (999 : Int32) < nI (w 7) + k then 0 else 1), h) := by
  have w1 := M.1
  have f6 := M.2.2.2.2.2.1.2
  have g2 := M.2.2.2.2.1.2
  obtain ⟨L1, L2, _⟩ := L
  have q : ¬ nI bc ≤ 0 := by rw [nI_le0 (by omega)]; omega
  have e7 : hI h 160 7 = nI (w 7) := by rw [e]; rfl
  rw [tX12_mayPass]
  by_cases c : (999 : Int32) < nI (w 7) + k
  · simp only [oB_some, dR_some, cond_true, cond_false, if_true, if_false, Bool.true_and, Bool.and_true, Nat.beq_refl, w1, f6, q, L1, L2, iaK20, ib7, tc7, e7, c, isZ0]
  · simp only [oB_some, dR_some, cond_true, cond_false, if_true, if_false, Bool.true_and, Bool.and_true, Nat.beq_refl, w1, f6, q, L1, L2, iaK20, ib7, tc7, e7, c, isZ1]
