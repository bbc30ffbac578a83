/-! ===== PURE: undo, by both ===== -/
theorem bv_ext {v u v' u' : Nat → Nat} (B : BV v u) (e1 : ∀ k, k ≤ 12 → k ≠ 8 → v' k = v k) (e2 : ∀ k, k < 5 → u' k = u k) : BV v' u' := by
  obtain ⟨b0, b1, b2, b3, b4, b5, b7, b9, b10, b11, b12, bu⟩ := B
  refine ⟨?_, ?_, ?_, ?_, ?_, ?_, ?_, ?_, ?_, ?_, ?_, fun i hi => ?_⟩
  · rw [e1 0 (by omega) (by omega)]; exact b0
  · rw [e1 1 (by omega) (by omega)]; exact b1
  · rw [e1 2 (by omega) (by omega), e1 10 (by omega) (by omega), e1 1 (by omega) (by omega)]; exact b2
  · rw [e1 3 (by omega) (by omega)]; exact b3
  · rw [e1 4 (by omega) (by omega)]; exact b4
  · rw [e1 5 (by omega) (by omega), e1 6 (by omega) (by omega), e1 10 (by omega) (by omega)]; exact b5
  · rw [e1 7 (by omega) (by omega)]; exact b7
  · rw [e1 9 (by omega) (by omega)]; exact b9
  · rw [e1 10 (by omega) (by omega)]; exact b10
  · rw [e1 11 (by omega) (by omega), e1 9 (by omega) (by omega)]; exact b11
  · rw [e1 12 (by omega) (by omega)]; exact b12
  · rw [e2 i hi]; exact bu i hi
theorem chain {V : Nat → Nat → Nat} {A : Nat} (P : ∀ j, j + 1 < A → V (j + 1) 10 ≤ V j 10 ∧ V (j + 1) 11 ≤ V j 11 ∧ V j 11 ≤ V (j + 1) 11 + 1) : ∀ j, j < A → V j 10 ≤ V 0 10 ∧ V j 11 ≤ V 0 11 ∧ V 0 11 ≤ V j 11 + j := by
  intro j
  induction j with
  | zero => intro _; exact ⟨Nat.le_refl _, Nat.le_refl _, Nat.le_refl _⟩
  | succ j ih =>
    intro hj
    obtain ⟨a1, a2, a3⟩ := ih (by omega)
    obtain ⟨b1, b2, b3⟩ := P j hj
    exact ⟨by omega, by omega, by omega⟩
theorem undo_both {h : Hp} {s : Nat} {r d b : Nat → Nat} {dc bc : Nat} {lw : Option ((Nat → Int32) × Nat)} {v u w lg bk z : Nat → Nat} {A x : Nat} (I : AINV h s r d b dc bc lw v u w lg bk z A x) : CALL h s r d b dc bc lw x (FX11_undo [vR (some 0)]) (FX12_undo [vR (some 147)]) := by
  obtain ⟨S, V, U, C, M, P⟩ := ainv_split I
  obtain ⟨K0, R01, R02, R04, R05, K3, R30, Ks, Rs2, Rs3, Rs4, Ks1, Es1, Ks2, Es2, Ks3, Es3, K10, R108, K11, E11, K14, K98, td, dcC, bcC⟩ := sfa S
  have M0 := (mfa I).1
  have J := ainv_t I
  have M147 := (mfa J).1
  have hx := C.2.2.2.1
  have hA := C.2.2.2.2.1
  by_cases c : A = 0
  · have b0 := back_0 S.1.2.1 (by rw [C.2.1, c])
    have a0 : hI (sI h 147 0 0) 147 37 = 0 := by rw [hI_slot _ _ _ _ (by decide), M.2.2, c]; rfl
    refine call_no (res := -1) I ?_ ?_
    · rw [tX11_undo]; simp only [oB_some, dR_some, cond_true, cond_false, if_true, if_false, Bool.true_and, Bool.and_true, Nat.beq_refl, K0, R02, R04, K14, b0]
    · rw [tX12_undo]; simp only [oB_some, dR_some, cond_true, cond_false, if_true, if_false, Bool.true_and, Bool.and_true, Nat.beq_refl, M0, M147, a0]
  · have hj0 : 0 < A := by omega
    obtain ⟨B0, M0', E0, p1, p2, p3⟩ := P.2.2.2.1 0 hj0
    have K0' := C.2.2.2.2.2 0 hj0
    rw [Nat.sub_zero] at K0'
    obtain ⟨h1, e1, O1, K1, x1, A1⟩ := back_c S.1.2.1 hx hj0 hA C.2.2.1 C.2.1 K0' B0.2.1 B0.2.2.2.1
    obtain ⟨v1, hv, ev⟩ := row_rep K1.1
    obtain ⟨u1, hu, eu⟩ := row_rep5 K1.2
    have O1' : Only h h1 (actL x) := O1.mono (fun a ha => by unfold actL; simp at ha ⊢; omega)
    have S1 := st_sg S (sg_only O1 (fun a ha => by simp at ha; omega))
    have M1 := mst_only M O1 (fun a ha => by simp at ha; omega)
    have q3 : Mq h1 (sI h1 147 0 0) [] [0] := mq_sI _ _ _ (by simp)
    have S3 := st_sg S1 (sg_mq q3 (by simp) (fun k hk => by simp at hk; omega))
    have M3 := mst_mq M1 q3 (by simp) (by simp) (by simp)
    have sb : nI A - 1 = nI (A - 1) := nI_s1 hj0
    have q4 : Mq (sI h1 147 0 0) (sI (sI h1 147 0 0) 147 37 (nI (A - 1))) [] [37] := mq_sI _ _ _ (by simp)
    have S4 := st_sg S3 (sg_mq q4 (by simp) (fun k hk => by simp at hk; omega))
    have z4 : hI (sI (sI h1 147 0 0) 147 37 (nI (A - 1))) 162 = nR z := by rw [hI_row _ _ _ _ (by decide)]; exact M3.2.1
    have w4 : hI (sI (sI h1 147 0 0) 147 37 (nI (A - 1))) 160 = nR w := by rw [hI_row _ _ _ _ (by decide)]; exact M3.1
    have un := undo_26 (w := w) S4.1.2.2.2.2.1 z4 (hI_same _ _ _ _) (show A - 1 < 40 by omega) 381 0 (by omega)
    rw [show unW z w (A - 1) 0 = w from funext fun k => by unfold unW; rw [if_neg (by omega)], RN_self w4] at un
    generalize eh : sI (sI h1 147 0 0) 147 37 (nI (A - 1)) = h4 at *
    have q5 : Mq h4 (RN h4 160 (unW z w (A - 1) 381)) [160] [] := mq_wA _ _ _ (by simp) (by decide)
    have Q : Mq h1 (RN h4 160 (unW z w (A - 1) 381)) [160, 162] [0, 37] := (q3.mono (by simp) (by simp)).trans ((q4.mono (by simp) (by simp)).trans (q5.mono (by simp) (by simp)))
    have we : ∀ k, k < 381 → unW z w (A - 1) 381 k = sec z (A - 1 - 0) k := fun k hk => by unfold unW sec; rw [if_pos hk, Nat.sub_zero]
    have ch := chain P.2.2.2.2
    refine ⟨nI (A - 1), h1, RN h4 160 (unW z w (A - 1) 381), ?_, ?_, O1', Q, v1, u1, unW z w (A - 1) 381, lg, bk, z, A - 1, (x + 40) % 41, ainv_join (V := fun j => V (j + 1)) (U := fun j => U (j + 1)) (st_sg S4 (sg_mq q5 (fun a ha => by simp at ha; omega) (by simp))) ?_ ⟨by unfold RN; rw [wA_I], by rw [RN_o _ _ (by decide)]; exact z4, by rw [RN_o _ _ (by decide), ← eh, hI_same]⟩ ⟨bv_ext B0 ev eu, mr_ext M0' ev eu (fun k hk => we k (by omega)), lb_congr (lb_ext E0 (ev 10 (by omega) (by omega)) (ev 11 (by omega) (by omega))) (by rw [ev 10 (by omega) (by omega)]; exact B0.2.2.2.2.2.2.2.2.1) we, fun j hj => ?_, fun j hj => P.2.2.2.2 (j + 1) (by omega)⟩⟩
    · rw [tX11_undo]; simp only [oB_some, dR_some, cond_true, cond_false, if_true, if_false, Bool.true_and, Bool.and_true, Nat.beq_refl, K0, R02, R04, K14, e1]
    · have a0 : hI (sI h1 147 0 0) 147 37 = nI A := M3.2.2
      have nz : ¬ nI A = 0 := nI_nz hj0 (by omega)
      have m1 : hK h1 147 = 12 := (smf S1).1
      rw [tX12_undo]; simp only [oB_some, dR_some, cond_true, cond_false, if_true, if_false, Bool.true_and, Bool.and_true, Nat.beq_refl, m1, hK_sI, a0, nz, sb, eh]
      exact un
    · refine cst_mq (h := h1) ⟨⟨hv, hu, by rw [O1.I (by simp)]; exact C.1.2.2.1, by rw [O1.I (by simp)]; exact C.1.2.2.2⟩, A1, x1, Nat.mod_lt _ (by omega), by omega, fun j hj => ?_⟩ Q (fun a ha => by simp at ha; omega)
      have := C.2.2.2.2.2 (j + 1) (by omega)
      rw [show ((x + 40) % 41 + 40 - j) % 41 = (x + 40 - (j + 1)) % 41 by omega]
      have lt : (x + 40 - (j + 1)) % 41 < 41 := Nat.mod_lt _ (by omega)
      exact cla_fr this (O1.I (by simp; omega)) (O1.I (by simp; omega))
    · obtain ⟨Bj, Mj, Ej, _, _, _⟩ := P.2.2.2.1 (j + 1) (by omega)
      obtain ⟨c1, c2, c3⟩ := ch (j + 1) (by omega)
      have i1 : A - 1 - (j + 1) = A - 1 - 1 - j := by omega
      rw [i1] at Mj Ej
      exact ⟨Bj, Mj, Ej, by rw [ev 10 (by omega) (by omega)]; exact c1, by rw [ev 11 (by omega) (by omega)]; exact c2, by rw [ev 11 (by omega) (by omega)]; exact c3⟩
