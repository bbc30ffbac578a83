/-! ===== PURE: the calls of pay and sell, by both ===== -/
theorem up1_s' (f : Nat → Nat) (k v : Nat) : up1 f k v k = v := up1_s f k v
theorem bv_pay {d v u : Nat → Nat} {i : Nat} (B : BV v u) (hi : i < 6) : BV (payV d v i) u := by
  obtain ⟨b0, b1, b2, b3, b4, b5, b7, b9, b10, b11, b12, bu⟩ := B
  have o : ∀ k, k ≠ 4 → k ≠ 7 → payV d v i k = v k := fun k a c => by unfold payV; rw [up1_o _ _ c, up1_o _ _ a]
  have e4 : payV d v i 4 = v 4 - ow d i (v 9) := by unfold payV; rw [up1_o _ _ (by decide), up1_s]
  have e7 : payV d v i 7 = v 7 ||| 2 ^ i := by unfold payV; rw [up1_s]
  refine ⟨?_, ?_, ?_, ?_, ?_, ?_, ?_, ?_, ?_, ?_, ?_, bu⟩
  · rw [o 0 (by decide) (by decide)]; exact b0
  · rw [o 1 (by decide) (by decide)]; exact b1
  · rw [o 2 (by decide) (by decide), o 10 (by decide) (by decide), o 1 (by decide) (by decide)]; exact b2
  · rw [o 3 (by decide) (by decide)]; exact b3
  · rw [e4]; omega
  · rw [o 5 (by decide) (by decide), o 6 (by decide) (by decide), o 10 (by decide) (by decide)]; exact b5
  · rw [e7]; exact (bt6 (v 7) b7 i hi).2.2
  · rw [o 9 (by decide) (by decide)]; exact b9
  · rw [o 10 (by decide) (by decide)]; exact b10
  · rw [o 11 (by decide) (by decide), o 9 (by decide) (by decide)]; exact b11
  · rw [o 12 (by decide) (by decide)]; exact b12
theorem bv_sell {b v u : Nat → Nat} {bc i k : Nat} (B : BV v u) (P : sellOK b v u bc i k) (hb : ∀ k, b k ≤ 60) : BV (sellV b v i k) (up1 u i (u i + 1)) := by
  obtain ⟨b0, b1, b2, b3, b4, b5, b7, b9, b10, b11, b12, bu⟩ := B
  obtain ⟨p1, p2, p3, p4, p5⟩ := P
  have o : ∀ j, j ≠ 4 → j ≠ 5 + k → sellV b v i k j = v j := fun j a c => by unfold sellV; rw [up1_o _ _ a, up1_o _ _ c]
  have e4 : sellV b v i k 4 = v 4 + b (3 * i + k) := by unfold sellV; rw [up1_s]
  have e5 : sellV b v i k (5 + k) = v (5 + k) - 1 := by unfold sellV; rw [up1_o _ _ (by omega), up1_s]
  have hb3 := hb (3 * i + 2)
  refine ⟨?_, ?_, ?_, ?_, ?_, ?_, ?_, ?_, ?_, ?_, ?_, fun j hj => ?_⟩
  · rw [o 0 (by decide) (by omega)]; exact b0
  · rw [o 1 (by decide) (by omega)]; exact b1
  · rw [o 2 (by decide) (by omega), o 10 (by decide) (by omega), o 1 (by decide) (by omega)]; exact b2
  · rw [o 3 (by decide) (by omega)]; exact b3
  · rw [e4]; exact p5
  · rw [o 10 (by decide) (by omega)]
    rcases (show k = 0 ∨ k = 1 by omega) with e | e
    · subst e
      have z : sellV b v i 0 5 = v 5 - 1 := e5
      rw [z, o 6 (by decide) (by decide)]; omega
    · subst e
      have z : sellV b v i 1 6 = v 6 - 1 := e5
      rw [z, o 5 (by decide) (by decide)]; omega
  · rw [o 7 (by decide) (by omega)]; exact b7
  · rw [o 9 (by decide) (by omega)]; exact b9
  · rw [o 10 (by decide) (by omega)]; exact b10
  · rw [o 11 (by decide) (by omega), o 9 (by decide) (by omega)]; exact b11
  · rw [o 12 (by decide) (by omega)]; exact b12
  · by_cases c : j = i
    · subst c; rw [up1_s]; omega
    · rw [up1_o _ _ c]; exact bu j hj
theorem lb_pay {d v w lg bk : Nat → Nat} {i : Nat} (B : LB v w lg bk) (h10 : v 10 ≤ 60) (hi : i < 6) : LB (payV d v i) (payVm d w i) lg bk :=
  lb_same B (by unfold payV; rw [up1_o _ _ (by decide), up1_o _ _ (by decide)]) (by unfold payV; rw [up1_o _ _ (by decide), up1_o _ _ (by decide)]) h10 (fun k hk => by unfold payVm; rw [up1_o _ _ (by omega), up1_o _ _ (by omega)])
theorem lb_sell {b v w lg bk : Nat → Nat} {i k : Nat} (B : LB v w lg bk) (h10 : v 10 ≤ 60) (hi : i < 5) (hk : k ≤ 1) : LB (sellV b v i k) (sellVm b w i k) lg bk :=
  lb_same B (by unfold sellV; rw [up1_o _ _ (by decide), up1_o _ _ (by omega)]) (by unfold sellV; rw [up1_o _ _ (by decide), up1_o _ _ (by omega)]) h10 (fun j hj => by unfold sellVm; rw [up1_o _ _ (by omega), up1_o _ _ (by omega), up1_o _ _ (by omega)])
theorem pay_both {h : Hp} {s : Nat} {r d b : Nat → Nat} {dc bc : Nat} {lw : Option ((Nat → Int32) × Nat)} {v u w lg bk z : Nat → Nat} {A x : Nat} (I : AINV h s r d b dc bc lw v u w lg bk z A x) (y : Int32) : CALL h s r d b dc bc lw x (FX11_pay [vR (some 0), vI y]) (FX12_pay [vR (some 147), vI y]) := by
  have I0 := I
  obtain ⟨⟨i1, i2, i3, i4, i5, i6⟩, ⟨j1, j2, j3, j4, j5, j6, j7⟩, ⟨n0, k2, k3, k4, k5⟩, ⟨l1, l2, l3, l4, l5, l6, l7⟩⟩ := I
  have BV0 := k2
  have hv := bv_bound k2
  have hw := mr_bound k2 k4
  obtain ⟨b0, b1, b2, b3, b4, b5, b7, b9, b10, b11, b12, bu⟩ := k2
  have F1 := i1.1
  have F2 := i1.2.1
  have F3 := i1.2.2.1
  have F4 := i1.2.2.2.1
  have p14 := i2.1.1
  obtain ⟨h8, e8, O8, C8⟩ := mark_c i2 (now_cla n0) b1 b3 l5 l4
  have O8' : Only h h8 (refL x) := O8.mono (fun a ha => by unfold refL; simp at ha ⊢; omega)
  have I8 := ainv_c I0 O8'
  obtain ⟨⟨i1', i2', i3', i4', i5', i6'⟩, ⟨_, j2', j3', j4', _, _, j7'⟩, ⟨n0', _, k3', _, _⟩, ⟨l1', l2', l3', l4', _, _, l7'⟩⟩ := I8
  have hm := home_c i1' j3' j2'
  have self : LN h8 10 v u = h8 := LN_self n0'.1 n0'.2.1
  have K0 : hK h8 0 = 11 := i1'.1
  have R1 : hR h8 0 1 = some 3 := i1'.2.1
  have R2 : hR h8 0 2 = some 10 := i1'.2.2.1
  have K3 := j3'.1.1
  have dc6 := j4.2.2.2.2.1.1
  have bc5 := j4.2.2.2.2.1.2
  have w4 : w 4 = v 4 := k4.1 4 (by omega)
  have w7 : w 7 = v 9 := k4.2.1
  have op := pay_c (v := v) (u := u) j3' i4' b7 (by omega) (by omega) y
  rw [self] at op
  rcases op with ⟨i, ye, PO, cut⟩ | ⟨NO, cut⟩
  · have O9 : Only h8 (LN h8 10 (payV d v i) (u)) [10, 11] := only_LN _ _ _ (by simp) (by simp)
    have N9 : NowC (LN h8 10 (payV d v i) (u)) (payV d v i) (u) lg bk := ⟨LN_ra _ _ _ _, LN_rs _ 10 _ _, by rw [LN_o _ _ _ (by decide) (by decide)]; exact n0'.2.2.1, by rw [LN_o _ _ _ (by decide) (by decide)]; exact n0'.2.2.2⟩
    obtain ⟨cm, O13, r13, M13, R13, U13, g160, fin⟩ := act_fin (w' := payVm d w i) I0 O8 C8 O9 N9 (bv_pay BV0 (by have := PO.1; omega)) (mr_pay (d := d) (i := i) k4 (by have := PO.1; omega) b7) (lb_pay k5 b10 (by have := PO.1; omega)) (by unfold payV; rw [up1_o _ _ (by decide), up1_o _ _ (by decide)]) (by unfold payV; rw [up1_o _ _ (by decide), up1_o _ _ (by decide)])
    generalize eh13 : cmH (LN h8 10 (payV d v i) (u)) A x = h13 at *
    have q3 : Mq h13 (sI h13 147 0 0) [] [0] := mq_sI _ _ _ (by simp)
    obtain ⟨hr, er, s160, Mr, Rr, Ur, Q, J⟩ := fin _ q3
    have M3 := mq_mw q3 M13 (by simp) (by simp) (by simp) (by simp) (by simp)
    have R3 := mq_rlo q3 R13
    have g3 : hI (sI h13 147 0 0) 160 = nR w := by rw [hI_row _ _ _ _ (by decide)]; exact g160
    have can := canPay_m (w := w) M3 R3 (fun i hi => by rw [k4.2.2.1 i hi]; omega) (by omega) (by omega) y
    rw [RN_self g3] at can
    have doit := pays_m (w := w) (i := i) Mr Rr ((mr_payOK k4 dc6).mpr PO) (by omega)
    rw [RN_self s160, ← ye] at doit
    rcases can with ⟨i2'', ye2, PM, can⟩ | ⟨NM, _⟩
    · refine ⟨nI ((payV d v i) 4), h13, RN hr 160 (payVm d w i), ?_, ?_, O13, Q, _, _, _, _, _, _, _, _, J⟩
      · have kk0 : hK h13 0 = 11 := by rw [← eh13]; exact K0
        have kk10 : hK h13 10 = 4 := by rw [← eh13]; exact i4'.1
        have rr2 : hR h13 0 2 = some 10 := by rw [← eh13]; exact R2
        have rr4 : hR h8 0 4 = some 14 := i1'.2.2.2.1
        have kk14 : hK h8 14 = 5 := i2'.1.1
        have v6 : hI h13 10 4 = nI ((payV d v i) 4) := by rw [r13 _ (by decide), LN_a]
        rw [tX11_pay]
        simp only [oB_some, dR_some, cond_true, cond_false, if_true, if_false, Bool.true_and, Bool.and_true, Nat.beq_refl, F1, F3, F4, p14, e8, K0, hm, R1, R2, K3, cut, show ¬ (1 : Int32) = 0 by decide, LN_K, LN_R, rr4, kk14, cm, kk0, rr2, kk10, v6]
      · have w13 : hK h13 147 = 12 := M13.1
        have rr3 : hR h13 147 32 = some 160 := U13.2.1
        have kr : hK hr 147 = 12 := Mr.1
        have rrr : hR hr 147 32 = some 160 := Ur.2.1
        have kr160 : hK hr 160 = 20 := Ur.2.2.1
        have er160 : hE hr 160 = 381 := Ur.2.2.2.1
        have a6 : hI (RN hr 160 (payVm d w i)) 160 4 = nI ((payV d v i) 4) := by rw [RN_a, ((mr_pay (d := d) (i := i) k4 (by have := PO.1; omega) b7)).1 4 (by omega)]
        rw [tX12_pay]
        simp only [oB_some, dR_some, cond_true, cond_false, if_true, if_false, Bool.true_and, Bool.and_true, Nat.beq_refl, hK_sI, hR_sI, w13, rr3, can, show ¬ (1 : Int32) = 0 by decide, er, kr, rrr, doit, RN_K, RN_R, RN_E, kr160, er160, iaK20, ib4, tc4, a6]
    · exact absurd ((mr_payOK k4 dc6).mpr PO) (NM i ye (by have := PO.1; omega))
  · have q3 : Mq h8 (sI h8 147 0 0) [] [0] := mq_sI h8 _ _ (by simp)
    have I3 := ainv_m (ainv_c I0 O8') q3
    have M3 := mq_mw q3 j4' (by simp) (by simp) (by simp) (by simp) (by simp)
    have R3 := mq_rlo q3 i6'
    have g3 : hI (sI h8 147 0 0) 160 = nR w := by rw [hI_row _ _ _ _ (by decide)]; exact k3'
    have can := canPay_m (w := w) M3 R3 (fun i hi => by rw [k4.2.2.1 i hi]; omega) (by omega) (by omega) y
    rw [RN_self g3] at can
    rcases can with ⟨i2'', ye2, PM, _⟩ | ⟨NM, can⟩
    · exact absurd ((mr_payOK k4 dc6).mp PM) (NO i2'' ye2 (by have := PM.1; omega))
    · refine ⟨-1, h8, sI h8 147 0 0, ?_, ?_, O8'.mono (fun a ha => by unfold refL at ha; unfold actL; simp at ha ⊢; omega), mq_sI h8 _ _ (by simp), v, u, w, lg, bk, z, A, x, I3⟩
      · rw [tX11_pay]
        simp only [oB_some, dR_some, cond_true, cond_false, if_true, if_false, Bool.true_and, Bool.and_true, Nat.beq_refl, F1, F3, F4, p14, e8, K0, hm, R1, R2, K3, cut]
      · have w8 : hK h8 147 = 12 := j4'.1
        have rr3 : hR h8 147 32 = some 160 := i5'.2.1
        rw [tX12_pay]
        simp only [oB_some, dR_some, cond_true, cond_false, if_true, if_false, Bool.true_and, Bool.and_true, Nat.beq_refl, hK_sI, hR_sI, w8, rr3, can]
theorem sell_both {h : Hp} {s : Nat} {r d b : Nat → Nat} {dc bc : Nat} {lw : Option ((Nat → Int32) × Nat)} {v u w lg bk z : Nat → Nat} {A x : Nat} (I : AINV h s r d b dc bc lw v u w lg bk z A x) (y y2 : Int32) : CALL h s r d b dc bc lw x (FX11_sell [vR (some 0), vI y, vI y2]) (FX12_sell [vR (some 147), vI y, vI y2]) := by
  have I0 := I
  obtain ⟨⟨i1, i2, i3, i4, i5, i6⟩, ⟨j1, j2, j3, j4, j5, j6, j7⟩, ⟨n0, k2, k3, k4, k5⟩, ⟨l1, l2, l3, l4, l5, l6, l7⟩⟩ := I
  have BV0 := k2
  have hv := bv_bound k2
  have hw := mr_bound k2 k4
  obtain ⟨b0, b1, b2, b3, b4, b5, b7, b9, b10, b11, b12, bu⟩ := k2
  have F1 := i1.1
  have F2 := i1.2.1
  have F3 := i1.2.2.1
  have F4 := i1.2.2.2.1
  have p14 := i2.1.1
  obtain ⟨h8, e8, O8, C8⟩ := mark_c i2 (now_cla n0) b1 b3 l5 l4
  have O8' : Only h h8 (refL x) := O8.mono (fun a ha => by unfold refL; simp at ha ⊢; omega)
  have I8 := ainv_c I0 O8'
  obtain ⟨⟨i1', i2', i3', i4', i5', i6'⟩, ⟨_, j2', j3', j4', _, _, j7'⟩, ⟨n0', _, k3', _, _⟩, ⟨l1', l2', l3', l4', _, _, l7'⟩⟩ := I8
  have hm := home_c i1' j3' j2'
  have self : LN h8 10 v u = h8 := LN_self n0'.1 n0'.2.1
  have K0 : hK h8 0 = 11 := i1'.1
  have R1 : hR h8 0 1 = some 3 := i1'.2.1
  have R2 : hR h8 0 2 = some 10 := i1'.2.2.1
  have K3 := j3'.1.1
  have dc6 := j4.2.2.2.2.1.1
  have bc5 := j4.2.2.2.2.1.2
  have w4 : w 4 = v 4 := k4.1 4 (by omega)
  have w7 : w 7 = v 9 := k4.2.1
  have op := sell_c (v := v) (u := u) j3' i4' (by omega) (by omega) (by omega) (fun k hk => by have := bu k hk; omega) y y2
  rw [self] at op
  rcases op with ⟨i, k, ye, ye2, PO, cut⟩ | ⟨NO, cut⟩
  · have O9 : Only h8 (LN h8 10 (sellV b v i k) (up1 u i (u i + 1))) [10, 11] := only_LN _ _ _ (by simp) (by simp)
    have N9 : NowC (LN h8 10 (sellV b v i k) (up1 u i (u i + 1))) (sellV b v i k) (up1 u i (u i + 1)) lg bk := ⟨LN_ra _ _ _ _, LN_rs _ 10 _ _, by rw [LN_o _ _ _ (by decide) (by decide)]; exact n0'.2.2.1, by rw [LN_o _ _ _ (by decide) (by decide)]; exact n0'.2.2.2⟩
    obtain ⟨cm, O13, r13, M13, R13, U13, g160, fin⟩ := act_fin (w' := sellVm b w i k) I0 O8 C8 O9 N9 (bv_sell BV0 PO j6.2.2.2.2.2.2.2.2.2.2.1) (mr_sell (b := b) (i := i) (k := k) k4 (by have := PO.1; omega) PO.2.1) (lb_sell k5 b10 (by have := PO.1; omega) PO.2.1) (by unfold sellV; rw [up1_o _ _ (by decide), up1_o _ _ (by have := PO.2.1; omega)]) (by unfold sellV; rw [up1_o _ _ (by decide), up1_o _ _ (by have := PO.2.1; omega)])
    generalize eh13 : cmH (LN h8 10 (sellV b v i k) (up1 u i (u i + 1))) A x = h13 at *
    have q3 : Mq h13 (sI h13 147 0 0) [] [0] := mq_sI _ _ _ (by simp)
    obtain ⟨hr, er, s160, Mr, Rr, Ur, Q, J⟩ := fin _ q3
    have M3 := mq_mw q3 M13 (by simp) (by simp) (by simp) (by simp) (by simp)
    have R3 := mq_rlo q3 R13
    have g3 : hI (sI h13 147 0 0) 160 = nR w := by rw [hI_row _ _ _ _ (by decide)]; exact g160
    have can := canSell_m (w := w) M3 R3 (by omega) (by have := hw 5 (by omega); omega) (by have := hw 6 (by omega); omega) (fun i hi => by have := hw (14 + i) (by omega); omega) y y2
    rw [RN_self g3] at can
    have doit := sells_m (w := w) (i := i) (k := k) Mr Rr ((mr_sellOK k4 bc5).mpr PO)
    rw [RN_self s160, ← ye, ← ye2] at doit
    rcases can with ⟨i3, k3'', ye3, ye4, PM, can⟩ | ⟨NM, _⟩
    · refine ⟨nI ((sellV b v i k) 4), h13, RN hr 160 (sellVm b w i k), ?_, ?_, O13, Q, _, _, _, _, _, _, _, _, J⟩
      · have kk0 : hK h13 0 = 11 := by rw [← eh13]; exact K0
        have kk10 : hK h13 10 = 4 := by rw [← eh13]; exact i4'.1
        have rr2 : hR h13 0 2 = some 10 := by rw [← eh13]; exact R2
        have rr4 : hR h8 0 4 = some 14 := i1'.2.2.2.1
        have kk14 : hK h8 14 = 5 := i2'.1.1
        have v6 : hI h13 10 4 = nI ((sellV b v i k) 4) := by rw [r13 _ (by decide), LN_a]
        rw [tX11_sell]
        simp only [oB_some, dR_some, cond_true, cond_false, if_true, if_false, Bool.true_and, Bool.and_true, Nat.beq_refl, F1, F3, F4, p14, e8, K0, hm, R1, R2, K3, cut, show ¬ (1 : Int32) = 0 by decide, LN_K, LN_R, rr4, kk14, cm, kk0, rr2, kk10, v6]
      · have w13 : hK h13 147 = 12 := M13.1
        have rr3 : hR h13 147 32 = some 160 := U13.2.1
        have kr : hK hr 147 = 12 := Mr.1
        have rrr : hR hr 147 32 = some 160 := Ur.2.1
        have kr160 : hK hr 160 = 20 := Ur.2.2.1
        have er160 : hE hr 160 = 381 := Ur.2.2.2.1
        have a6 : hI (RN hr 160 (sellVm b w i k)) 160 4 = nI ((sellV b v i k) 4) := by rw [RN_a, ((mr_sell (b := b) (i := i) (k := k) k4 (by have := PO.1; omega) PO.2.1)).1 4 (by omega)]
        rw [tX12_sell]
        simp only [oB_some, dR_some, cond_true, cond_false, if_true, if_false, Bool.true_and, Bool.and_true, Nat.beq_refl, hK_sI, hR_sI, w13, rr3, can, show ¬ (1 : Int32) = 0 by decide, er, kr, rrr, doit, RN_K, RN_R, RN_E, kr160, er160, iaK20, ib4, tc4, a6]
    · exact absurd ((mr_sellOK k4 bc5).mpr PO) (NM i k ye ye2 (by have := PO.1; omega) (by have := PO.2.1; omega))
  · have q3 : Mq h8 (sI h8 147 0 0) [] [0] := mq_sI h8 _ _ (by simp)
    have I3 := ainv_m (ainv_c I0 O8') q3
    have M3 := mq_mw q3 j4' (by simp) (by simp) (by simp) (by simp) (by simp)
    have R3 := mq_rlo q3 i6'
    have g3 : hI (sI h8 147 0 0) 160 = nR w := by rw [hI_row _ _ _ _ (by decide)]; exact k3'
    have can := canSell_m (w := w) M3 R3 (by omega) (by have := hw 5 (by omega); omega) (by have := hw 6 (by omega); omega) (fun i hi => by have := hw (14 + i) (by omega); omega) y y2
    rw [RN_self g3] at can
    rcases can with ⟨i3, k3'', ye3, ye4, PM, _⟩ | ⟨NM, can⟩
    · exact absurd ((mr_sellOK k4 bc5).mp PM) (NO i3 k3'' ye3 ye4 (by have := PM.1; omega) (by have := PM.2.1; omega))
    · refine ⟨-1, h8, sI h8 147 0 0, ?_, ?_, O8'.mono (fun a ha => by unfold refL at ha; unfold actL; simp at ha ⊢; omega), mq_sI h8 _ _ (by simp), v, u, w, lg, bk, z, A, x, I3⟩
      · rw [tX11_sell]
        simp only [oB_some, dR_some, cond_true, cond_false, if_true, if_false, Bool.true_and, Bool.and_true, Nat.beq_refl, F1, F3, F4, p14, e8, K0, hm, R1, R2, K3, cut]
      · have w8 : hK h8 147 = 12 := j4'.1
        have rr3 : hR h8 147 32 = some 160 := i5'.2.1
        rw [tX12_sell]
        simp only [oB_some, dR_some, cond_true, cond_false, if_true, if_false, Bool.true_and, Bool.and_true, Nat.beq_refl, hK_sI, hR_sI, w8, rr3, can]
