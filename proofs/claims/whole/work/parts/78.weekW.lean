/-! ===== PURE: the call of week, by both ===== -/
theorem isIn_k (y : Int32) (h : Hp) : FX12_isIn [vL y.toInt64, vL 0, vL 3] h = some (rI (if y < 0 then 0 else if 3 < y then 0 else 1), h) := isIn_sp y 0 3 h
/-- which weeks are refused, and what the reference's look leaves -/
theorem can_m {h : Hp} {dd : Nat} {r d b w : Nat → Nat} {dc bc : Nat} {lw : Option ((Nat → Int32) × Nat)} (M : MW h r d b dc bc) (L : RLo h 160) (Q : LWS h lw) (e : hI h 160 = nR w) (hd : dd ≤ 3) (hw : ∀ k, k ≤ 19 → w k < 2 ^ 29) :
    (canM w dd (TK lw r (w 0) (w 2) (w 19) (w 7) (w 4)) → ∃ h2, FX12_canDo [vR (some 147), vR (some 160), vI (nI dd)] h = some (rI 1, h2) ∧ Mo h h2) ∧ (¬ canM w dd (TK lw r (w 0) (w 2) (w 19) (w 7) (w 4)) → ∃ h2, FX12_canDo [vR (some 147), vR (some 160), vI (nI dd)] h = some (rI 0, h2) ∧ Mo h h2) := by
  have self : RN h 160 w = h := RN_self e
  obtain ⟨h', T, mo⟩ := takes_m (w := w) M L (by omega) Q
  have ht := TK_le (lw := lw) (M.2.2.2.2.2.2.2.2.2.1 3) (w 0) (w 2) (w 19) (w 7) (w 4)
  have c := canDo_m (dd := dd) M.1 L hd T hw ht
  rw [self] at c mo
  refine ⟨fun C => ?_, fun C => ?_⟩
  · obtain ⟨h2, e2, z⟩ := c.1 C
    refine ⟨h2, e2, ?_⟩
    rcases z with z | z
    · rw [z]; exact mo
    · rw [z]; exact Mo.refl _
  · obtain ⟨h2, e2, z⟩ := c.2 C
    refine ⟨h2, e2, ?_⟩
    rcases z with z | z
    · rw [z]; exact mo
    · rw [z]; exact Mo.refl _
theorem bv_bound {v u : Nat → Nat} (B : BV v u) : ∀ k, k ≤ 12 → k ≠ 8 → v k < 2 ^ 29 := by
  obtain ⟨b0, b1, b2, b3, b4, b5, b7, b9, b10, b11, b12, bu⟩ := B
  intro k hk h8
  rcases (show k = 0 ∨ k = 1 ∨ k = 2 ∨ k = 3 ∨ k = 4 ∨ k = 5 ∨ k = 6 ∨ k = 7 ∨ k = 9 ∨ k = 10 ∨ k = 11 ∨ k = 12 by omega) with e | e | e | e | e | e | e | e | e | e | e | e <;> subst e <;> omega
theorem mr_bound {v u w : Nat → Nat} (B : BV v u) (M : MR v u w) : ∀ k, k ≤ 19 → w k < 2 ^ 29 := by
  have bb := bv_bound B
  have bu := B.2.2.2.2.2.2.2.2.2.2.2
  obtain ⟨m1, m2, m3, m4, m5⟩ := M
  intro k hk
  by_cases c6 : k ≤ 6
  · rw [m1 k c6]; exact bb k (by omega) (by omega)
  by_cases c7 : k = 7
  · subst c7; rw [m2]; exact bb 9 (by omega) (by omega)
  by_cases c13 : k ≤ 13
  · have := m3 (k - 8) (by omega)
    rw [show 8 + (k - 8) = k by omega] at this
    rw [this]; omega
  by_cases c18 : k ≤ 18
  · have := m4 (k - 14) (by omega)
    rw [show 14 + (k - 14) = k by omega] at this
    have b := bu (k - 14) (by omega)
    rw [this]; omega
  · have : k = 19 := by omega
    subst this; rw [m5]; exact bb 10 (by omega) (by omega)
theorem lb_200 {v w lg bk : Nat → Nat} (B : LB v w lg bk) : w 200 ≤ 60 := by
  rw [B.1]; by_cases c : v 11 < 60 <;> simp only [c, if_true, if_false] <;> omega
theorem remA_le {A : Nat} (h : A ≤ 40) : remA A ≤ 40 := by unfold remA; by_cases c : A = 40 <;> simp only [c, if_true, if_false] <;> omega
theorem week_both {h : Hp} {s : Nat} {r d b : Nat → Nat} {dc bc : Nat} {lw : Option ((Nat → Int32) × Nat)} {v u w lg bk z : Nat → Nat} {A x : Nat} (I : AINV h s r d b dc bc lw v u w lg bk z A x) (y : Int32) :
    ∃ res h1 h2, FX11_week [vR (some 0), vI y] h = some (rI res, h1) ∧ FX12_week [vR (some 147), vI y] h1 = some (rI res, h2) ∧ Only h h1 (actL x) ∧ Mq h1 h2 [160, 162] [0, 37] ∧ ∃ v' w' lg' bk' z' A' x', AINV h2 s r d b dc bc lw v' u w' lg' bk' z' A' x' := by
  have I0 := I
  obtain ⟨⟨i1, i2, i3, i4, i5, i6⟩, ⟨j1, j2, j3, j4, j5, j6, j7⟩, ⟨n0, k2, k3, k4, k5⟩, ⟨l1, l2, l3, l4, l5, l6, l7⟩⟩ := I
  have hm := home_c i1 j3 j2
  have F1 := i1.1
  have F3 := i1.2.2.1
  have F4 := i1.2.2.2.1
  have L1 := i4.1
  have w1 := j4.1
  have p14 := i2.1.1
  have u2 := i5.2.1
  have BV0 := k2
  have hv := bv_bound k2
  have hw := mr_bound k2 k4
  obtain ⟨b0, b1, b2, b3, b4, b5, b7, b9, b10, b11, b12, bu⟩ := k2
  have m7 := k4.2.1
  have q9 : hI h 10 9 = nI (v 9) := by rw [n0.1]; rfl
  have rest : ∀ h1, Mq h1 (sI h1 147 0 0) [] [0] := fun h1 => mq_sI h1 _ _ (by simp)
  have refuse : FX11_week [vR (some 0), vI y] h = some (rI (-1), h) → FX12_week [vR (some 147), vI y] h = some (rI (-1), sI h 147 0 0) → ∃ res h1 h2, FX11_week [vR (some 0), vI y] h = some (rI res, h1) ∧ FX12_week [vR (some 147), vI y] h1 = some (rI res, h2) ∧ Only h h1 (actL x) ∧ Mq h1 h2 [160, 162] [0, 37] ∧ ∃ v' w' lg' bk' z' A' x', AINV h2 s r d b dc bc lw v' u w' lg' bk' z' A' x' :=
    fun a e => ⟨-1, h, _, a, e, Only.refl _ _, (rest h).mono (by simp) (by simp), v, w, lg, bk, z, A, x, ainv_m I0 (rest h)⟩
  rcases ix_cases y (n := 4) (by omega) with c | ⟨c1, c2, _⟩ | ⟨dd, hd, c, c1, c2⟩
  · refine refuse ?_ ?_
    · rw [tX11_week]
      simp only [oB_some, dR_some, cond_true, cond_false, if_true, if_false, Bool.true_and, Bool.and_true, Nat.beq_refl, F1, hm, within11, c]
    · rw [tX12_week]
      simp only [oB_some, dR_some, cond_true, cond_false, if_true, if_false, Bool.true_and, Bool.and_true, Nat.beq_refl, hK_sI, w1, isIn_k, c]
  · have c2' : (3 : Int32) < y := c2
    refine refuse ?_ ?_
    · rw [tX11_week]
      simp only [oB_some, dR_some, cond_true, cond_false, if_true, if_false, Bool.true_and, Bool.and_true, Nat.beq_refl, F1, hm, within11, c1, c2']
    · rw [tX12_week]
      simp only [oB_some, dR_some, cond_true, cond_false, if_true, if_false, Bool.true_and, Bool.and_true, Nat.beq_refl, hK_sI, w1, isIn_k, c1, c2']
  · have c2' : ¬ (3 : Int32) < y := c2
    subst c
    have q999 : (nI (v 9) < (999 : Int32)) = (v 9 < 999) := nI_nlt' (b := 999) (by omega) (by omega)
    have p999 : ((999 : Int32) < nI (w 7) + 1) = (999 < v 9 + 1) := by
      rw [m7, nI_1]
      exact nI_nlt' (a := 999) (by omega) (by omega)
    have mp : ∀ h1, MW h1 r d b dc bc → RLo h1 160 → hI h1 160 = nR w → FX12_mayPass [vR (some 147), vR (some 160), vI 1] h1 = some (rI (if (999 : Int32) < nI (w 7) + 1 then 0 else 1), h1) := fun h1 a b' e => mayPass_m a b' e j5 (by omega)
    by_cases c9 : v 9 < 999
    · have p9 : ¬ 999 < v 9 + 1 := by omega
      obtain ⟨h8, e8, O8, C8⟩ := mark_c i2 (now_cla n0) b1 b3 l5 l4
      have O8' : Only h h8 (refL x) := O8.mono (fun a ha => by unfold refL; simp at ha ⊢; omega)
      have I8 := ainv_c I0 O8'
      obtain ⟨⟨i1', i2', i3', i4', i5', i6'⟩, ⟨_, j2', j3', j4', _, _, j7'⟩, ⟨n0', _, k3', _, _⟩, ⟨l1', l2', l3', l4', _, _, l7'⟩⟩ := I8
      have day := day_c (dd := dd) i1' j3' j4' j1 i4' i3' j7' n0' (by omega) hv b10 (by omega)
      have hk8 : hK h8 0 = 11 := i1'.1
      have nA : ∀ a, a ≠ 8 → a ≠ 9 → a ≠ 10 → a ≠ 11 → a ≠ 14 → a ≠ 99 → a ≠ 100 → a ≠ 16 + 2 * x → a ≠ 16 + 2 * x + 1 → a ∉ actL x := fun a q1 q2 q3 q4 q5 q6 q7 q8 q9 => by unfold actL; simp; omega
      have tkE : TK lw r (w 0) (w 2) (w 19) (w 7) (w 4) = TK lw r (v 0) (v 2) (v 10) (v 9) (v 4) := by rw [k4.1 0 (by omega), k4.1 2 (by omega), k4.2.2.2.2, k4.2.1, k4.1 4 (by omega)]
      by_cases C : canW v dd (TK lw r (v 0) (v 2) (v 10) (v 9) (v 4))
      · obtain ⟨h10, e10, O10, N10⟩ := day.1 C
        have O810 : Only h h10 (actL x) := (O8.mono (fun a ha => by unfold actL; simp at ha ⊢; omega)).trans (O10.mono (fun a ha => by unfold actL; simp at ha ⊢; omega))
        have PT10 := ptl_fr i2 O810
        have x10 : hI h10 14 1 = nI x := by rw [O10.I (by simp)]; exact l4'
        have A10 : hI h10 14 2 = nI A := by rw [O10.I (by simp)]; exact l3'
        have cm := commit_c PT10 l5 l6 x10 A10
        have O13 : Only h (sI (sI h10 14 1 (nI ((x + 1) % 41))) 14 2 (nI (remA A))) (actL x) := O810.trans ((only_sI _ _ _ (by unfold actL; simp)).trans (only_sI _ _ _ (by unfold actL; simp)))
        have r13 : ∀ a, a ≠ 14 → hI (sI (sI h10 14 1 (nI ((x + 1) % 41))) 14 2 (nI (remA A))) a = hI h10 a := fun a ha => by rw [hI_row _ _ _ _ ha, hI_row _ _ _ _ ha]
        have a13 : hI (sI (sI h10 14 1 (nI ((x + 1) % 41))) 14 2 (nI (remA A))) 14 1 = nI ((x + 1) % 41) := by rw [hI_slot _ _ _ _ (by decide), hI_same]
        have b13 : hI (sI (sI h10 14 1 (nI ((x + 1) % 41))) 14 2 (nI (remA A))) 14 2 = nI (remA A) := by rw [hI_same]
        have C13 : CLa (sI (sI h10 14 1 (nI ((x + 1) % 41))) 14 2 (nI (remA A))) (16 + 2 * x) v u := cla_fr C8 (by rw [r13 _ (by omega), O10.I (by simp; omega)]) (by rw [r13 _ (by omega), O10.I (by simp; omega)])
        have N13 : NowC (sI (sI h10 14 1 (nI ((x + 1) % 41))) 14 2 (nI (remA A))) (up1 (dayV lw r v dd) 11 (v 11 + 1)) u (p3N lg (3 * (v 11 % 100)) dd (dayV lw r v dd 4) (dayV lw r v dd 0)) (if dd = 1 then p3N bk (3 * v 10) (v 9) (v 0) (TK lw r (v 0) (v 2) (v 10) (v 9) (v 4)) else bk) := by
          obtain ⟨y1, y2, y3, y4⟩ := N10
          exact ⟨by rw [r13 _ (by decide)]; exact y1, by rw [r13 _ (by decide)]; exact y2, by rw [r13 _ (by decide)]; exact y3, by rw [r13 _ (by decide)]; exact y4⟩
        have eC : FX11_week [vR (some 0), vI (nI dd)] h = some (rI (hI (sI (sI h10 14 1 (nI ((x + 1) % 41))) 14 2 (nI (remA A))) 10 9), sI (sI h10 14 1 (nI ((x + 1) % 41))) 14 2 (nI (remA A))) := by
          have kk0 : hK h10 0 = 11 := by rw [O810.K]; exact F1
          have kk14 : hK h10 14 = 5 := by rw [O810.K]; exact p14
          have kk10 : hK h10 10 = 4 := by rw [O810.K]; exact L1
          have rr4 : hR h10 0 4 = some 14 := by rw [O810.R]; exact F4
          have rr2 : hR h10 0 2 = some 10 := by rw [O810.R]; exact F3
          rw [tX11_week]
          simp only [oB_some, dR_some, cond_true, cond_false, if_true, if_false, Bool.true_and, Bool.and_true, Nat.beq_refl, hK_sI, hR_sI, F1, hm, within11, c1, c2', show ¬ (1 : Int32) = 0 by decide, F3, F4, L1, q9, q999, c9, p14, e8, hk8, e10, kk0, kk14, kk10, rr4, rr2, cm]
        generalize eh13 : sI (sI h10 14 1 (nI ((x + 1) % 41))) 14 2 (nI (remA A)) = h13 at *
        -- the reference
        have M13 := mw_fr j4 O13 (nA _ (by omega) (by omega) (by omega) (by omega) (by omega) (by omega) (by omega) (by omega) (by omega)) (nA _ (by omega) (by omega) (by omega) (by omega) (by omega) (by omega) (by omega) (by omega) (by omega)) (nA _ (by omega) (by omega) (by omega) (by omega) (by omega) (by omega) (by omega) (by omega) (by omega)) (nA _ (by omega) (by omega) (by omega) (by omega) (by omega) (by omega) (by omega) (by omega) (by omega))
        have Q13 := lws_only j7 O13 (fun a ha => by unfold actL at ha; simp at ha; omega)
        have g160 : hI h13 160 = nR w := by rw [O13.I (nA _ (by omega) (by omega) (by omega) (by omega) (by omega) (by omega) (by omega) (by omega) (by omega))]; exact k3
        have g162 : hI h13 162 = nR z := by rw [O13.I (nA _ (by omega) (by omega) (by omega) (by omega) (by omega) (by omega) (by omega) (by omega) (by omega))]; exact l1
        have g37 : hI h13 147 37 = nI A := by rw [O13.I (nA _ (by omega) (by omega) (by omega) (by omega) (by omega) (by omega) (by omega) (by omega) (by omega))]; exact l2
        have U13 := ul_only i5 O13
        have R13 := rlo_only i6 O13
        have q3 : Mq h13 (sI h13 147 0 0) [] [0] := rest h13
        have M3 := mq_mw q3 M13 (by simp) (by simp) (by simp) (by simp) (by simp)
        have Q3 := lws_mq Q13 q3 M13.1 (by simp) (fun a ha => by simp at ha)
        have R3 := mq_rlo q3 R13
        have e160 : hI (sI h13 147 0 0) 160 = nR w := by rw [hI_row _ _ _ _ (by decide)]; exact g160
        have CM : canM w dd (TK lw r (w 0) (w 2) (w 19) (w 7) (w 4)) := by rw [tkE]; exact (mr_can k4).mpr C
        obtain ⟨h7, e7, mo7⟩ := (can_m (dd := dd) M3 R3 Q3 e160 (by omega) hw).1 CM
        have q7 := mo7.mq [] []
        have M7 := mq_mw q7 M3 (by simp) (by simp) (by simp) (by simp) (by simp)
        have Q7 := lws_mq Q3 q7 M3.1 (by simp) (fun a ha => by simp at ha)
        have s160 : hI h7 160 = nR w := by rw [q7.2.2.2.2.2.2.1 160 (by omega) (by omega) (by simp)]; exact e160
        have s162 : hI h7 162 = nR z := by rw [q7.2.2.2.2.2.2.1 162 (by omega) (by omega) (by simp), hI_row _ _ _ _ (by decide)]; exact g162
        have s37 : hI h7 147 37 = nI A := by rw [q7.2.2.2.2.2.2.2 37 (by simp) (by simp), hI_slot _ _ _ _ (by decide)]; exact g37
        have U7 := ul_mq (ul_mq U13 q3) q7
        obtain ⟨h9, e9, t162, t37, q9'⟩ := remember_m U7 s160 s162 s37 l6
        have M9 := mq_mw q9' M7 (by simp) (by simp) (by simp) (by simp) (by simp)
        have Q9 := lws_mq Q7 q9' M7.1 (by simp) (fun a ha => by simp at ha; omega)
        have t160 : hI h9 160 = nR w := by rw [q9'.2.2.2.2.2.2.1 160 (by omega) (by omega) (by simp)]; exact s160
        have R9 := mq_rlo q9' (mq_rlo q7 R3)
        obtain ⟨h11, e11, v160, q11⟩ := day_m (o := 160) (dd := dd) M9 R9 (by omega) Q9 t160 (by omega) hw (lb_200 k5) CM
        have Q : Mq h13 h11 [160, 162] [0, 37] := (q3.mono (by simp) (by simp)).trans ((q7.mono (by simp) (by simp)).trans ((q9'.mono (by simp) (by simp)).trans (q11.mono (by simp) (by simp))))
        obtain ⟨MRn, LBn⟩ := mr_day (lw := lw) (r := r) (dd := dd) k4 k5 b10 C
        have row : ∀ a, a ≠ 147 → a ≠ 151 → a ≠ 160 → a ≠ 162 → hI h11 a = hI h13 a := fun a y1 y2 y3 y4 => Q.2.2.2.2.2.2.1 a y1 y2 (by simp; omega)
        have res9 : hI h13 10 9 = nI (up1 (dayV lw r v dd) 11 (v 11 + 1) 9) := by rw [N13.1]; rfl
        refine ⟨_, h13, h11, eC, ?_, O13, Q, up1 (dayV lw r v dd) 11 (v 11 + 1), dayM lw r w dd, _, _, remZ z w A, remA A, (x + 1) % 41, ⟨cf_mq (cf_fr i1 O13) Q, ptl_mq (ptl_fr i2 O13) Q, dp_mq (dp_fr i3 O13) Q (by omega), ll_mq (ll_fr i4 O13) Q (by omega), ul_mq U13 Q, mq_rlo Q R13⟩, ⟨j1, ?_, wh_mq (wh_fr j3 O13 (nA _ (by omega) (by omega) (by omega) (by omega) (by omega) (by omega) (by omega) (by omega) (by omega)) (nA _ (by omega) (by omega) (by omega) (by omega) (by omega) (by omega) (by omega) (by omega) (by omega)) (nA _ (by omega) (by omega) (by omega) (by omega) (by omega) (by omega) (by omega) (by omega) (by omega)) (nA _ (by omega) (by omega) (by omega) (by omega) (by omega) (by omega) (by omega) (by omega) (by omega))) Q (by omega) (fun a ha => by simp at ha; omega), mq_mw Q M13 (by simp) (by simp) (by simp) (by simp) (by simp), j5, j6, lws_mq Q13 Q M13.1 (by simp) (fun a ha => by simp at ha; omega)⟩, ⟨⟨?_, ?_, ?_, ?_⟩, bv_day BV0 j6 c9 C, v160, MRn, LBn⟩, ⟨?_, ?_, ?_, ?_, Nat.mod_lt _ (by omega), remA_le l6, ?_⟩⟩
        · have f7 : hI h11 160 7 = nI (dayM lw r w dd 7) := by rw [v160]; rfl
          have kk3 : hK (sI h13 147 0 0) 147 = 12 := M3.1
          have kk7 : hK h7 147 = 12 := M7.1
          have kk9 : hK h9 147 = 12 := M9.1
          have kkb : hK h11 147 = 12 := (mq_mw q11 M9 (by simp) (by simp) (by simp) (by simp) (by simp)).1
          have rr3 : hR h13 147 32 = some 160 := U13.2.1
          have rr7 : hR h7 147 32 = some 160 := U7.2.1
          have rr9 : hR h9 147 32 = some 160 := (ul_mq U7 q9').2.1
          have U11 := ul_mq U13 Q
          have rrb : hR h11 147 32 = some 160 := U11.2.1
          have k160 : hK h11 160 = 20 := U11.2.2.1
          have e160' : hE h11 160 = 381 := U11.2.2.2.1
          have w13 : hK h13 147 = 12 := M13.1
          have mm := mp (sI h13 147 0 0) M3 R3 e160
          rw [res9, ← MRn.2.1]
          rw [tX12_week]
          simp only [oB_some, dR_some, cond_true, cond_false, if_true, if_false, Bool.true_and, Bool.and_true, Nat.beq_refl, hK_sI, hR_sI, w13, isIn_k, c1, c2', show ¬ (1 : Int32) = 0 by decide, rr3, mm, p999, p9, e7, kk7, rr7, e9, kk9, rr9, e11, kkb, rrb, k160, e160', iaK20, ib7, tc7, f7]
        · rw [row _ (by omega) (by omega) (by omega) (by omega), O13.I (nA _ (by omega) (by omega) (by omega) (by omega) (by omega) (by omega) (by omega) (by omega) (by omega))]; exact j2
        · rw [row _ (by omega) (by omega) (by omega) (by omega)]; exact N13.1
        · rw [row _ (by omega) (by omega) (by omega) (by omega)]; exact N13.2.1
        · rw [row _ (by omega) (by omega) (by omega) (by omega)]; exact N13.2.2.1
        · rw [row _ (by omega) (by omega) (by omega) (by omega)]; exact N13.2.2.2
        · rw [q11.2.2.2.2.2.2.1 162 (by omega) (by omega) (by simp)]; exact t162
        · rw [q11.2.2.2.2.2.2.2 37 (by simp) (by simp)]; exact t37
        · rw [row _ (by omega) (by omega) (by omega) (by omega)]; exact b13
        · rw [row _ (by omega) (by omega) (by omega) (by omega)]; exact a13
        · refine past_act l7 l6 l5 BV0 k4 k5 ⟨Or.inr ⟨_, _, _, rfl⟩, fun i hi => ?_⟩ ?_ ?_ ?_ (cla_fr C13 (row _ (by omega) (by omega) (by omega) (by omega)) (row _ (by omega) (by omega) (by omega) (by omega))) (fun i hi ne => ⟨?_, ?_⟩)
          · by_cases cd : dd = 1
            · rw [if_pos cd, p3N_o _ _ _ _ _ (by omega)]
            · rw [if_neg cd]
          · rw [up1_o _ _ (by decide), day_10]; by_cases cd : dd = 1 <;> simp only [cd, if_true, if_false] <;> omega
          · rw [up1_s]; omega
          · rw [up1_s]; exact Nat.le_refl _
          · rw [row _ (by omega) (by omega) (by omega) (by omega)]; exact O13.I (nA _ (by omega) (by omega) (by omega) (by omega) (by omega) (by omega) (by omega) (by omega) (by omega))
          · rw [row _ (by omega) (by omega) (by omega) (by omega)]; exact O13.I (nA _ (by omega) (by omega) (by omega) (by omega) (by omega) (by omega) (by omega) (by omega) (by omega))
      · obtain ⟨h10, e10, O10⟩ := day.2 C
        have Or : Only h h10 (refL x) := O8'.trans (O10.mono (fun a ha => by unfold refL; simp at ha ⊢; omega))
        have I10 := ainv_c I0 Or
        have I3 := ainv_m I10 (rest h10)
        have M3 := I3.2.1.2.2.2.1
        have R3 := I3.1.2.2.2.2.2
        have e160 := I3.2.2.1.2.2.1
        have CM : ¬ canM w dd (TK lw r (w 0) (w 2) (w 19) (w 7) (w 4)) := by rw [tkE]; exact fun q => C ((mr_can k4).mp q)
        obtain ⟨h7, e7, mo7⟩ := (can_m (dd := dd) M3 R3 I3.2.1.2.2.2.2.2.2 e160 (by omega) hw).2 CM
        refine ⟨-1, h10, h7, ?_, ?_, Or.mono (fun a ha => by unfold refL at ha; unfold actL; simp at ha ⊢; omega), ((rest h10).mono (by simp) (by simp)).trans (mo7.mq _ _), v, w, lg, bk, z, A, x, ainv_m I3 (mo7.mq [] [0])⟩
        · rw [tX11_week]
          simp only [oB_some, dR_some, cond_true, cond_false, if_true, if_false, Bool.true_and, Bool.and_true, Nat.beq_refl, F1, hm, within11, c1, c2', show ¬ (1 : Int32) = 0 by decide, F3, F4, L1, q9, q999, c9, p14, e8, hk8, e10]
        · have w10 : hK h10 147 = 12 := I10.2.1.2.2.2.1.1
          have u10 : hR h10 147 32 = some 160 := I10.1.2.2.2.2.1.2.1
          have mm := mp (sI h10 147 0 0) M3 R3 e160
          rw [tX12_week]
          simp only [oB_some, dR_some, cond_true, cond_false, if_true, if_false, Bool.true_and, Bool.and_true, Nat.beq_refl, hK_sI, hR_sI, w10, isIn_k, c1, c2', show ¬ (1 : Int32) = 0 by decide, u10, mm, p999, p9, e7]
    · refine refuse ?_ ?_
      · rw [tX11_week]
        simp only [oB_some, dR_some, cond_true, cond_false, if_true, if_false, Bool.true_and, Bool.and_true, Nat.beq_refl, F1, hm, within11, c1, c2', show ¬ (1 : Int32) = 0 by decide, F3, L1, q9, q999, c9]
      · have p9 : 999 < v 9 + 1 := by omega
        have a1 := ainv_m I0 (rest h)
        have mm := mp (sI h 147 0 0) a1.2.1.2.2.2.1 a1.1.2.2.2.2.2 a1.2.2.1.2.2.1
        rw [tX12_week]
        simp only [oB_some, dR_some, cond_true, cond_false, if_true, if_false, Bool.true_and, Bool.and_true, Nat.beq_refl, hK_sI, hR_sI, w1, isIn_k, c1, c2', show ¬ (1 : Int32) = 0 by decide, u2, mm, p999, p9]
