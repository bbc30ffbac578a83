/-! ===== PURE: lives, by both (made by wip/tools/gen97.py) ===== -/
def OnlyL (h h' : Hp) (l : List Nat) : Prop := hN h' = hN h ∧ hS h' = hS h ∧ hK h' = hK h ∧ hE h' = hE h ∧ hR h' = hR h ∧ (∀ a, a ≠ 0 → hL h' a = hL h a) ∧ ∀ b, b ∉ l → hI h' b = hI h b
def MqL (h h' : Hp) (l ks : List Nat) : Prop := hN h' = hN h ∧ hS h' = hS h ∧ hK h' = hK h ∧ hE h' = hE h ∧ (∀ a, a ≠ 147 → hL h' a = hL h a) ∧ (∀ a k, a ≠ 147 ∨ k ≠ 5 → hR h' a k = hR h a k) ∧ (∀ a, a ≠ 147 → a ≠ 151 → a ∉ l → hI h' a = hI h a) ∧ (∀ k, k ∉ [8, 9, 10, 11, 12, 13, 14, 17] → k ∉ ks → hI h' 147 k = hI h 147 k)
theorem Only.toL {h h' : Hp} {l : List Nat} (O : Only h h' l) : OnlyL h h' l := ⟨O.N, O.S, O.K, O.E, O.R, fun _ _ => by rw [O.L], fun _ hb => O.I hb⟩
theorem OnlyL.trans {h h' h'' : Hp} {l : List Nat} (O : OnlyL h h' l) (P : OnlyL h' h'' l) : OnlyL h h'' l := by
  obtain ⟨o1, o2, o3, o4, o5, o6, o7⟩ := O
  obtain ⟨p1, p2, p3, p4, p5, p6, p7⟩ := P
  exact ⟨p1.trans o1, p2.trans o2, p3.trans o3, p4.trans o4, p5.trans o5, fun a ha => (p6 a ha).trans (o6 a ha), fun b hb => (p7 b hb).trans (o7 b hb)⟩
theorem OnlyL.mono {h h' : Hp} {l l' : List Nat} (O : OnlyL h h' l) (hl : ∀ x ∈ l, x ∈ l') : OnlyL h h' l' := by
  obtain ⟨o1, o2, o3, o4, o5, o6, o7⟩ := O
  exact ⟨o1, o2, o3, o4, o5, o6, fun b hb => o7 b (fun z => hb (hl b z))⟩
theorem onlyL_sL (h : Hp) (y : Int64) (l : List Nat) : OnlyL h (sL h 0 19 y) l := ⟨rfl, rfl, rfl, rfl, rfl, fun a ha => funext fun k => by rw [hL_sL, if_neg ha], fun _ _ => rfl⟩
theorem Mq.toL {h h' : Hp} {l ks : List Nat} (Q : Mq h h' l ks) : MqL h h' l ks := by
  obtain ⟨a1, a2, a3, a4, a5, a6, a7, a8⟩ := Q
  exact ⟨a1, a2, a3, a4, fun _ _ => by rw [a5], a6, a7, a8⟩
theorem MqL.trans {h h' h'' : Hp} {l ks : List Nat} (P : MqL h h' l ks) (Q : MqL h' h'' l ks) : MqL h h'' l ks := by
  obtain ⟨p1, p2, p3, p4, p5, p6, p7, p8⟩ := P
  obtain ⟨q1, q2, q3, q4, q5, q6, q7, q8⟩ := Q
  exact ⟨q1.trans p1, q2.trans p2, q3.trans p3, q4.trans p4, fun a e => (q5 a e).trans (p5 a e), fun a k e => (q6 a k e).trans (p6 a k e), fun a e f g => (q7 a e f g).trans (p7 a e f g), fun k e f => (q8 k e f).trans (p8 k e f)⟩
theorem mqL_sL (h : Hp) (y : Int64) (l ks : List Nat) : MqL h (sL h 147 38 y) l ks := ⟨rfl, rfl, rfl, rfl, fun a ha => funext fun k => by rw [hL_sL, if_neg ha], fun _ _ _ => rfl, fun _ _ _ _ => rfl, fun _ _ _ => rfl⟩
def nxD (t : Int64) : Int64 := t * 6364136223846793005 + 1442695040888963407
def dvD (t : Int64) (m : Int32) : Int32 := Int64.toInt32 ((t.toUInt64 >>> ((Int32.toInt64 33).toUInt64 &&& Int64.toUInt64 63)).toInt64 - (t.toUInt64 >>> ((Int32.toInt64 33).toUInt64 &&& Int64.toUInt64 63)).toInt64 / Int32.toInt64 m * Int32.toInt64 m)
theorem t64_nz {m : Nat} (h0 : 0 < m) (hm : m < 2 ^ 31) : ¬ (Int32.toInt64 (nI m)) = 0 := by
  intro e
  have : (nI m).toInt64 = (0 : Int32).toInt64 := e
  rw [t64_eq] at this
  exact nI_nz h0 hm this
theorem draw_c {h : Hp} {m : Nat} (K0 : hK h 0 = 11) (h0 : 0 < m) (hm : m < 2 ^ 31) : FX11_draw [vR (some 0), vI (nI m)] h = some (rI (dvD (nxD (hL h 0 19)) (nI m)), sL h 0 19 (nxD (hL h 0 19))) := by
  have c : (0 : Int32) < nI m := by rw [nI_0lt hm]; exact h0
  have e : hL (sL h 0 19 (hL h 0 19 * 6364136223846793005 + 1442695040888963407)) 0 19 = hL h 0 19 * 6364136223846793005 + 1442695040888963407 := by rw [hL_sL, if_pos rfl, if_pos rfl]
  rw [tX11_draw]
  simp only [oB_some, dR_some, cond_true, cond_false, if_true, if_false, Bool.true_and, Bool.and_true, Nat.beq_refl, c, K0, hK_sL, t64_nz h0 hm, e]
  rfl
theorem draw_m {h : Hp} {m : Nat} (M147 : hK h 147 = 12) (h0 : 0 < m) (hm : m < 2 ^ 31) : FX12_draw [vR (some 147), vI (nI m)] h = some (rI (dvD (nxD (hL h 147 38)) (nI m)), sL h 147 38 (nxD (hL h 147 38))) := by
  have e : hL (sL h 147 38 (hL h 147 38 * 6364136223846793005 + 1442695040888963407)) 147 38 = hL h 147 38 * 6364136223846793005 + 1442695040888963407 := by rw [hL_sL, if_pos rfl, if_pos rfl]
  rw [tX12_draw]
  simp only [oB_some, dR_some, cond_true, cond_false, if_true, if_false, Bool.true_and, Bool.and_true, Nat.beq_refl, M147, hK_sL, t64_nz h0 hm, e]
  rfl
theorem hL_at (h : Hp) (a k : Nat) (y : Int64) : hL (sL h a k y) a k = y := by rw [hL_sL, if_pos rfl, if_pos rfl]
theorem draw_c' {h : Hp} {m : Nat} {t t1 : Int64} {y : Int32} (K0 : hK h 0 = 11) (h0 : 0 < m) (hm : m < 2 ^ 31) (et : hL h 0 19 = t) (e1 : nxD t = t1) (ey : dvD t1 (nI m) = y) : FX11_draw [vR (some 0), vI (nI m)] h = some (rI y, sL h 0 19 t1) := by
  rw [draw_c K0 h0 hm, et, e1, ey]
theorem draw_m' {h : Hp} {m : Nat} {t t1 : Int64} {y : Int32} (K0 : hK h 147 = 12) (h0 : 0 < m) (hm : m < 2 ^ 31) (et : hL h 147 38 = t) (e1 : nxD t = t1) (ey : dvD t1 (nI m) = y) : FX12_draw [vR (some 147), vI (nI m)] h = some (rI y, sL h 147 38 t1) := by
  rw [draw_m K0 h0 hm, et, e1, ey]
/-- which deed the draws give -/
def deedR (z0 y1 y2 : Int32) (t1 t2 : Int64) (cw : Prop) (dd : Nat) (tt : Int64) : Prop :=
  (¬ z0 ≤ y1 ∧ dd = 0 ∧ tt = t1) ∨ (z0 ≤ y1 ∧ tt = t2 ∧ ((y2 = 0 ∧ cw ∧ dd = 1) ∨ (y2 = 0 ∧ ¬ cw ∧ dd = 2) ∨ (¬ y2 = 0 ∧ dd = 2)))
theorem cst_sL {h : Hp} {v u lg bk : Nat → Nat} {V U : Nat → Nat → Nat} {A x : Nat} (C : CST h v u lg bk V U A x) (a k : Nat) (y : Int64) : CST (sL h a k y) v u lg bk V U A x := cst_fr C (fun _ _ => rfl)
theorem can0 {v : Nat → Nat} {dd tk : Nat} (h : dd = 0 ∨ dd = 2) : canW v dd tk := ⟨fun q => by omega, fun q => by omega⟩
theorem day_s {h : Hp} {s : Nat} {r d b : Nat → Nat} {dc bc : Nat} {lw : Option ((Nat → Int32) × Nat)} {v u lg bk : Nat → Nat} {V U : Nat → Nat → Nat} {A x : Nat} (S : STc h s r d b dc bc lw) (C : CST h v u lg bk V U A x) (B : BV v u) {dd : Nat} (hd : dd ≤ 3) :
    (canW v dd (TK lw r (v 0) (v 2) (v 10) (v 9) (v 4)) → ∃ h', FX11_liveWeek [vR (some 0), vI (nI dd)] h = some (rI 1, h') ∧ Only h h' [8, 9, 10, 11, 99, 100] ∧ STc h' s r d b dc bc lw ∧ CST h' (up1 (dayV lw r v dd) 11 (v 11 + 1)) u (p3N lg (3 * (v 11 % 100)) dd (dayV lw r v dd 4) (dayV lw r v dd 0)) (if dd = 1 then p3N bk (3 * v 10) (v 9) (v 0) (TK lw r (v 0) (v 2) (v 10) (v 9) (v 4)) else bk) V U A x) ∧
    (¬ canW v dd (TK lw r (v 0) (v 2) (v 10) (v 9) (v 4)) → ∃ h', FX11_liveWeek [vR (some 0), vI (nI dd)] h = some (rI 0, h') ∧ Only h h' [8, 9, 10, 11, 99, 100] ∧ STc h' s r d b dc bc lw ∧ CST h' v u lg bk V U A x) := by
  have hv := bv_bound B
  have b10 := B.2.2.2.2.2.2.2.2.1
  have b11 : v 11 < 1200 := by have := B.2.2.2.2.2.2.2.2.2.1; have := B.2.2.2.2.2.2.2.1; omega
  have day := day_c (dd := dd) S.1.1 S.2.2.2.1 S.2.2.2.2.1 S.2.1 S.1.2.2.2.1 S.1.2.2.1 S.2.2.2.2.2.2.2 C.1 hd hv b10 b11
  refine ⟨fun c => ?_, fun c => ?_⟩
  · obtain ⟨h3, e3, O3, N3⟩ := day.1 c
    exact ⟨h3, e3, O3, st_now S O3, cst_now C O3 N3⟩
  · obtain ⟨h3, e3, O3⟩ := day.2 c
    exact ⟨h3, e3, O3.mono (by simp), st_now S (O3.mono (by simp)), cst_only C O3 (fun a ha => by unfold frC; simp at ha; omega)⟩
theorem liveDrawn_c {h : Hp} {s : Nat} {r d b : Nat → Nat} {dc bc : Nat} {lw : Option ((Nat → Int32) × Nat)} {v u lg bk : Nat → Nat} {V U : Nat → Nat → Nat} {A x : Nat} {z0 y1 y2 : Int32} {t t1 t2 : Int64} (S : STc h s r d b dc bc lw) (C : CST h v u lg bk V U A x) (B : BV v u) (ez : hI h 0 18 = z0) (et : hL h 0 19 = t) (e1 : nxD t = t1) (f1 : dvD t1 (nI 10) = y1) (e2 : nxD t1 = t2) (f2 : dvD t2 (nI 2) = y2) : ∃ dd h9 tt, deedR z0 y1 y2 t1 t2 (canW v 1 (TK lw r (v 0) (v 2) (v 10) (v 9) (v 4))) dd tt ∧ dd ≤ 3 ∧ canW v dd (TK lw r (v 0) (v 2) (v 10) (v 9) (v 4)) ∧ FX11_liveDrawnWeek [vR (some 0)] h = some (rV, h9) ∧ OnlyL h h9 [8, 9, 10, 11, 99, 100] ∧ hL h9 0 19 = tt ∧ STc h9 s r d b dc bc lw ∧ CST h9 (up1 (dayV lw r v dd) 11 (v 11 + 1)) u (p3N lg (3 * (v 11 % 100)) dd (dayV lw r v dd 4) (dayV lw r v dd 0)) (if dd = 1 then p3N bk (3 * v 10) (v 9) (v 0) (TK lw r (v 0) (v 2) (v 10) (v 9) (v 4)) else bk) V U A x := by
  have K0 := (sfa S).1
  have d1 : FX11_draw [vR (some 0), vI 10] h = some (rI y1, sL h 0 19 t1) := draw_c' (m := 10) K0 (by decide) (by decide) et e1 f1
  have S1 := st_sg S (sg_sL h 0 19 t1)
  have C1 := cst_sL C 0 19 t1
  have z1 : hI (sL h 0 19 t1) 0 18 = z0 := ez
  have O1 : OnlyL h (sL h 0 19 t1) [8, 9, 10, 11, 99, 100] := onlyL_sL _ _ _
  have l1 : hL (sL h 0 19 t1) 0 19 = t1 := hL_at _ _ _ _
  generalize sL h 0 19 t1 = g1 at *
  have K1 := (sfa S1).1
  by_cases c : z0 ≤ y1
  · have d2 : FX11_draw [vR (some 0), vI 2] g1 = some (rI y2, sL g1 0 19 t2) := draw_c' (m := 2) K1 (by decide) (by decide) l1 e2 f2
    have S2 := st_sg S1 (sg_sL g1 0 19 t2)
    have C2 := cst_sL C1 0 19 t2
    have O2 : OnlyL h (sL g1 0 19 t2) [8, 9, 10, 11, 99, 100] := O1.trans (onlyL_sL _ _ _)
    have l2 : hL (sL g1 0 19 t2) 0 19 = t2 := hL_at _ _ _ _
    generalize sL g1 0 19 t2 = g2 at *
    have K2 := (sfa S2).1
    by_cases c0 : y2 = 0
    · by_cases cw : canW v 1 (TK lw r (v 0) (v 2) (v 10) (v 9) (v 4))
      · obtain ⟨h3, e3, O3, S3, C3⟩ := (day_s S2 C2 B (dd := 1) (by decide)).1 cw
        have e3' : FX11_liveWeek [vR (some 0), vI 1] g2 = some (rI 1, h3) := e3
        refine ⟨1, h3, t2, Or.inr ⟨c, rfl, Or.inl ⟨c0, cw, rfl⟩⟩, by decide, cw, ?_, O2.trans O3.toL, by rw [O3.L]; exact l2, S3, C3⟩
        rw [tX11_liveDrawnWeek]; simp only [oB_some, dR_some, cond_true, cond_false, if_true, if_false, Bool.true_and, Bool.and_true, Nat.beq_refl, K0, d1, K1, z1, c, d2, c0, K2, e3', ne10]
      · obtain ⟨h3, e3, O3, S3, C3⟩ := (day_s S2 C2 B (dd := 1) (by decide)).2 cw
        have e3' : FX11_liveWeek [vR (some 0), vI 1] g2 = some (rI 0, h3) := e3
        obtain ⟨h4, e4, O4, S4, C4⟩ := (day_s S3 C3 B (dd := 2) (by decide)).1 (can0 (Or.inr rfl))
        have e4' : FX11_liveWeek [vR (some 0), vI 2] h3 = some (rI 1, h4) := e4
        refine ⟨2, h4, t2, Or.inr ⟨c, rfl, Or.inr (Or.inl ⟨c0, cw, rfl⟩)⟩, by decide, can0 (Or.inr rfl), ?_, O2.trans (O3.trans O4).toL, by rw [O4.L, O3.L]; exact l2, S4, C4⟩
        rw [tX11_liveDrawnWeek]; simp only [oB_some, dR_some, cond_true, cond_false, if_true, if_false, Bool.true_and, Bool.and_true, Nat.beq_refl, K0, d1, K1, z1, c, d2, c0, K2, e3', (sfa S3).1, e4']
    · obtain ⟨h4, e4, O4, S4, C4⟩ := (day_s S2 C2 B (dd := 2) (by decide)).1 (can0 (Or.inr rfl))
      have e4' : FX11_liveWeek [vR (some 0), vI 2] g2 = some (rI 1, h4) := e4
      refine ⟨2, h4, t2, Or.inr ⟨c, rfl, Or.inr (Or.inr ⟨c0, rfl⟩)⟩, by decide, can0 (Or.inr rfl), ?_, O2.trans O4.toL, by rw [O4.L]; exact l2, S4, C4⟩
      rw [tX11_liveDrawnWeek]; simp only [oB_some, dR_some, cond_true, cond_false, if_true, if_false, Bool.true_and, Bool.and_true, Nat.beq_refl, K0, d1, K1, z1, c, d2, c0, K2, e4']
  · obtain ⟨h4, e4, O4, S4, C4⟩ := (day_s S1 C1 B (dd := 0) (by decide)).1 (can0 (Or.inl rfl))
    have e4' : FX11_liveWeek [vR (some 0), vI 0] g1 = some (rI 1, h4) := e4
    refine ⟨0, h4, t1, Or.inl ⟨c, rfl, rfl⟩, by decide, can0 (Or.inl rfl), ?_, O1.trans O4.toL, by rw [O4.L]; exact l1, S4, C4⟩
    rw [tX11_liveDrawnWeek]; simp only [oB_some, dR_some, cond_true, cond_false, if_true, if_false, Bool.true_and, Bool.and_true, Nat.beq_refl, K0, d1, K1, z1, c, e4']
/-- a piece sold, if it can be -/
def sldR (b : Nat → Nat) (bc : Nat) (v u w : Nat → Nat) (y : Int32) (v' u' w' : Nat → Nat) : Prop :=
  (∃ i, y = nI i ∧ sellOK b v u bc i 0 ∧ v' = sellV b v i 0 ∧ u' = up1 u i (u i + 1) ∧ w' = sellVm b w i 0) ∨
  ((∀ i, y = nI i → i < 2 ^ 31 → ¬ sellOK b v u bc i 0) ∧ v' = v ∧ u' = u ∧ w' = w)
theorem sld_c {h : Hp} {s : Nat} {r d b : Nat → Nat} {dc bc : Nat} {lw : Option ((Nat → Int32) × Nat)} {v u lg bk : Nat → Nat} {V U : Nat → Nat → Nat} {A x : Nat} (w : Nat → Nat) (S : STc h s r d b dc bc lw) (C : CST h v u lg bk V U A x) (B : BV v u) (y : Int32) : ∃ v' u' w' h', sldR b bc v u w y v' u' w' ∧ (∃ rr, FX10_sellPiece [vR (some 3), vR (some 10), vI y, vI 0] h = some (rI rr, h')) ∧ Only h h' [8, 9, 10, 11, 99, 100] ∧ STc h' s r d b dc bc lw ∧ CST h' v' u' lg bk V U A x := by
  obtain ⟨b0, b1, b2, b3, b4, b5, b7, b9, b10, b11, b12, bu⟩ := B
  have self : LN h 10 v u = h := LN_self C.1.1 C.1.2.1
  have op := sell_c (v := v) (u := u) S.2.2.2.1 S.1.2.2.2.1 (by omega) (by omega) (by omega) (fun k hk => by have := bu k hk; omega) y 0
  rw [self] at op
  rcases op with ⟨i, k, ye, ye2, PO, cut⟩ | ⟨NO, cut⟩
  · have k0 : k = 0 := by
      have p2 := PO.2.1
      rcases (show k = 0 ∨ k = 1 by omega) with e | e
      · exact e
      · rw [e] at ye2; exact absurd ye2 ne01
    subst k0
    have O9 := only_n (h := h) (sellV b v i 0) (up1 u i (u i + 1))
    exact ⟨_, _, sellVm b w i 0, _, Or.inl ⟨i, ye, PO, rfl, rfl, rfl⟩, ⟨_, cut⟩, O9, st_now S O9, cst_now C O9 (now_n C.1 _ _)⟩
  · exact ⟨v, u, w, h, Or.inr ⟨fun i e hb => NO i 0 e rfl hb (by decide), rfl, rfl, rfl⟩, ⟨_, cut⟩, Only.refl _ _, S, C⟩
theorem sld_pst {b v u w lg bk v' u' w' : Nat → Nat} {bc : Nat} {y : Int32} (R : sldR b bc v u w y v' u' w') (hb : bc ≤ 5) (h60 : ∀ k, b k ≤ 60) (B : BV v u) (M : MR v u w) (E : LB v w lg bk) : BV v' u' ∧ MR v' u' w' ∧ LB v' w' lg bk ∧ v' 10 = v 10 ∧ v' 11 = v 11 ∧ v' 9 = v 9 := by
  rcases R with ⟨i, _, PO, e1, e2, e3⟩ | ⟨_, e1, e2, e3⟩
  · subst e1 e2 e3
    have ex : ∀ k, k ≠ 4 → k ≠ 5 → sellV b v i 0 k = v k := fun k a c => by unfold sellV; rw [up1_o _ _ a, up1_o _ _ (by omega)]
    exact ⟨bv_sell B PO h60, mr_sell M (by have := PO.1; omega) (by omega), lb_sell E B.2.2.2.2.2.2.2.2.1 (by have := PO.1; omega) (by omega), ex 10 (by decide) (by decide), ex 11 (by decide) (by decide), ex 9 (by decide) (by decide)⟩
  · subst e1 e2 e3
    exact ⟨B, M, E, rfl, rfl, rfl⟩
