/-! ===== PURE: a week lived in the class: life, book and log ===== -/
theorem LN_self {h : Hp} {a : Nat} {v u : Nat → Nat} (h1 : hI h a = nR v) (h2 : hI h (a + 1) = nR u) : LN h a v u = h := by
  unfold LN
  rw [← h1, wA_self, ← h2, wA_self]
theorem DN_self {h : Hp} {g : Nat} {lg bk : Nat → Nat} (h1 : hI h (g + 1) = nR lg) (h2 : hI h (g + 2) = nR bk) : DN h g lg bk = h := by
  unfold DN
  rw [← h1, wA_self, ← h2, wA_self]
theorem RN_self {h : Hp} {o : Nat} {w : Nat → Nat} (h1 : hI h o = nR w) : RN h o w = h := by
  unfold RN
  rw [← h1, wA_self]
theorem LN_ra (h : Hp) (a : Nat) (v u : Nat → Nat) : hI (LN h a v u) a = nR v := funext fun k => LN_a h a v u k
theorem LN_rs (h : Hp) (a : Nat) (v u : Nat → Nat) : hI (LN h a v u) (a + 1) = nR u := funext fun k => LN_s h a v u k
theorem DN_rl (h : Hp) (g : Nat) (lg bk : Nat → Nat) : hI (DN h g lg bk) (g + 1) = nR lg := funext fun k => DN_l h g lg bk k
theorem DN_rb (h : Hp) (g : Nat) (lg bk : Nat → Nat) : hI (DN h g lg bk) (g + 2) = nR bk := funext fun k => DN_b h g lg bk k
theorem hI_upr (h : Hp) (a k : Nat) (x : Int32) : hI (sI h a k x) a = up1 (hI h a) k x := by rw [sI_wA, wA_I]
theorem only_LN (h : Hp) {a : Nat} (v u : Nat → Nat) {l : List Nat} (h1 : a ∈ l) (h2 : a + 1 ∈ l) : Only h (LN h a v u) l := (only_wA h _ h1).trans (only_wA _ _ h2)
theorem only_DN (h : Hp) {g : Nat} (lg bk : Nat → Nat) {l : List Nat} (h1 : g + 1 ∈ l) (h2 : g + 2 ∈ l) : Only h (DN h g lg bk) l := (only_wA h _ h1).trans (only_wA _ _ h2)
theorem wh_fr {h h' : Hp} {s : Nat} {r d b : Nat → Nat} {dc bc : Nat} {l : List Nat} (W : WH h s r d b dc bc) (O : Only h h' l) (n0 : s ∉ l) (n1 : s + 1 ∉ l) (n2 : s + 2 ∉ l) (n3 : s + 3 ∉ l) : WH h' s r d b dc bc := by
  obtain ⟨w1, w2, w3, w4, w5, w6, w7, w8⟩ := W
  refine ⟨by rw [O.K, O.R]; exact w1, ?_, w3, by rw [O.I n0]; exact w4, by rw [O.I n1]; exact w5, by rw [O.I n2]; exact w6, by rw [O.I n3]; exact w7, w8⟩
  unfold HL
  rw [O.K, O.R, O.E]; exact w2
theorem mw_fr {h h' : Hp} {r d b : Nat → Nat} {dc bc : Nat} {l : List Nat} (W : MW h r d b dc bc) (O : Only h h' l) (n0 : 147 ∉ l) (n1 : 152 ∉ l) (n2 : 154 ∉ l) (n3 : 156 ∉ l) : MW h' r d b dc bc := by
  obtain ⟨w1, w2, w3, w4, w5, w6, w7, w8, w9, w10⟩ := W
  exact ⟨by rw [O.K]; exact w1, by rw [O.K, O.R, O.E]; exact w2, by rw [O.K, O.R, O.E]; exact w3, by rw [O.K, O.R, O.E]; exact w4, w5, by rw [O.I n0]; exact w6, by rw [O.I n1]; exact w7, by rw [O.I n2]; exact w8, by rw [O.I n3]; exact w9, w10⟩
theorem ll_fr {h h' : Hp} {a s : Nat} {l : List Nat} (L : LL h a s) (O : Only h h' l) : LL h' a s := by
  unfold LL
  rw [O.K, O.R, O.E]; exact L
theorem dp_fr {h h' : Hp} {g : Nat} {l : List Nat} (L : DP h g) (O : Only h h' l) : DP h' g := by
  unfold DP
  rw [O.K, O.R, O.E]; exact L
/-- the class's own face -/
def CF (h : Hp) : Prop := hK h 0 = 11 ∧ hR h 0 1 = some 3 ∧ hR h 0 2 = some 10 ∧ hR h 0 4 = some 14 ∧ hR h 0 5 = some 98 ∧ hR h 3 2 = some 8 ∧ hR h 3 3 = some 9
theorem cf_fr {h h' : Hp} {l : List Nat} (L : CF h) (O : Only h h' l) : CF h' := by
  unfold CF
  rw [O.K, O.R]; exact L
/-- the life that is now, with log and book -/
def NowC (h : Hp) (v u lg bk : Nat → Nat) : Prop := hI h 10 = nR v ∧ hI h 11 = nR u ∧ hI h 99 = nR lg ∧ hI h 100 = nR bk
/-- the life behind a week -/
noncomputable def dayV (lw : Option ((Nat → Int32) × Nat)) (r v : Nat → Nat) (dd : Nat) : Nat → Nat := wkE (if dd = 1 then bolt v (TK lw r (v 0) (v 2) (v 10) (v 9) (v 4)) else deedV v r dd) r dd
theorem wkE_o {v r : Nat → Nat} {dd k : Nat} (h0 : k ≠ 0) (h1 : k ≠ 1) (h9 : k ≠ 9) : wkE v r dd k = v k := by
  unfold wkE
  rw [up1_o _ _ h9, growV_o h0 h1]
theorem day_11 (lw : Option ((Nat → Int32) × Nat)) (r v : Nat → Nat) (dd : Nat) : dayV lw r v dd 11 = v 11 := by
  unfold dayV
  rw [wkE_o (by decide) (by decide) (by decide)]
  by_cases c : dd = 1
  · rw [if_pos c, bolt_o (by decide) (by decide) (by decide) (by decide) (by decide)]
  · rw [if_neg c]
    unfold deedV
    by_cases c2 : dd = 2
    · rw [if_pos c2, up1_o _ _ (by decide)]
    · by_cases c0 : dd = 0
      · rw [if_neg c2, if_pos c0, up1_o _ _ (by decide)]
      · rw [if_neg c2, if_neg c0]
theorem day_c {h : Hp} {s dd : Nat} {r d b v u lg bk : Nat → Nat} {dc bc : Nat} {lw : Option ((Nat → Int32) × Nat)} (F : CF h) (W : WH h s r d b dc bc) (M : MW h r d b dc bc) (hs : s = 4 ∨ s = 131) (L : LL h 10 s) (D : DP h 98) (Q : LWS h lw) (N : NowC h v u lg bk) (hd : dd ≤ 3) (hv : ∀ k, k ≤ 12 → k ≠ 8 → v k < 2 ^ 29) (h10 : v 10 ≤ 60) (h11 : v 11 < 1200) :
    (canW v dd (TK lw r (v 0) (v 2) (v 10) (v 9) (v 4)) → ∃ h', FX11_liveWeek [vR (some 0), vI (nI dd)] h = some (rI 1, h') ∧ Only h h' [8, 9, 10, 11, 99, 100] ∧ NowC h' (up1 (dayV lw r v dd) 11 (v 11 + 1)) u (p3N lg (3 * (v 11 % 100)) dd (dayV lw r v dd 4) (dayV lw r v dd 0)) (if dd = 1 then p3N bk (3 * v 10) (v 9) (v 0) (TK lw r (v 0) (v 2) (v 10) (v 9) (v 4)) else bk)) ∧
    (¬ canW v dd (TK lw r (v 0) (v 2) (v 10) (v 9) (v 4)) → ∃ h', FX11_liveWeek [vR (some 0), vI (nI dd)] h = some (rI 0, h') ∧ Only h h' [8, 9]) := by
  obtain ⟨F1, F2, F3, F4, F5, F6, F7⟩ := F
  obtain ⟨N1, N2, N3, N4⟩ := N
  have w1 := W.1.1
  have L1 := L.1
  have D1 := D.1
  have hr3 := W.2.2.2.2.2.2.2.1 3
  have ht := TK_le (lw := lw) hr3 (v 0) (v 2) (v 10) (v 9) (v 4)
  have self : LN h 10 v u = h := LN_self N1 N2
  have v9 : hI h 10 9 = nI (v 9) := by rw [N1]; rfl
  have v0 : hI h 10 0 = nI (v 0) := by rw [N1]; rfl
  -- behind the week and, if a bolt was woven, the book
  have tail : ∀ (h5 : Hp) (V : Nat → Nat) (bk' : Nat → Nat), Only h h5 [8, 9, 10, 11, 99, 100] → NowC h5 V u lg bk' → V 11 = v 11 →
      FX3_putWeek [vR (some 98), vI (hI h5 10 11), vI (nI dd), vI (hI h5 10 4), vI (hI h5 10 0)] h5 = some (rV, DN h5 98 (p3N lg (3 * (v 11 % 100)) dd (V 4) (V 0)) bk') ∧ hI (DN h5 98 (p3N lg (3 * (v 11 % 100)) dd (V 4) (V 0)) bk') 10 11 = nI (v 11) ∧ Only h (sI (DN h5 98 (p3N lg (3 * (v 11 % 100)) dd (V 4) (V 0)) bk') 10 11 (nI (v 11 + 1))) [8, 9, 10, 11, 99, 100] ∧ NowC (sI (DN h5 98 (p3N lg (3 * (v 11 % 100)) dd (V 4) (V 0)) bk') 10 11 (nI (v 11 + 1))) (up1 V 11 (v 11 + 1)) u (p3N lg (3 * (v 11 % 100)) dd (V 4) (V 0)) bk' := by
    intro h5 V bk' O P e
    obtain ⟨P1, P2, P3, P4⟩ := P
    have dself : DN h5 98 lg bk' = h5 := DN_self P3 P4
    have pw := putWeek_c (n := v 11) (x := dd) (y := V 4) (z := V 0) (lg := lg) (bk := bk') (dp_fr D O) h11
    rw [dself] at pw
    have q11 : hI h5 10 11 = nI (v 11) := by rw [P1, ← e]; rfl
    have q4 : hI h5 10 4 = nI (V 4) := by rw [P1]; rfl
    have q0 : hI h5 10 0 = nI (V 0) := by rw [P1]; rfl
    refine ⟨by rw [q11, q4, q0]; exact pw, ?_, ?_, ?_, ?_, ?_, ?_⟩
    · rw [DN_o _ _ _ (by decide) (by decide)]; exact q11
    · exact O.trans ((only_DN h5 _ _ (by simp) (by simp)).trans (only_sI _ _ _ (by simp)))
    · rw [hI_upr, DN_o _ _ _ (by decide) (by decide), P1, nR_up]
    · rw [hI_row _ _ _ _ (by decide), DN_o _ _ _ (by decide) (by decide)]; exact P2
    · rw [hI_row _ _ _ _ (by decide)]; exact DN_rl _ 98 _ _
    · rw [hI_row _ _ _ _ (by decide)]; exact DN_rb _ 98 _ _
  by_cases c1 : dd = 1
  · subst c1
    obtain ⟨h2, T, O2⟩ := takes_c (v := v) (u := u) W M L (by omega) (by omega) F6 F7 Q
    have W2 := wh_fr W O2 (by simp; omega) (by simp; omega) (by simp; omega) (by simp; omega)
    have L2 := ll_fr L O2
    have O2' : Only h h2 [8, 9, 10, 11, 99, 100] := O2.mono (fun x hx => by simp at hx ⊢; omega)
    have pw := pass_w w1 W2 L2 hv ht T
    rw [self] at pw
    rw [tX11_liveWeek]
    refine ⟨fun C => ?_, fun C => ?_⟩
    · have p1 := pw.1 C
      have h10' : v 10 < 60 := (C.1 rfl).2.1
      have eV : dayV lw r v 1 = wkE (bolt v (TK lw r (v 0) (v 2) (v 10) (v 9) (v 4))) r 1 := by unfold dayV; rw [if_pos rfl]
      rw [← eV] at p1
      have V10 : dayV lw r v 1 10 = v 10 + 1 := by rw [eV, wkE_o (by decide) (by decide) (by decide), bolt_10]
      have V12 : dayV lw r v 1 12 = TK lw r (v 0) (v 2) (v 10) (v 9) (v 4) := by rw [eV, wkE_o (by decide) (by decide) (by decide), bolt_12]
      have O5 : Only h (LN h2 10 (dayV lw r v 1) u) [8, 9, 10, 11, 99, 100] := O2'.trans (only_LN _ _ _ (by simp) (by simp))
      have g99 : hI (LN h2 10 (dayV lw r v 1) u) 99 = nR lg := by rw [LN_o _ _ _ (by decide) (by decide), O2.I (by simp)]; exact N3
      have g100 : hI (LN h2 10 (dayV lw r v 1) u) 100 = nR bk := by rw [LN_o _ _ _ (by decide) (by decide), O2.I (by simp)]; exact N4
      have dself : DN (LN h2 10 (dayV lw r v 1) u) 98 lg bk = LN h2 10 (dayV lw r v 1) u := DN_self g99 g100
      have pb := putBolt_c (i := v 10) (x := v 9) (y := v 0) (z := TK lw r (v 0) (v 2) (v 10) (v 9) (v 4)) (lg := lg) (bk := bk) (dp_fr D O5) h10'
      rw [dself] at pb
      have s1 : nI (v 10 + 1) - 1 = nI (v 10) := nI_p1 _
      have O6 : Only h (DN (LN h2 10 (dayV lw r v 1) u) 98 lg (p3N bk (3 * v 10) (v 9) (v 0) (TK lw r (v 0) (v 2) (v 10) (v 9) (v 4)))) [8, 9, 10, 11, 99, 100] := O5.trans (only_DN _ _ _ (by simp) (by simp))
      have P6 : NowC (DN (LN h2 10 (dayV lw r v 1) u) 98 lg (p3N bk (3 * v 10) (v 9) (v 0) (TK lw r (v 0) (v 2) (v 10) (v 9) (v 4)))) (dayV lw r v 1) u lg (p3N bk (3 * v 10) (v 9) (v 0) (TK lw r (v 0) (v 2) (v 10) (v 9) (v 4))) := by
        refine ⟨?_, ?_, DN_rl _ 98 _ _, DN_rb _ 98 _ _⟩
        · rw [DN_o _ _ _ (by decide) (by decide)]; exact LN_ra _ _ _ _
        · rw [DN_o _ _ _ (by decide) (by decide)]; exact LN_rs _ 10 _ _
      obtain ⟨t1, t2, t3, t4⟩ := tail _ _ _ O6 P6 (day_11 lw r v 1)
      refine ⟨_, ?_, t3, ?_⟩
      · have k0 : hK h2 0 = 11 := by rw [O2.K]; exact F1
        have k10 : hK h2 10 = 4 := by rw [O2.K]; exact L1
        have k98 : hK h2 98 = 3 := by rw [O2.K]; exact D1
        have r2 : hR h2 0 2 = some 10 := by rw [O2.R]; exact F3
        have r5 : hR h2 0 5 = some 98 := by rw [O2.R]; exact F5
        rw [show nI 1 = 1 from rfl] at t1 ⊢
        simp only [oB_some, dR_some, cond_true, cond_false, if_true, if_false, Bool.true_and, Bool.and_true, Nat.beq_refl, hK_sI, F1, F2, F3, L1, w1, p1, show ¬ (1 : Int32) = 0 by decide, LN_K, LN_R, DN_K, DN_R, k0, k10, k98, r2, r5, LN_a, V10, s1, v9, v0, V12, pb, t1, t2, nI_1, isZ1]
      · rw [if_pos rfl]; exact t4
    · have p1 := pw.2 C
      rw [show nI 1 = 1 from rfl]
      refine ⟨h2, ?_, O2⟩
      have g10 : hI h2 10 = nR v := by rw [O2.I (by simp)]; exact N1
      have g11 : hI h2 11 = nR u := by rw [O2.I (by simp)]; exact N2
      rw [LN_self g10 g11] at p1
      simp only [oB_some, dR_some, cond_true, cond_false, if_true, if_false, Bool.true_and, Bool.and_true, Nat.beq_refl, F1, F2, F3, L1, w1, p1, isZ0]
  · have pc := pass_c (u := u) W L hd c1 hv
    rw [self] at pc
    have cc : canW v dd (TK lw r (v 0) (v 2) (v 10) (v 9) (v 4)) ↔ canW v dd 0 := by
      unfold canW
      constructor
      · intro z; exact ⟨fun e => absurd e c1, z.2⟩
      · intro z; exact ⟨fun e => absurd e c1, z.2⟩
    have n1 : ¬ nI dd = 1 := by rw [show (1 : Int32) = nI 1 from rfl, nI_neq' (by omega) (by omega)]; exact c1
    rw [tX11_liveWeek]
    refine ⟨fun C => ?_, fun C => ?_⟩
    · have p1 := pc.1 (cc.mp C)
      have eV : dayV lw r v dd = wkE (deedV v r dd) r dd := by unfold dayV; rw [if_neg c1]
      rw [← eV] at p1
      have O5 : Only h (LN h 10 (dayV lw r v dd) u) [8, 9, 10, 11, 99, 100] := only_LN _ _ _ (by simp) (by simp)
      have P5 : NowC (LN h 10 (dayV lw r v dd) u) (dayV lw r v dd) u lg bk := by
        refine ⟨LN_ra _ _ _ _, LN_rs _ 10 _ _, ?_, ?_⟩
        · rw [LN_o _ _ _ (by decide) (by decide)]; exact N3
        · rw [LN_o _ _ _ (by decide) (by decide)]; exact N4
      obtain ⟨t1, t2, t3, t4⟩ := tail _ _ _ O5 P5 (day_11 lw r v dd)
      refine ⟨_, ?_, t3, ?_⟩
      · rw [LN_a, LN_a, LN_a] at t1
        simp only [oB_some, dR_some, cond_true, cond_false, if_true, if_false, Bool.true_and, Bool.and_true, Nat.beq_refl, hK_sI, F1, F2, F3, F5, L1, D1, w1, p1, n1, show ¬ (1 : Int32) = 0 by decide, LN_K, LN_R, DN_K, DN_R, LN_a, t1, t2, nI_1, isZ1]
      · rw [if_neg c1]; exact t4
    · have p1 := pc.2 (fun z => C (cc.mpr z))
      refine ⟨h, ?_, Only.refl _ _⟩
      simp only [oB_some, dR_some, cond_true, cond_false, if_true, if_false, Bool.true_and, Bool.and_true, Nat.beq_refl, F1, F2, F3, L1, w1, p1, isZ0]
