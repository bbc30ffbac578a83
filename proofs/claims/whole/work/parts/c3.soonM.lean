/-! ===== PURE: the soonest week, by the reference ===== -/
abbrev Rch : Type := Nat → Nat → Nat → Prop
noncomputable def tkS (lw : Option ((Nat → Int32) × Nat)) (r v : Nat → Nat) (wk d q m : Nat) : Nat := TK lw r d q (v 10 + m) wk (v 4)
def grS (r : Nat → Nat) (d : Nat) : Nat := mnN (d + r 2) (r 1)
def jS (v : Nat → Nat) : Nat := if v 3 = 0 then 1 else 0
/-- a week of rest, a week of weaving: down, doubt, more -/
def rsS (r : Nat → Nat) (d q m d' q' m' : Nat) : Prop := q - 1 < r 6 ∧ d' = grS r d ∧ q' = q - 1 ∧ m' = min 9 m
def wvS (lw : Option ((Nat → Int32) × Nat)) (r v : Nat → Nat) (wk d q m d' q' m' : Nat) : Prop := v 10 + m < 60 ∧ tkS lw r v wk d q m < d ∧ m < 9 ∧ q + jS v < r 6 ∧ d' = grS r (d - tkS lw r v wk d q m) ∧ q' = q + jS v ∧ m' = m + 1
def stS (lw : Option ((Nat → Int32) × Nat)) (r v : Nat → Nat) (wk d q m d' q' m' : Nat) : Prop := rsS r d q m d' q' m' ∨ wvS lw r v wk d q m d' q' m'
def nxS (lw : Option ((Nat → Int32) × Nat)) (r v : Nat → Nat) (wk : Nat) (S : Rch) : Rch := fun d' q' m' => ∃ d q m, S d q m ∧ stS lw r v wk d q m d' q' m'
def spN (d q m : Nat) : Nat := (d * 32 + q) * 10 + m
theorem sp_of {k : Nat} (h : k < 19520) : k / 320 < 61 ∧ k / 10 % 32 < 32 ∧ k % 10 < 10 ∧ spN (k / 320) (k / 10 % 32) (k % 10) = k := by
  unfold spN; exact ⟨by omega, by omega, by omega, by omega⟩
theorem sp_inj {d q m d' q' m' : Nat} (h1 : q < 32) (h2 : m < 10) (h3 : q' < 32) (h4 : m' < 10) (e : spN d q m = spN d' q' m') : d = d' ∧ q = q' ∧ m = m' := by
  unfold spN at e; exact ⟨by omega, by omega, by omega⟩
theorem sp_lt {d q m : Nat} (h0 : d < 61) (h1 : q < 32) (h2 : m < 10) : spN d q m < 19520 := by unfold spN; omega
def RB (h : Hp) (a : Nat) (Q : Nat → Prop) : Prop := ∀ j, j < 19520 → (Q j → hI h a j = 1) ∧ (¬ Q j → hI h a j = 0)
def M6 (h : Hp) : Prop := hK h 147 = 12 ∧ (hR h 147 41 = some 163 ∧ hK h 163 = 22 ∧ hE h 163 = 19520) ∧ (hR h 147 42 = some 164 ∧ hK h 164 = 22 ∧ hE h 164 = 19520)
theorem m6_mq {h h' : Hp} {l ks : List Nat} (P : M6 h) (Q : Mq h h' l ks) : M6 h' := by
  obtain ⟨_, _, a3, a4, _, a6, _, _⟩ := Q
  unfold M6; rw [a3, a4, a6 147 41 (Or.inr (by decide)), a6 147 42 (Or.inr (by decide))]; exact P
theorem spot_m {d q m : Nat} (h : Hp) : FX12_spot [vI (nI d), vI (nI q), vI (nI m)] h = some (rI (nI (spN d q m)), h) := by
  rw [tX12_spot, show (32 : Int32) = nI 32 from rfl, show (10 : Int32) = nI 10 from rfl, nI_mulN, nI_add, nI_mulN, nI_add]; rfl
theorem tkBy_m {h : Hp} {r d b : Nat → Nat} {dc bc : Nat} {lw : Option ((Nat → Int32) × Nat)} (M : MW h r d b dc bc) (Q : LWS h lw) (x1 x2 x3 x4 x5 : Nat) : ∃ h', FX12_takesBy [vR (some 147), vI (nI x1), vI (nI x2), vI (nI x3), vI (nI x4), vI (nI x5)] h = some (rI (nI (TK lw r x1 x2 x3 x4 x5)), h') ∧ Mo h h' := by
  cases lw with
  | none => exact ⟨h, takesBy_0 M Q.2, Mo.refl _⟩
  | some p =>
    obtain ⟨c, N⟩ := p
    obtain ⟨l, cd, li, n, t, q1, q2, q3, q4, q5, q6⟩ := Q
    obtain ⟨fv, h', e, mo, O⟩ := takesBy_l (x1 := x1) (x2 := x2) (x3 := x3) (x4 := x4) (x5 := x5) M q5 q6
    have eq : fv = lawV c (LT x1 (r 3) x2 x3 x4 x5) N := wo_unique q2 q3 (by omega) O (lawV_sp O)
    refine ⟨h', ?_, mo⟩
    rw [e, eq]; rfl
theorem grS_le {r : Nat → Nat} {d : Nat} (h : r 1 ≤ 60) : grS r d ≤ 60 := by unfold grS mnN; split <;> omega
theorem mq_row (h : Hp) {a : Nat} (k : Nat) (x : Int32) {l : List Nat} (ks : List Nat) (ha : a ∈ l) (h1 : a ≠ 147) : Mq h (sI h a k x) l ks :=
  ⟨rfl, rfl, rfl, rfl, rfl, fun _ _ _ => rfl, fun b _ _ c => hI_row _ _ _ _ (fun e => c (e ▸ ha)), fun j _ _ => by rw [hI_row _ _ _ _ (Ne.symm h1)]⟩
theorem reaches_m {h : Hp} {s : Nat} {r d b : Nat → Nat} {dc bc : Nat} {lw : Option ((Nat → Int32) × Nat)} {v u w lg bk z : Nat → Nat} {A x : Nat} (I : AINV h s r d b dc bc lw v u w lg bk z A x) (F : M6 h) {d1 q1 m1 : Nat} (hd : d1 ≤ 60) (hq : q1 < 100) (hm : m1 ≤ 20) : ∃ h', FX12_reaches [vR (some 147), vI (nI d1), vI (nI q1), vI (nI m1)] h = some (rV, h') ∧ Mq h h' [164] [] ∧ ∀ Q, RB h 164 Q → RB h' 164 (fun j => Q j ∨ (q1 < r 6 ∧ j = spN (grS r d1) q1 (min 9 m1))) := by
  obtain ⟨M147, R18, K152, E152, R20, K154, E154, R22, K156, E156, R32, K160, E160, dcM, bcM, Ew⟩ := mfa I
  have Hb := I.2.1.2.2.2.2.2.1
  have r1 : r 1 ≤ 60 := Hb.2.2.1
  have r2 : r 2 ≤ 9 := Hb.2.2.2.1
  have r6 : r 6 ≤ 20 := Hb.2.2.2.2.2.2.2.2.2.1
  obtain ⟨g1, ⟨g2, g3, g4⟩, g5, g6, g7⟩ := F
  have er : ∀ k, k < 7 → hI h 152 k = nI (r k) := I.2.1.2.2.2.1.2.2.2.2.2.2.1
  by_cases c : q1 < r 6
  · have n6 : ¬ nI (r 6) ≤ nI q1 := by rw [nI_nle' (by omega) (by omega)]; omega
    have eg : (if nI (d1 + r 2) < nI (r 1) then nI (d1 + r 2) else nI (r 1)) = nI (grS r d1) := by
      have ql : (nI (d1 + r 2) < nI (r 1)) = (d1 + r 2 < r 1) := nI_nlt' (by omega) (by omega)
      unfold grS mnN
      by_cases e : d1 + r 2 < r 1
      · rw [if_pos (by rw [ql]; exact e), if_pos e]
      · rw [if_neg (by rw [ql]; exact e), if_neg e]
    have e9 : (if nI m1 < 9 then nI m1 else 9) = nI (min 9 m1) := by
      have ql : (nI m1 < 9) = (m1 < 9) := by rw [show (9 : Int32) = nI 9 from rfl, nI_nlt' (by omega) (by omega)]
      by_cases e : m1 < 9
      · rw [if_pos (by rw [ql]; exact e), Nat.min_eq_right (by omega)]
      · rw [if_neg (by rw [ql]; exact e), Nat.min_eq_left (by omega)]; rfl
    have gl := grS_le (d := d1) r1
    have sl := sp_lt (d := grS r d1) (q := q1) (m := min 9 m1) (by omega) (show q1 < 32 by omega) (by omega)
    refine ⟨sI h 164 (spN (grS r d1) q1 (min 9 m1)) 1, ?_, mq_row _ _ _ _ (by simp) (by decide), fun Q R j hj => ?_⟩
    · rw [tX12_reaches]
      simp only [oB_some, dR_some, cond_true, cond_false, if_true, if_false, Bool.true_and, Bool.and_true, Nat.beq_refl, M147, R18, K152, E152, iaK20, show inb 6 7 = true from by decide, show inb 1 7 = true from by decide, show inb 2 7 = true from by decide, show (6 : Int32).toNatClampNeg = 6 from by decide, show (1 : Int32).toNatClampNeg = 1 from by decide, show (2 : Int32).toNatClampNeg = 2 from by decide, er 6 (by omega), er 1 (by omega), er 2 (by omega), n6, nI_add, eg, e9, spot_m, g5, g6, g7, inb_nI sl (by omega), nI_clamp (show spN (grS r d1) q1 (min 9 m1) < 2 ^ 31 by omega)]
      rfl
    · by_cases e : j = spN (grS r d1) q1 (min 9 m1)
      · subst e
        exact ⟨fun _ => hI_same _ _ _ _, fun z => absurd (Or.inr ⟨c, rfl⟩) z⟩
      · rw [hI_slot _ _ _ _ e]
        refine ⟨fun z => (R j hj).1 ?_, fun z => (R j hj).2 (fun y => z (Or.inl y))⟩
        rcases z with z | z
        · exact z
        · exact absurd z.2 e
  · have n6 : nI (r 6) ≤ nI q1 := by rw [nI_nle' (by omega) (by omega)]; omega
    refine ⟨h, ?_, mq_refl _ _ _, fun Q R j hj => ?_⟩
    · rw [tX12_reaches]
      simp only [oB_some, dR_some, cond_true, cond_false, if_true, if_false, Bool.true_and, Bool.and_true, Nat.beq_refl, M147, R18, K152, E152, iaK20, show inb 6 7 = true from by decide, show (6 : Int32).toNatClampNeg = 6 from by decide, er 6 (by omega), n6]
    · refine ⟨fun z => (R j hj).1 ?_, fun z => (R j hj).2 (fun y => z (Or.inl y))⟩
      rcases z with z | z
      · exact z
      · exact absurd z.1 c
theorem ainv_164 {h : Hp} {s : Nat} {r d b : Nat → Nat} {dc bc : Nat} {lw : Option ((Nat → Int32) × Nat)} {v u w lg bk z : Nat → Nat} {A x : Nat} (I : AINV h s r d b dc bc lw v u w lg bk z A x) {h' : Hp} (Q : Mq h h' [163, 164] []) : AINV h' s r d b dc bc lw v u w lg bk z A x := ainv_ag I (ag_mq Q (fun a ha => by simp at ha; unfold frM; omega) (by simp))
theorem RB_cg {h : Hp} {a : Nat} {P Q : Nat → Prop} (R : RB h a P) (e : ∀ j, j < 19520 → (P j ↔ Q j)) : RB h a Q := fun j hj => ⟨fun z => (R j hj).1 ((e j hj).mpr z), fun z => (R j hj).2 (fun y => z ((e j hj).mp y))⟩
theorem RB_row {h h' : Hp} {a : Nat} {P : Nat → Prop} (R : RB h a P) (e : hI h' a = hI h a) : RB h' a P := fun j hj => by rw [e]; exact R j hj
theorem goSoon_m {h : Hp} {s : Nat} {r d b : Nat → Nat} {dc bc : Nat} {lw : Option ((Nat → Int32) × Nat)} {v u w lg bk z : Nat → Nat} {A x : Nat} (I : AINV h s r d b dc bc lw v u w lg bk z A x) (F : M6 h) {d1 q1 m1 wk : Nat} (hd : d1 ≤ 60) (hq : q1 < 32) (hm : m1 < 10) : ∃ h', FX12_goSoon [vR (some 147), vI (nI d1), vI (nI q1), vI (nI m1), vI (nI wk)] h = some (rV, h') ∧ Mq h h' [164] [] ∧ ∀ Q, RB h 164 Q → RB h' 164 (fun j => Q j ∨ ∃ d' q' m', stS lw r v wk d1 q1 m1 d' q' m' ∧ j = spN d' q' m') := by
  have k4 := I.2.2.1.2.2.2.1
  have Bv := I.2.2.1.2.1
  have v10 : v 10 ≤ 60 := Bv.2.2.2.2.2.2.2.2.1
  have M0 := (mfa I).1
  have Hb := I.2.1.2.2.2.2.2.1
  have r6 : r 6 ≤ 20 := Hb.2.2.2.2.2.2.2.2.2.1
  have em : (if (0 : Int32) < nI q1 - 1 then nI q1 - 1 else 0) = nI (q1 - 1) := by
    have := mx0 (a := q1) (b := 1) (by omega) (by omega); exact this
  obtain ⟨h1, e1, Q1, s1⟩ := reaches_m I F hd (show q1 - 1 < 100 by omega) (show m1 ≤ 20 by omega)
  have I1 := ainv_164 I (Q1.mono (by simp) (by simp))
  obtain ⟨M147, R18, K152, E152, R20, K154, E154, R22, K156, E156, R32, K160, E160, dcM, bcM, Ew⟩ := mfa I1
  by_cases c1 : v 10 + m1 < 60
  · have q60 : nI (v 10 + m1) < 60 := by rw [show (60 : Int32) = nI 60 from rfl, nI_nlt' (by omega) (by omega)]; exact c1
    obtain ⟨h2, e2, mo⟩ := tkBy_m I1.2.1.2.2.2.1 I1.2.1.2.2.2.2.2.2 d1 q1 (v 10 + m1) wk (v 4)
    have Q2 : Mq h1 h2 [164] [] := mo.mq _ _
    have I2 := ainv_164 I1 (Q2.mono (by simp) (by simp))
    obtain ⟨M147', R18', K152', E152', R20', K154', E154', R22', K156', E156', R32', K160', E160', dcM', bcM', Ew'⟩ := mfa I2
    have t60 : tkS lw r v wk d1 q1 m1 ≤ 60 := TK_le (lw := lw) (r := r) (by have := Hb.2.2.2.2.2.1; omega) _ _ _ _ _
    have e2' : FX12_takesBy [vR (some 147), vI (nI d1), vI (nI q1), vI (nI (v 10 + m1)), vI (nI wk), vI (nI (v 4))] h1 = some (rI (nI (tkS lw r v wk d1 q1 m1)), h2) := e2
    have w4 : w 4 = v 4 := k4.1 4 (by omega)
    have w3 : w 3 = v 3 := k4.1 3 (by omega)
    have w19 : w 19 = v 10 := k4.2.2.2.2
    by_cases c2 : tkS lw r v wk d1 q1 m1 < d1 ∧ m1 < 9
    · have n1 : ¬ nI d1 ≤ nI (tkS lw r v wk d1 q1 m1) := by rw [nI_nle' (by omega) (by omega)]; omega
      have n2 : ¬ (9 : Int32) ≤ nI m1 := by rw [show (9 : Int32) = nI 9 from rfl, nI_nle' (by omega) (by omega)]; omega
      have fin : ∀ jj, jj ≤ 1 → q1 + jj = q1 + jS v → ∃ h', oB (FX12_reaches [vR (some 147), vI (nI (d1 - tkS lw r v wk d1 q1 m1)), vI (nI (q1 + jj)), vI (nI (m1 + 1))] h2) (fun _ h9 => some (rV, h9)) = some (rV, h') ∧ Mq h h' [164] [] ∧ ∀ Q, RB h 164 Q → RB h' 164 (fun j => Q j ∨ ∃ d' q' m', stS lw r v wk d1 q1 m1 d' q' m' ∧ j = spN d' q' m') := by
        intro jj hj ej
        by_cases c3 : q1 + jj < 100
        · obtain ⟨h3, e3, Q3, s3⟩ := reaches_m I2 (m6_mq (m6_mq F Q1) Q2) (d1 := d1 - tkS lw r v wk d1 q1 m1) (q1 := q1 + jj) (m1 := m1 + 1) (by omega) c3 (by omega)
          refine ⟨h3, by rw [e3]; rfl, (Q1.trans Q2).trans Q3, fun Q R => ?_⟩
          refine RB_cg (s3 _ (RB_row (s1 Q R) (mo.2.2.2.2.2.2.1 164 (by decide) (by decide)))) (fun j hj => ⟨?_, ?_⟩)
          · rintro ((z | z) | z)
            · exact Or.inl z
            · exact Or.inr ⟨_, _, _, Or.inl ⟨z.1, rfl, rfl, rfl⟩, z.2⟩
            · refine Or.inr ⟨_, _, _, Or.inr ⟨c1, c2.1, c2.2, by omega, rfl, rfl, rfl⟩, ?_⟩
              rw [z.2, ej, Nat.min_eq_right (by omega)]
          · rintro (z | ⟨d', q', m', z | z, y⟩)
            · exact Or.inl (Or.inl z)
            · obtain ⟨z1, rfl, rfl, rfl⟩ := z
              exact Or.inl (Or.inr ⟨z1, y⟩)
            · obtain ⟨_, _, _, z4, rfl, rfl, rfl⟩ := z
              refine Or.inr ⟨by omega, ?_⟩
              rw [y, ej, Nat.min_eq_right (by omega)]
        · omega
      by_cases c4 : v 3 = 0
      · obtain ⟨h', f1, f2⟩ := fin 1 (by omega) (by unfold jS; rw [if_pos c4])
        refine ⟨h', ?_, f2⟩
        rw [tX12_goSoon, em]
        simp only [oB_some, dR_some, cond_true, cond_false, if_true, if_false, Bool.true_and, Bool.and_true, Nat.beq_refl, M0, e1, M147, R32, K160, E160, iaK20, show inb 19 381 = true from by decide, show (19 : Int32).toNatClampNeg = 19 from by decide, Ew, w19, nI_add, q60, show inb 4 381 = true from by decide, show (4 : Int32).toNatClampNeg = 4 from by decide, w4, e2', n1, n2, M147', R32', K160', E160', show inb 3 381 = true from by decide, show (3 : Int32).toNatClampNeg = 3 from by decide, Ew', w3, c4, nI_0, nI_subL (Nat.le_of_lt c2.1), nI_1]
        exact f1
      · obtain ⟨h', f1, f2⟩ := fin 0 (by omega) (by unfold jS; rw [if_neg c4])
        refine ⟨h', ?_, f2⟩
        have n3 : ¬ nI (v 3) = 0 := nI_nz (by omega) (by have := Bv.2.2.2.1; omega)
        rw [tX12_goSoon, em]
        simp only [oB_some, dR_some, cond_true, cond_false, if_true, if_false, Bool.true_and, Bool.and_true, Nat.beq_refl, M0, e1, M147, R32, K160, E160, iaK20, show inb 19 381 = true from by decide, show (19 : Int32).toNatClampNeg = 19 from by decide, Ew, w19, nI_add, q60, show inb 4 381 = true from by decide, show (4 : Int32).toNatClampNeg = 4 from by decide, w4, e2', n1, n2, M147', R32', K160', E160', show inb 3 381 = true from by decide, show (3 : Int32).toNatClampNeg = 3 from by decide, Ew', w3, n3, nI_subL (Nat.le_of_lt c2.1), nI_1]
        exact f1
    · refine ⟨h2, ?_, Q1.trans Q2, fun Q R => ?_⟩
      · rw [tX12_goSoon, em]
        by_cases c5 : tkS lw r v wk d1 q1 m1 < d1
        · have n1 : ¬ nI d1 ≤ nI (tkS lw r v wk d1 q1 m1) := by rw [nI_nle' (by omega) (by omega)]; omega
          have n2 : (9 : Int32) ≤ nI m1 := by rw [show (9 : Int32) = nI 9 from rfl, nI_nle' (by omega) (by omega)]; omega
          simp only [oB_some, dR_some, cond_true, cond_false, if_true, if_false, Bool.true_and, Bool.and_true, Nat.beq_refl, M0, e1, M147, R32, K160, E160, iaK20, show inb 19 381 = true from by decide, show (19 : Int32).toNatClampNeg = 19 from by decide, Ew, w19, nI_add, q60, show inb 4 381 = true from by decide, show (4 : Int32).toNatClampNeg = 4 from by decide, w4, e2', n1, n2]
        · have n1 : nI d1 ≤ nI (tkS lw r v wk d1 q1 m1) := by rw [nI_nle' (by omega) (by omega)]; omega
          simp only [oB_some, dR_some, cond_true, cond_false, if_true, if_false, Bool.true_and, Bool.and_true, Nat.beq_refl, M0, e1, M147, R32, K160, E160, iaK20, show inb 19 381 = true from by decide, show (19 : Int32).toNatClampNeg = 19 from by decide, Ew, w19, nI_add, q60, show inb 4 381 = true from by decide, show (4 : Int32).toNatClampNeg = 4 from by decide, w4, e2', n1]
      · refine RB_cg (RB_row (s1 Q R) (mo.2.2.2.2.2.2.1 164 (by decide) (by decide))) (fun j hj => ⟨?_, ?_⟩)
        · rintro (z | z)
          · exact Or.inl z
          · exact Or.inr ⟨_, _, _, Or.inl ⟨z.1, rfl, rfl, rfl⟩, z.2⟩
        · rintro (z | ⟨d', q', m', z | z, y⟩)
          · exact Or.inl z
          · obtain ⟨z1, rfl, rfl, rfl⟩ := z
            exact Or.inr ⟨z1, y⟩
          · exact absurd ⟨z.2.1, z.2.2.1⟩ c2
  · have w19 : w 19 = v 10 := k4.2.2.2.2
    have q60 : ¬ nI (v 10 + m1) < 60 := by rw [show (60 : Int32) = nI 60 from rfl, nI_nlt' (by omega) (by omega)]; exact c1
    refine ⟨h1, ?_, Q1, fun Q R => RB_cg (s1 Q R) (fun j hj => ⟨?_, ?_⟩)⟩
    · rw [tX12_goSoon, em]
      simp only [oB_some, dR_some, cond_true, cond_false, if_true, if_false, Bool.true_and, Bool.and_true, Nat.beq_refl, M0, e1, M147, R32, K160, E160, iaK20, show inb 19 381 = true from by decide, show (19 : Int32).toNatClampNeg = 19 from by decide, Ew, w19, nI_add, q60]
    · rintro (z | z)
      · exact Or.inl z
      · exact Or.inr ⟨_, _, _, Or.inl ⟨z.1, rfl, rfl, rfl⟩, z.2⟩
    · rintro (z | ⟨d', q', m', z | z, y⟩)
      · exact Or.inl z
      · obtain ⟨z1, rfl, rfl, rfl⟩ := z
        exact Or.inr ⟨z1, y⟩
      · exact absurd z.1 c1
