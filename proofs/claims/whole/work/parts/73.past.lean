/-! ===== PURE: the class's past ===== -/
/-- a life in memory, slot by slot -/
def CLa (h : Hp) (a : Nat) (v u : Nat → Nat) : Prop := (∀ k, k ≤ 12 → k ≠ 8 → hI h a k = nI (v k)) ∧ (∀ k, k < 5 → hI h (a + 1) k = nI (u k))
theorem row_rep {f : Nat → Int32} {v : Nat → Nat} (e : ∀ k, k ≤ 12 → k ≠ 8 → f k = nI (v k)) : ∃ v1, f = nR v1 ∧ ∀ k, k ≤ 12 → k ≠ 8 → v1 k = v k := by
  obtain ⟨g, eg, _⟩ := nR_all f
  refine ⟨fun k => if k ≤ 12 ∧ k ≠ 8 then v k else g k, ?_, fun k h1 h2 => if_pos ⟨h1, h2⟩⟩
  funext k
  show f k = nI (if k ≤ 12 ∧ k ≠ 8 then v k else g k)
  by_cases c : k ≤ 12 ∧ k ≠ 8
  · rw [if_pos c]; exact e k c.1 c.2
  · rw [if_neg c, eg]; rfl
theorem row_rep5 {f : Nat → Int32} {u : Nat → Nat} (e : ∀ k, k < 5 → f k = nI (u k)) : ∃ u1, f = nR u1 ∧ ∀ k, k < 5 → u1 k = u k := by
  obtain ⟨g, eg, _⟩ := nR_all f
  refine ⟨fun k => if k < 5 then u k else g k, ?_, fun k h1 => if_pos h1⟩
  funext k
  show f k = nI (if k < 5 then u k else g k)
  by_cases c : k < 5
  · rw [if_pos c]; exact e k c
  · rw [if_neg c, eg]; rfl
theorem copy_g {h : Hp} {a a' : Nat} {v u : Nat → Nat} (A : LPl h a) (A' : LPl h a') (n1 : a ≠ a') (n2 : a ≠ a' + 1) (n3 : a + 1 ≠ a') (C : CLa h a v u) (h1 : v 1 ≤ 1) (h3 : v 3 ≤ 1) : ∃ h', FX4_copyFrom [vR (some a'), vR (some a)] h = some (rV, h') ∧ Only h h' [a', a' + 1] ∧ CLa h' a' v u := by
  obtain ⟨v1, e1, f1⟩ := row_rep C.1
  obtain ⟨u1, e2, f2⟩ := row_rep5 C.2
  obtain ⟨v2, e3, _⟩ := nR_all (hI h a')
  obtain ⟨u2, e4, _⟩ := nR_all (hI h (a' + 1))
  have s1 : LN h a v1 u1 = h := LN_self e1 e2
  have s2 : LN h a' v2 u2 = h := LN_self e3 e4
  have c := copy_c (v := v1) (u := u1) (v' := v2) (u' := u2) A A' n1 n2 n3 (by rw [f1 1 (by omega) (by omega)]; exact h1) (by rw [f1 3 (by omega) (by omega)]; exact h3)
  rw [s1, s2] at c
  refine ⟨_, c, only_LN _ _ _ (by simp) (by simp), fun k h1 h2 => ?_, fun k hk => ?_⟩
  · rw [LN_a, cpV_at _ _ h1 h2, f1 k h1 h2]
  · rw [LN_s, cpU_at _ _ hk, f2 k hk]
/-- the past's places -/
def PTL (h : Hp) : Prop := (hK h 14 = 5 ∧ hR h 14 0 = some 15 ∧ hK h 15 = 34 ∧ hE h 15 = 41) ∧ (∀ i, i < 41 → hR h 15 i = some (16 + 2 * i) ∧ LPl h (16 + 2 * i)) ∧ LPl h 10
theorem ptl_fr {h h' : Hp} {l : List Nat} (L : PTL h) (O : Only h h' l) : PTL h' := by
  unfold PTL LPl
  rw [O.K, O.R, O.E]; exact L
theorem mark_c {h : Hp} {x : Nat} {v u : Nat → Nat} (P : PTL h) (C : CLa h 10 v u) (h1 : v 1 ≤ 1) (h3 : v 3 ≤ 1) (hx : x < 41) (ex : hI h 14 1 = nI x) : ∃ h', FX5_mark [vR (some 14), vR (some 10)] h = some (rV, h') ∧ Only h h' [16 + 2 * x, 16 + 2 * x + 1] ∧ CLa h' (16 + 2 * x) v u := by
  obtain ⟨⟨p1, p2, p3, p4⟩, p5, p6⟩ := P
  obtain ⟨q1, q2⟩ := p5 x hx
  obtain ⟨h', e, O, C'⟩ := copy_g p6 q2 (by omega) (by omega) (by omega) C h1 h3
  have b : inb (nI x) 41 = true := inb_nI (by omega) (by omega)
  have k : (nI x).toNatClampNeg = x := nI_clamp (by omega)
  have q3 := q2.1
  refine ⟨h', ?_, O, C'⟩
  rw [tX5_mark]
  simp only [oB_some, dR_some, cond_true, cond_false, if_true, if_false, Bool.true_and, Bool.and_true, Nat.beq_refl, p1, p2, p3, p4, ex, b, k, q1, q3, e]
theorem commit_c {h : Hp} {x A : Nat} (P : PTL h) (hx : x < 41) (hA : A ≤ 40) (ex : hI h 14 1 = nI x) (eA : hI h 14 2 = nI A) : FX5_commit [vR (some 14)] h = some (rV, sI (sI h 14 1 (nI ((x + 1) % 41))) 14 2 (nI (remA A))) := by
  obtain ⟨⟨p1, p2, p3, p4⟩, p5, p6⟩ := P
  have r := pk_rem (a := x + 1) (d := 41) (by omega) (by omega) (by omega)
  rw [show nI 41 = 41 from rfl] at r
  have e2 : hI (sI h 14 1 (nI ((x + 1) % 41))) 14 2 = nI A := by rw [hI_slot _ _ _ _ (by decide)]; exact eA
  have m := mn' (a := A + 1) (b := 40) (by omega) (by omega)
  rw [show nI 40 = 40 from rfl] at m
  have ra : (if A + 1 < 40 then A + 1 else 40) = remA A := by
    unfold remA
    by_cases c : A = 40
    · rw [if_pos c, if_neg (by omega)]
    · rw [if_neg c]
      by_cases c2 : A + 1 < 40
      · rw [if_pos c2]
      · rw [if_neg c2]; omega
  rw [ra] at m
  rw [tX5_commit]
  simp only [oB_some, dR_some, cond_true, cond_false, if_true, if_false, Bool.true_and, Bool.and_true, Nat.beq_refl, hK_sI, p1, ex, nI_1, show ¬ (41 : Int32) = 0 by decide, r, e2, m]
theorem back_0 {h : Hp} (P : PTL h) (eA : hI h 14 2 = nI 0) : FX5_takeBack [vR (some 14), vR (some 10)] h = some (rI (-1), h) := by
  obtain ⟨⟨p1, p2, p3, p4⟩, p5, p6⟩ := P
  rw [tX5_takeBack]
  simp only [oB_some, dR_some, cond_true, cond_false, if_true, if_false, Bool.true_and, Bool.and_true, Nat.beq_refl, p1, eA, show ¬ (0 : Int32) < nI 0 by decide]
theorem back_c {h : Hp} {x A : Nat} {v u : Nat → Nat} (P : PTL h) (hx : x < 41) (h0 : 0 < A) (hA : A ≤ 40) (ex : hI h 14 1 = nI x) (eA : hI h 14 2 = nI A) (C : CLa h (16 + 2 * ((x + 40) % 41)) v u) (h1 : v 1 ≤ 1) (h3 : v 3 ≤ 1) :
    ∃ h', FX5_takeBack [vR (some 14), vR (some 10)] h = some (rI (nI (A - 1)), h') ∧ Only h h' [10, 11, 14] ∧ CLa h' 10 v u ∧ hI h' 14 1 = nI ((x + 40) % 41) ∧ hI h' 14 2 = nI (A - 1) := by
  have P0 := P
  obtain ⟨⟨p1, p2, p3, p4⟩, p5, p6⟩ := P
  have m : (x + 40) % 41 < 41 := Nat.mod_lt _ (by omega)
  have r := pk_rem (a := x + 40) (d := 41) (by omega) (by omega) (by omega)
  rw [show nI 41 = 41 from rfl] at r
  have e1 : nI x + 41 - 1 = nI (x + 40) := by rw [show (41 : Int32) = nI 41 from rfl, nI_add, show x + 41 = x + 40 + 1 by omega, nI_p1]
  obtain ⟨q1, q2⟩ := p5 _ m
  have O1 : Only h (sI h 14 1 (nI ((x + 40) % 41))) [10, 11, 14] := only_sI _ _ _ (by simp)
  have P1 := ptl_fr P0 O1
  have C1 : CLa (sI h 14 1 (nI ((x + 40) % 41))) (16 + 2 * ((x + 40) % 41)) v u := by
    refine ⟨fun k a b => ?_, fun k a => ?_⟩
    · rw [hI_oth _ _ _ _ _ (by omega)]; exact C.1 k a b
    · rw [hI_oth _ _ _ _ _ (by omega)]; exact C.2 k a
  obtain ⟨h2, c2, O2, C2⟩ := copy_g (P1.2.1 _ m).2 P1.2.2 (by omega) (by omega) (by omega) C1 h1 h3
  have e2 : hI h2 14 2 = nI A := by rw [O2.I (by simp), hI_slot _ _ _ _ (by decide)]; exact eA
  have e3 : hI h2 14 1 = nI ((x + 40) % 41) := by rw [O2.I (by simp), hI_same]
  have kk : hK h2 14 = 5 := by rw [O2.K]; exact p1
  have b : inb (nI ((x + 40) % 41)) 41 = true := inb_nI (by omega) (by omega)
  have k : (nI ((x + 40) % 41)).toNatClampNeg = (x + 40) % 41 := nI_clamp (by omega)
  have z : (0 : Int32) < nI A := by rw [nI_0lt (by omega)]; exact h0
  have k10 := p6.1
  refine ⟨sI h2 14 2 (nI (A - 1)), ?_, ?_, ?_, ?_, ?_⟩
  · rw [tX5_takeBack]
    simp only [oB_some, dR_some, cond_true, cond_false, if_true, if_false, Bool.true_and, Bool.and_true, Nat.beq_refl, hK_sI, hR_sI, hE_sI, p1, p2, p3, p4, eA, z, ex, e1, r, show ¬ (41 : Int32) = 0 by decide, hI_same, b, k, q1, k10, c2, kk, e2, nI_s1 h0]
  · exact O1.trans ((O2.mono (fun y hy => by simp at hy ⊢; omega)).trans (only_sI _ _ _ (by simp)))
  · refine ⟨fun k a b => ?_, fun k a => ?_⟩
    · rw [hI_oth _ _ _ _ _ (by decide)]; exact C2.1 k a b
    · rw [hI_oth _ _ _ _ _ (by decide)]; exact C2.2 k a
  · rw [hI_slot _ _ _ _ (by decide)]; exact e3
  · rw [hI_same]
