/-! ===== PURE: the soonest week, by the class: one place ===== -/
/-- what the search for the soonest week leaves -/
def SF (h h' : Hp) : Prop := hN h' = hN h ∧ hS h' = hS h ∧ hK h' = hK h ∧ hE h' = hE h ∧ (∀ a k, ¬ (a = 103 ∧ (k = 6 ∨ k = 7)) → hR h' a k = hR h a k) ∧ (∀ a, a ∉ [8, 9, 110, 111] → hI h' a = hI h a) ∧ (∀ a, a ≠ 105 → a ≠ 106 → hL h' a = hL h a)
theorem SF.refl (h : Hp) : SF h h := ⟨rfl, rfl, rfl, rfl, fun _ _ _ => rfl, fun _ _ => rfl, fun _ _ _ => rfl⟩
theorem SF.trans {h h' h'' : Hp} (A : SF h h') (B : SF h' h'') : SF h h'' := by
  obtain ⟨a1, a2, a3, a4, a5, a6, a7⟩ := A
  obtain ⟨b1, b2, b3, b4, b5, b6, b7⟩ := B
  exact ⟨b1.trans a1, b2.trans a2, b3.trans a3, b4.trans a4, fun a k e => (b5 a k e).trans (a5 a k e), fun a e => (b6 a e).trans (a6 a e), fun a e f => (b7 a e f).trans (a7 a e f)⟩
theorem sf_only {h h' : Hp} {l : List Nat} (O : Only h h' l) (hl : ∀ a ∈ l, a ∈ [8, 9, 110, 111]) : SF h h' := ⟨O.N, O.S, O.K, O.E, fun _ _ _ => by rw [O.R], fun a c => O.I (fun z => c (hl a z)), fun _ _ _ => by rw [O.L]⟩
theorem sf_sL (h : Hp) {a : Nat} (k : Nat) (x : Int64) (ha : a = 105 ∨ a = 106) : SF h (sL h a k x) := ⟨rfl, rfl, rfl, rfl, fun _ _ _ => rfl, fun _ _ => rfl, fun b e f => by
  funext y; rw [hL_sL, if_neg (by omega)]⟩
theorem sf_ag {x : Nat} {h h' : Hp} (A : SF h h') : AG x h h' := by
  obtain ⟨a1, a2, a3, a4, a5, a6, a7⟩ := A
  exact ⟨a3, a4, fun a k e _ => a5 a k (by omega), fun a _ _ c _ => a6 a (fun z => c (by simp at z; unfold frC; omega)), fun k _ => by rw [a6 147 (by decide)]⟩
theorem sf_srl {h h' : Hp} (A : SF h h') (L : SRl h) : SRl h' := by
  obtain ⟨a1, a2, a3, a4, a5, a6, a7⟩ := A
  obtain ⟨⟨s1, s2, s3, s4, s5, s6⟩, s7, s8, s9, s10⟩ := L
  refine ⟨⟨by rw [a5 0 7 (by omega)]; exact s1, by rw [a3]; exact s2, by rw [a5 103 0 (by omega)]; exact s3, by rw [a5 103 1 (by omega)]; exact s4, by rw [a3]; exact s5, by rw [a4]; exact s6⟩, fun j hj => ⟨by rw [a5 104 j (by omega)]; exact (s7 j hj).1, ?_⟩, by rw [a5 103 8 (by omega)]; exact s8, by rw [a3]; exact s9, by rw [a4]; exact s10⟩
  unfold LPl
  rw [a3, a4, a5 _ 8 (by omega)]; exact (s7 j hj).2
/-- the two sets: the first is reached, the second is coming -/
def SW (h : Hp) (a1 a2 : Nat) : Prop := hR h 103 6 = some a1 ∧ hR h 103 7 = some a2 ∧ ((a1 = 105 ∧ a2 = 106) ∨ (a1 = 106 ∧ a2 = 105)) ∧ (hK h 105 = 23 ∧ hE h 105 = 189) ∧ (hK h 106 = 23 ∧ hE h 106 = 189)
theorem SW.len {h : Hp} {a1 a2 : Nat} (W : SW h a1 a2) : (hK h a1 = 23 ∧ hE h a1 = 189) ∧ (hK h a2 = 23 ∧ hE h a2 = 189) := by
  obtain ⟨_, _, e | e, w4, w5⟩ := W
  · rw [e.1, e.2]; exact ⟨w4, w5⟩
  · rw [e.1, e.2]; exact ⟨w5, w4⟩
/-- the same, and the two sets stay in their places -/
def SG1 (h h' : Hp) : Prop := SF h h' ∧ hR h' 103 6 = hR h 103 6 ∧ hR h' 103 7 = hR h 103 7
theorem SG1.trans {h h' h'' : Hp} (A : SG1 h h') (B : SG1 h' h'') : SG1 h h'' := ⟨A.1.trans B.1, B.2.1.trans A.2.1, B.2.2.trans A.2.2⟩
theorem sg1_only {h h' : Hp} {l : List Nat} (O : Only h h' l) (hl : ∀ a ∈ l, a ∈ [8, 9, 110, 111]) : SG1 h h' := ⟨sf_only O hl, by rw [O.R], by rw [O.R]⟩
theorem sw_g1 {h h' : Hp} {a1 a2 : Nat} (A : SG1 h h') (W : SW h a1 a2) : SW h' a1 a2 := by
  obtain ⟨⟨b1, b2, b3, b4, b5, b6, b7⟩, c1, c2⟩ := A
  unfold SW; rw [b3, b4, c1, c2]; exact W
/-- a long[] as a set of places and downs -/
def CB (h : Hp) (a : Nat) (R : Rch) : Prop := ∀ q m j, q < 21 → m < 9 → j < 64 → (bL (hL h a (m * 21 + q)) j = true ↔ R j q m)
theorem cb_row {h h' : Hp} {a : Nat} {R : Rch} (C : CB h a R) (e : hL h' a = hL h a) : CB h' a R := fun q m j h1 h2 h3 => by rw [e]; exact C q m j h1 h2 h3
theorem q21 {m q : Nat} (hq : q < 21) (hm : m < 9) : nI (m * 21 + q) / 21 = nI m ∧ nI (m * 21 + q) - nI (m * 21 + q) / 21 * 21 = nI q := by
  have a1 : nI (m * 21 + q) / 21 = nI m := by
    rw [show (21 : Int32) = nI 21 from rfl, show nI (m * 21 + q) / nI 21 = nI ((m * 21 + q) / 21) from pk_div (by omega) (by omega) (by omega)]; congr 1; omega
  refine ⟨a1, ?_⟩
  rw [a1, show (21 : Int32) = nI 21 from rfl, nI_mulN, nI_subL (by omega)]; congr 1; omega
theorem alK23 : alK 23 = true := rfl
theorem nb21 : ¬ (21 : Int32) = 0 := by decide
theorem setAt_c {h : Hp} {s : Nat} {r d b : Nat → Nat} {dc bc : Nat} {lw : Option ((Nat → Int32) × Nat)} {v u w lg bk z : Nat → Nat} {A x : Nat} (I : AINV h s r d b dc bc lw v u w lg bk z A x) (L : SRl h) {m q dn n : Nat} (g1 : v 1 = 0) (hq : q < 21) (hm : m < 9) (hd : dn ≤ 60) (hn : 1 ≤ n) (hn3 : n ≤ 30) (b1 : q ≤ 9 + v 10 + m) (b2 : v 10 + m ≤ 60) : ∃ h' V U, FX8_setAt [vR (some 103), vR (some 10), vI (nI (m * 21 + q)), vI (nI dn), vI (nI n)] h = some (rV, h') ∧ Only h h' [110, 111] ∧ hI h' 110 = nR V ∧ hI h' 111 = nR U ∧ (V 0 = dn ∧ V 1 = 0 ∧ V 2 = q ∧ V 3 = v 3 ∧ V 4 = v 4 ∧ V 9 = v 9 + n - 1 ∧ V 10 = v 10 + m) ∧ SVb 2000 V U := by
  have Bv := I.2.2.1.2.1
  obtain ⟨K0, R01, R02, R04, R05, K3, R30, Ks, Rs2, Rs3, Rs4, Ks1, Es1, Ks2, Es2, Ks3, Es3, K10, R108, K11, E11, K14, K98, td, dcC, bcC, Ev, Eu⟩ := cfa I
  obtain ⟨⟨s1, s2, s3, s4, s5, s6⟩, s7, s8⟩ := L
  have l1 : hR h 104 1 = some 110 := (s7 1 (by omega)).1
  have l2 : LPl h 110 := (s7 1 (by omega)).2
  obtain ⟨e21, e21'⟩ := q21 hq hm
  rw [e21] at e21'
  obtain ⟨h4, cp, O4, C1, C2⟩ := copy_g (show LPl h 10 from I.1.2.1.2.2) (show LPl h 110 from l2) (by decide) (by decide) (by decide) (now_cla I.2.2.1.1) Bv.2.1 Bv.2.2.2.1
  have O4' : Only h h4 [110, 111] := O4
  have r10 : hI h4 10 = hI h 10 := O4.I (by simp)
  have k4 : ∀ a, hK h4 a = hK h a := fun a => by rw [O4.K]
  have O5 : Only h4 (sI (sI (sI (sI h4 110 0 (nI dn)) 110 2 (nI q)) 110 10 (nI (v 10 + m))) 110 9 (nI (v 9 + n - 1))) [110, 111] := (((only_sI _ _ _ (by simp)).trans (only_sI _ _ _ (by simp))).trans (only_sI _ _ _ (by simp))).trans (only_sI _ _ _ (by simp))
  have D1 : ∀ k, k ≤ 12 → k ≠ 8 → hI (sI (sI (sI (sI h4 110 0 (nI dn)) 110 2 (nI q)) 110 10 (nI (v 10 + m))) 110 9 (nI (v 9 + n - 1))) 110 k = nI (up1 (up1 (up1 (up1 v 0 dn) 2 q) 10 (v 10 + m)) 9 (v 9 + n - 1) k) := fun k h1 h2 => by
    by_cases c9 : k = 9
    · subst c9; rw [hI_same, up1_s]
    rw [hI_slot _ _ _ _ c9, up1_o _ _ c9]
    by_cases c10 : k = 10
    · subst c10; rw [hI_same, up1_s]
    rw [hI_slot _ _ _ _ c10, up1_o _ _ c10]
    by_cases c2 : k = 2
    · subst c2; rw [hI_same, up1_s]
    rw [hI_slot _ _ _ _ c2, up1_o _ _ c2]
    by_cases c0 : k = 0
    · subst c0; rw [hI_same, up1_s]
    rw [hI_slot _ _ _ _ c0, up1_o _ _ c0]
    exact C1 k h1 h2
  obtain ⟨V, hV, eV⟩ := row_rep D1
  have C2' : ∀ k, k < 5 → hI (sI (sI (sI (sI h4 110 0 (nI dn)) 110 2 (nI q)) 110 10 (nI (v 10 + m))) 110 9 (nI (v 9 + n - 1))) 111 k = nI (u k) := fun k hk => by
    rw [hI_row _ _ _ _ (by decide), hI_row _ _ _ _ (by decide), hI_row _ _ _ _ (by decide), hI_row _ _ _ _ (by decide)]; exact C2 k hk
  obtain ⟨U, hU, eU⟩ := row_rep5 C2'
  have f : ∀ k, k ≤ 12 → k ≠ 8 → k ≠ 0 → k ≠ 2 → k ≠ 10 → k ≠ 9 → V k = v k := fun k h1 h2 h3 h4 h5 h6 => by rw [eV k h1 h2, up1_o _ _ h6, up1_o _ _ h5, up1_o _ _ h4, up1_o _ _ h3]
  have V9 : V 9 = v 9 + n - 1 := by rw [eV 9 (by omega) (by omega), up1_s]
  have V10 : V 10 = v 10 + m := by rw [eV 10 (by omega) (by omega), up1_o _ _ (by decide), up1_s]
  have V2 : V 2 = q := by rw [eV 2 (by omega) (by omega), up1_o _ _ (by decide), up1_o _ _ (by decide), up1_s]
  have V0 : V 0 = dn := by rw [eV 0 (by omega) (by omega), up1_o _ _ (by decide), up1_o _ _ (by decide), up1_o _ _ (by decide), up1_s]
  have V1 := f 1 (by omega) (by omega) (by omega) (by omega) (by omega) (by omega)
  have V3 := f 3 (by omega) (by omega) (by omega) (by omega) (by omega) (by omega)
  have V4 := f 4 (by omega) (by omega) (by omega) (by omega) (by omega) (by omega)
  have V5 := f 5 (by omega) (by omega) (by omega) (by omega) (by omega) (by omega)
  have V6 := f 6 (by omega) (by omega) (by omega) (by omega) (by omega) (by omega)
  have V7 := f 7 (by omega) (by omega) (by omega) (by omega) (by omega) (by omega)
  have V11 := f 11 (by omega) (by omega) (by omega) (by omega) (by omega) (by omega)
  have V12 := f 12 (by omega) (by omega) (by omega) (by omega) (by omega) (by omega)
  obtain ⟨b0, b1', b2', b3, b4, b5, b7, b9, b10, b11, b12, bu⟩ := Bv
  refine ⟨_, V, U, ?_, O4'.trans O5, hV, hU, ⟨V0, V1.trans g1, V2, V3, V4, V9, V10⟩, ⟨by omega, by omega, by omega, by omega, by omega, by omega, by omega, by omega, by omega, by omega, by omega, fun i hi => by rw [eU i hi]; exact bu i hi⟩⟩
  rw [tX8_setAt]
  simp only [oB_some, dR_some, cond_true, cond_false, if_true, if_false, Bool.true_and, Bool.and_true, Nat.beq_refl, s2, s4, s5, s6, show inb 1 9 = true from by decide, show (1 : Int32).toNatClampNeg = 1 from by decide, l1, l2.1, cp, k4, hK_sI, nb21, e21, e21', K10, hI_row _ _ _ _ (show (10 : Nat) ≠ 110 by decide), r10, Ev, nI_add, nI_s1 (show 0 < v 9 + n by omega)]
theorem reach_c {h : Hp} {a1 a2 m : Nat} {V : Nat → Nat} (L : SRl h) (W : SW h a1 a2) (e : hI h 110 = nR V) (hm : m < 9) (h0 : V 1 = 0 → V 0 ≤ 60) (h1 : V 1 ≤ 1) (h2 : V 2 ≤ 100) : ∃ h', FX8_reach [vR (some 103), vI (nI m)] h = some (rV, h') ∧ SG1 h h' ∧ hL h' a1 = hL h a1 ∧ ∀ R, CB h a2 R → CB h' a2 (fun j q m' => R j q m' ∨ (V 1 = 0 ∧ j = V 0 ∧ q = V 2 ∧ m' = m)) := by
  obtain ⟨⟨s1, s2, s3, s4, s5, s6⟩, s7, s8⟩ := L
  have l1 : hR h 104 1 = some 110 := (s7 1 (by omega)).1
  have l2 : LPl h 110 := (s7 1 (by omega)).2
  have ev : ∀ k, hI h 110 k = nI (V k) := fun k => by rw [e]; rfl
  obtain ⟨w1, w2, w3, w4, w5⟩ := W
  have ln := SW.len ⟨w1, w2, w3, w4, w5⟩
  have es : nI m * 21 + nI (V 2) = nI (m * 21 + V 2) := by rw [show (21 : Int32) = nI 21 from rfl, nI_mulN, nI_add]
  by_cases c1 : V 1 = 0
  · by_cases c2 : V 2 < 21
    · have n21 : ¬ (21 : Int32) ≤ nI (V 2) := by rw [show (21 : Int32) = nI 21 from rfl, nI_nle' (by omega) (by omega)]; omega
      have n189 : ¬ nI 189 ≤ nI (m * 21 + V 2) := by rw [nI_nle' (by omega) (by omega)]; omega
      refine ⟨sL h a2 (m * 21 + V 2) (hL h a2 (m * 21 + V 2) ||| (1 <<< (Int32.toInt64 (nI (V 0)) &&& 63))), ?_, ⟨sf_sL _ _ _ (by omega), rfl, rfl⟩, ?_, fun R C q m' j hq hm' hj => ?_⟩
      · rw [tX8_reach]
        simp only [oB_some, dR_some, cond_true, cond_false, if_true, if_false, Bool.true_and, Bool.and_true, Nat.beq_refl, s2, s4, s5, s6, show inb 1 9 = true from by decide, show (1 : Int32).toNatClampNeg = 1 from by decide, l1, l2.1, ev, c1, nI_0, n21, w2, ln.2.1, ln.2.2, alK23, show Int32.ofNat 189 = nI 189 from rfl, es, n189, inb_nI (show m * 21 + V 2 < 189 by omega) (by omega), nI_clamp (show m * 21 + V 2 < 2 ^ 31 by omega)]
      · funext y; rw [hL_sL, if_neg (by omega)]
      · rw [hL_sL, if_pos rfl]
        by_cases e2 : m' * 21 + q = m * 21 + V 2
        · have em : m' = m := by omega
          have eq : q = V 2 := by omega
          subst em eq
          rw [if_pos rfl, bL_set _ (by have := h0 c1; omega) hj, Bool.or_eq_true, decide_eq_true_eq, C (V 2) m' j hq hm' hj]
          exact ⟨fun z => z.imp id (fun y => ⟨c1, y, rfl, rfl⟩), fun z => z.imp id (fun y => y.2.1)⟩
        · rw [if_neg e2, C q m' j hq hm' hj]
          refine ⟨Or.inl, fun z => ?_⟩
          rcases z with z | ⟨_, _, rfl, rfl⟩
          · exact z
          · exact absurd rfl e2
    · have n21 : (21 : Int32) ≤ nI (V 2) := by rw [show (21 : Int32) = nI 21 from rfl, nI_nle' (by omega) (by omega)]; omega
      refine ⟨h, ?_, ⟨SF.refl _, rfl, rfl⟩, rfl, fun R C q m' j hq hm' hj => ?_⟩
      · rw [tX8_reach]
        simp only [oB_some, dR_some, cond_true, cond_false, if_true, if_false, Bool.true_and, Bool.and_true, Nat.beq_refl, s2, s4, s5, s6, show inb 1 9 = true from by decide, show (1 : Int32).toNatClampNeg = 1 from by decide, l1, l2.1, ev, c1, nI_0, n21]
      · rw [C q m' j hq hm' hj]
        exact ⟨Or.inl, fun z => z.elim id (fun y => by omega)⟩
  · have n1 : ¬ nI (V 1) = 0 := nI_nz (by omega) (by omega)
    refine ⟨h, ?_, ⟨SF.refl _, rfl, rfl⟩, rfl, fun R C q m' j hq hm' hj => ?_⟩
    · rw [tX8_reach]
      simp only [oB_some, dR_some, cond_true, cond_false, if_true, if_false, Bool.true_and, Bool.and_true, Nat.beq_refl, s2, s4, s5, s6, show inb 1 9 = true from by decide, show (1 : Int32).toNatClampNeg = 1 from by decide, l1, l2.1, ev, n1]
    · rw [C q m' j hq hm' hj]
      exact ⟨Or.inl, fun z => z.elim id (fun y => absurd y.1 c1)⟩
