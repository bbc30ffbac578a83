/-! ===== PURE: sales by the reference: all buyers; market by both ===== -/
theorem only_mq {h h' : Hp} {l : List Nat} (O : Only h h' l) (h1 : 147 ∉ l) (ks : List Nat) : Mq h h' l ks :=
  ⟨O.N, O.S, O.K, O.E, O.L, fun _ _ _ => by rw [O.R], fun a _ _ c => O.I c, fun k _ _ => by rw [O.I h1]⟩
theorem ainv_165 {h : Hp} {s : Nat} {r d b : Nat → Nat} {dc bc : Nat} {lw : Option ((Nat → Int32) × Nat)} {v u w lg bk z : Nat → Nat} {A x : Nat} (I : AINV h s r d b dc bc lw v u w lg bk z A x) {h' : Hp} (O : Only h h' [165]) : AINV h' s r d b dc bc lw v u w lg bk z A x := ainv_ag I (ag_mq (only_mq O (by decide) []) (fun a ha => by simp at ha; unfold frM; omega) (by simp))
theorem t5_only {h h' : Hp} {l : List Nat} (P : T5 h) (O : Only h h' l) : T5 h' := by
  unfold T5; rw [O.K, O.E, O.R]; exact P
theorem lay54_loop {s : Nat} {r d b : Nat → Nat} {dc bc : Nat} {lw : Option ((Nat → Int32) × Nat)} {v u w lg bk z : Nat → Nat} {A x : Nat} {TN : Nat → Nat} {i B : Nat} {x1 : Int32} (hi : i < bc) (hB : B < 46) (hT : ∀ k, k < 2116 → TN k ≤ 3000) : ∀ n (h : Hp), n ≤ 46 → AINV h s r d b dc bc lw v u w lg bk z A x → T5 h → (∀ k, k < 46 * B + n → hI h 165 k = nI (TN k)) → ∃ h' y4, Run kX12_layMarket 54 [some (vR (some 147)), some (vI x1), some (vI (nI i)), some (vI (nI B)), some (vI (nI n + (-1)))] [] h = Run kX12_layMarket 46 [some (vR (some 147)), some (vI x1), some (vI (nI i)), some (vI (nI B + (-1))), y4] [] h' ∧ Only h h' [165] ∧ (∀ t, t < n → ∃ mb, hI h' 165 (46 * B + t) = nI mb ∧ BST TN (b (3 * i)) (b (3 * i + 1)) (b (3 * i + 2) - u i) B t (fun _ _ => True) mb) ∧ (∀ k, (k < 46 * B ∨ 46 * B + n ≤ k) → hI h' 165 k = hI h 165 k) := by
  intro n
  induction n with
  | zero =>
    intro h hn I F hR
    refine ⟨h, some (vI (nI 0 + (-1))), ?_, Only.refl _ _, fun t ht => by omega, fun _ _ => rfl⟩
    rw [tX12_layMarket_54, if_pos (show nI 0 + (-1) < (0 : Int32) by decide)]
  | succ n ih =>
    intro h hn I F hR
    obtain ⟨mb, e1, P1⟩ := betters_m I F hi hB (show n < 46 by omega) (fun k hk => hR k (by omega)) hT
    have O1 : Only h (sI h 165 (46 * B + n) (nI mb)) [165] := only_sI _ _ _ (by simp)
    have sl : ∀ k, k ≠ 46 * B + n → hI (sI h 165 (46 * B + n) (nI mb)) 165 k = hI h 165 k := fun k hk => hI_slot _ _ _ _ hk
    obtain ⟨h', y4, e', O', t1, t2⟩ := ih (sI h 165 (46 * B + n) (nI mb)) (by omega) (ainv_165 I O1) (t5_only F O1) (fun k hk => by rw [sl k (by omega)]; exact hR k (by omega))
    refine ⟨h', y4, ?_, O1.trans O', fun t ht => ?_, fun k hk => by rw [t2 k (by omega), sl k (by omega)]⟩
    · rw [show nI (n + 1) + (-1) = nI n from pk_m1 n, tX12_layMarket_54, if_neg (show ¬ nI n < 0 from nI_pos (by omega))]
      simp only [oB_some, dR_some, cond_true, cond_false, if_true, if_false, Bool.true_and, Bool.and_true, Nat.beq_refl, F.1, e1]
      exact e'
    · by_cases c : t = n
      · subst c; exact ⟨mb, by rw [t2 _ (by omega), hI_same], P1⟩
      · exact t1 t (by omega)
theorem lay46_loop {s : Nat} {r d b : Nat → Nat} {dc bc : Nat} {lw : Option ((Nat → Int32) × Nat)} {v u w lg bk z : Nat → Nat} {A x : Nat} {TN : Nat → Nat} {i : Nat} {x1 : Int32} (hi : i < bc) (hT : ∀ k, k < 2116 → TN k ≤ 3000) : ∀ n (h : Hp) (o4 : Option EV), n ≤ 46 → AINV h s r d b dc bc lw v u w lg bk z A x → T5 h → (∀ k, k < 46 * n → hI h 165 k = nI (TN k)) → ∃ h' y3, Run kX12_layMarket 46 [some (vR (some 147)), some (vI x1), some (vI (nI i)), some (vI (nI n + (-1))), o4] [] h = Run kX12_layMarket 24 [some (vR (some 147)), some (vI x1), some (vI (nI (i + 1))), y3, none] [] h' ∧ Only h h' [165] ∧ (∀ B t, B < n → t < 46 → ∃ mb, hI h' 165 (46 * B + t) = nI mb ∧ BST TN (b (3 * i)) (b (3 * i + 1)) (b (3 * i + 2) - u i) B t (fun _ _ => True) mb) ∧ (∀ k, 46 * n ≤ k → hI h' 165 k = hI h 165 k) := by
  intro n
  induction n with
  | zero =>
    intro h o4 hn I F hR
    refine ⟨h, some (vI (nI 0 + (-1))), ?_, Only.refl _ _, fun B t ht => by omega, fun _ _ => rfl⟩
    rw [tX12_layMarket_46, if_pos (show nI 0 + (-1) < (0 : Int32) by decide), nI_1]
  | succ n ih =>
    intro h o4 hn I F hR
    obtain ⟨h1, y4, e1, O1, t1, t2⟩ := lay54_loop (x1 := x1) hi (show n < 46 by omega) hT 46 h (by omega) I F (fun k hk => hR k (by omega))
    obtain ⟨h2, y3, e2, O2, t3, t4⟩ := ih h1 y4 (by omega) (ainv_165 I O1) (t5_only F O1) (fun k hk => by rw [t2 k (by omega)]; exact hR k (by omega))
    refine ⟨h2, y3, ?_, O1.trans O2, fun B t hB ht => ?_, fun k hk => by rw [t4 k (by omega), t2 k (by omega)]⟩
    · rw [show nI (n + 1) + (-1) = nI n from pk_m1 n, tX12_layMarket_46, if_neg (show ¬ nI n < 0 from nI_pos (by omega)), show (45 : Int32) = nI 46 + (-1) from by decide]
      exact e1.trans e2
    · by_cases c : B = n
      · subst c
        obtain ⟨mb, m1, m2⟩ := t1 t ht
        exact ⟨mb, by rw [t4 _ (by omega)]; exact m1, m2⟩
      · exact t3 B t (by omega) ht
/-- the most that so many bring at most -/
def mxA (A : Ach) (B t m : Nat) : Prop := (∃ B' t', B' ≤ B ∧ t' ≤ t ∧ A B' t' m) ∧ ∀ B' t' m', B' ≤ B → t' ≤ t → A B' t' m' → m' ≤ m
def TabM (T : Nat → Int32) (A : Ach) : Prop := ∀ B t, B < 46 → t < 46 → ∃ m, T (46 * B + t) = nI m ∧ mxA A B t m
theorem mxA_up {A : Ach} {TN : Nat → Nat} {p q W B t mb : Nat} (hB : B < 46) (ht : t < 46) (H : ∀ B t, B < 46 → t < 46 → mxA A B t (TN (46 * B + t))) (P : BST TN p q W B t (fun _ _ => True) mb) : mxA (itA A p q W) B t mb := by
  obtain ⟨⟨one, two, h1, h2, h3, e⟩, U⟩ := P
  constructor
  · obtain ⟨⟨B', t', k1, k2, k3⟩, _⟩ := H (B - one) (t - two) (by omega) (by omega)
    refine ⟨B' + one, t' + two, by omega, by omega, (itA_up A p q W _ _ _).mpr ⟨one, two, TN (46 * (B - one) + (t - two)), h1, by omega, by omega, e, ?_⟩⟩
    rw [Nat.add_sub_cancel, Nat.add_sub_cancel]; exact k3
  · intro B' t' m' k1 k2 k3
    obtain ⟨o, w, m'', j1, j2, j3, j4, j5⟩ := (itA_up A p q W _ _ _).mp k3
    have a1 := U o w trivial j1 (by omega) (by omega)
    have a2 := (H (B - o) (t - w) (by omega) (by omega)).2 (B' - o) (t' - w) m'' (by omega) (by omega) j5
    unfold vlB at a1
    omega
theorem cell_at {k : Nat} (h : k < 2116) : k / 46 < 46 ∧ k % 46 < 46 ∧ 46 * (k / 46) + k % 46 = k := ⟨by omega, by omega, by omega⟩
theorem lay24_loop {s : Nat} {r d b : Nat → Nat} {dc bc : Nat} {lw : Option ((Nat → Int32) × Nat)} {v u w lg bk z : Nat → Nat} {A x : Nat} {wo : Nat} (hw : wo < 64) : ∀ k i n (h : Hp) (o3 o4 : Option EV), i + k = bc → AINV h s r d b dc bc lw v u w lg bk z A x → T5 h → n ≤ 9 * i → bdA (acI b u wo i) n → TabM (hI h 165) (acI b u wo i) → ∃ h', Run kX12_layMarket 24 [some (vR (some 147)), some (vI (nI wo)), some (vI (nI i)), o3, o4] [] h = some (rV, h') ∧ Only h h' [165] ∧ TabM (hI h' 165) (acI b u wo bc) := by
  intro k
  induction k with
  | zero =>
    intro i n h o3 o4 hi I F hn bd H
    have e : i = bc := by omega
    subst e
    obtain ⟨M147, R18, K152, E152, R20, K154, E154, R22, K156, E156, R32, K160, E160, dcM, bcM, Ew⟩ := mfa I
    refine ⟨h, ?_, Only.refl _ _, H⟩
    rw [tX12_layMarket_24]
    simp only [oB_some, dR_some, cond_true, cond_false, if_true, if_false, Bool.true_and, Bool.and_true, Nat.beq_refl, M147, bcM, Int32.le_refl]
  | succ k ih =>
    intro i n h o3 o4 hi I F hn bd H
    have b5 : bc ≤ 5 := I.2.1.2.2.2.1.2.2.2.2.1.2
    have Hb := I.2.1.2.2.2.2.2.1
    have c9 := wW_le (u := u) Hb wo (show i < 5 by omega)
    obtain ⟨M147, R18, K152, E152, R20, K154, E154, R22, K156, E156, R32, K160, E160, dcM, bcM, Ew⟩ := mfa I
    have nb : ¬ nI bc ≤ nI i := by rw [nI_nle' (by omega) (by omega)]; omega
    have hs := has_sp (M := wo) (j := i) (by omega) (by omega) h
    have b1 : bdA (acI b u wo (i + 1)) (n + wW b u wo i) := bd_it bd (Hb.2.2.2.2.2.2.2.2.2.2.1 _) (Hb.2.2.2.2.2.2.2.2.2.2.1 _) _
    by_cases c : wo / 2 ^ i % 2 = 0
    · have e : wW b u wo i = b (3 * i + 2) - u i := by unfold wW; rw [if_pos c]
      have cel : ∀ B t, B < 46 → t < 46 → hI h 165 (46 * B + t) = nI ((hI h 165 (46 * B + t)).toNatClampNeg) ∧ mxA (acI b u wo i) B t ((hI h 165 (46 * B + t)).toNatClampNeg) ∧ (hI h 165 (46 * B + t)).toNatClampNeg ≤ 3000 := fun B t hB ht => by
        obtain ⟨m, m1, m2⟩ := H B t hB ht
        obtain ⟨⟨B', t', _, _, k3⟩, _⟩ := m2
        have := bd B' t' m k3
        have q : (nI m).toNatClampNeg = m := nI_clamp (by omega)
        rw [m1, q]; exact ⟨rfl, (by obtain ⟨m0, m01, m02⟩ := H B t hB ht; rw [m1, nI_neq' (by omega) (by have := (bd _ _ _ m02.1.choose_spec.choose_spec.2.2).2; omega)] at m01; rw [m01]; exact m02), by omega⟩
      have hTN : ∀ k, k < 2116 → (fun k => (hI h 165 k).toNatClampNeg) k ≤ 3000 := fun k hk => by
        obtain ⟨a1, a2, a3⟩ := cell_at hk
        have := (cel _ _ a1 a2).2.2
        rw [a3] at this; exact this
      have hRN : ∀ k, k < 46 * 46 → hI h 165 k = nI ((fun k => (hI h 165 k).toNatClampNeg) k) := fun k hk => by
        obtain ⟨a1, a2, a3⟩ := cell_at hk
        have := (cel _ _ a1 a2).1
        rw [a3] at this; exact this
      obtain ⟨h1, y3, e1, O1, t1, _⟩ := lay46_loop (x1 := nI wo) (show i < bc by omega) hTN 46 h none (by omega) I F hRN
      have H1 : TabM (hI h1 165) (acI b u wo (i + 1)) := fun B t hB ht => by
        obtain ⟨mb, m1, m2⟩ := t1 B t hB ht
        refine ⟨mb, m1, ?_⟩
        show mxA (itA (acI b u wo i) (b (3 * i)) (b (3 * i + 1)) (wW b u wo i)) B t mb
        rw [e]
        exact mxA_up hB ht (fun B t hB ht => (cel B t hB ht).2.1) m2
      obtain ⟨h2, e2, O2, H2⟩ := ih (i + 1) (n + wW b u wo i) h1 y3 none (by omega) (ainv_165 I O1) (t5_only F O1) (by omega) b1 H1
      refine ⟨h2, ?_, O1.trans O2, H2⟩
      rw [tX12_layMarket_24]
      rw [c] at hs
      simp only [oB_some, dR_some, cond_true, cond_false, if_true, if_false, Bool.true_and, Bool.and_true, Nat.beq_refl, M147, bcM, nb, hs, show nI 0 = 0 from rfl]
      rw [show (45 : Int32) = nI 46 + (-1) from by decide]
      exact e1.trans e2
    · have e : wW b u wo i = 0 := by unfold wW; rw [if_neg c]
      obtain ⟨h2, e2, O2, H2⟩ := ih (i + 1) (n + wW b u wo i) h none none (by omega) I F (by omega) b1 (by
        show TabM (hI h 165) (itA (acI b u wo i) (b (3 * i)) (b (3 * i + 1)) (wW b u wo i))
        rw [e]; exact H)
      refine ⟨h2, ?_, O2, H2⟩
      rw [tX12_layMarket_24]
      rw [show wo / 2 ^ i % 2 = 1 by omega] at hs
      simp only [oB_some, dR_some, cond_true, cond_false, if_true, if_false, Bool.true_and, Bool.and_true, Nat.beq_refl, M147, bcM, nb, hs, show ¬ nI 1 = 0 from by decide, nI_1]
      exact e2
theorem lay2_loop {x1 : Int32} : ∀ k j (h : Hp) (o3 o4 : Option EV), j + k = 2116 → T5 h → ∃ h', Run kX12_layMarket 2 [some (vR (some 147)), some (vI x1), some (vI (nI j)), o3, o4] [] h = Run kX12_layMarket 24 [some (vR (some 147)), some (vI x1), some (vI 0), none, none] [] h' ∧ Only h h' [165] ∧ (∀ i, j ≤ i → i < 2116 → hI h' 165 i = 0) ∧ ∀ i, i < j → hI h' 165 i = hI h 165 i := by
  intro k
  induction k with
  | zero =>
    intro j h o3 o4 hj F
    have e : j = 2116 := by omega
    subst e
    refine ⟨h, ?_, Only.refl _ _, fun i h1 h2 => by omega, fun _ _ => rfl⟩
    rw [tX12_layMarket_2, if_pos (show (2116 : Int32) ≤ nI 2116 by decide)]
  | succ k ih =>
    intro j h o3 o4 hj F
    have O1 : Only h (sI h 165 j 0) [165] := only_sI _ _ _ (by simp)
    obtain ⟨h', e', O', t1, t2⟩ := ih (j + 1) (sI h 165 j 0) none none (by omega) (t5_only F O1)
    refine ⟨h', ?_, O1.trans O', fun i h1 h2 => ?_, fun i h1 => ?_⟩
    · obtain ⟨g1, ⟨g2, g3, g4⟩, g5⟩ := F
      rw [tX12_layMarket_2, if_neg (by rw [show (2116 : Int32) = nI 2116 from rfl, nI_nle' (by omega) (by omega)]; omega)]
      simp only [oB_some, dR_some, cond_true, cond_false, if_true, if_false, Bool.true_and, Bool.and_true, Nat.beq_refl, g1, g2, g3, g4, inb_nI (show j < 2116 by omega) (by omega), nI_clamp (show j < 2 ^ 31 by omega), nI_1]
      exact e'
    · by_cases c : i = j
      · subst c; rw [t2 i (by omega), hI_same]
      · exact t1 i (by omega) h2
    · rw [t2 i (by omega), hI_slot _ _ _ _ (by omega)]
theorem lay_m {h : Hp} {s : Nat} {r d b : Nat → Nat} {dc bc : Nat} {lw : Option ((Nat → Int32) × Nat)} {v u w lg bk z : Nat → Nat} {A x : Nat} (I : AINV h s r d b dc bc lw v u w lg bk z A x) (F : T5 h) {wo : Nat} (hw : wo < 64) : ∃ h', FX12_layMarket [vR (some 147), vI (nI wo)] h = some (rV, h') ∧ Only h h' [165] ∧ TabM (hI h' 165) (acI b u wo bc) := by
  obtain ⟨h1, e1, O1, t1, _⟩ := lay2_loop (x1 := nI wo) 2116 0 h none none (by omega) F
  obtain ⟨h2, e2, O2, H2⟩ := lay24_loop hw bc 0 0 h1 none none (by omega) (ainv_165 I O1) (t5_only F O1) (by omega) bd_0 (fun B t hB ht => ⟨0, t1 _ (by omega) (by omega), ⟨0, 0, by omega, by omega, rfl, rfl, rfl⟩, fun B' t' m' _ _ z => by have := z.2.2; omega⟩)
  refine ⟨h2, ?_, O1.trans O2, H2⟩
  rw [tX12_layMarket]
  exact e1.trans e2
