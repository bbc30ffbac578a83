/-! ===== PURE: sales by the class: one piece more ===== -/
theorem nI_subL {a b : Nat} (h : b ≤ a) : nI a - nI b = nI (a - b) := by
  obtain ⟨k, rfl⟩ : ∃ k, a = k + b := ⟨a - b, by omega⟩
  rw [← nI_add, Int32.add_sub_cancel, Nat.add_sub_cancel]
theorem cl_at {B t : Nat} (hB : B < 46) (ht : t < 46) : nI B * 46 + nI t = nI (46 * B + t) ∧ inb (nI (46 * B + t)) 2116 = true ∧ (nI (46 * B + t)).toNatClampNeg = 46 * B + t := by
  refine ⟨?_, inb_nI (by omega) (by omega), nI_clamp (by omega)⟩
  rw [Int32.mul_comm, show (46 : Int32) = nI 46 from rfl, show nI 46 * nI B = nI (46 * B) from pk_mul 46 B, nI_add]
def T7 (h : Hp) : Prop := hK h 103 = 8 ∧ hR h 103 8 = some 107 ∧ hK h 107 = 20 ∧ hE h 107 = 2116
theorem t7_only {h h' : Hp} {l : List Nat} (P : T7 h) (O : Only h h' l) : T7 h' := by
  unfold T7; rw [O.K, O.E, O.R]; exact P
theorem ad75_step {h : Hp} (F : T7 h) {B t : Nat} (hB : B < 46) (ht : t < 46) (x3 p q x6 : Int32) (o1 o2 o9 o10 : Option EV) : Run kX8_addPiece 75 [some (vR (some 103)), o1, o2, some (vI x3), some (vI p), some (vI q), some (vI x6), some (vI (nI B)), some (vI (nI t)), o9, o10] [] h = Run kX8_addPiece 75 [some (vR (some 103)), none, none, some (vI x3), some (vI p), some (vI q), some (vI x6), some (vI (nI B)), some (vI (nI t + (-1))), some (vI (nI (46 * B + t))), some (vI (nwv (hI h 107) B t p q))] [] (sI h 107 (46 * B + t) (nwv (hI h 107) B t p q)) := by
  obtain ⟨f1, f2, f3, f4⟩ := F
  obtain ⟨a1, a2, a3⟩ := cl_at hB ht
  rw [tX8_addPiece_75]
  have n0 : ¬ nI t < 0 := nI_pos (by omega)
  by_cases c : B = 0
  · subst c
    have z1 : nI 0 ≤ (0 : Int32) := by decide
    by_cases e : t = 0
    · subst e
      rw [show nwv (hI h 107) 0 0 p q = hI h 107 (46 * 0 + 0) from rfl]
      simp only [oB_some, dR_some, cond_true, cond_false, if_true, if_false, Bool.true_and, Bool.and_true, Nat.beq_refl, iaK20, n0, f1, f2, f3, f4, a1, a2, a3, z1]
      try rfl
    · have z2 : ¬ nI t ≤ (0 : Int32) := by rw [nI_le0 (by omega)]; exact e
      have m1 : nI (46 * 0 + t) - 1 = nI (46 * 0 + (t - 1)) := by rw [nI_s1 (by omega)]; congr 1; omega
      obtain ⟨b1, b2, b3⟩ := cl_at (B := 0) (t := t - 1) (by omega) (by omega)
      by_cases g : hI h 107 (46 * 0 + (t - 1)) = -1
      · rw [show nwv (hI h 107) 0 t p q = hI h 107 (46 * 0 + t) by unfold nwv; rw [if_pos rfl, if_neg e, if_pos g]]
        simp only [oB_some, dR_some, cond_true, cond_false, if_true, if_false, Bool.true_and, Bool.and_true, Nat.beq_refl, iaK20, n0, f1, f2, f3, f4, a1, a2, a3, z1, z2, m1, b2, b3, g]
        try rfl
      · rw [show nwv (hI h 107) 0 t p q = mxI (hI h 107 (46 * 0 + t)) (hI h 107 (46 * 0 + (t - 1)) + q) by unfold nwv; rw [if_pos rfl, if_neg e, if_neg g]]
        unfold mxI
        simp only [oB_some, dR_some, cond_true, cond_false, if_true, if_false, Bool.true_and, Bool.and_true, Nat.beq_refl, iaK20, n0, f1, f2, f3, f4, a1, a2, a3, z1, z2, m1, b2, b3, g]
        try rfl
  · have z1 : ¬ nI B ≤ (0 : Int32) := by rw [nI_le0 (by omega)]; exact c
    have m46 : nI (46 * B + t) - 46 = nI (46 * (B - 1) + t) := by
      rw [show (46 : Int32) = nI 46 from rfl, nI_subL (by omega)]; congr 1; omega
    obtain ⟨d1, d2, d3⟩ := cl_at (B := B - 1) (t := t) (by omega) (by omega)
    by_cases g' : hI h 107 (46 * (B - 1) + t) = -1
    · by_cases e : t = 0
      · subst e
        rw [show nwv (hI h 107) B 0 p q = hI h 107 (46 * B + 0) by unfold nwv; rw [if_pos rfl, if_neg c, if_pos g']]
        simp only [oB_some, dR_some, cond_true, cond_false, if_true, if_false, Bool.true_and, Bool.and_true, Nat.beq_refl, iaK20, n0, f1, f2, f3, f4, a1, a2, a3, z1, m46, d2, d3, g', show nI 0 ≤ (0 : Int32) from by decide]
        try rfl
      · have z2 : ¬ nI t ≤ (0 : Int32) := by rw [nI_le0 (by omega)]; exact e
        have m1 : nI (46 * B + t) - 1 = nI (46 * B + (t - 1)) := by rw [nI_s1 (by omega)]; congr 1; omega
        obtain ⟨b1, b2, b3⟩ := cl_at (B := B) (t := t - 1) (by omega) (by omega)
        by_cases g : hI h 107 (46 * B + (t - 1)) = -1
        · rw [show nwv (hI h 107) B t p q = hI h 107 (46 * B + t) by unfold nwv; rw [if_neg c, if_pos g', if_neg e, if_pos g]]
          simp only [oB_some, dR_some, cond_true, cond_false, if_true, if_false, Bool.true_and, Bool.and_true, Nat.beq_refl, iaK20, n0, f1, f2, f3, f4, a1, a2, a3, z1, z2, m1, m46, d2, d3, b2, b3, g, g']
          try rfl
        · rw [show nwv (hI h 107) B t p q = mxI (hI h 107 (46 * B + t)) (hI h 107 (46 * B + (t - 1)) + q) by unfold nwv; rw [if_neg c, if_pos g', if_neg e, if_neg g]]
          unfold mxI
          simp only [oB_some, dR_some, cond_true, cond_false, if_true, if_false, Bool.true_and, Bool.and_true, Nat.beq_refl, iaK20, n0, f1, f2, f3, f4, a1, a2, a3, z1, z2, m1, m46, d2, d3, b2, b3, g, g']
          try rfl
    · by_cases e : t = 0
      · subst e
        rw [show nwv (hI h 107) B 0 p q = mxI (hI h 107 (46 * B + 0)) (hI h 107 (46 * (B - 1) + 0) + p) by unfold nwv; rw [if_pos rfl, if_neg c, if_neg g']]
        unfold mxI
        simp only [oB_some, dR_some, cond_true, cond_false, if_true, if_false, Bool.true_and, Bool.and_true, Nat.beq_refl, iaK20, n0, f1, f2, f3, f4, a1, a2, a3, z1, m46, d2, d3, g', show nI 0 ≤ (0 : Int32) from by decide]
        try rfl
      · have z2 : ¬ nI t ≤ (0 : Int32) := by rw [nI_le0 (by omega)]; exact e
        have m1 : nI (46 * B + t) - 1 = nI (46 * B + (t - 1)) := by rw [nI_s1 (by omega)]; congr 1; omega
        obtain ⟨b1, b2, b3⟩ := cl_at (B := B) (t := t - 1) (by omega) (by omega)
        by_cases g : hI h 107 (46 * B + (t - 1)) = -1
        · rw [show nwv (hI h 107) B t p q = mxI (hI h 107 (46 * B + t)) (hI h 107 (46 * (B - 1) + t) + p) by unfold nwv; rw [if_neg c, if_neg g', if_neg e, if_pos g]]
          unfold mxI
          simp only [oB_some, dR_some, cond_true, cond_false, if_true, if_false, Bool.true_and, Bool.and_true, Nat.beq_refl, iaK20, n0, f1, f2, f3, f4, a1, a2, a3, z1, z2, m1, m46, d2, d3, b2, b3, g, g']
          try rfl
        · rw [show nwv (hI h 107) B t p q = mxI (mxI (hI h 107 (46 * B + t)) (hI h 107 (46 * (B - 1) + t) + p)) (hI h 107 (46 * B + (t - 1)) + q) by unfold nwv; rw [if_neg c, if_neg g', if_neg e, if_neg g]]
          unfold mxI
          simp only [oB_some, dR_some, cond_true, cond_false, if_true, if_false, Bool.true_and, Bool.and_true, Nat.beq_refl, iaK20, n0, f1, f2, f3, f4, a1, a2, a3, z1, z2, m1, m46, d2, d3, b2, b3, g, g']
          try rfl
theorem nwv_cg {T T' : Nat → Int32} {B t : Nat} {p q : Int32} (e1 : T' (46 * B + t) = T (46 * B + t)) (e2 : T' (46 * (B - 1) + t) = T (46 * (B - 1) + t)) (e3 : T' (46 * B + (t - 1)) = T (46 * B + (t - 1))) : nwv T' B t p q = nwv T B t p q := by
  unfold nwv; rw [e1, e2, e3]
theorem ad75_loop {B : Nat} (hB : B < 46) (x3 p q x6 : Int32) : ∀ n (h : Hp) (o1 o2 o9 o10 : Option EV), T7 h → n ≤ 46 → ∃ h' y8, Run kX8_addPiece 75 [some (vR (some 103)), o1, o2, some (vI x3), some (vI p), some (vI q), some (vI x6), some (vI (nI B)), some (vI (nI n + (-1))), o9, o10] [] h = Run kX8_addPiece 59 [some (vR (some 103)), none, none, some (vI x3), some (vI p), some (vI q), some (vI x6), some (vI (nI B + (-1))), y8, none, none] [] h' ∧ Only h h' [107] ∧ (∀ t, t < n → hI h' 107 (46 * B + t) = nwv (hI h 107) B t p q) ∧ (∀ k, (k < 46 * B ∨ 46 * B + n ≤ k) → hI h' 107 k = hI h 107 k) := by
  intro n
  induction n with
  | zero =>
    intro h o1 o2 o9 o10 F hn
    refine ⟨h, some (vI (nI 0 + (-1))), ?_, Only.refl _ _, fun t ht => by omega, fun _ _ => rfl⟩
    rw [tX8_addPiece_75, if_pos (show nI 0 + (-1) < (0 : Int32) by decide)]
  | succ n ih =>
    intro h o1 o2 o9 o10 F hn
    have e := ad75_step F hB (show n < 46 by omega) x3 p q x6 o1 o2 o9 o10
    rw [show nI (n + 1) + (-1) = nI n from pk_m1 n, e]
    have O1 : Only h (sI h 107 (46 * B + n) (nwv (hI h 107) B n p q)) [107] := only_sI _ _ _ (by simp)
    obtain ⟨h', y8, e', O', t1, t2⟩ := ih (sI h 107 (46 * B + n) (nwv (hI h 107) B n p q)) none none _ _ (t7_only F O1) (by omega)
    have sl : ∀ k, k ≠ 46 * B + n → hI (sI h 107 (46 * B + n) (nwv (hI h 107) B n p q)) 107 k = hI h 107 k := fun k hk => hI_slot _ _ _ _ hk
    refine ⟨h', y8, e', O1.trans O', fun t ht => ?_, fun k hk => by rw [t2 k (by omega), sl k (by omega)]⟩
    by_cases c : t = n
    · subst c; rw [t2 _ (by omega), hI_same]
    · rw [t1 t (by omega)]
      exact nwv_cg (sl _ (by omega)) (sl _ (by omega)) (sl _ (by omega))
theorem ad59_loop {pc tM : Nat} (hp : pc ≤ 45) (hM : tM < 2 ^ 30) (p q : Int32) : ∀ n (h : Hp) (o1 o2 o8 o9 o10 : Option EV), T7 h → n ≤ pc + 1 → ∃ h', Run kX8_addPiece 59 [some (vR (some 103)), o1, o2, some (vI (nI pc)), some (vI p), some (vI q), some (vI (nI tM)), some (vI (nI n + (-1))), o8, o9, o10] [] h = some (rV, h') ∧ Only h h' [107] ∧ ∀ B t, B < 46 → t < 46 → ((B < n ∧ t ≤ tM ∧ t ≤ pc - B) → hI h' 107 (46 * B + t) = nwv (hI h 107) B t p q) ∧ (¬ (B < n ∧ t ≤ tM ∧ t ≤ pc - B) → hI h' 107 (46 * B + t) = hI h 107 (46 * B + t)) := by
  intro n
  induction n with
  | zero =>
    intro h o1 o2 o8 o9 o10 F hn
    refine ⟨h, ?_, Only.refl _ _, fun B t _ _ => ⟨fun z => by omega, fun _ => rfl⟩⟩
    rw [tX8_addPiece_59, if_pos (show nI 0 + (-1) < (0 : Int32) by decide)]
  | succ n ih =>
    intro h o1 o2 o8 o9 o10 F hn
    rw [show nI (n + 1) + (-1) = nI n from pk_m1 n, tX8_addPiece_59, if_neg (show ¬ nI n < 0 from nI_pos (by omega)), nI_subL (by omega)]
    have mn : (if nI tM < nI (pc - n) then nI tM else nI (pc - n)) = nI (min tM (pc - n) + 1) + (-1) := by
      rw [show nI (min tM (pc - n) + 1) + (-1) = nI (min tM (pc - n)) from pk_m1 _]
      have ql : (nI tM < nI (pc - n)) = (tM < pc - n) := nI_nlt' (by omega) (by omega)
      by_cases c : tM < pc - n
      · rw [if_pos (by rw [ql]; exact c), Nat.min_eq_left (by omega)]
      · rw [if_neg (by rw [ql]; exact c), Nat.min_eq_right (by omega)]
    rw [mn]
    obtain ⟨h1, y8, e1, O1, t1, t2⟩ := ad75_loop (B := n) (by omega) (nI pc) p q (nI tM) (min tM (pc - n) + 1) h none none none none F (by omega)
    rw [e1]
    obtain ⟨h', e', O', t3⟩ := ih h1 none none y8 none none (t7_only F O1) (by omega)
    refine ⟨h', e', O1.trans O', fun B t hB ht => ?_⟩
    obtain ⟨u1, u2⟩ := t3 B t hB ht
    by_cases c : B < n
    · refine ⟨fun z => ?_, fun z => ?_⟩
      · rw [u1 ⟨c, z.2⟩]
        exact nwv_cg (t2 _ (by omega)) (t2 _ (by omega)) (t2 _ (by omega))
      · rw [u2 (fun y => z ⟨by omega, y.2⟩), t2 _ (by omega)]
    · rw [u2 (fun y => c y.1)]
      by_cases c' : B = n
      · subst c'
        refine ⟨fun z => t1 t (by omega), fun z => t2 _ (by omega)⟩
      · exact ⟨fun z => by omega, fun z => t2 _ (by omega)⟩
theorem addPiece_c {h : Hp} {s : Nat} {r d b : Nat → Nat} {dc bc : Nat} {lw : Option ((Nat → Int32) × Nat)} {v u w lg bk z : Nat → Nat} {A x : Nat} (I : AINV h s r d b dc bc lw v u w lg bk z A x) (L : SRl h) {i n : Nat} (hi : i < bc) (hn : n + 1 ≤ 45) : ∃ h', FX8_addPiece [vR (some 103), vR (some 10), vI (nI i), vI (nI (n + 1))] h = some (rV, h') ∧ Only h h' [107] ∧ mixT (hI h 107) (nI (b (3 * i))) (nI (b (3 * i + 1))) (n + 1) (v 5) (v 6 + 3 * v 5) (fun _ _ => True) (hI h' 107) := by
  obtain ⟨K0, R01, R02, R04, R05, K3, R30, Ks, Rs2, Rs3, Rs4, Ks1, Es1, Ks2, Es2, Ks3, Es3, K10, R108, K11, E11, K14, K98, td, dcC, bcC, Ev, Eu⟩ := cfa I
  obtain ⟨⟨s1, s2, s3, s4, s5, s6⟩, s7, s8, s9, s10⟩ := L
  have b5 : bc ≤ 5 := I.2.1.2.2.2.1.2.2.2.2.1.2
  obtain ⟨i30, i300, i31, i32, ia0, ia1, ia2, ic0, ic1, ic2⟩ := ix3 (i := i) (N := 15) (by omega) (by omega)
  have Bv := I.2.2.1.2.1
  have vb : 3 * v 5 + v 6 ≤ 180 := by have := Bv.2.2.2.2.2.1; have := Bv.2.2.2.2.2.2.2.2.1; omega
  have f1 : hI h (s + 3) (3 * i) = nI (b (3 * i)) := I.2.1.2.2.1.2.2.2.2.2.2.1 _ (by omega)
  have f2 : hI h (s + 3) (3 * i + 1) = nI (b (3 * i + 1)) := I.2.1.2.2.1.2.2.2.2.2.2.1 _ (by omega)
  have tm : nI (v 6) + 3 * nI (v 5) = nI (v 6 + 3 * v 5) := by rw [show (3 : Int32) * nI (v 5) = nI (3 * v 5) from pk_mul 3 _, nI_add]
  have mn : (if nI (v 5) < nI (n + 1) then nI (v 5) else nI (n + 1)) = nI (min (v 5) (n + 1) + 1) + (-1) := by
    rw [show nI (min (v 5) (n + 1) + 1) + (-1) = nI (min (v 5) (n + 1)) from pk_m1 _]
    have ql : (nI (v 5) < nI (n + 1)) = (v 5 < n + 1) := nI_nlt' (by omega) (by omega)
    by_cases c : v 5 < n + 1
    · rw [if_pos (by rw [ql]; exact c), Nat.min_eq_left (by omega)]
    · rw [if_neg (by rw [ql]; exact c), Nat.min_eq_right (by omega)]
  obtain ⟨h', e, O, t⟩ := ad59_loop (pc := n + 1) (tM := v 6 + 3 * v 5) (by omega) (by omega) (nI (b (3 * i))) (nI (b (3 * i + 1))) (min (v 5) (n + 1) + 1) h (some (vR (some 10))) (some (vI (nI i))) none none none ⟨s2, s8, s9, s10⟩ (by omega)
  refine ⟨h', ?_, O, fun B t' hB ht => ?_⟩
  · rw [tX8_addPiece]
    simp only [oB_some, dR_some, cond_true, cond_false, if_true, if_false, Bool.true_and, Bool.and_true, Nat.beq_refl, s2, s3, K3, R30, Ks, Rs4, Ks3, Es3, iaK20, i30, i300, i31, i32, ia0, ia1, ia2, ic0, ic1, ic2, K10, Ev, f1, f2, tm, mn, e]
  · obtain ⟨u1, u2⟩ := t B t' hB ht
    exact ⟨fun z => u1 ⟨by omega, by omega, by omega⟩, fun z => u2 (fun y => z ⟨by omega, by omega, by omega, by omega, trivial⟩)⟩
