/-! ===== PURE: sales by the class: the choice ===== -/
def btP (T M9 M10 : Int32) (v5 B c : Nat) : Prop := (M9 < T ∨ (T = M9 ∧ nI c < M10)) ∧ B + c ≤ v5
theorem cuT_le {a t : Nat} (ht : t < 46) : cuT a t ≤ 16 := by unfold cuT; omega
theorem ch28_step {h : Hp} {v5 v6 B t : Nat} (K10 : hK h 10 = 4) (E5 : hI h 10 5 = nI v5) (E6 : hI h 10 6 = nI v6) (F : T7 h) (hB : B < 46) (ht : t < 46) (h6 : v6 < 181) (h5 : v5 < 1000) (o4 o5 o6 : Option EV) : ∃ y4 y5 y6 h', Run kX8_chooseSales 28 [some (vR (some 103)), some (vR (some 10)), some (vI (nI B)), some (vI (nI t)), o4, o5, o6] [] h = Run kX8_chooseSales 28 [some (vR (some 103)), some (vR (some 10)), some (vI (nI B)), some (vI (nI (t + 1))), y4, y5, y6] [] h' ∧ (btP (hI h 107 (46 * B + t)) (hI h 103 9) (hI h 103 10) v5 B (cuT v6 t) → h' = sI (sI h 103 9 (hI h 107 (46 * B + t))) 103 10 (nI (cuT v6 t))) ∧ (¬ btP (hI h 107 (46 * B + t)) (hI h 103 9) (hI h 103 10) v5 B (cuT v6 t) → h' = h) := by
  obtain ⟨f1, f2, f3, f4⟩ := F
  obtain ⟨a1, a2, a3⟩ := cl_at hB ht
  have cu := cuI t ht v6 h6
  have c16 := cuT_le (a := v6) ht
  have n46 : ¬ (46 : Int32) ≤ nI t := by rw [show (46 : Int32) = nI 46 from rfl, nI_nle' (by omega) (by omega)]; omega
  have q5 : (nI v5 < nI (B + cuT v6 t)) = (v5 < B + cuT v6 t) := nI_nlt' (by omega) (by omega)
  rw [tX8_chooseSales_28, if_neg n46]
  simp only [oB_some, dR_some, cond_true, cond_false, if_true, if_false, Bool.true_and, Bool.and_true, Nat.beq_refl, iaK20, K10, E5, E6, cu, f1, f2, f3, f4, a1, a2, a3, nI_1, nI_add, ne30, ne10, hK_sI]
  generalize hI h 107 (46 * B + t) = T
  by_cases g1 : hI h 103 9 < T
  · by_cases g4 : v5 < B + cuT v6 t
    · refine ⟨some (vI (nI (cuT v6 t))), some (vI T), some (vI 1), h, ?_, fun z => absurd z.2 (by omega), fun _ => rfl⟩
      rw [if_pos g1, if_pos (q5.symm ▸ g4)]
    · refine ⟨some (vI (nI (cuT v6 t))), some (vI T), some (vI 1), sI (sI h 103 9 T) 103 10 (nI (cuT v6 t)), ?_, fun z => rfl, fun z => absurd ⟨Or.inl g1, by omega⟩ z⟩
      rw [if_pos g1, if_neg (q5.symm ▸ g4)]
  · rw [if_neg g1]
    by_cases g2 : T = hI h 103 9
    · rw [if_pos g2]
      by_cases g3 : hI h 103 10 ≤ nI (cuT v6 t)
      · refine ⟨some (vI (nI (cuT v6 t))), some (vI T), some (vI 0), h, ?_, fun z => ?_, fun _ => rfl⟩
        · rw [if_pos g3]
        · rcases z.1 with y | y
          · exact absurd y g1
          · exact absurd y.2 (Int32.not_lt.mpr g3)
      · rw [if_neg g3]
        by_cases g4 : v5 < B + cuT v6 t
        · refine ⟨some (vI (nI (cuT v6 t))), some (vI T), some (vI 1), h, ?_, fun z => absurd z.2 (by omega), fun _ => rfl⟩
          rw [if_pos (q5.symm ▸ g4)]
        · refine ⟨some (vI (nI (cuT v6 t))), some (vI T), some (vI 1), sI (sI h 103 9 T) 103 10 (nI (cuT v6 t)), ?_, fun z => rfl, fun z => absurd ⟨Or.inr ⟨g2, Int32.not_le.mp g3⟩, by omega⟩ z⟩
          rw [if_neg (q5.symm ▸ g4)]
    · refine ⟨some (vI (nI (cuT v6 t))), some (vI T), some (vI 0), h, ?_, fun z => ?_, fun _ => rfl⟩
      · rw [if_neg g2]
      · rcases z.1 with y | y
        · exact absurd y g1
        · exact absurd y.1 g2
/-- cells seen before (B, t) -/
def seen (B t : Nat) : Nat → Nat → Prop := fun B' t' => t' < 46 ∧ (B' < B ∨ (B' = B ∧ t' < t))
theorem opv_mono {A : Ach} {v5 v6 m c : Nat} {V V' : Nat → Nat → Prop} (P : OPV A v5 v6 V m c) (h : ∀ B t, V' B t → V B t) : OPV A v5 v6 V' m c := ⟨P.1, fun B t m' z => P.2 B t m' (h B t z)⟩
theorem opv_step {A : Ach} {T : Nat → Int32} {v5 v6 B t m c n : Nat} (H : TabC T v5 (v6 + 3 * v5) A) (bd : bdA A n) (hn : n ≤ 45) (h5 : v5 < 1000) (hB : B < 46) (ht : t < 46) (P : OPV A v5 v6 (seen B t) m c) : (btP (T (46 * B + t)) (nI m) (nI c) v5 B (cuT v6 t) → ∃ m', T (46 * B + t) = nI m' ∧ OPV A v5 v6 (seen B (t + 1)) m' (cuT v6 t)) ∧ (¬ btP (T (46 * B + t)) (nI m) (nI c) v5 B (cuT v6 t) → OPV A v5 v6 (seen B (t + 1)) m c) := by
  obtain ⟨⟨B0, t0, p1, p2, p3⟩, p4⟩ := P
  have mb := bd B0 t0 m p2
  obtain ⟨H1, H2⟩ := H B t hB ht
  have out : ∀ m', B + cuT v6 t ≤ v5 → A B t m' → optC (T (46 * B + t)) (A B t) := fun m' z _ => H1 ⟨by omega, by unfold cuT at z; omega⟩
  have cs : ∀ B' t', seen B (t + 1) B' t' → seen B t B' t' ∨ (B' = B ∧ t' = t) := fun B' t' z => by unfold seen at z ⊢; omega
  have c16 := cuT_le (a := v6) ht
  constructor
  · intro z
    by_cases f : B ≤ v5 ∧ t ≤ v6 + 3 * v5
    · rcases H1 f with ⟨e1, n1⟩ | ⟨m1, e1, q1, b1, u1⟩
      · exfalso
        rw [e1] at z
        rcases z.1 with y | y
        · exact Int32.lt_irrefl (Int32.lt_trans y (lt_m1 (m := m) (by omega)))
        · exact nI_nm1 (p := m) (by omega) y.1.symm
      · refine ⟨m1, e1, ⟨B, t, z.2, q1, rfl⟩, fun B' t' m' s1 s2 s3 => ?_⟩
        have k1 := z.1
        rw [e1, nI_nlt' (by omega) (by omega), nI_neq' (by omega) (by omega), nI_nlt' (by omega) (by omega)] at k1
        rcases cs B' t' s1 with y | ⟨y1, y2⟩
        · have := p4 B' t' m' y s2 s3; omega
        · subst y1 y2
          have := u1 m' s3; omega
    · exfalso
      have e1 := H2 f
      rw [e1] at z
      rcases z.1 with y | y
      · exact Int32.lt_irrefl (Int32.lt_trans y (lt_m1 (m := m) (by omega)))
      · exact nI_nm1 (p := m) (by omega) y.1.symm
  · intro z
    refine ⟨⟨B0, t0, p1, p2, p3⟩, fun B' t' m' s1 s2 s3 => ?_⟩
    rcases cs B' t' s1 with y | ⟨y1, y2⟩
    · exact p4 B' t' m' y s2 s3
    · subst y1 y2
      rcases out m' s2 s3 with ⟨e1, n1⟩ | ⟨m1, e1, q1, b1, u1⟩
      · exact absurd s3 (n1 m')
      · have := u1 m' s3
        have k1 : ¬ ((m < m1 ∨ (m1 = m ∧ cuT v6 t' < c))) := fun y => z ⟨by
          rw [e1, nI_nlt' (by omega) (by omega), nI_neq' (by omega) (by omega), nI_nlt' (by omega) (by omega)]; exact y, s2⟩
        omega
def CH (h : Hp) (v5 v6 : Nat) (T : Nat → Int32) (m c : Nat) : Prop := hK h 10 = 4 ∧ hI h 10 5 = nI v5 ∧ hI h 10 6 = nI v6 ∧ T7 h ∧ hI h 107 = T ∧ hI h 103 9 = nI m ∧ hI h 103 10 = nI c
theorem CH.k {h : Hp} {v5 v6 : Nat} {T : Nat → Int32} {m c : Nat} (C : CH h v5 v6 T m c) : hK h 10 = 4 := C.1
theorem CH.e5 {h : Hp} {v5 v6 : Nat} {T : Nat → Int32} {m c : Nat} (C : CH h v5 v6 T m c) : hI h 10 5 = nI v5 := C.2.1
theorem CH.e6 {h : Hp} {v5 v6 : Nat} {T : Nat → Int32} {m c : Nat} (C : CH h v5 v6 T m c) : hI h 10 6 = nI v6 := C.2.2.1
theorem CH.f {h : Hp} {v5 v6 : Nat} {T : Nat → Int32} {m c : Nat} (C : CH h v5 v6 T m c) : T7 h := C.2.2.2.1
theorem CH.t {h : Hp} {v5 v6 : Nat} {T : Nat → Int32} {m c : Nat} (C : CH h v5 v6 T m c) : hI h 107 = T := C.2.2.2.2.1
theorem CH.m9 {h : Hp} {v5 v6 : Nat} {T : Nat → Int32} {m c : Nat} (C : CH h v5 v6 T m c) : hI h 103 9 = nI m := C.2.2.2.2.2.1
theorem CH.m10 {h : Hp} {v5 v6 : Nat} {T : Nat → Int32} {m c : Nat} (C : CH h v5 v6 T m c) : hI h 103 10 = nI c := C.2.2.2.2.2.2
theorem ch28_loop {A : Ach} {T : Nat → Int32} {v5 v6 B n : Nat} (H : TabC T v5 (v6 + 3 * v5) A) (bd : bdA A n) (hn : n ≤ 45) (h5 : v5 < 1000) (h6 : v6 < 181) (hB : B < 46) : ∀ k t (h : Hp) m c (o4 o5 o6 : Option EV), t + k = 46 → CH h v5 v6 T m c → OPV A v5 v6 (seen B t) m c → ∃ h' y3 m' c', Run kX8_chooseSales 28 [some (vR (some 103)), some (vR (some 10)), some (vI (nI B)), some (vI (nI t)), o4, o5, o6] [] h = Run kX8_chooseSales 12 [some (vR (some 103)), some (vR (some 10)), some (vI (nI (B + 1))), y3, none, none, none] [] h' ∧ Only h h' [103] ∧ CH h' v5 v6 T m' c' ∧ OPV A v5 v6 (seen (B + 1) 0) m' c' := by
  intro k
  induction k with
  | zero =>
    intro t h m c o4 o5 o6 ht C P
    have e : t = 46 := by omega
    subst e
    refine ⟨h, some (vI (nI 46)), m, c, ?_, Only.refl _ _, C, opv_mono P (fun B' t' z => by unfold seen at z ⊢; omega)⟩
    rw [tX8_chooseSales_28, if_pos (show (46 : Int32) ≤ nI 46 by decide), nI_1]
  | succ k ih =>
    intro t h m c o4 o5 o6 ht C P
    obtain ⟨y4, y5, y6, h1, e1, s1, s2⟩ := ch28_step C.k C.e5 C.e6 C.f hB (show t < 46 by omega) h6 h5 o4 o5 o6
    obtain ⟨q1, q2⟩ := opv_step H bd hn h5 hB (show t < 46 by omega) P
    rw [C.t, C.m9, C.m10] at s1 s2
    rw [e1]
    by_cases z : btP (T (46 * B + t)) (nI m) (nI c) v5 B (cuT v6 t)
    · obtain ⟨m', em, P'⟩ := q1 z
      have eh := s1 z
      have O : Only h h1 [103] := by rw [eh]; exact (only_sI _ _ _ (by simp)).trans (only_sI _ _ _ (by simp))
      have C' : CH h1 v5 v6 T m' (cuT v6 t) := ⟨by rw [O.K]; exact C.k, by rw [O.I (by simp)]; exact C.e5, by rw [O.I (by simp)]; exact C.e6, t7_only C.f O, by rw [O.I (by simp)]; exact C.t, by rw [eh, hI_slot _ _ _ _ (by decide), hI_same, em], by rw [eh, hI_same]⟩
      obtain ⟨h', y3, m2, c2, e2, O2, R⟩ := ih (t + 1) h1 m' (cuT v6 t) y4 y5 y6 (by omega) C' P'
      exact ⟨h', y3, m2, c2, e2, O.trans O2, R⟩
    · have eh := s2 z
      rw [eh]
      exact ih (t + 1) h m c y4 y5 y6 (by omega) C (q2 z)
theorem ch12_loop {A : Ach} {T : Nat → Int32} {v5 v6 n : Nat} (H : TabC T v5 (v6 + 3 * v5) A) (bd : bdA A n) (hn : n ≤ 45) (h5 : v5 < 1000) (h6 : v6 < 181) : ∀ k B (h : Hp) m c (o3 o4 o5 o6 : Option EV), B + k = min 46 (v5 + 1) → CH h v5 v6 T m c → OPV A v5 v6 (seen B 0) m c → ∃ h' m' c', Run kX8_chooseSales 12 [some (vR (some 103)), some (vR (some 10)), some (vI (nI B)), o3, o4, o5, o6] [] h = some (rV, h') ∧ Only h h' [103] ∧ CH h' v5 v6 T m' c' ∧ OPV A v5 v6 (seen (min 46 (v5 + 1)) 0) m' c' := by
  intro k
  induction k with
  | zero =>
    intro B h m c o3 o4 o5 o6 hB C P
    have e : B = min 46 (v5 + 1) := by omega
    refine ⟨h, m, c, ?_, Only.refl _ _, C, e ▸ P⟩
    rw [tX8_chooseSales_12]
    by_cases g : 46 ≤ B
    · rw [if_pos (by rw [show (46 : Int32) = nI 46 from rfl, nI_nle' (by omega) (by omega)]; exact g)]
    · rw [if_neg (by rw [show (46 : Int32) = nI 46 from rfl, nI_nle' (by omega) (by omega)]; exact g)]
      simp only [oB_some, dR_some, cond_true, cond_false, if_true, if_false, Bool.true_and, Bool.and_true, Nat.beq_refl, C.k, C.e5]
      rw [if_pos (by rw [nI_nlt' (by omega) (by omega)]; omega)]
  | succ k ih =>
    intro B h m c o3 o4 o5 o6 hB C P
    obtain ⟨h1, y3, m1, c1, e1, O1, C1, P1⟩ := ch28_loop H bd hn h5 h6 (show B < 46 by omega) 46 0 h m c none none none (by omega) C P
    obtain ⟨h2, m2, c2, e2, O2, R⟩ := ih (B + 1) h1 m1 c1 y3 none none none (by omega) C1 P1
    refine ⟨h2, m2, c2, ?_, O1.trans O2, R⟩
    rw [tX8_chooseSales_12, if_neg (by rw [show (46 : Int32) = nI 46 from rfl, nI_nle' (by omega) (by omega)]; omega)]
    simp only [oB_some, dR_some, cond_true, cond_false, if_true, if_false, Bool.true_and, Bool.and_true, Nat.beq_refl, C.k, C.e5]
    rw [if_neg (by rw [nI_nlt' (by omega) (by omega)]; omega)]
    exact e1.trans e2
theorem choose_c {A : Ach} {h : Hp} {v5 v6 n : Nat} (H : TabC (hI h 107) v5 (v6 + 3 * v5) A) (bd : bdA A n) (hn : n ≤ 45) (h5 : v5 < 1000) (h6 : v6 < 181) (k : hK h 10 = 4) (e5 : hI h 10 5 = nI v5) (e6 : hI h 10 6 = nI v6) (F : T7 h) (a0 : A 0 0 0) : ∃ h' m c, FX8_chooseSales [vR (some 103), vR (some 10)] h = some (rV, h') ∧ Only h h' [103] ∧ hI h' 103 9 = nI m ∧ hI h' 103 10 = nI c ∧ OPT A v5 v6 m c := by
  have c0 : cuT v6 0 = 0 := by unfold cuT; omega
  have O1 : Only h (sI (sI h 103 9 0) 103 10 0) [103] := (only_sI _ _ _ (by simp)).trans (only_sI _ _ _ (by simp))
  obtain ⟨h', m, c, e, O, C, P⟩ := ch12_loop H bd hn h5 h6 (min 46 (v5 + 1)) 0 (sI (sI h 103 9 0) 103 10 0) 0 0 none none none none (by omega)
    ⟨k, by rw [O1.I (by simp)]; exact e5, by rw [O1.I (by simp)]; exact e6, t7_only F O1, O1.I (by simp), by rw [hI_slot _ _ _ _ (by decide), hI_same]; rfl, by rw [hI_same]; rfl⟩
    ⟨⟨0, 0, by omega, a0, c0.symm⟩, fun B t m' z => by unfold seen at z; omega⟩
  refine ⟨h', m, c, ?_, O1.trans O, C.m9, C.m10, P.1, fun B t m' s1 s2 => P.2 B t m' ?_ s1 s2⟩
  · rw [tX8_chooseSales]
    simp only [oB_some, dR_some, cond_true, cond_false, if_true, if_false, Bool.true_and, Bool.and_true, Nat.beq_refl, hK_sI, F.1]
    exact e
  · have := bd B t m' s2
    unfold seen; omega
