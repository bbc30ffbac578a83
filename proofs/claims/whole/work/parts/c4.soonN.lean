/-! ===== PURE: the soonest week, by the reference: its loops ===== -/
def SX (S : Rch) : Nat → Prop := fun k => S (k / 320) (k / 10 % 32) (k % 10)
def bdS (S : Rch) : Prop := ∀ d q m, S d q m → d ≤ 60 ∧ q ≤ 20 ∧ m ≤ 9
theorem bd_nx {lw : Option ((Nat → Int32) × Nat)} {r v : Nat → Nat} {wk : Nat} {S : Rch} (h1 : r 1 ≤ 60) (h6 : r 6 ≤ 20) : bdS (nxS lw r v wk S) := by
  rintro d' q' m' ⟨d, q, m, _, ⟨z1, rfl, rfl, rfl⟩ | ⟨_, _, z3, z4, rfl, rfl, rfl⟩⟩
  · exact ⟨grS_le h1, by omega, by omega⟩
  · exact ⟨grS_le h1, by omega, by omega⟩
theorem q320 {k : Nat} (h : k < 19520) : nI k / 320 = nI (k / 320) ∧ nI k / 10 - nI k / 10 / 32 * 32 = nI (k / 10 % 32) ∧ nI k - nI k / 10 * 10 = nI (k % 10) := by
  have a1 : nI k / 320 = nI (k / 320) := by rw [show (320 : Int32) = nI 320 from rfl]; exact pk_div (by omega) (by omega) (by omega)
  have a2 : nI k / 10 = nI (k / 10) := by rw [show (10 : Int32) = nI 10 from rfl]; exact pk_div (by omega) (by omega) (by omega)
  have a3 : nI (k / 10) / 32 = nI (k / 10 / 32) := by rw [show (32 : Int32) = nI 32 from rfl]; exact pk_div (by omega) (by omega) (by omega)
  refine ⟨a1, ?_, ?_⟩
  · rw [a2, a3, show (32 : Int32) = nI 32 from rfl, nI_mulN, nI_subL (by omega)]; congr 1; omega
  · rw [a2, show (10 : Int32) = nI 10 from rfl, nI_mulN, nI_subL (by omega)]; congr 1; omega
theorem alK22 : alK 22 = true := by decide
theorem nb320 : ¬ (320 : Int32) = 0 := by decide
theorem nb32 : ¬ (32 : Int32) = 0 := by decide
theorem nb10 : ¬ (10 : Int32) = 0 := by decide
theorem so116 {s : Nat} {r d b : Nat → Nat} {dc bc : Nat} {lw : Option ((Nat → Int32) × Nat)} {v u w lg bk z : Nat → Nat} {A x : Nat} {S : Rch} {n : Nat} {x1 : Int32} (hn : 1 ≤ n) (hn3 : n ≤ 30) : ∀ k i (h : Hp), i + k = 19520 → AINV h s r d b dc bc lw v u w lg bk z A x → M6 h → RB h 163 (SX S) → RB h 164 (fun j => ∃ i', i' < i ∧ SX S i' ∧ ∃ d' q' m', stS lw r v (v 9 + n - 1) (i' / 320) (i' / 10 % 32) (i' % 10) d' q' m' ∧ j = spN d' q' m') → ∃ h', Run kX12_soonest 116 [some (vR (some 147)), some (vI x1), some (vI (nI n)), some (vI (nI i))] [] h = Run kX12_soonest 173 [some (vR (some 147)), some (vI x1), some (vI (nI n)), some (vI 0)] [] h' ∧ Mq h h' [164] [] ∧ RB h' 164 (fun j => ∃ i', i' < 19520 ∧ SX S i' ∧ ∃ d' q' m', stS lw r v (v 9 + n - 1) (i' / 320) (i' / 10 % 32) (i' % 10) d' q' m' ∧ j = spN d' q' m') := by
  intro k
  induction k with
  | zero =>
    intro i h hi I F R T
    have e : i = 19520 := by omega
    subst e
    obtain ⟨g1, ⟨g2, g3, g4⟩, g5, g6, g7⟩ := F
    refine ⟨h, ?_, mq_refl _ _ _, T⟩
    rw [tX12_soonest_116]
    simp only [oB_some, dR_some, cond_true, cond_false, if_true, if_false, Bool.true_and, Bool.and_true, Nat.beq_refl, g1, g2, g3, g4, alK22, show Int32.ofNat 19520 = nI 19520 from rfl, Int32.le_refl]
  | succ k ih =>
    intro i h hi I F R T
    have F0 := F
    obtain ⟨g1, ⟨g2, g3, g4⟩, g5, g6, g7⟩ := F
    have ni : ¬ nI 19520 ≤ nI i := by rw [nI_nle' (by omega) (by omega)]; omega
    obtain ⟨q1, q2, q3⟩ := q320 (show i < 19520 by omega)
    obtain ⟨s1, s2, s3, s4⟩ := sp_of (show i < 19520 by omega)
    by_cases c : SX S i
    · have v1 := (R i (by omega)).1 c
      obtain ⟨M147, R18, K152, E152, R20, K154, E154, R22, K156, E156, R32, K160, E160, dcM, bcM, Ew⟩ := mfa I
      have w7 : w 7 = v 9 := I.2.2.1.2.2.2.1.2.1
      obtain ⟨h1, e1, Q1, t1⟩ := goSoon_m I F0 (d1 := i / 320) (q1 := i / 10 % 32) (m1 := i % 10) (wk := v 9 + n - 1) (by omega) s2 s3
      have T1 := RB_cg (t1 _ T) (Q := fun j => ∃ i', i' < i + 1 ∧ SX S i' ∧ ∃ d' q' m', stS lw r v (v 9 + n - 1) (i' / 320) (i' / 10 % 32) (i' % 10) d' q' m' ∧ j = spN d' q' m') (fun j hj => ⟨fun z => by
        rcases z with ⟨i', z1, z2⟩ | z
        · exact ⟨i', by omega, z2⟩
        · exact ⟨i, by omega, c, z⟩, fun z => by
        obtain ⟨i', z1, z2, z3⟩ := z
        by_cases e : i' = i
        · subst e; exact Or.inr z3
        · exact Or.inl ⟨i', by omega, z2, z3⟩⟩)
      obtain ⟨h2, e2, Q2, T2⟩ := ih (i + 1) h1 (by omega) (ainv_164 I (Q1.mono (by simp) (by simp))) (m6_mq F0 Q1) (RB_row R (Q1.2.2.2.2.2.2.1 163 (by decide) (by decide) (by simp))) T1
      refine ⟨h2, ?_, Q1.trans Q2, T2⟩
      rw [tX12_soonest_116]
      simp only [oB_some, dR_some, cond_true, cond_false, if_true, if_false, Bool.true_and, Bool.and_true, Nat.beq_refl, g1, g2, g3, g4, alK22, show Int32.ofNat 19520 = nI 19520 from rfl, ni, inb_nI (show i < 19520 by omega) (by omega), nI_clamp (show i < 2 ^ 31 by omega), v1, ne10, nb320, nb32, nb10, R32, K160, E160, iaK20, show inb 7 381 = true from by decide, show (7 : Int32).toNatClampNeg = 7 from by decide, Ew, w7, nI_add, nI_s1 (show 0 < v 9 + n by omega), q1, q2, q3, e1, nI_1]
      exact e2
    · have v1 := (R i (by omega)).2 c
      obtain ⟨h2, e2, Q2, T2⟩ := ih (i + 1) h (by omega) I F0 R (RB_cg T (fun j hj => ⟨fun ⟨i', z1, z2⟩ => ⟨i', by omega, z2⟩, fun ⟨i', z1, z2, z3⟩ => by
        by_cases e : i' = i
        · subst e; exact absurd z2 c
        · exact ⟨i', by omega, z2, z3⟩⟩))
      refine ⟨h2, ?_, Q2, T2⟩
      rw [tX12_soonest_116]
      simp only [oB_some, dR_some, cond_true, cond_false, if_true, if_false, Bool.true_and, Bool.and_true, Nat.beq_refl, g1, g2, g3, g4, alK22, show Int32.ofNat 19520 = nI 19520 from rfl, ni, inb_nI (show i < 19520 by omega) (by omega), nI_clamp (show i < 2 ^ 31 by omega), v1, nI_1]
      exact e2
theorem nx_index {lw : Option ((Nat → Int32) × Nat)} {r v : Nat → Nat} {wk : Nat} {S : Rch} (h1 : r 1 ≤ 60) (h6 : r 6 ≤ 20) (bS : bdS S) : ∀ j, j < 19520 → ((∃ i', i' < 19520 ∧ SX S i' ∧ ∃ d' q' m', stS lw r v wk (i' / 320) (i' / 10 % 32) (i' % 10) d' q' m' ∧ j = spN d' q' m') ↔ SX (nxS lw r v wk S) j) := by
  intro j hj
  obtain ⟨s1, s2, s3, s4⟩ := sp_of hj
  constructor
  · rintro ⟨i', z1, z2, d', q', m', z3, z4⟩
    have b := bd_nx (lw := lw) (v := v) (wk := wk) (S := S) h1 h6 d' q' m' ⟨_, _, _, z2, z3⟩
    obtain ⟨e1, e2, e3⟩ := sp_inj (by omega) (by omega) s2 s3 (z4.symm.trans s4.symm)
    show nxS lw r v wk S (j / 320) (j / 10 % 32) (j % 10)
    rw [← e1, ← e2, ← e3]
    exact ⟨_, _, _, z2, z3⟩
  · rintro ⟨d, q, m, z1, z2⟩
    have b := bS d q m z1
    have l := sp_lt (d := d) (q := q) (m := m) (by omega) (by omega) (by omega)
    obtain ⟨t1, t2, t3, t4⟩ := sp_of l
    obtain ⟨e1, e2, e3⟩ := sp_inj t2 t3 (by omega) (by omega) t4
    refine ⟨spN d q m, l, ?_, _, _, _, ?_, s4.symm⟩
    · show S _ _ _; rw [e1, e2, e3]; exact z1
    · rw [e1, e2, e3]; exact z2
