/-! ===== PURE: the soonest week, by the reference: the whole ===== -/
theorem bn0 : vp_nar .boolean (0 : Int32) = 0 := by decide
theorem bn1 : vp_nar .boolean (1 : Int32) = 1 := by decide
theorem mq163 {h h' : Hp} {ks : List Nat} (Q : Mq h h' [163] ks) : Mq h h' [163, 164] ks := Q.mono (by simp) (by simp)
theorem mq164 {h h' : Hp} {ks : List Nat} (Q : Mq h h' [164] ks) : Mq h h' [163, 164] ks := Q.mono (by simp) (by simp)
theorem so92 {x1 x2 : Int32} : ∀ k i (h : Hp), i + k = 19520 → M6 h → ∃ h', Run kX12_soonest 92 [some (vR (some 147)), some (vI x1), some (vI x2), some (vI (nI i))] [] h = Run kX12_soonest 116 [some (vR (some 147)), some (vI x1), some (vI x2), some (vI 0)] [] h' ∧ Mq h h' [164] [] ∧ ∀ j, (i ≤ j → j < 19520 → hI h' 164 j = 0) ∧ (j < i → hI h' 164 j = hI h 164 j) := by
  intro k
  induction k with
  | zero =>
    intro i h hi F
    have e : i = 19520 := by omega
    subst e
    obtain ⟨g1, ⟨g2, g3, g4⟩, g5, g6, g7⟩ := F
    refine ⟨h, ?_, mq_refl _ _ _, fun j => ⟨fun _ _ => by omega, fun _ => rfl⟩⟩
    rw [tX12_soonest_92]
    simp only [oB_some, dR_some, cond_true, cond_false, if_true, if_false, Bool.true_and, Bool.and_true, Nat.beq_refl, g1, g5, g6, g7, alK22, show Int32.ofNat 19520 = nI 19520 from rfl, Int32.le_refl]
  | succ k ih =>
    intro i h hi F
    have Q1 : Mq h (sI h 164 i 0) [164] [] := mq_row _ _ _ _ (by simp) (by decide)
    obtain ⟨h2, e2, Q2, T2⟩ := ih (i + 1) (sI h 164 i 0) (by omega) (m6_mq F Q1)
    obtain ⟨g1, ⟨g2, g3, g4⟩, g5, g6, g7⟩ := F
    have ni : ¬ nI 19520 ≤ nI i := by rw [nI_nle' (by omega) (by omega)]; omega
    refine ⟨h2, ?_, Q1.trans Q2, fun j => ⟨fun a1 a2 => ?_, fun a1 => ?_⟩⟩
    · rw [tX12_soonest_92]
      simp only [oB_some, dR_some, cond_true, cond_false, if_true, if_false, Bool.true_and, Bool.and_true, Nat.beq_refl, g1, g5, g6, g7, alK22, show Int32.ofNat 19520 = nI 19520 from rfl, ni, inb_nI (show i < 19520 by omega) (by omega), nI_clamp (show i < 2 ^ 31 by omega), bn0, nI_1]
      exact e2
    · by_cases c : j = i
      · subst c; rw [(T2 j).2 (by omega), hI_same]
      · exact (T2 j).1 (by omega) a2
    · rw [(T2 j).2 (by omega), hI_slot _ _ _ _ (by omega)]
theorem so173 {x1 x2 : Int32} : ∀ k i (h : Hp), i + k = 19520 → M6 h → (∀ j, j < 19520 → hI h 164 j = 0 ∨ hI h 164 j = 1) → ∃ h' x3, Run kX12_soonest 173 [some (vR (some 147)), some (vI x1), some (vI x2), some (vI (nI i))] [] h = oB (FX12_hasWoven [vR (some 147), vI x1] h') (fun r2 h3 => if r2.1 = 0 then Run kX12_soonest 84 [some (vR (some 147)), some (vI x1), some (vI (x2 + 1)), some (vI x3)] [] h3 else some (rI x2, h3)) ∧ Mq h h' [163] [] ∧ ∀ j, (i ≤ j → j < 19520 → hI h' 163 j = hI h 164 j) ∧ (j < i → hI h' 163 j = hI h 163 j) := by
  intro k
  induction k with
  | zero =>
    intro i h hi F B
    have e : i = 19520 := by omega
    subst e
    obtain ⟨g1, ⟨g2, g3, g4⟩, g5, g6, g7⟩ := F
    refine ⟨h, nI 19520, ?_, mq_refl _ _ _, fun j => ⟨fun _ _ => by omega, fun _ => rfl⟩⟩
    rw [tX12_soonest_173]
    simp only [oB_some, dR_some, cond_true, cond_false, if_true, if_false, Bool.true_and, Bool.and_true, Nat.beq_refl, g1, g2, g3, g4, alK22, show Int32.ofNat 19520 = nI 19520 from rfl, Int32.le_refl]
  | succ k ih =>
    intro i h hi F B
    have Q1 : Mq h (sI h 163 i (hI h 164 i)) [163] [] := mq_row _ _ _ _ (by simp) (by decide)
    have r164 : hI (sI h 163 i (hI h 164 i)) 164 = hI h 164 := hI_row _ _ _ _ (by decide)
    obtain ⟨h2, x3, e2, Q2, T2⟩ := ih (i + 1) (sI h 163 i (hI h 164 i)) (by omega) (m6_mq F Q1) (by rw [r164]; exact B)
    obtain ⟨g1, ⟨g2, g3, g4⟩, g5, g6, g7⟩ := F
    have ni : ¬ nI 19520 ≤ nI i := by rw [nI_nle' (by omega) (by omega)]; omega
    have bn : vp_nar .boolean (hI h 164 i) = hI h 164 i := by
      rcases B i (by omega) with e | e <;> rw [e] <;> decide
    refine ⟨h2, x3, ?_, Q1.trans Q2, fun j => ⟨fun a1 a2 => ?_, fun a1 => ?_⟩⟩
    · rw [tX12_soonest_173]
      simp only [oB_some, dR_some, cond_true, cond_false, if_true, if_false, Bool.true_and, Bool.and_true, Nat.beq_refl, g1, g2, g3, g4, g5, g6, g7, alK22, show Int32.ofNat 19520 = nI 19520 from rfl, ni, inb_nI (show i < 19520 by omega) (by omega), nI_clamp (show i < 2 ^ 31 by omega), bn, nI_1]
      exact e2
    · by_cases c : j = i
      · subst c; rw [(T2 j).2 (by omega), hI_same]
      · rw [(T2 j).1 (by omega) a2, r164]
    · rw [(T2 j).2 (by omega), hI_slot _ _ _ _ (by omega)]
theorem hw10 {h : Hp} {S : Rch} {b1 d1 : Nat} (F : M6 h) (R : RB h 163 (SX S)) (hb : b1 < 10) (hd : d1 < 61) : ∀ k q, q + k = 32 → (∀ q', q' < q → ¬ S d1 q' b1) → (∃ q', q' < 32 ∧ S d1 q' b1 ∧ Run kX12_hasWoven 10 [some (vR (some 147)), some (vI (nI b1)), some (vI (nI d1)), some (vI (nI q))] [] h = some (rI 1, h)) ∨ ((∀ q', q' < 32 → ¬ S d1 q' b1) ∧ ∃ y3, Run kX12_hasWoven 10 [some (vR (some 147)), some (vI (nI b1)), some (vI (nI d1)), some (vI (nI q))] [] h = Run kX12_hasWoven 2 [some (vR (some 147)), some (vI (nI b1)), some (vI (nI (d1 + 1))), y3] [] h) := by
  intro k
  induction k with
  | zero =>
    intro q hq N
    have e : q = 32 := by omega
    subst e
    refine Or.inr ⟨N, some (vI (nI 32)), ?_⟩
    rw [tX12_hasWoven_10, if_pos (show (32 : Int32) ≤ nI 32 by decide), nI_1]
  | succ k ih =>
    intro q hq N
    have n32 : ¬ (32 : Int32) ≤ nI q := by rw [show (32 : Int32) = nI 32 from rfl, nI_nle' (by omega) (by omega)]; omega
    have l := sp_lt (d := d1) (q := q) (m := b1) hd (by omega) hb
    obtain ⟨t1, t2, t3, t4⟩ := sp_of l
    obtain ⟨e1, e2, e3⟩ := sp_inj t2 t3 (by omega) hb t4
    have sx : SX S (spN d1 q b1) ↔ S d1 q b1 := by show S _ _ _ ↔ _; rw [e1, e2, e3]
    obtain ⟨g1, ⟨g2, g3, g4⟩, g5, g6, g7⟩ := F
    by_cases c : S d1 q b1
    · have v1 := (R _ l).1 (sx.mpr c)
      refine Or.inl ⟨q, by omega, c, ?_⟩
      rw [tX12_hasWoven_10, if_neg n32]
      simp only [oB_some, dR_some, cond_true, cond_false, if_true, if_false, Bool.true_and, Bool.and_true, Nat.beq_refl, g1, g2, g3, g4, spot_m, inb_nI l (by omega), nI_clamp (show spN d1 q b1 < 2 ^ 31 by omega), v1, ne10, isZ1]
    · have v1 := (R _ l).2 (fun z => c (sx.mp z))
      have st : Run kX12_hasWoven 10 [some (vR (some 147)), some (vI (nI b1)), some (vI (nI d1)), some (vI (nI q))] [] h = Run kX12_hasWoven 10 [some (vR (some 147)), some (vI (nI b1)), some (vI (nI d1)), some (vI (nI (q + 1)))] [] h := by
        rw [tX12_hasWoven_10, if_neg n32]
        simp only [oB_some, dR_some, cond_true, cond_false, if_true, if_false, Bool.true_and, Bool.and_true, Nat.beq_refl, g1, g2, g3, g4, spot_m, inb_nI l (by omega), nI_clamp (show spN d1 q b1 < 2 ^ 31 by omega), v1, nI_1]
      rw [st]
      exact ih (q + 1) (by omega) (fun q' hq' => by
        by_cases e : q' = q
        · subst e; exact c
        · exact N q' (by omega))
theorem hw2 {h : Hp} {S : Rch} {b1 : Nat} (F : M6 h) (R : RB h 163 (SX S)) (hb : b1 < 10) : ∀ k d1 (o3 : Option EV), d1 + k = 61 → (∀ d', d' < d1 → ∀ q', q' < 32 → ¬ S d' q' b1) → ((∃ d' q', d' < 61 ∧ q' < 32 ∧ S d' q' b1) ∧ Run kX12_hasWoven 2 [some (vR (some 147)), some (vI (nI b1)), some (vI (nI d1)), o3] [] h = some (rI 1, h)) ∨ ((∀ d', d' < 61 → ∀ q', q' < 32 → ¬ S d' q' b1) ∧ Run kX12_hasWoven 2 [some (vR (some 147)), some (vI (nI b1)), some (vI (nI d1)), o3] [] h = some (rI 0, h)) := by
  intro k
  induction k with
  | zero =>
    intro d1 o3 hd N
    have e : d1 = 61 := by omega
    subst e
    refine Or.inr ⟨N, ?_⟩
    rw [tX12_hasWoven_2, if_pos (show (61 : Int32) ≤ nI 61 by decide)]
    simp only [oB_some, dR_some, cond_true, cond_false, if_true, if_false, Bool.true_and, Bool.and_true, Nat.beq_refl, isZ0]
  | succ k ih =>
    intro d1 o3 hd N
    have n61 : ¬ (61 : Int32) ≤ nI d1 := by rw [show (61 : Int32) = nI 61 from rfl, nI_nle' (by omega) (by omega)]; omega
    rw [tX12_hasWoven_2, if_neg n61]
    rcases hw10 F R hb (show d1 < 61 by omega) 32 0 (by omega) (fun q' z => by omega) with ⟨q', z1, z2, z3⟩ | ⟨z1, y3, z2⟩
    · exact Or.inl ⟨⟨d1, q', by omega, z1, z2⟩, z3⟩
    · rw [show (0 : Int32) = nI 0 from rfl, z2]
      exact ih (d1 + 1) y3 (by omega) (fun d' hd' q' hq' => by
        by_cases e : d' = d1
        · subst e; exact z1 q' hq'
        · exact N d' (by omega) q' hq')
/-- the sets that are reached -/
def reS (lw : Option ((Nat → Int32) × Nat)) (r v : Nat → Nat) : Nat → Rch
  | 0 => fun d q m => d = v 0 ∧ q = v 2 ∧ m = 0
  | n + 1 => nxS lw r v (v 9 + n) (reS lw r v n)
def hitS (S : Rch) (b1 : Nat) : Prop := ∃ d q, S d q b1
/-- the first week that hits, or none -/
def ansS (lw : Option ((Nat → Int32) × Nat)) (r v : Nat → Nat) (b1 : Nat) (res : Int32) : Prop := (∃ n, 1 ≤ n ∧ n ≤ 30 ∧ hitS (reS lw r v n) b1 ∧ (∀ n', 1 ≤ n' → n' < n → ¬ hitS (reS lw r v n') b1) ∧ res = nI n) ∨ ((∀ n', 1 ≤ n' → n' ≤ 30 → ¬ hitS (reS lw r v n') b1) ∧ res = -1)
theorem so84 {s : Nat} {r d b : Nat → Nat} {dc bc : Nat} {lw : Option ((Nat → Int32) × Nat)} {v u w lg bk z : Nat → Nat} {A x : Nat} {b1 : Nat} (hb : b1 < 10) : ∀ k n (h : Hp) (o3 : Option EV), n + k = 30 → AINV h s r d b dc bc lw v u w lg bk z A x → M6 h → bdS (reS lw r v n) → RB h 163 (SX (reS lw r v n)) → (∀ n', 1 ≤ n' → n' ≤ n → ¬ hitS (reS lw r v n') b1) → ∃ res h', Run kX12_soonest 84 [some (vR (some 147)), some (vI (nI b1)), some (vI (nI (n + 1))), o3] [] h = some (rI res, h') ∧ Mq h h' [163, 164] [] ∧ ansS lw r v b1 res := by
  intro k
  induction k with
  | zero =>
    intro n h o3 hn I F bS R N
    have e : n = 30 := by omega
    subst e
    refine ⟨-1, h, ?_, mq_refl _ _ _, Or.inr ⟨N, rfl⟩⟩
    rw [tX12_soonest_84, if_pos (show (30 : Int32) < nI (30 + 1) by decide)]
  | succ k ih =>
    intro n h o3 hn I F bS R N
    have Hb := I.2.1.2.2.2.2.2.1
    have r1 : r 1 ≤ 60 := Hb.2.2.1
    have r6 : r 6 ≤ 20 := Hb.2.2.2.2.2.2.2.2.2.1
    have n30 : ¬ (30 : Int32) < nI (n + 1) := by rw [show (30 : Int32) = nI 30 from rfl, nI_nlt' (by omega) (by omega)]; omega
    obtain ⟨h1, e1, Q1, T1⟩ := so92 (x1 := nI b1) (x2 := nI (n + 1)) 19520 0 h (by omega) F
    have F1 := m6_mq F Q1
    have I1 := ainv_164 I (mq164 Q1)
    have R1 : RB h1 163 (SX (reS lw r v n)) := RB_row R (Q1.2.2.2.2.2.2.1 163 (by decide) (by decide) (by simp))
    obtain ⟨h2, e2, Q2, T2⟩ := so116 (S := reS lw r v n) (x1 := nI b1) (n := n + 1) (by omega) (by omega) 19520 0 h1 (by omega) I1 F1 R1 (fun j hj => ⟨fun ⟨i', z, _⟩ => by omega, fun _ => (T1 j).1 (by omega) hj⟩)
    have F2 := m6_mq F1 Q2
    have I2 := ainv_164 I1 (mq164 Q2)
    have T2' := RB_cg T2 (nx_index (lw := lw) (v := v) (wk := v 9 + (n + 1) - 1) r1 r6 bS)
    obtain ⟨h3, x3, e3, Q3, T3⟩ := so173 (x1 := nI b1) (x2 := nI (n + 1)) 19520 0 h2 (by omega) F2 (fun j hj => by
      by_cases z : SX (nxS lw r v (v 9 + (n + 1) - 1) (reS lw r v n)) j
      · exact Or.inr ((T2' j hj).1 z)
      · exact Or.inl ((T2' j hj).2 z))
    have F3 := m6_mq F2 Q3
    have I3 := ainv_164 I2 (mq163 Q3)
    have ew : v 9 + (n + 1) - 1 = v 9 + n := by omega
    rw [ew] at T2'
    have R3 : RB h3 163 (SX (reS lw r v (n + 1))) := fun j hj => by rw [(T3 j).1 (by omega) hj]; exact T2' j hj
    have b3 : bdS (reS lw r v (n + 1)) := bd_nx r1 r6
    have QQ : Mq h h3 [163, 164] [] := ((mq164 Q1).trans (mq164 Q2)).trans (mq163 Q3)
    have pre : Run kX12_soonest 84 [some (vR (some 147)), some (vI (nI b1)), some (vI (nI (n + 1))), o3] [] h = oB (FX12_hasWoven [vR (some 147), vI (nI b1)] h3) (fun r2 h3 => if r2.1 = 0 then Run kX12_soonest 84 [some (vR (some 147)), some (vI (nI b1)), some (vI (nI (n + 1) + 1)), some (vI x3)] [] h3 else some (rI (nI (n + 1)), h3)) := by
      rw [tX12_soonest_84, if_neg n30]
      exact e1.trans (e2.trans e3)
    rw [pre, tX12_hasWoven, nI_1]
    rcases hw2 F3 R3 hb 61 0 none (by omega) (fun d' z => by omega) with ⟨⟨d', q', z1, z2, z3⟩, z4⟩ | ⟨z1, z2⟩
    · refine ⟨nI (n + 1), h3, ?_, QQ, Or.inl ⟨n + 1, by omega, by omega, ⟨d', q', z3⟩, fun n' y1 y2 => N n' y1 (by omega), rfl⟩⟩
      rw [show (0 : Int32) = nI 0 from rfl, z4]
      simp only [oB_some, dR_some, cond_true, cond_false, if_true, if_false, Bool.true_and, Bool.and_true, Nat.beq_refl, nI_0, ne10]
    · obtain ⟨res, h', f1, f2, f3⟩ := ih (n + 1) h3 (some (vI x3)) (by omega) I3 F3 b3 R3 (fun n' y1 y2 => by
        by_cases e : n' = n + 1
        · subst e
          rintro ⟨d', q', z⟩
          have := b3 d' q' b1 z
          exact z1 d' (by omega) q' (by omega) z
        · exact N n' y1 (by omega))
      refine ⟨res, h', ?_, QQ.trans f2, f3⟩
      rw [show (0 : Int32) = nI 0 from rfl, z2]
      simp only [oB_some, dR_some, cond_true, cond_false, if_true, if_false, Bool.true_and, Bool.and_true, Nat.beq_refl, nI_0]
      exact f1
theorem so38 {x1 : Int32} {v0 v2 : Nat} (h0 : v0 ≤ 60) (h2 : v2 ≤ 20) : ∀ k i (h : Hp) (o3 : Option EV), i + k = 19520 → M6 h → hR h 147 32 = some 160 → hK h 160 = 20 → hE h 160 = 381 → hI h 160 0 = nI v0 → hI h 160 2 = nI v2 → (∀ j, j < i → hI h 163 j = 0) → ∃ h', Run kX12_soonest 38 [some (vR (some 147)), some (vI x1), some (vI (nI i)), o3] [] h = Run kX12_soonest 84 [some (vR (some 147)), some (vI x1), some (vI (nI (0 + 1))), none] [] h' ∧ Mq h h' [163] [] ∧ RB h' 163 (fun j => j = spN v0 v2 0) := by
  intro k
  induction k with
  | zero =>
    intro i h o3 hi F R32 K160 E160 e0 e2 T
    have e : i = 19520 := by omega
    subst e
    obtain ⟨g1, ⟨g2, g3, g4⟩, g5, g6, g7⟩ := F
    have l := sp_lt (d := v0) (q := v2) (m := 0) (by omega) (by omega) (by omega)
    refine ⟨sI h 163 (spN v0 v2 0) 1, ?_, mq_row _ _ _ _ (by simp) (by decide), fun j hj => ⟨fun z => by rw [z]; exact hI_same _ _ _ _, fun z => by rw [hI_slot _ _ _ _ z]; exact T j hj⟩⟩
    rw [tX12_soonest_38]
    simp only [oB_some, dR_some, cond_true, cond_false, if_true, if_false, Bool.true_and, Bool.and_true, Nat.beq_refl, g1, g2, g3, g4, alK22, show Int32.ofNat 19520 = nI 19520 from rfl, Int32.le_refl, R32, K160, E160, iaK20, show inb 0 381 = true from by decide, show inb 2 381 = true from by decide, show (0 : Int32).toNatClampNeg = 0 from by decide, show (2 : Int32).toNatClampNeg = 2 from by decide, e0, e2]
    rw [show FX12_spot [vI (nI v0), vI (nI v2), vI 0] h = some (rI (nI (spN v0 v2 0)), h) from spot_m h]
    simp only [oB_some, dR_some, cond_true, cond_false, if_true, if_false, Bool.true_and, Bool.and_true, Nat.beq_refl, g2, g3, g4, inb_nI l (by omega), nI_clamp (show spN v0 v2 0 < 2 ^ 31 by omega), bn1]
    rfl
  | succ k ih =>
    intro i h o3 hi F R32 K160 E160 e0 e2 T
    have Q1 : Mq h (sI h 163 i 0) [163] [] := mq_row _ _ _ _ (by simp) (by decide)
    have r160 : hI (sI h 163 i 0) 160 = hI h 160 := hI_row _ _ _ _ (by decide)
    obtain ⟨h2, f2, Q2, T2⟩ := ih (i + 1) (sI h 163 i 0) none (by omega) (m6_mq F Q1) R32 K160 E160 (by rw [r160]; exact e0) (by rw [r160]; exact e2) (fun j hj => by
      by_cases c : j = i
      · subst c; exact hI_same _ _ _ _
      · rw [hI_slot _ _ _ _ c]; exact T j (by omega))
    obtain ⟨g1, ⟨g2, g3, g4⟩, g5, g6, g7⟩ := F
    have ni : ¬ nI 19520 ≤ nI i := by rw [nI_nle' (by omega) (by omega)]; omega
    refine ⟨h2, ?_, Q1.trans Q2, T2⟩
    rw [tX12_soonest_38]
    simp only [oB_some, dR_some, cond_true, cond_false, if_true, if_false, Bool.true_and, Bool.and_true, Nat.beq_refl, g1, g2, g3, g4, alK22, show Int32.ofNat 19520 = nI 19520 from rfl, ni, inb_nI (show i < 19520 by omega) (by omega), nI_clamp (show i < 2 ^ 31 by omega), bn0, nI_1]
    exact f2
