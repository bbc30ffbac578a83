/-! ===== PURE: sales by the class, whole; the reference's table ===== -/
theorem fill_c (x : Int32) : ∀ k j (h : Hp), j + k = 2116 → hK h 107 = 20 → hE h 107 = 2116 → ∃ h', Run kJ7_fill_53178 5 [some (vR (some 107)), some (vI x), some (vI (nI j)), some (vI (nI 2116))] [] h = some (rV, h') ∧ Only h h' [107] ∧ (∀ i, j ≤ i → i < 2116 → hI h' 107 i = x) ∧ ∀ i, i < j → hI h' 107 i = hI h 107 i := by
  intro k
  induction k with
  | zero =>
    intro j h hj K E
    have e : j = 2116 := by omega
    subst e
    refine ⟨h, ?_, Only.refl _ _, fun i h1 h2 => by omega, fun _ _ => rfl⟩
    rw [tJ7_fill_53178_5, if_pos (Int32.le_refl _)]
  | succ k ih =>
    intro j h hj K E
    have O1 : Only h (sI h 107 j x) [107] := only_sI _ _ _ (by simp)
    obtain ⟨h', e', O', t1, t2⟩ := ih (j + 1) (sI h 107 j x) (by omega) (by rw [O1.K]; exact K) (by rw [O1.E]; exact E)
    refine ⟨h', ?_, O1.trans O', fun i h1 h2 => ?_, fun i h1 => ?_⟩
    · rw [tJ7_fill_53178_5, if_neg (by rw [nI_nle' (by omega) (by omega)]; omega)]
      simp only [oB_some, dR_some, cond_true, cond_false, if_true, if_false, Bool.true_and, Bool.and_true, Nat.beq_refl, K, E, inb_nI (show j < 2116 by omega) (by omega), nI_clamp (show j < 2 ^ 31 by omega), nI_1]
      exact e'
    · by_cases c : i = j
      · subst c; rw [t2 i (by omega), hI_same]
      · exact t1 i (by omega) h2
    · rw [t2 i (by omega), hI_slot _ _ _ _ (by omega)]
theorem find_c {h : Hp} {s : Nat} {r d b : Nat → Nat} {dc bc : Nat} {lw : Option ((Nat → Int32) × Nat)} {v u w lg bk z : Nat → Nat} {A x : Nat} (I : AINV h s r d b dc bc lw v u w lg bk z A x) (L : SRl h) {wo : Nat} (hw : wo < 64) : ∃ h' m c, FX8_findSales [vR (some 103), vR (some 10), vI (nI wo)] h = some (rV, h') ∧ Only h h' [103, 107] ∧ hI h' 103 9 = nI m ∧ hI h' 103 10 = nI c ∧ OPT (acI b u wo bc) (v 5) (v 6) m c ∧ ∃ n, n ≤ 45 ∧ bdA (acI b u wo bc) n := by
  have L0 := L
  obtain ⟨⟨s1, s2, s3, s4, s5, s6⟩, s7, s8, s9, s10⟩ := L
  have Bv := I.2.2.1.2.1
  have vb : 3 * v 5 + v 6 ≤ 180 := by have := Bv.2.2.2.2.2.1; have := Bv.2.2.2.2.2.2.2.2.1; omega
  obtain ⟨h1, e1, O1, t1, _⟩ := fill_c (-1) 2116 0 h (by omega) s9 s10
  have O2 : Only h1 (sI h1 107 0 0) [107] := only_sI _ _ _ (by simp)
  have O12 := O1.trans O2
  obtain ⟨I2, L2⟩ := srl107 I L0 O12
  have T0 : TabC (hI (sI h1 107 0 0) 107) (v 5) (v 6 + 3 * v 5) ach0 := by
    intro B t hB ht
    by_cases c : B = 0 ∧ t = 0
    · obtain ⟨rfl, rfl⟩ := c
      refine ⟨fun _ => Or.inr ⟨0, ?_, ⟨rfl, rfl, rfl⟩, by omega, fun m' z => by have := z.2.2; omega⟩, fun z => by omega⟩
      exact hI_same _ _ _ _
    · have e : hI (sI h1 107 0 0) 107 (46 * B + t) = -1 := by rw [hI_slot _ _ _ _ (by omega), t1 _ (by omega) (by omega)]
      exact ⟨fun _ => Or.inl ⟨e, fun m z => c ⟨z.1, z.2.1⟩⟩, fun _ => e⟩
  obtain ⟨h3, e3, O3, H3, n, hn, bd⟩ := fs20 hw bc 0 0 (sI h1 107 0 0) none none (by omega) I2 L2 (by omega) bd_0 T0
  obtain ⟨I3, L3⟩ := srl107 I2 L2 O3
  obtain ⟨K0, R01, R02, R04, R05, K3, R30, Ks, Rs2, Rs3, Rs4, Ks1, Es1, Ks2, Es2, Ks3, Es3, K10, R108, K11, E11, K14, K98, td, dcC, bcC, Ev, Eu⟩ := cfa I3
  obtain ⟨h4, m, c, e4, O4, m1, m2, P⟩ := choose_c H3 bd hn (by omega) (by omega) K10 (Ev 5) (Ev 6) ⟨L3.1.2.1, L3.2.2⟩ (acI_0 b u wo bc)
  refine ⟨h4, m, c, ?_, ((O12.trans O3).mono (by simp)).trans (O4.mono (by simp)), m1, m2, P, n, hn, bd⟩
  rw [tX8_findSales]
  simp only [oB_some, dR_some, cond_true, cond_false, if_true, if_false, Bool.true_and, Bool.and_true, Nat.beq_refl, s2, s8]
  rw [tJ7_fill_53178]
  simp only [oB_some, dR_some, cond_true, cond_false, if_true, if_false, Bool.true_and, Bool.and_true, Nat.beq_refl, s9, s10, alK20, show Int32.ofNat 2116 = nI 2116 from rfl, show (0 : Int32) = nI 0 from rfl, e1]
  simp only [oB_some, dR_some, cond_true, cond_false, if_true, if_false, Bool.true_and, Bool.and_true, Nat.beq_refl, O1.K, O1.R, O1.E, s2, s8, s9, s10, inb_nI (show 0 < 2116 by omega) (by omega), nI_clamp (show 0 < 2 ^ 31 by omega)]
  rw [show sI h1 107 0 (nI 0) = sI h1 107 0 0 from rfl, e3, e4]
  rfl
