/-! ===== PURE: soonest, the call ===== -/
theorem fewest_c {h : Hp} {s : Nat} {r d b : Nat → Nat} {dc bc : Nat} {lw : Option ((Nat → Int32) × Nat)} {v u w lg bk z : Nat → Nat} {A x : Nat} (I : AINV h s r d b dc bc lw v u w lg bk z A x) (L : SRl h) {a1 a2 b1 : Nat} (W : SW h a1 a2) (g1 : v 1 = 0) (hb0 : 1 ≤ b1) (hb : b1 ≤ 9) : ∃ res h', FX8_fewestWeeks [vR (some 103), vR (some 10), vI (nI b1)] h = some (rI res, h') ∧ SF h h' ∧ (∃ c1 c2, SW h' c1 c2) ∧ ansS lw r v b1 res := by
  have Bv := I.2.2.1.2.1
  have v0 : v 0 ≤ 60 := Bv.1
  have v2 : v 2 ≤ 20 := by have := Bv.2.2.1.2; omega
  have v2' : v 2 ≤ 9 + v 10 := Bv.2.2.1.1
  have v10 : v 10 ≤ 60 := Bv.2.2.2.2.2.2.2.2.1
  have ln := SW.len W
  have na : a1 = 105 ∨ a1 = 106 := by have := W.2.2.1; omega
  obtain ⟨s1, _⟩ := srl_f L
  obtain ⟨K0, R01, R02, R04, R05, K3, R30, Ks, Rs2, Rs3, Rs4, Ks1, Es1, Ks2, Es2, Ks3, Es3, K10, R108, K11, E11, K14, K98, td, dcC, bcC, Ev, Eu⟩ := cfa I
  obtain ⟨h4, e4, G4, t0, t1⟩ := fillA (a := a1) na ln.1.1 ln.1.2
  have I4 := ainv_ag I (sf_ag G4.1)
  have L4 := sf_srl G4.1 L
  have W4 := sw_g1 G4 W
  have ln4 := SW.len W4
  obtain ⟨s1', _⟩ := srl_f L4
  obtain ⟨K04, R014, R024, R044, R054, K34, R304, Ks4, Rs24, Rs34, Rs44, Ks14, Es14, Ks24, Es24, Ks34, Es34, K104, R1084, K114, E114, K144, K984, td4, dcC4, bcC4, Ev4, Eu4⟩ := cfa I4
  have G8 : SG1 h4 (sL h4 a1 (v 2) (1 <<< (Int32.toInt64 (nI (v 0)) &&& 63))) := ⟨sf_sL _ _ _ na, rfl, rfl⟩
  have GG := G4.trans G8
  obtain ⟨res, h', f1, f2, f3, f4⟩ := fw43 (b1 := b1) g1 hb0 hb 30 0 (sL h4 a1 (v 2) (1 <<< (Int32.toInt64 (nI (v 0)) &&& 63))) a1 a2 (reS lw r v 0) none (by omega) (ainv_ag I (sf_ag GG.1)) (sf_srl GG.1 L) (sw_g1 GG W) (fun q m j h1 h2 h3 => by
    rw [hL_sL, if_pos rfl]
    show _ ↔ (j = v 0 ∧ q = v 2 ∧ m = 0)
    by_cases e : m * 21 + q = v 2
    · rw [if_pos e, bL_sing (by omega) h3, decide_eq_true_eq]
      exact ⟨fun z => ⟨z, by omega, by omega⟩, fun z => z.1⟩
    · rw [if_neg e, t1 _ (by omega), bL_0]
      exact ⟨fun z => Bool.noConfusion z, fun z => by omega⟩) (fun j q m z => by
    have z' : j = v 0 ∧ q = v 2 ∧ m = 0 := z
    obtain ⟨rfl, rfl, rfl⟩ := z'
    exact ⟨v0, v2, by omega, by omega, by omega⟩) ⟨fun _ _ _ z => z, fun j q m z => ⟨j, Nat.le_refl _, fun _ => rfl, z⟩⟩ (fun n' y1 y2 => by omega)
  refine ⟨res, h', ?_, GG.1.trans f2, f3, f4⟩
  have n21 : nI (v 2) < 21 := by rw [show (21 : Int32) = nI 21 from rfl, nI_nlt' (by omega) (by omega)]; omega
  rw [tX8_fewestWeeks]
  simp only [oB_some, dR_some, cond_true, cond_false, if_true, if_false, Bool.true_and, Bool.and_true, Nat.beq_refl, K10, Ev, g1, nI_0, n21, s1, W.1, e4]
  simp only [oB_some, dR_some, cond_true, cond_false, if_true, if_false, Bool.true_and, Bool.and_true, Nat.beq_refl, s1', K104, Ev4, W4.1, ln4.1.1, ln4.1.2, inb_nI (show v 2 < 189 by omega) (by omega), nI_clamp (show v 2 < 2 ^ 31 by omega)]
  exact f1
theorem soon_m {h : Hp} {s : Nat} {r d b : Nat → Nat} {dc bc : Nat} {lw : Option ((Nat → Int32) × Nat)} {v u w lg bk z : Nat → Nat} {A x : Nat} (I : AINV h s r d b dc bc lw v u w lg bk z A x) (F : M6 h) {b1 : Nat} (g1 : v 1 = 0) (hb : b1 < 10) : ∃ res h', Run kX12_soonest 38 [some (vR (some 147)), some (vI (nI b1)), some (vI 0), none] [] h = some (rI res, h') ∧ Mq h h' [163, 164] [] ∧ ansS lw r v b1 res := by
  have Bv := I.2.2.1.2.1
  have k4 := I.2.2.1.2.2.2.1
  have v0 : v 0 ≤ 60 := Bv.1
  have v2 : v 2 ≤ 20 := by have := Bv.2.2.1.2; omega
  obtain ⟨M147, R18, K152, E152, R20, K154, E154, R22, K156, E156, R32, K160, E160, dcM, bcM, Ew⟩ := mfa I
  obtain ⟨h1, e1, Q1, R1⟩ := so38 (x1 := nI b1) (v0 := v 0) (v2 := v 2) v0 v2 19520 0 h none (by omega) F R32 K160 E160 (by rw [Ew, k4.1 0 (by omega)]) (by rw [Ew, k4.1 2 (by omega)]) (fun j z => by omega)
  have R0 : RB h1 163 (SX (reS lw r v 0)) := RB_cg R1 (fun j hj => by
    obtain ⟨s1, s2, s3, s4⟩ := sp_of hj
    show _ ↔ (j / 320 = v 0 ∧ j / 10 % 32 = v 2 ∧ j % 10 = 0)
    constructor
    · intro e
      exact sp_inj s2 s3 (by omega) (by omega) (s4.trans e)
    · rintro ⟨a1, a2, a3⟩
      rw [a1, a2, a3] at s4; exact s4.symm)
  obtain ⟨res, h2, e2, Q2, A⟩ := so84 hb 30 0 h1 none (by omega) (ainv_164 I (mq163 Q1)) (m6_mq F Q1) (fun d q m z => by
    have z' : d = v 0 ∧ q = v 2 ∧ m = 0 := z
    omega) R0 (fun n' y1 y2 => by omega)
  exact ⟨res, h2, e1.trans e2, (mq163 Q1).trans Q2, A⟩
theorem m6_sf {h h' : Hp} (F : M6 h) (G : SF h h') : M6 h' := by
  obtain ⟨a1, a2, a3, a4, a5, a6, a7⟩ := G
  unfold M6; rw [a3, a4, a5 147 41 (by omega), a5 147 42 (by omega)]; exact F
theorem soonest_both {h : Hp} {s : Nat} {r d b : Nat → Nat} {dc bc : Nat} {lw : Option ((Nat → Int32) × Nat)} {v u w lg bk z : Nat → Nat} {A x : Nat} (I : AINV h s r d b dc bc lw v u w lg bk z A x) (L : SRl h) {a1 a2 : Nat} (W : SW h a1 a2) (F : M6 h) (y : Int32) : QRS h (FX11_soonest [vR (some 0), vI y]) (FX12_soonest [vR (some 147), vI y]) := by
  obtain ⟨K0, R01, R02, R04, R05, K3, R30, Ks, Rs2, Rs3, Rs4, Ks1, Es1, Ks2, Es2, Ks3, Es3, K10, R108, K11, E11, K14, K98, td, dcC, bcC, Ev, Eu⟩ := cfa I
  have hm := hom I
  have M0 := (mfa I).1
  have b5 : bc ≤ 5 := I.2.1.2.2.2.1.2.2.2.2.1.2
  have nz : ¬ nI bc = 0 := nI_nz I.2.1.2.2.2.2.1 (by omega)
  have Bv := I.2.2.1.2.1
  have k4 := I.2.2.1.2.2.2.1
  by_cases c1 : y < 1
  · obtain ⟨M147, R18, K152, E152, R20, K154, E154, R22, K156, E156, R32, K160, E160, dcM, bcM, Ew⟩ := mfa (ainv_t I)
    refine ⟨-1, h, _, ?_, ?_, SF.refl _, ⟨a1, a2, W⟩, mq_t h⟩
    · rw [tX11_soonest]; simp only [oB_some, dR_some, cond_true, cond_false, if_true, if_false, Bool.true_and, Bool.and_true, Nat.beq_refl, K0, hm, within11, c1]
    · rw [tX12_soonest]; simp only [oB_some, dR_some, cond_true, cond_false, if_true, if_false, Bool.true_and, Bool.and_true, Nat.beq_refl, M0, M147, bcM, nz, isIn_19, c1]
  by_cases c2 : (9 : Int32) < y
  · obtain ⟨M147, R18, K152, E152, R20, K154, E154, R22, K156, E156, R32, K160, E160, dcM, bcM, Ew⟩ := mfa (ainv_t I)
    refine ⟨-1, h, _, ?_, ?_, SF.refl _, ⟨a1, a2, W⟩, mq_t h⟩
    · rw [tX11_soonest]; simp only [oB_some, dR_some, cond_true, cond_false, if_true, if_false, Bool.true_and, Bool.and_true, Nat.beq_refl, K0, hm, within11, c1, c2]
    · rw [tX12_soonest]; simp only [oB_some, dR_some, cond_true, cond_false, if_true, if_false, Bool.true_and, Bool.and_true, Nat.beq_refl, M0, M147, bcM, nz, isIn_19, c1, c2]
  by_cases g1 : v 1 = 0
  · obtain ⟨b1, hb, eb⟩ := nI_of2 (x := y) (M := 9) (n := 9) (by decide) (fun q => c1 (Int32.lt_trans q (by decide))) (Int32.not_lt.mp c2)
    subst eb
    have hb0 : 1 ≤ b1 := by
      rcases Nat.lt_or_ge b1 1 with e | e
      · exfalso
        have : b1 = 0 := by omega
        subst this
        exact c1 (by decide)
      · exact e
    obtain ⟨res, h1, e1, G1, W1, A1⟩ := fewest_c I L W g1 hb0 (by omega)
    have I1 := ainv_ag I (sf_ag G1)
    have I1t := ainv_t I1
    have F1 : M6 (sI h1 147 0 0) := m6_mq (m6_sf F G1) (mq_t h1)
    obtain ⟨res', h2, e2, Q2, A2⟩ := soon_m I1t F1 (b1 := b1) g1 (by omega)
    have er := ans_uniq A1 A2
    subst er
    obtain ⟨M147, R18, K152, E152, R20, K154, E154, R22, K156, E156, R32, K160, E160, dcM, bcM, Ew⟩ := mfa I1t
    have M1 := (mfa I1).1
    have w1 : w 1 = 0 := by rw [k4.1 1 (by omega)]; exact g1
    refine ⟨res, h1, h2, ?_, ?_, G1, W1, (mq_t h1).trans (Q2.mono (by decide) (by simp))⟩
    · rw [tX11_soonest]
      simp only [oB_some, dR_some, cond_true, cond_false, if_true, if_false, Bool.true_and, Bool.and_true, Nat.beq_refl, K0, hm, within11, c1, c2, ne10, L.1.1, L.1.2.1, R02, e1]
    · rw [tX12_soonest]
      simp only [oB_some, dR_some, cond_true, cond_false, if_true, if_false, Bool.true_and, Bool.and_true, Nat.beq_refl, M1, M147, bcM, nz, isIn_19, c1, c2, ne10, R32, K160, E160, iaK20, show inb 1 381 = true from by decide, show (1 : Int32).toNatClampNeg = 1 from by decide, Ew, w1, show ¬ nI 0 = 1 from by decide]
      exact e2
  · have w1 : w 1 = 1 := by rw [k4.1 1 (by omega)]; have := Bv.2.1; omega
    have v1 : ¬ nI (v 1) = 0 := nI_nz (by omega) (by have := Bv.2.1; omega)
    obtain ⟨M147, R18, K152, E152, R20, K154, E154, R22, K156, E156, R32, K160, E160, dcM, bcM, Ew⟩ := mfa (ainv_t I)
    refine ⟨-1, h, sI h 147 0 0, ?_, ?_, SF.refl _, ⟨a1, a2, W⟩, mq_t h⟩
    · rw [tX11_soonest]
      simp only [oB_some, dR_some, cond_true, cond_false, if_true, if_false, Bool.true_and, Bool.and_true, Nat.beq_refl, K0, hm, within11, c1, c2, ne10, L.1.1, L.1.2.1, R02]
      rw [tX8_fewestWeeks]
      simp only [oB_some, dR_some, cond_true, cond_false, if_true, if_false, Bool.true_and, Bool.and_true, Nat.beq_refl, K10, Ev, v1]
    · rw [tX12_soonest]
      simp only [oB_some, dR_some, cond_true, cond_false, if_true, if_false, Bool.true_and, Bool.and_true, Nat.beq_refl, M0, M147, bcM, nz, isIn_19, c1, c2, ne10, R32, K160, E160, iaK20, show inb 1 381 = true from by decide, show (1 : Int32).toNatClampNeg = 1 from by decide, Ew, w1, show nI 1 = 1 from rfl]
