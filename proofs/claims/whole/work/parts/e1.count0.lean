/-! ===== PURE: count 0 and 1, with a house and without ===== -/
theorem count0_a {h : Hp} {s : Nat} {r d b : Nat → Nat} {dc bc : Nat} {lw : Option ((Nat → Int32) × Nat)} {v u w lg bk z : Nat → Nat} {A x : Nat} (I : AINV h s r d b dc bc lw v u w lg bk z A x) : FX11_count [vR (some 0), vI 0] h = some (rI (hI h 147 27), h) ∧ FX11_count [vR (some 0), vI 1] h = some (rI (hI h 147 26), h) := by
  obtain ⟨K0, R01, R02, R04, R05, K3, R30, Ks, Rs2, Rs3, Rs4, Ks1, Es1, Ks2, Es2, Ks3, Es3, K10, R108, K11, E11, K14, K98, td, dcC, bcC, Ev, Eu⟩ := cfa I
  obtain ⟨M147, R18, K152, E152, R20, K154, E154, R22, K156, E156, R32, K160, E160, dcM, bcM, Ew⟩ := mfa I
  have hm := hom I
  constructor
  · rw [tX11_count]; simp only [oB_some, dR_some, cond_true, cond_false, if_true, if_false, Bool.true_and, Bool.and_true, Nat.beq_refl, K0, hm, R01, K3, R30, Ks, bcC, bcM]
  · rw [tX11_count]; simp only [oB_some, dR_some, cond_true, cond_false, if_true, if_false, Bool.true_and, Bool.and_true, Nat.beq_refl, ne10, K0, hm, R01, K3, R30, Ks, dcC, dcM]
theorem count0_h {h : Hp} {s : Nat} (H : HOM h) (S : HOS h s) : FX11_count [vR (some 0), vI 0] h = some (rI (hI h 147 27), h) ∧ FX11_count [vR (some 0), vI 1] h = some (rI (hI h 147 26), h) := by
  obtain ⟨k0, k1, k2, k3⟩ := H
  constructor
  · rw [tX11_count]; simp only [oB_some, dR_some, cond_true, cond_false, if_true, if_false, Bool.true_and, Bool.and_true, Nat.beq_refl, k0, k3, ne10, k2]
  · rw [tX11_count]; simp only [oB_some, dR_some, cond_true, cond_false, if_true, if_false, Bool.true_and, Bool.and_true, Nat.beq_refl, ne10, k0, k3, S.2.2.2.2.2]
theorem mark_hom {h : Hp} {v u : Nat → Nat} {x : Nat} (P : PTL h) (C : CLa h 10 v u) (h1 : v 1 ≤ 1) (h3 : v 3 ≤ 1) (e : hI h 14 1 = nI x) (hx : x < 41) : ∃ h', FX5_mark [vR (some 14), vR (some 10)] h = some (rV, h') ∧ Only h h' [16 + 2 * x, 16 + 2 * x + 1] := by
  obtain ⟨⟨p1, p2, p3, p4⟩, p5, p6⟩ := P
  obtain ⟨h', e1, O, _⟩ := copy_g p6 (p5 x hx).2 (by omega) (by omega) (by omega) C h1 h3
  refine ⟨h', ?_, O⟩
  rw [tX5_mark]
  simp only [oB_some, dR_some, cond_true, cond_false, if_true, if_false, Bool.true_and, Bool.and_true, Nat.beq_refl, p1, p2, p3, p4, e, inb_nI hx (by omega), nI_clamp (show x < 2 ^ 31 by omega), (p5 x hx).1, (p5 x hx).2.1, e1]
