/-! ===== PURE: a plan read as a call in one heap ===== -/
def f0 (h : Hp) (q : Option Nat) : Nat → Int32 := match q with
  | none => fun _ => 0
  | some P => hI h (P + 1)
theorem PS_0 (h : Hp) (q : Option Nat) (p : Nat) (w : Int32) : PS h q (f0 h q) p w = tw h p w := by
  cases q with
  | none => rfl
  | some P =>
    show tw (wA h (P + 1) (hI h (P + 1))) p w = tw h p w
    rw [wA_self]
/-- the reference's side of reading a plan -/
def PSm (g : Hp) (n : Nat) (t : Nat → Int32) : Prop := hK g 147 = 12 ∧ hR g 147 1 = some 148 ∧ hI g 147 6 = nI n ∧ hK g 148 = 21 ∧ hE g 148 = 240 ∧ TB t (hI g 148) n ∧ (hR g 147 24 = some 158 ∧ hK g 158 = 20 ∧ hE g 158 = 240) ∧ (hR g 147 25 = some 159 ∧ hK g 159 = 20 ∧ hE g 159 = 5) ∧ StL g (PRE + 15) 4 (bT [119, 99, 115, 112])
theorem psm_fr {h g : Hp} {n : Nat} {t : Nat → Int32} (M : PSm h n t) (eK : hK g = hK h) (eE : hE g = hE h) (eR : ∀ k, (k = 1 ∨ k = 24 ∨ k = 25) → hR g 147 k = hR h 147 k) (e6 : hI g 147 6 = hI h 147 6) (e148 : hI g 148 = hI h 148) (eP : ∀ k, hI g (PRE + k) = hI h (PRE + k)) : PSm g n t := by
  obtain ⟨m1, m2, m3, m4, m5, m6, m7, m8, m9⟩ := M
  refine ⟨?_, ?_, ?_, ?_, ?_, ?_, ?_, ?_, stl_fr m9 eK eE (eP 115)⟩
  · rw [eK]; exact m1
  · rw [eR _ (by decide)]; exact m2
  · rw [e6]; exact m3
  · rw [eK]; exact m4
  · rw [eE]; exact m5
  · rw [e148]; exact m6
  · rw [eR _ (by decide), eK, eE]; exact m7
  · rw [eR _ (by decide), eK, eE]; exact m8
theorem plan_both {h g : Hp} {n : Nat} {q : Option Nat} (H : HT h n) (Q : QL h q) (M : PSm g n (hI h 2)) : PO2 h (mS g 148 0 n) q (hI g 158) (FX6_readFrom [vR (some 1), vR q] h) (FX12_readPlan [vR (some 147)] g) := by
  have hn := H.2.2
  obtain ⟨m1, m2, m3, m4, m5, m6, ⟨a1, a2, a3⟩, ⟨b1, b2, b3⟩, m9⟩ := M
  have P := PRE_big
  have R : RP (mS g 148 0 n) 148 0 n (hI h 2) := by
    refine ⟨⟨⟨⟨m1, ?_, m4, ?_, ?_, ?_, ?_, by decide⟩, fun i hi => ?_⟩, fun i hi => ?_⟩, ?_, a2, a3, ?_, b2, b3, ?_, by decide, by decide⟩
    · unfold mS; simp only [hR_sI, hR_sR, if_true]
    · show 0 + n ≤ hE g 148; omega
    · show hE g 148 ≤ 1000; omega
    · unfold mS; rw [hI_slot _ _ _ _ (by decide), hI_same]
    · unfold mS; rw [hI_same]
    · rw [mS_o _ _ _ _ (by decide), Nat.zero_add]; exact (m6 i hi).1
    · unfold mt; rw [mS_o _ _ _ _ (by decide), Nat.zero_add]; exact (m6 i hi).2
    · unfold mS; simp only [hR_sI, hR_sR, if_true, show ¬ ((24 : Nat) = 5) by decide, if_false]; exact a1
    · unfold mS; simp only [hR_sI, hR_sR, if_true, show ¬ ((25 : Nat) = 5) by decide, if_false]; exact b1
    · unfold StL
      rw [mS_o _ _ _ _ (show PRE + 15 + 100 ≠ 147 by decide)]
      exact m9
  have eA : FX6_readFrom [vR (some 1), vR q] h = Run kX6_readFrom 11 [some (vR (some 1)), some (vR q), some (vI 1), some (vI (nI 0)), some (vI (nI 0))] [] (PS h q (f0 h q) 0 (-1)) := by
    rw [tX6_readFrom, PS_0, nI_0]
    simp only [oB_some, dR_some, cond_true, cond_false, if_true, if_false, Bool.true_and, Bool.and_true, Nat.beq_refl, H.1.1, tp_rewind H.1]
  have eB : FX12_readPlan [vR (some 147)] g = Run kX12_readPlan 17 [some (vR (some 147)), some (vI (nI 0)), some (vI 1)] [] (MP (mS g 148 0 n) (hI (mS g 148 0 n) 158) 0 (-1)) := by
    rw [tX12_readPlan, tX12_starts]
    simp only [oB_some, dR_some, cond_true, cond_false, if_true, if_false, Bool.true_and, Bool.and_true, Nat.beq_refl, m1, m2, m3, hK_sI, hK_sR]
    unfold MP mw
    rw [wA_self]
    unfold mS
    rw [nI_0]
  rw [eA, eB]
  exact plan_loop2 H Q R 15 0 0 (f0 h q) _ (by omega) (by omega) (fun j hj => absurd hj (by omega)) (fun i hi => absurd hi (by omega)) (fun j hj => by rw [mS_o _ _ _ _ (by decide)])
theorem plan_cls {h : Hp} {n : Nat} {q : Option Nat} (H : HT h n) (Q : QL h q) (M : PSm h n (hI h 2)) : ∃ w f' p1 c, FX6_readFrom [vR (some 1), vR q] h = some (rI w, PC (PS h q f' p1 w) q c) := by
  rcases plan_both H Q M with ⟨cnt, f', r', p1, p2, _, _, _, _, _, y1, _⟩ | ⟨w, f', r', p1, p2, c, hm', _, _, y1, _⟩
  · exact ⟨_, _, _, _, y1⟩
  · exact ⟨_, _, _, _, y1⟩
theorem PC_cell {h : Hp} {P : Nat} {f : Nat → Int32} {p : Nat} {w x : Int32} (hP : 2 < P) : hI (PC (PS h (some P) f p w) (some P) x) P 1 = x ∧ hI (PC (PS h (some P) f p w) (some P) x) (P + 1) = f := by
  refine ⟨hI_same _ _ _ _, ?_⟩
  show hI (sI (tw (wA h (P + 1) f) p w) P 1 x) (P + 1) = f
  rw [hI_row _ _ _ _ (by omega)]
  unfold tw
  rw [hI_row _ _ _ _ (by omega), hI_row _ _ _ _ (by omega), wA_I]
theorem plan_two {h g h1 : Hp} {n : Nat} {q : Option Nat} {w : Int32} (H : HT h n) (Q : QL h q) (M : PSm g n (hI h 2)) (e : FX6_readFrom [vR (some 1), vR q] h = some (rI w, h1)) :
    ∃ hm' r' p2, (hm' = mS g 148 0 n ∨ ∃ d, hm' = sI (mS g 148 0 n) 159 4 d) ∧ FX12_readPlan [vR (some 147)] g = some (rV, MP hm' r' p2 w) ∧ (∀ j, j < 192 → r' j = hI g 158 j) ∧ (w = -1 → ∀ P, q = some P → ∃ cnt, 0 < cnt ∧ cnt ≤ 16 ∧ hm' = sI (mS g 148 0 n) 159 4 (nI cnt) ∧ hI h1 P 1 = nI cnt ∧ (∀ j, j < 3 * cnt → hI h1 (P + 1) j = r' (192 + j)) ∧ (∀ i, i < cnt → stp (hI h1 (P + 1) (3 * i)) (hI h1 (P + 1) (3 * i + 1)))) := by
  rcases plan_both H Q M with ⟨cnt, f', r', p1, p2, c1, c2, c3, c4, c5, y1, y2⟩ | ⟨w', f', r', p1, p2, c, hm', y0, c5, y1, y2, y3⟩
  · obtain ⟨i1, i2⟩ := some_inj e y1
    subst i1; subst i2
    refine ⟨_, r', p2, Or.inr ⟨_, rfl⟩, y2, c5, fun _ P eq => ?_⟩
    subst eq
    obtain ⟨z1, z2⟩ := PC_cell (h := h) (f := f') (p := p1) (w := -1) (x := nI cnt) (Q P rfl).2.2.2.2
    refine ⟨cnt, c1, c2, rfl, z1, ?_, ?_⟩
    · rw [z2]; exact c3
    · rw [z2]; exact c4
  · obtain ⟨i1, i2⟩ := some_inj e y1
    subst i1; subst i2
    exact ⟨hm', r', p2, y2, y3, c5, fun z => absurd z y0⟩
/-- what reading a plan may leave -/
def plP (q : Option Nat) (a k : Nat) : Prop := (a = 1 ∧ (k = 2 ∨ k = 3)) ∨ (∃ P, q = some P ∧ (a = P ∨ a = P + 1)) ∨ (a = 147 ∧ (k = 0 ∨ k = 5 ∨ k = 8 ∨ k = 9 ∨ k = 10 ∨ k = 11)) ∨ (a = 158 ∧ 192 ≤ k) ∨ (a = 159 ∧ k = 4)
theorem pcs_fr (h : Hp) (q : Option Nat) (f : Nat → Int32) (p : Nat) (w x : Int32) : FR (plP q) h (PC (PS h q f p w) q x) := by
  cases q with
  | none => exact fr_tw _ _ _ (by unfold plP; omega) (by unfold plP; omega)
  | some P => exact ((fr_wA h (P + 1) f (fun k => Or.inr (Or.inl ⟨P, rfl, Or.inr rfl⟩))).trans (fr_tw _ _ _ (Or.inl ⟨rfl, Or.inl rfl⟩) (Or.inl ⟨rfl, Or.inr rfl⟩))).trans (fr_sI _ _ _ _ (Or.inr (Or.inl ⟨P, rfl, Or.inl rfl⟩)))
theorem mS_frp {P : Nat → Nat → Prop} (g : Hp) (n : Nat) (p5 : P 147 5) (p8 : P 147 8) (p9 : P 147 9) : FR P g (mS g 148 0 n) := by
  unfold mS
  exact ((fr_sR _ _ _ _ p5).trans (fr_sI _ _ _ _ p8)).trans (fr_sI _ _ _ _ p9)
theorem mp_fr {g hm' : Hp} {n : Nat} (q : Option Nat) (E : hm' = mS g 148 0 n ∨ ∃ d, hm' = sI (mS g 148 0 n) 159 4 d) (r : Nat → Int32) (p : Nat) (w : Int32) (er : ∀ j, j < 192 → r j = hI g 158 j) : FR (plP q) g (MP hm' r p w) := by
  have p7 : ∀ k, (k = 0 ∨ k = 5 ∨ k = 8 ∨ k = 9 ∨ k = 10 ∨ k = 11) → plP q 147 k := fun k z => Or.inr (Or.inr (Or.inl ⟨rfl, z⟩))
  have a1 : FR (plP q) g (mS g 148 0 n) := mS_frp g n (p7 _ (by omega)) (p7 _ (by omega)) (p7 _ (by omega))
  have a2 : FR (plP q) g hm' := by
    rcases E with rfl | ⟨d, rfl⟩
    · exact a1
    · exact a1.trans (fr_sI _ _ _ _ (Or.inr (Or.inr (Or.inr (Or.inr ⟨rfl, rfl⟩)))))
  have a3 : FR (plP q) g (wA hm' 158 r) := by
    refine ⟨a2.1, a2.2.1, a2.2.2.1, a2.2.2.2.1, a2.2.2.2.2.1, fun a k p => ?_, a2.2.2.2.2.2.2⟩
    by_cases c : a = 158
    · subst c
      rw [wA_I]
      by_cases c2 : k < 192
      · exact er k c2
      · exact absurd (Or.inr (Or.inr (Or.inr (Or.inl ⟨rfl, by omega⟩)))) p
    · rw [wA_O _ _ c]; exact a2.2.2.2.2.2.1 a k p
  exact a3.trans (fr_mw _ _ _ (p7 _ (by omega)) (p7 _ (by omega)))
theorem fault_m2 {g h2 : Hp} (k1 : hK g 147 = 12) (k2 : hK h2 147 = 12) (e : FX12_readPlan [vR (some 147)] (sI g 147 0 0) = some (rV, h2)) : FX12_fault [vR (some 147), vI 2] g = some (rI (hI h2 147 11), h2) := by
  rw [tX12_fault]
  simp only [oB_some, dR_some, cond_true, cond_false, if_true, if_false, Bool.true_and, Bool.and_true, Nat.beq_refl, k1, k2, hK_sI, isIn_02, show ¬ (2 : Int32) < 0 by decide, show ¬ (2 : Int32) < 2 by decide, show ¬ (1 : Int32) = 0 by decide, show ¬ (2 : Int32) = 0 by decide, show ¬ (2 : Int32) = 1 by decide, e]
theorem fault_2 {h : Hp} {n : Nat} (K0 : hK h 0 = 11) (R00 : hR h 0 0 = some 1) (H : HT h n) (M : PSm h n (hI h 2)) :
    ∃ res h1 h2, FX11_fault [vR (some 0), vI 2] h = some (rI res, h1) ∧ FX12_fault [vR (some 147), vI 2] h1 = some (rI res, h2) ∧ FR (plP none) h h2 := by
  have PB := PRE_big
  have Q : QL h none := fun P z => by cases z
  obtain ⟨w, f', p1, c, e⟩ := plan_cls H Q M
  have F1 := pcs_fr h none f' p1 w c
  have np : ∀ a k, a ≠ 1 → a ≠ 147 → a ≠ 158 → a ≠ 159 → ¬ plP none a k := fun a k z1 z2 z3 z4 z => by
    rcases z with ⟨z, _⟩ | ⟨P, z, _⟩ | ⟨z, _⟩ | ⟨z, _⟩ | ⟨z, _⟩
    · exact z1 z
    · cases z
    · exact z2 z
    · exact z3 z
    · exact z4 z
  have n6 : ¬ plP none 147 6 := fun z => by
    rcases z with ⟨z, _⟩ | ⟨P, z, _⟩ | ⟨_, z⟩ | ⟨z, _⟩ | ⟨z, _⟩
    · omega
    · cases z
    · omega
    · omega
    · omega
  have M1 : PSm (sI (PC (PS h none f' p1 w) none c) 147 0 0) n (hI h 2) := psm_fr M F1.2.2.1 F1.2.2.2.1 (fun k _ => rfl) (by rw [hI_slot _ _ _ _ (by decide)]; exact F1.2.2.2.2.2.1 _ _ n6) (by rw [hI_row _ _ _ _ (by decide)]; exact funext fun k => F1.2.2.2.2.2.1 _ _ (np _ _ (by omega) (by omega) (by omega) (by omega))) (fun k => by rw [hI_row _ _ _ _ (by omega)]; exact funext fun j => F1.2.2.2.2.2.1 _ _ (np _ _ (by omega) (by omega) (by omega) (by omega)))
  obtain ⟨hm', r', p2, E, e2, er, _⟩ := plan_two H Q M1 e
  have F2 : FR (plP none) (PC (PS h none f' p1 w) none c) (MP hm' r' p2 w) := (fr_sI _ 147 0 0 (Or.inr (Or.inr (Or.inl ⟨rfl, Or.inl rfl⟩)))).trans (mp_fr none E r' p2 w er)
  have k147 : hK h 147 = 12 := M.1
  refine ⟨w, PC (PS h none f' p1 w) none c, MP hm' r' p2 w, ?_, ?_, F1.trans F2⟩
  · rw [tX11_fault]; simp only [oB_some, dR_some, cond_true, cond_false, if_true, if_false, Bool.true_and, Bool.and_true, Nat.beq_refl, K0, R00, e, show ¬ (2 : Int32) = 0 by decide, show ¬ (2 : Int32) = 1 by decide]
  · rw [fault_m2 (by rw [F1.2.2.1]; exact k147) (by rw [F2.2.2.1, F1.2.2.1]; exact k147) e2, MP_11]
