/-! ===== PURE: text of a plan, both ===== -/
def TPE (h : Hp) : Prop := ∃ n, n ≤ 240 ∧ hI h 1 1 = nI n ∧ hI h 147 6 = nI n ∧ TB (hI h 2) (hI h 148) n
def t2P (a k : Nat) : Prop := (a = 0 ∧ k = 17) ∨ (a = 1 ∧ (k = 1 ∨ k = 2 ∨ k = 3)) ∨ (139 ≤ a ∧ a ≤ 146) ∨ (a = 147 ∧ (k = 0 ∨ k = 5 ∨ k = 6 ∨ k = 8 ∨ k = 9 ∨ k = 10 ∨ k = 11 ∨ k = 30)) ∨ a = 158 ∨ a = 159
theorem plP_t2 {pc : Nat} (hp : pc < 4) : ∀ a k, plP (some (139 + 2 * pc)) a k → t2P a k := by
  intro a k z
  unfold t2P
  rcases z with z | ⟨P, e, z⟩ | z | z | z
  · omega
  · injection e with e; omega
  · omega
  · omega
  · omega
theorem plP_no {pc a k : Nat} (h1 : a ≠ 1 ∨ (k ≠ 2 ∧ k ≠ 3)) (h2 : a ≠ 139 + 2 * pc) (h3 : a ≠ 139 + 2 * pc + 1) (h4 : a ≠ 147 ∨ (k ≠ 0 ∧ k ≠ 5 ∧ k ≠ 8 ∧ k ≠ 9 ∧ k ≠ 10 ∧ k ≠ 11)) (h5 : a ≠ 158 ∨ k < 192) (h6 : a ≠ 159 ∨ k ≠ 4) : ¬ plP (some (139 + 2 * pc)) a k := by
  intro z
  rcases z with z | ⟨P, e, z⟩ | z | z | z
  · omega
  · injection e with e; omega
  · omega
  · omega
  · omega
theorem plN_t2 : ∀ a k, plP none a k → t2P a k := by
  intro a k z
  unfold t2P
  rcases z with z | ⟨P, e, z⟩ | z | z | z
  · omega
  · cases e
  · omega
  · omega
  · omega
theorem plN_no {a k : Nat} (h1 : a ≠ 1 ∨ (k ≠ 2 ∧ k ≠ 3)) (h4 : a ≠ 147 ∨ (k ≠ 0 ∧ k ≠ 5 ∧ k ≠ 8 ∧ k ≠ 9 ∧ k ≠ 10 ∧ k ≠ 11)) (h5 : a ≠ 158 ∨ k < 192) (h6 : a ≠ 159 ∨ k ≠ 4) : ¬ plP none a k := by
  intro z
  rcases z with z | ⟨P, e, z⟩ | z | z | z
  · omega
  · cases e
  · omega
  · omega
  · omega
theorem tpe_fr {h h' : Hp} {P : Nat → Nat → Prop} (T : TPE h) (F : FR P h h') (n1 : ¬ P 1 1) (n2 : ¬ P 147 6) (n3 : ∀ k, ¬ P 2 k) (n4 : ∀ k, ¬ P 148 k) : TPE h' := by
  obtain ⟨n, t1, t2, t3, t4⟩ := T
  have f := F.2.2.2.2.2.1
  refine ⟨n, t1, (f _ _ n1).trans t2, (f _ _ n2).trans t3, ?_⟩
  rw [show hI h' 2 = hI h 2 from funext fun k => f _ _ (n3 k), show hI h' 148 = hI h 148 from funext fun k => f _ _ (n4 k)]
  exact t4
theorem text_2 {h : Hp} {n pc : Nat} {pn : Nat → Nat} (K0 : hK h 0 = 11) (R00 : hR h 0 0 = some 1) (H : HT h n) (M : PSm h n (hI h 2)) (L : PLl h) (N : PLN h pc pn) :
    ∃ res h1 h2, FX11_text [vR (some 0), vI 2] h = some (rI res, h1) ∧ FX12_text [vR (some 147), vI 2] h1 = some (rI res, h2) ∧ FR t2P h h2 ∧ (∀ a k, (a ≠ 147 ∨ k ≠ 5) → hR h2 a k = hR h a k) ∧ TPE h2 ∧ ∃ pc' pn', PLN h2 pc' pn' := by
  have PB := PRE_big
  have T0 : TPE h := ⟨n, H.2.2, H.2.1, M.2.2.1, M.2.2.2.2.2.1⟩
  obtain ⟨N1, N2, N3, N4⟩ := N
  have L0 := L
  obtain ⟨⟨a1, a2, a3⟩, a4, ⟨b1, b2, b3⟩, ⟨d1, d2, d3⟩⟩ := L0
  have k147 : hK h 147 = 12 := M.1
  by_cases hp : pc = 4
  · subst hp
    obtain ⟨res, h1, h2, y1, y2, O, Q⟩ := text_full2 K0 k147 L N2 N3
    have y1' : FX11_text [vR (some 0), vI 2] h = some (rI (-1), h) := by
      rw [tX11_text, tX11_tellPlan]
      simp only [oB_some, dR_some, cond_true, cond_false, if_true, if_false, Bool.true_and, Bool.and_true, Nat.beq_refl, K0, a1, a2, a3, show alK 36 = true from rfl, N2, show Int32.ofNat 4 ≤ nI 4 by decide, show ¬ (2 : Int32) = 0 by decide, show ¬ (2 : Int32) = 1 by decide]
    have y2' : FX12_text [vR (some 147), vI 2] h = some (rI (-1), sI h 147 0 0) := by
      have e : hI (sI h 147 0 0) 147 30 = 4 := by rw [hI_slot _ _ _ _ (by decide)]; exact N3
      rw [tX12_text]
      simp only [oB_some, dR_some, cond_true, cond_false, if_true, if_false, Bool.true_and, Bool.and_true, Nat.beq_refl, k147, hK_sI, isIn_02, show ¬ (2 : Int32) < 0 by decide, show ¬ (2 : Int32) < 2 by decide, show ¬ (1 : Int32) = 0 by decide, show ¬ (2 : Int32) = 1 by decide, e]
    have F : FR t2P h (sI h 147 0 0) := fr_sI _ _ _ _ (by unfold t2P; omega)
    refine ⟨-1, h, sI h 147 0 0, y1', y2', F, fun _ _ _ => rfl, ?_, 4, pn, N1, ?_, ?_, fun p hp' => ?_⟩
    · obtain ⟨m, t1, t2, t3, t4⟩ := T0
      exact ⟨m, t1, by rw [hI_oth _ _ _ _ _ (by decide)]; exact t2, by rw [hI_slot _ _ _ _ (by decide)]; exact t3, by rw [hI_row _ _ _ _ (by decide), hI_row _ _ _ _ (by decide)]; exact t4⟩
    · rw [hI_oth _ _ _ _ _ (by decide)]; exact N2
    · rw [hI_slot _ _ _ _ (by decide)]; exact N3
    · have := N4 p hp'
      unfold PLp
      rw [hI_row _ _ _ _ (show 139 + 2 * p ≠ 147 by omega), hI_row _ _ _ _ (show 140 + 2 * p ≠ 147 by omega), hI_row _ _ _ _ (show 159 ≠ 147 by omega), hI_row _ _ _ _ (show 158 ≠ 147 by omega)]
      exact this
  have hp4 : pc < 4 := by omega
  obtain ⟨q1, q2, q3, q4, q5⟩ := a4 pc hp4
  have Q : QL h (some (139 + 2 * pc)) := fun P z => by
    injection z with z
    subst z
    exact ⟨q2, by rw [q3]; congr 1; omega, by rw [show 139 + 2 * pc + 1 = 140 + 2 * pc by omega]; exact q4, by rw [show 139 + 2 * pc + 1 = 140 + 2 * pc by omega]; exact q5, by omega⟩
  obtain ⟨w, f', p1, c, e⟩ := plan_cls H Q M
  have F1 := pcs_fr h (some (139 + 2 * pc)) f' p1 w c
  have R0 : ∀ a k, hR (PC (PS h (some (139 + 2 * pc)) f' p1 w) (some (139 + 2 * pc)) c) a k = hR h a k := fun a k => rfl
  generalize eh : PC (PS h (some (139 + 2 * pc)) f' p1 w) (some (139 + 2 * pc)) c = h1 at e F1 R0
  have I1 := F1.2.2.2.2.2.1
  have k0 : hK h1 0 = 11 := by rw [F1.2.2.1]; exact K0
  have k1 : hK h1 1 = 9 := by rw [F1.2.2.1]; exact H.1.1
  have r00 : hR h1 0 0 = some 1 := by rw [F1.2.2.2.2.1 _ _ (plP_no (by omega) (by omega) (by omega) (by omega) (by omega) (by omega))]; exact R00
  have e17 : hI h1 0 17 = nI pc := by rw [I1 _ _ (plP_no (by omega) (by omega) (by omega) (by omega) (by omega) (by omega))]; exact N2
  have tc := text_c2 K0 R00 L N2 hp4 e k0 k1 r00 e17
  -- the reference over any heap that is like h1
  have two : ∀ g, hK g = hK h1 → hE g = hE h1 → hR g = hR h1 → (∀ a, a ≠ 0 → a ≠ 1 → hI g a = hI h1 a) → ∃ hm' r' p2, (hm' = mS (sI g 147 0 0) 148 0 n ∨ ∃ d, hm' = sI (mS (sI g 147 0 0) 148 0 n) 159 4 d) ∧ FX12_fault [vR (some 147), vI 2] (sI g 147 0 0) = some (rI w, MP hm' r' p2 w) ∧ (∀ j, j < 192 → r' j = hI h 158 j) ∧ FR (plP none) g (MP hm' r' p2 w) ∧ (w = -1 → ∃ cnt, 0 < cnt ∧ cnt ≤ 16 ∧ hm' = sI (mS (sI g 147 0 0) 148 0 n) 159 4 (nI cnt) ∧ hI h1 (139 + 2 * pc) 1 = nI cnt ∧ (∀ j, j < 3 * cnt → hI h1 (140 + 2 * pc) j = r' (192 + j)) ∧ (∀ i, i < cnt → stp (hI h1 (140 + 2 * pc) (3 * i)) (hI h1 (140 + 2 * pc) (3 * i + 1)))) := by
    intro g eK eE eR eI
    have M1 : PSm (sI g 147 0 0) n (hI h 2) := by
      refine psm_fr M (by rw [← F1.2.2.1, ← eK]; rfl) (by rw [← F1.2.2.2.1, ← eE]; rfl) (fun k z => ?_) ?_ ?_ (fun k => ?_)
      · rw [hR_sI, eR]; exact F1.2.2.2.2.1 _ _ (fun z2 => by
          refine plP_no ?_ ?_ ?_ ?_ ?_ ?_ z2 <;> omega)
      · rw [hI_slot _ _ _ _ (by decide), eI _ (by decide) (by decide)]; exact I1 _ _ (plP_no (by omega) (by omega) (by omega) (by omega) (by omega) (by omega))
      · rw [hI_row _ _ _ _ (by decide), eI _ (by decide) (by decide)]; exact funext fun j => I1 _ _ (plP_no (by omega) (by omega) (by omega) (by omega) (by omega) (by omega))
      · rw [hI_row _ _ _ _ (by omega), eI _ (by omega) (by omega)]; exact funext fun j => I1 _ _ (plP_no (by omega) (by omega) (by omega) (by omega) (by omega) (by omega))
    obtain ⟨hm', r', p2, E, y1, y2, y3⟩ := plan_two H Q M1 e
    have F2 : FR (plP none) g (MP hm' r' p2 w) := (fr_sI _ 147 0 0 (Or.inr (Or.inr (Or.inl ⟨rfl, Or.inl rfl⟩)))).trans (mp_fr none E r' p2 w y2)
    have kg : hK g 147 = 12 := by rw [eK, F1.2.2.1]; exact k147
    have y1' := fault_m2 (g := sI g 147 0 0) kg (by rw [F2.2.2.1]; exact kg) (by rw [sI_sI]; exact y1)
    rw [MP_11] at y1'
    refine ⟨hm', r', p2, E, y1', fun j hj => ?_, F2, fun z => ?_⟩
    · rw [y2 j hj, hI_oth _ _ _ _ _ (by decide), eI _ (by decide) (by decide)]
      exact I1 _ _ (plP_no (by omega) (by omega) (by omega) (by omega) (by omega) (by omega))
    · obtain ⟨cnt, c1, c2, c3, c4, c5, c6⟩ := y3 z _ rfl
      rw [show 139 + 2 * pc + 1 = 140 + 2 * pc by omega] at c5 c6
      exact ⟨cnt, c1, c2, c3, c4, c5, c6⟩
  by_cases cw : w = -1
  · rw [if_pos cw] at tc
    obtain ⟨hm', r', p2, E, y1, y2, F2, y3⟩ := two (sI (sI h1 0 17 (nI (pc + 1))) 1 1 0) rfl rfl rfl (fun a z1 z2 => by rw [hI_row _ _ _ _ z2, hI_row _ _ _ _ z1])
    obtain ⟨cnt, c1, c2, c3, c4, c5, c6⟩ := y3 cw
    have kg : hK (sI (sI h1 0 17 (nI (pc + 1))) 1 1 0) 147 = 12 := by show hK h1 147 = 12; rw [F1.2.2.1]; exact k147
    have e30 : hI (sI (sI h1 0 17 (nI (pc + 1))) 1 1 0) 147 30 = nI pc := by
      rw [hI_oth _ _ _ _ _ (by decide), hI_oth _ _ _ _ _ (by decide), I1 _ _ (plP_no (by omega) (by omega) (by omega) (by omega) (by omega) (by omega))]; exact N3
    have ym := text_m2 hp4 kg e30 (by rw [F2.2.2.1]; exact kg) y1
    rw [if_pos cw] at ym
    have F0 : FR t2P h (sI (sI h1 0 17 (nI (pc + 1))) 1 1 0) := ((F1.mono (plP_t2 hp4)).trans (fr_sI _ _ _ _ (by unfold t2P; omega))).trans (fr_sI _ _ _ _ (by unfold t2P; omega))
    have F3 := F0.trans (F2.mono plN_t2)
    generalize eg : sI (sI h1 0 17 (nI (pc + 1))) 1 1 0 = g at *
    have F2i := F2.2.2.2.2.2.1
    -- the loop
    have s158 : sI (MP hm' r' p2 w) 147 6 0 = wA (sI (MP hm' r' p2 w) 147 6 0) 158 r' := by
      have z : hI (sI (MP hm' r' p2 w) 147 6 0) 158 = r' := by
        rw [hI_row _ _ _ _ (by decide)]; unfold MP; rw [mw_row _ _ _ (by decide), wA_I]
      conv => lhs; rw [← wA_self (sI (MP hm' r' p2 w) 147 6 0) 158, z]
    have kx : hK (sI (MP hm' r' p2 w) 147 6 0) 147 = 12 := by show hK (MP hm' r' p2 w) 147 = 12; rw [F2.2.2.1]; exact kg
    have fr : ∀ k, hR (MP hm' r' p2 w) 147 k = hR (MP hm' r' p2 w) 147 k := fun _ => rfl
    have R1 : hR (MP hm' r' p2 w) 147 24 = some 158 := by rw [F3.2.2.2.2.1 _ _ (by unfold t2P; omega)]; exact b1
    have S1 : hR (MP hm' r' p2 w) 147 25 = some 159 := by rw [F3.2.2.2.2.1 _ _ (by unfold t2P; omega)]; exact d1
    have K3 : hK (MP hm' r' p2 w) = hK h := F3.2.2.1
    have E3 : hE (MP hm' r' p2 w) = hE h := F3.2.2.2.1
    have e30' : hI (sI (MP hm' r' p2 w) 147 6 0) 147 30 = nI pc := by
      rw [hI_slot _ _ _ _ (by decide), F2i _ _ (plN_no (by omega) (by omega) (by omega) (by omega))]; exact e30
    have l0 := tx_137 (g := sI (MP hm' r' p2 w) 147 6 0) (u := fun j => r' (192 + j)) hp4 kx R1 (by rw [hK_sI, K3]; exact b2) (by rw [hE_sI, E3]; exact b3) S1 (by rw [hK_sI, K3]; exact d2) (by rw [hE_sI, E3]; exact d3) e30' 48 0 r' (some (vI 2)) (some (vI (hI (MP hm' r' p2 w) 147 6))) (by omega) (fun j _ => rfl)
    have c159 : hI (sI (MP hm' r' p2 w) 147 6 0) 159 4 = nI cnt := by
      rw [hI_oth _ _ _ _ _ (by decide)]; unfold MP; rw [mw_row _ _ _ (by decide), wA_O _ _ (by decide), c3, hI_same]
    rw [← s158, c159, nI_0] at l0
    refine ⟨nI pc, g, _, tc, ym.trans l0, ?_, fun a k z => ?_, ⟨0, by omega, ?_, ?_, fun i hi => absurd hi (by omega)⟩, pc + 1, up1 pn pc cnt, by omega, ?_, ?_, fun p hp' => ?_⟩
    · exact (((F3.trans (fr_sI _ _ _ _ (by unfold t2P; omega))).trans (fr_wA _ _ _ (fun k => by unfold t2P; omega))).trans (fr_sI _ _ _ _ (by unfold t2P; omega))).trans (fr_sI _ _ _ _ (by unfold t2P; omega))
    · rw [← R0 a k]
      show hR hm' a k = hR h1 a k
      rw [c3, hR_sI, mS_R _ _ _ _ z, hR_sI, ← eg]; rfl
    · rw [hI_oth _ _ _ _ _ (by decide), hI_oth _ _ _ _ _ (by decide), wA_O _ _ (by decide), hI_oth _ _ _ _ _ (by decide), F2i _ _ (plN_no (by omega) (by omega) (by omega) (by omega)), ← eg, hI_same]
      rfl
    · rw [hI_slot _ _ _ _ (by decide), hI_oth _ _ _ _ _ (by decide), wA_O _ _ (by decide), hI_same]; rfl
    · rw [hI_oth _ _ _ _ _ (by decide), hI_oth _ _ _ _ _ (by decide), wA_O _ _ (by decide), hI_oth _ _ _ _ _ (by decide), F2i _ _ (plN_no (by omega) (by omega) (by omega) (by omega)), ← eg, hI_oth _ _ _ _ _ (by decide), hI_same]
    · rw [hI_same]
    · have hA : ∀ a, a ≠ 0 → a ≠ 1 → a ≠ 147 → a ≠ 158 → a ≠ 159 → hI (sI (sI (wA (sI (MP hm' r' p2 w) 147 6 0) 158 (fil (fun j => r' (192 + j)) (48 * pc) 48 0 r')) 159 pc (nI cnt)) 147 30 (nI (pc + 1))) a = hI h1 a := by
        intro a z0 z1 z2 z3 z4
        rw [hI_row _ _ _ _ z2, hI_row _ _ _ _ z4, wA_O _ _ z3, hI_row _ _ _ _ z2]
        refine funext fun k => (F2i a k (plN_no (by omega) (by omega) (by omega) (by omega))).trans ?_
        rw [← eg, hI_oth _ _ _ _ _ z1, hI_oth _ _ _ _ _ z0]
      have hB : hI (sI (sI (wA (sI (MP hm' r' p2 w) 147 6 0) 158 (fil (fun j => r' (192 + j)) (48 * pc) 48 0 r')) 159 pc (nI cnt)) 147 30 (nI (pc + 1))) 158 = fil (fun j => r' (192 + j)) (48 * pc) 48 0 r' := by
        rw [hI_row _ _ _ _ (by decide), hI_row _ _ _ _ (by decide), wA_I]
      have hC : hI (sI (sI (wA (sI (MP hm' r' p2 w) 147 6 0) 158 (fil (fun j => r' (192 + j)) (48 * pc) 48 0 r')) 159 pc (nI cnt)) 147 30 (nI (pc + 1))) 159 = up1 (hI (MP hm' r' p2 w) 159) pc (nI cnt) := by
        rw [hI_row _ _ _ _ (by decide)]
        funext k
        by_cases z : k = pc
        · subst z; rw [hI_same, up1_s]
        · rw [hI_slot _ _ _ _ z, up1_o _ _ z, wA_O _ _ (by decide), hI_row _ _ _ _ (by decide)]
      unfold PLp
      rw [hA (139 + 2 * p) (by omega) (by omega) (by omega) (by omega) (by omega), hA (140 + 2 * p) (by omega) (by omega) (by omega) (by omega) (by omega), hB, hC]
      by_cases z : p = pc
      · subst z
        rw [up1_s, up1_s]
        refine ⟨c1, c2, c4, rfl, fun j hj => ?_, c6⟩
        rw [fil_in _ _ _ _ _ _ (by omega) (by omega)]
        exact c5 j hj
      · have hp2 : p < pc := by omega
        obtain ⟨m1, m2, m3, m4, m5, m6⟩ := N4 p hp2
        rw [up1_o _ _ z, up1_o _ _ z]
        have i1 : hI h1 (139 + 2 * p) = hI h (139 + 2 * p) := funext fun k => I1 _ _ (plP_no (by omega) (by omega) (by omega) (by omega) (by omega) (by omega))
        have i2 : hI h1 (140 + 2 * p) = hI h (140 + 2 * p) := funext fun k => I1 _ _ (plP_no (by omega) (by omega) (by omega) (by omega) (by omega) (by omega))
        rw [i1, i2]
        refine ⟨m1, m2, m3, ?_, fun j hj => ?_, m6⟩
        · rw [F2i _ _ (plN_no (by omega) (by omega) (by omega) (by omega)), ← eg, hI_oth _ _ _ _ _ (by decide), hI_oth _ _ _ _ _ (by decide), I1 _ _ (plP_no (by omega) (by omega) (by omega) (by omega) (by omega) (by omega))]
          exact m4
        · rw [fil_out _ _ _ _ _ _ (by omega), y2 _ (by omega)]
          exact m5 j hj
  · rw [if_neg cw] at tc
    obtain ⟨hm', r', p2, E, y1, y2, F2, _⟩ := two h1 rfl rfl rfl (fun a _ _ => rfl)
    have kg : hK h1 147 = 12 := by rw [F1.2.2.1]; exact k147
    have e30 : hI h1 147 30 = nI pc := by rw [I1 _ _ (plP_no (by omega) (by omega) (by omega) (by omega) (by omega) (by omega))]; exact N3
    have ym := text_m2 hp4 kg e30 (by rw [F2.2.2.1]; exact kg) y1
    rw [if_neg cw] at ym
    have F3 := F1.trans (F2.mono (fun a k z => (show plP (some (139 + 2 * pc)) a k by
      rcases z with z | ⟨P, e2, z⟩ | z | z | z
      · exact Or.inl z
      · cases e2
      · exact Or.inr (Or.inr (Or.inl z))
      · exact Or.inr (Or.inr (Or.inr (Or.inl z)))
      · exact Or.inr (Or.inr (Or.inr (Or.inr z))))))
    have F4 := F3.mono (plP_t2 hp4)
    have F3i := F3.2.2.2.2.2.1
    have no : ∀ {a k : Nat}, (a ≠ 1 ∨ (k ≠ 2 ∧ k ≠ 3)) → a ≠ 139 + 2 * pc → a ≠ 139 + 2 * pc + 1 → (a ≠ 147 ∨ (k ≠ 0 ∧ k ≠ 5 ∧ k ≠ 8 ∧ k ≠ 9 ∧ k ≠ 10 ∧ k ≠ 11)) → (a ≠ 158 ∨ k < 192) → (a ≠ 159 ∨ k ≠ 4) → hI (MP hm' r' p2 w) a k = hI h a k := fun z1 z2 z3 z4 z5 z6 => F3i _ _ (plP_no z1 z2 z3 z4 z5 z6)
    refine ⟨-1, h1, _, tc, ym, F4, (fun a k z => by
      rw [← R0 a k]
      show hR hm' a k = hR h1 a k
      rcases E with E | ⟨dd, E⟩
      · rw [E, mS_R _ _ _ _ z, hR_sI]
      · rw [E, hR_sI, mS_R _ _ _ _ z, hR_sI]), tpe_fr T0 F3 (plP_no (by omega) (by omega) (by omega) (by omega) (by omega) (by omega)) (plP_no (by omega) (by omega) (by omega) (by omega) (by omega) (by omega)) (fun k => plP_no (by omega) (by omega) (by omega) (by omega) (by omega) (by omega)) (fun k => plP_no (by omega) (by omega) (by omega) (by omega) (by omega) (by omega)), pc, pn, N1, ?_, ?_, fun p hp' => ?_⟩
    · rw [no (by omega) (by omega) (by omega) (by omega) (by omega) (by omega)]; exact N2
    · rw [no (by omega) (by omega) (by omega) (by omega) (by omega) (by omega)]; exact N3
    · obtain ⟨m1, m2, m3, m4, m5, m6⟩ := N4 p hp'
      have i2 : hI (MP hm' r' p2 w) (140 + 2 * p) = hI h (140 + 2 * p) := funext fun k => no (by omega) (by omega) (by omega) (by omega) (by omega) (by omega)
      refine ⟨m1, m2, ?_, ?_, fun j hj => ?_, ?_⟩
      · rw [no (by omega) (by omega) (by omega) (by omega) (by omega) (by omega)]; exact m3
      · rw [no (by omega) (by omega) (by omega) (by omega) (by omega) (by omega)]; exact m4
      · rw [i2, no (by omega) (by omega) (by omega) (by omega) (by omega) (by omega)]; exact m5 j hj
      · rw [i2]; exact m6
