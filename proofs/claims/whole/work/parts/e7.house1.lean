/-! ===== PURE: a house read as a call in one heap ===== -/
theorem stl_fr {h h' : Hp} {s n : Nat} {b : Nat → Nat} (S : StL h s n b) (eK : hK h' = hK h) (eE : hE h' = hE h) (eI : hI h' (s + 100) = hI h (s + 100)) : StL h' s n b := by
  unfold StL; rw [eK, eE, eI]; exact S
theorem some_inj {w w' : Int32} {a b : Hp} {X : Option (RV × Hp)} (e1 : X = some (rI w, a)) (e2 : X = some (rI w', b)) : w = w' ∧ a = b := by
  have e3 := e1.symm.trans e2
  injection e3 with e3
  injection e3 with e4 e5
  exact ⟨congrArg Prod.fst e4, e5⟩
/-- the reference's side of reading a house -/
def HSm (g : Hp) (n : Nat) (t : Nat → Int32) : Prop := ML g ∧ MIt g ∧ hR g 147 1 = some 148 ∧ hI g 147 6 = nI n ∧ hK g 148 = 21 ∧ hE g 148 = 240 ∧ TB t (hI g 148) n
theorem house_cls {h : Hp} {n s : Nat} (H : HT h n) (L : HL h s) (S : SIt h) (M : HSm h n (hI h 2)) : ∃ w h1 p', FX0_readFrom [vR (some s), vR (some 1)] h = some (rI w, h1) ∧ HCl h h1 n s p' w := by
  obtain ⟨M1, M2, t1, t2, t3, t4, B⟩ := M
  rcases house_both H L S M1 M2 t1 t2 t3 t4 (fun i hi => (B i hi).1) (fun i hi => (B i hi).2) with ⟨h', hm', q, ru, dc, bc, y1, y2, y3, _⟩ | ⟨h', hm', q, w', y0, y1, y2, y3, _⟩
  · exact ⟨_, _, _, y1, y3⟩
  · exact ⟨_, _, _, y1, y3⟩
theorem house_two {h g h1 : Hp} {n s : Nat} {w : Int32} (H : HT h n) (L : HL h s) (S : SIt h) (M : HSm g n (hI h 2)) (e : FX0_readFrom [vR (some s), vR (some 1)] h = some (rI w, h1)) :
    ∃ h2, FX12_readHouse [vR (some 147)] g = some (rV, h2) ∧ RCl (mS g 148 0 n) h2 w ∧ (w = -1 → ∃ ru dc bc, HF h1 h2 s ru dc bc ∧ 0 < bc ∧ hI h1 (s + 1) 0 ≤ hI h1 (s + 1) 1) := by
  obtain ⟨M1, M2, t1, t2, t3, t4, B⟩ := M
  rcases house_both H L S M1 M2 t1 t2 t3 t4 (fun i hi => (B i hi).1) (fun i hi => (B i hi).2) with ⟨h', hm', q, ru, dc, bc, y1, y2, y3, y4, y5, y6, y7⟩ | ⟨h', hm', q, w', y0, y1, y2, y3, y4⟩
  · obtain ⟨i1, i2⟩ := some_inj e y1
    subst i1; subst i2
    exact ⟨hm', y2, y4, fun _ => ⟨ru, dc, bc, y5, y6, y7⟩⟩
  · obtain ⟨i1, i2⟩ := some_inj e y1
    subst i1; subst i2
    exact ⟨hm', y2, y4, fun z => absurd z y0⟩
theorem hsm_fr {h g : Hp} {n : Nat} {t : Nat → Int32} (M : HSm h n t) (eK : hK g = hK h) (eE : hE g = hE h) (eR : ∀ k, k ≠ 5 → hR g 147 k = hR h 147 k) (e6 : hI g 147 6 = hI h 147 6) (e148 : hI g 148 = hI h 148) (eP : ∀ k, hI g (PRE + k) = hI h (PRE + k)) : HSm g n t := by
  obtain ⟨M1, M2, t1, t2, t3, t4, B⟩ := M
  refine ⟨?_, ⟨stl_fr M2.1 eK eE (eP 112), stl_fr M2.2.1 eK eE (eP 113), stl_fr M2.2.2 eK eE (eP 114)⟩, by rw [eR _ (by decide)]; exact t1, by rw [e6]; exact t2, by rw [eK]; exact t3, by rw [eE]; exact t4, by rw [e148]; exact B⟩
  unfold ML
  rw [eK, eE, eR _ (by decide), eR _ (by decide), eR _ (by decide)]
  exact M1
/-- what reading a house may leave -/
def hsP (s a k : Nat) : Prop := (a = 1 ∧ k ≠ 1) ∨ (s ≤ a ∧ a ≤ s + 3) ∨ (a = 147 ∧ (k = 0 ∨ k = 5 ∨ k = 8 ∨ k = 9 ∨ k = 10 ∨ k = 11 ∨ k = 28 ∨ k = 29 ∨ k = 31)) ∨ a = 153 ∨ a = 155 ∨ a = 157
theorem hcl_fr {h h1 : Hp} {n s p : Nat} {w : Int32} (C : HCl h h1 n s p w) (e : hI h 1 1 = nI n) : FR (hsP s) h h1 := by
  obtain ⟨O, c1, _⟩ := C
  refine ⟨O.N, O.S, O.K, O.E, fun a k _ => by rw [O.R], fun a k p => ?_, fun a k _ => by rw [O.L]⟩
  by_cases c : a = 1
  · subst c
    by_cases c2 : k = 1
    · subst c2; rw [c1, e]
    · exact absurd (Or.inl ⟨rfl, c2⟩) p
  · rw [O.I]
    unfold hsL
    unfold hsP at p
    simp only [List.mem_cons, List.not_mem_nil, or_false]
    omega
theorem ms_fr (g : Hp) (s n : Nat) : FR (hsP s) g (mS g 148 0 n) := by
  unfold mS
  have a1 : FR (hsP s) g (sR g 147 5 (some 148)) := ⟨rfl, rfl, rfl, rfl, fun a k p => by
    rw [hR_sR]
    by_cases c : a = 147
    · by_cases c2 : k = 5
      · exact absurd (by unfold hsP; omega) p
      · rw [if_pos c, if_neg c2]
    · rw [if_neg c], fun _ _ _ => rfl, fun _ _ _ => rfl⟩
  exact (a1.trans (fr_sI _ _ _ _ (by unfold hsP; omega))).trans (fr_sI _ _ _ _ (by unfold hsP; omega))
theorem rcl_fr {g g1 : Hp} {s : Nat} {w : Int32} (C : RCl g g1 w) : FR (hsP s) g g1 := by
  obtain ⟨O, c1, _⟩ := C
  refine ⟨O.N, O.S, O.K, O.E, fun a k _ => by rw [O.R], fun a k p => ?_, fun a k _ => by rw [O.L]⟩
  unfold hsP at p
  by_cases c : a = 147
  · subst c
    exact c1 k (by omega) (by omega) (by omega) (by omega) (by omega)
  · rw [O.I]
    simp only [List.mem_cons, List.not_mem_nil, or_false]
    omega
theorem mS_R (g : Hp) (T B n : Nat) {a k : Nat} (z : a ≠ 147 ∨ k ≠ 5) : hR (mS g T B n) a k = hR g a k := by
  show hR (sR g 147 5 (some T)) a k = hR g a k
  rw [hR_sR]
  by_cases c : a = 147
  · rw [if_pos c, if_neg (by omega)]
  · rw [if_neg c]
theorem fault_m0 {g h2 : Hp} (k1 : hK g 147 = 12) (k2 : hK h2 147 = 12) (e : FX12_readHouse [vR (some 147)] (sI g 147 0 0) = some (rV, h2)) : FX12_fault [vR (some 147), vI 0] g = some (rI (hI h2 147 11), h2) := by
  rw [tX12_fault]
  simp only [oB_some, dR_some, cond_true, cond_false, if_true, if_false, Bool.true_and, Bool.and_true, Nat.beq_refl, k1, k2, hK_sI, isIn_02, show ¬ (0 : Int32) < 0 by decide, show ¬ (2 : Int32) < 0 by decide, show ¬ (1 : Int32) = 0 by decide, show ¬ (0 : Int32) = 1 by decide, show ¬ (0 : Int32) = 2 by decide, e]
theorem fault_0 {h : Hp} {n s : Nat} (K0 : hK h 0 = 11) (R00 : hR h 0 0 = some 1) (R11 : hR h 0 11 = some s) (hs : s = 4 ∨ s = 131) (H : HT h n) (L : HL h s) (S : SIt h) (M : HSm h n (hI h 2)) :
    ∃ res h1 h2, FX11_fault [vR (some 0), vI 0] h = some (rI res, h1) ∧ FX12_fault [vR (some 147), vI 0] h1 = some (rI res, h2) ∧ FR (hsP s) h h2 ∧ ∀ a k, (a ≠ 147 ∨ k ≠ 5) → hR h2 a k = hR h a k := by
  have PB := PRE_big
  obtain ⟨w, h1, p', e, C⟩ := house_cls H L S M
  have F1 := hcl_fr C H.2.1
  have O := C.1
  have M1 : HSm (sI h1 147 0 0) n (hI h 2) := hsm_fr M O.K O.E (fun k _ => by rw [hR_sI, O.R]) (by rw [hI_slot _ _ _ _ (by decide)]; exact F1.2.2.2.2.2.1 _ _ (by unfold hsP; omega)) (by rw [hI_row _ _ _ _ (by decide)]; exact O.I (by unfold hsL; simp; omega)) (fun k => by rw [hI_row _ _ _ _ (by omega)]; exact O.I (hsL_P (by omega)))
  obtain ⟨h2, e2, R, _⟩ := house_two H L S M1 e
  have F2 : FR (hsP s) h1 h2 := ((fr_sI h1 147 0 0 (by unfold hsP; omega)).trans (ms_fr _ s n)).trans (rcl_fr R)
  have k147 : hK h 147 = 12 := M.1.1
  refine ⟨w, h1, h2, ?_, ?_, F1.trans F2, fun a k z => ?_⟩
  · rw [tX11_fault]; simp only [oB_some, dR_some, cond_true, cond_false, if_true, if_false, Bool.true_and, Bool.and_true, Nat.beq_refl, K0, R00, R11, L.1, e]
  · rw [fault_m0 (by rw [O.K]; exact k147) (by rw [F2.2.2.1, O.K]; exact k147) e2, R.2.2]
  · rw [R.1.R, mS_R _ _ _ _ z, hR_sI, O.R]
theorem fr_tw {P : Nat → Nat → Prop} (h : Hp) (p : Nat) (w : Int32) (p1 : P 1 2) (p2 : P 1 3) : FR P h (tw h p w) := (fr_sI _ _ _ _ p1).trans (fr_sI _ _ _ _ p2)
theorem fr_mw {P : Nat → Nat → Prop} (h : Hp) (p : Nat) (w : Int32) (p1 : P 147 10) (p2 : P 147 11) : FR P h (mw h p w) := (fr_sI _ _ _ _ p1).trans (fr_sI _ _ _ _ p2)
theorem fr_wA {P : Nat → Nat → Prop} (h : Hp) (a : Nat) (f : Nat → Int32) (p : ∀ k, P a k) : FR P h (wA h a f) := fr_only (only_wA h f (List.mem_singleton.mpr rfl)) (fun b hb k => by rw [List.mem_singleton.mp hb]; exact p k)
theorem fr_sR {P : Nat → Nat → Prop} (h : Hp) (a k : Nat) (x : Option Nat) (p : P a k) : FR P h (sR h a k x) :=
  ⟨rfl, rfl, rfl, rfl, fun a' k' q => by
    rw [hR_sR]
    by_cases c : a' = a
    · by_cases c2 : k' = k
      · subst c c2; exact absurd p q
      · rw [if_pos c, if_neg c2]
    · rw [if_neg c], fun _ _ _ => rfl, fun _ _ _ => rfl⟩
theorem fr_refl (P : Nat → Nat → Prop) (h : Hp) : FR P h h := ⟨rfl, rfl, rfl, rfl, fun _ _ _ => rfl, fun _ _ _ => rfl, fun _ _ _ => rfl⟩
