/-! ===== fault as a call keeps the invariant ===== -/
theorem ci_rl {h h2 : Hp} {X Y0 : Hp → Option (RV × Hp)} {res : Int32} {h1 : Hp} (I : INV h) (y1 : X h = some (rI res, h1)) (y2 : Y0 h1 = some (rI res, h2)) (G : FR rlP h h2) : CI h X Y0 := by
  obtain ⟨Y, F, H, R⟩ := I
  obtain ⟨r1, ⟨pc, pn, r2⟩, ⟨tc, so, is, r3⟩, ⟨sc, ss, sm, si, r4⟩, r5, r6, ⟨a1, a2, r7⟩, r8⟩ := R
  have E : FN rlP rlP h h2 := fn_fr G G.2.2.2.2.1
  have q1 : ∀ a k, rlP a k → PR0 a k := fun a k z => by unfold rlP at z; unfold PR0; rcases z with z | z | z | z <;> omega
  have q2 : ∀ a k, rlP a k → a ≤ 172 := fun a k z => by unfold rlP at z; omega
  have Y' : LAYO h2 := LAYO_t (fn_leq F E q1 q2) Y
  exact ⟨res, h1, h2, y1, y2, ⟨Y', frsh_fn F E, hse_fn F Y Y' E q1 (by unfold rlP; omega) (by unfold rlP; omega) (fun s W a k z => by have := hw_s W; unfold rlP at z; unfold NH; rcases z with z | z | z | z <;> omega) (by unfold rlP; omega) (by unfold rlP; omega) (fun lw l => lws_fn F Y Y' E q1 q2 l (by unfold rlP; omega) (by unfold rlP; omega) (fun i _ _ => ⟨fun j _ => by unfold rlP; omega, by unfold rlP; omega⟩)) H, lwb_fn F Y Y' E q1 q2 r1 (fun i => by unfold rlP; omega) (by unfold rlP; omega) (by unfold rlP; omega) (by unfold rlP; omega) (by unfold rlP; omega) (fun k => by unfold rlP; omega) (fun k => by unfold rlP; omega), ⟨pc, pn, pln_fn F E r2 (by unfold rlP; omega) (by unfold rlP; omega) (fun a k z1 z2 => by unfold rlP; omega) (fun k z => by unfold rlP; omega) (fun k z => by unfold rlP; omega)⟩, ⟨tc, so, is, tst_fn F E r3 (fun k z => by unfold rlP; omega) (by unfold rlP; omega) (fun k => by unfold rlP; omega) (fun k => by unfold rlP; omega)⟩, ⟨sc, ss, sm, si, sgn_fn F E r4 (by unfold rlP; omega) (by unfold rlP; omega) (fun k => by unfold rlP; omega) (fun k => by unfold rlP; omega) (fun k => by unfold rlP; omega) (fun k => by unfold rlP; omega)⟩, img_fn F E r5 (by unfold rlP; omega) (by unfold rlP; omega) (fun a k z1 z2 => by unfold rlP; omega) (fun k => by unfold rlP; omega), (by rw [E.I F (by omega) (by unfold rlP; omega), E.I F (by omega) (by unfold rlP; omega)]; exact r6), ⟨a1, a2, sw_fn F Y' E r7 (by unfold rlP; omega) (by unfold rlP; omega)⟩, tpe_fn F E r8 (by unfold rlP; omega) (by unfold rlP; omega) (fun k => by unfold rlP; omega) (fun k => by unfold rlP; omega)⟩, E.1.2.1, E.1.2.2⟩
def plQ (a k : Nat) : Prop := (a = 1 ∧ (k = 2 ∨ k = 3)) ∨ (a = 147 ∧ (k = 0 ∨ k = 5 ∨ k = 8 ∨ k = 9 ∨ k = 10 ∨ k = 11)) ∨ (a = 158 ∧ 192 ≤ k) ∨ (a = 159 ∧ k = 4)
theorem plN_Q : ∀ a k, plP none a k → plQ a k := by
  intro a k z
  unfold plQ
  rcases z with z | ⟨P, e, z⟩ | z | z | z
  · exact Or.inl z
  · cases e
  · exact Or.inr (Or.inl z)
  · exact Or.inr (Or.inr (Or.inl z))
  · exact Or.inr (Or.inr (Or.inr z))
theorem ci_plq {h h2 : Hp} {X Y0 : Hp → Option (RV × Hp)} {res : Int32} {h1 : Hp} (I : INV h) (y1 : X h = some (rI res, h1)) (y2 : Y0 h1 = some (rI res, h2)) (G : FR plQ h h2) : CI h X Y0 := by
  obtain ⟨Y, F, H, R⟩ := I
  obtain ⟨r1, ⟨pc, pn, r2⟩, ⟨tc, so, is, r3⟩, ⟨sc, ss, sm, si, r4⟩, r5, r6, ⟨a1, a2, r7⟩, r8⟩ := R
  have E : FN plQ plQ h h2 := fn_fr G G.2.2.2.2.1
  have q1 : ∀ a k, plQ a k → PR0 a k := fun a k z => by unfold plQ at z; unfold PR0; rcases z with z | z | z | z <;> omega
  have q2 : ∀ a k, plQ a k → a ≤ 172 := fun a k z => by unfold plQ at z; omega
  have Y' : LAYO h2 := LAYO_t (fn_leq F E q1 q2) Y
  exact ⟨res, h1, h2, y1, y2, ⟨Y', frsh_fn F E, hse_fn F Y Y' E q1 (by unfold plQ; omega) (by unfold plQ; omega) (fun s W a k z => by have := hw_s W; unfold plQ at z; unfold NH; rcases z with z | z | z | z <;> omega) (by unfold plQ; omega) (by unfold plQ; omega) (fun lw l => lws_fn F Y Y' E q1 q2 l (by unfold plQ; omega) (by unfold plQ; omega) (fun i _ _ => ⟨fun j _ => by unfold plQ; omega, by unfold plQ; omega⟩)) H, lwb_fn F Y Y' E q1 q2 r1 (fun i => by unfold plQ; omega) (by unfold plQ; omega) (by unfold plQ; omega) (by unfold plQ; omega) (by unfold plQ; omega) (fun k => by unfold plQ; omega) (fun k => by unfold plQ; omega), ⟨pc, pn, pln_fn F E r2 (by unfold plQ; omega) (by unfold plQ; omega) (fun a k z1 z2 => by unfold plQ; omega) (fun k z => by unfold plQ; omega) (fun k z => by unfold plQ; omega)⟩, ⟨tc, so, is, tst_fn F E r3 (fun k z => by unfold plQ; omega) (by unfold plQ; omega) (fun k => by unfold plQ; omega) (fun k => by unfold plQ; omega)⟩, ⟨sc, ss, sm, si, sgn_fn F E r4 (by unfold plQ; omega) (by unfold plQ; omega) (fun k => by unfold plQ; omega) (fun k => by unfold plQ; omega) (fun k => by unfold plQ; omega) (fun k => by unfold plQ; omega)⟩, img_fn F E r5 (by unfold plQ; omega) (by unfold plQ; omega) (fun a k z1 z2 => by unfold plQ; omega) (fun k => by unfold plQ; omega), (by rw [E.I F (by omega) (by unfold plQ; omega), E.I F (by omega) (by unfold plQ; omega)]; exact r6), ⟨a1, a2, sw_fn F Y' E r7 (by unfold plQ; omega) (by unfold plQ; omega)⟩, tpe_fn F E r8 (by unfold plQ; omega) (by unfold plQ; omega) (fun k => by unfold plQ; omega) (fun k => by unfold plQ; omega)⟩, E.1.2.1, E.1.2.2⟩
/-- the spare house -/
theorem hw_sp {h : Hp} {s s' : Nat} (W : HW h s) (e : hR h 0 11 = some s') : (s = 4 ∧ s' = 131) ∨ (s = 131 ∧ s' = 4) := by
  rcases W.1 with ⟨z, z2⟩ | ⟨z, z2⟩
  · rw [z2] at e; injection e with e; exact Or.inl ⟨z, e.symm⟩
  · rw [z2] at e; injection e with e; exact Or.inr ⟨z, e.symm⟩
theorem ci_hs {h h2 : Hp} {s' : Nat} {X Y0 : Hp → Option (RV × Hp)} {res : Int32} {h1 : Hp} (I : INV h) (y1 : X h = some (rI res, h1)) (y2 : Y0 h1 = some (rI res, h2)) (e11 : hR h 0 11 = some s') (G : FR (hsP s') h h2) (gR : ∀ a k, (a ≠ 147 ∨ k ≠ 5) → hR h2 a k = hR h a k) : CI h X Y0 := by
  have I0 := I
  obtain ⟨Y, F, H, R⟩ := I
  obtain ⟨r1, ⟨pc, pn, r2⟩, ⟨tc, so, is, r3⟩, ⟨sc, ss, sm, si, r4⟩, r5, r6, ⟨a1, a2, r7⟩, r8⟩ := R
  have E : FN p5 (hsP s') h h2 := fn_fr G (fun a k z => gR a k (by unfold p5 at z; omega))
  have hs' : s' = 4 ∨ s' = 131 := by
    obtain ⟨s, W, _⟩ := H
    have := hw_sp W e11
    omega
  have q1 := p5_0
  have q2 : ∀ a k, hsP s' a k → a ≤ 172 := fun a k z => by unfold hsP at z; omega
  have Y' : LAYO h2 := LAYO_t (fn_leq F E q1 q2) Y
  exact ⟨res, h1, h2, y1, y2, ⟨Y', frsh_fn F E, hse_fn F Y Y' E q1 (by unfold p5; omega) (by unfold p5; omega) (fun s W a k z => by have := hw_sp W e11; unfold hsP at z; unfold NH; rcases this with this | this <;> rcases z with z | z | z | z | z | z <;> omega) (by unfold hsP; omega) (by unfold hsP; omega) (fun lw l => lws_fn F Y Y' E q1 q2 l (by unfold p5; omega) (by unfold hsP; omega) (fun i _ _ => ⟨fun j _ => by unfold hsP; omega, by unfold hsP; omega⟩)) H, lwb_fn F Y Y' E q1 q2 r1 (fun i => by unfold p5; omega) (by unfold hsP; omega) (by unfold hsP; omega) (by unfold hsP; omega) (by unfold hsP; omega) (fun k => by unfold hsP; omega) (fun k => by unfold hsP; omega), ⟨pc, pn, pln_fn F E r2 (by unfold hsP; omega) (by unfold hsP; omega) (fun a k z1 z2 => by unfold hsP; omega) (fun k z => by unfold hsP; omega) (fun k z => by unfold hsP; omega)⟩, ⟨tc, so, is, tst_fn F E r3 (fun k z => by unfold hsP; omega) (by unfold hsP; omega) (fun k => by unfold hsP; omega) (fun k => by unfold hsP; omega)⟩, ⟨sc, ss, sm, si, sgn_fn F E r4 (by unfold hsP; omega) (by unfold hsP; omega) (fun k => by unfold hsP; omega) (fun k => by unfold hsP; omega) (fun k => by unfold hsP; omega) (fun k => by unfold hsP; omega)⟩, img_fn F E r5 (by unfold hsP; omega) (by unfold hsP; omega) (fun a k z1 z2 => by unfold hsP; omega) (fun k => by unfold hsP; omega), (by rw [E.I F (by omega) (by unfold hsP; omega), E.I F (by omega) (by unfold hsP; omega)]; exact r6), ⟨a1, a2, sw_fn F Y' E r7 (by unfold p5; omega) (by unfold p5; omega)⟩, tpe_fn F E r8 (by unfold hsP; omega) (by unfold hsP; omega) (fun k => by unfold hsP; omega) (fun k => by unfold hsP; omega)⟩, E.1.2.1, E.1.2.2⟩
theorem i32_02 (y : Int32) : (y < 0 ∨ (2 : Int32) < y) ∨ y = 0 ∨ y = 1 ∨ y = 2 := by
  by_cases c1 : y < 0
  · exact Or.inl (Or.inl c1)
  by_cases c2 : (2 : Int32) < y
  · exact Or.inl (Or.inr c2)
  obtain ⟨j, hj, ej⟩ := nI_of2 (M := 2) (n := 2) (by decide) c1 (Int32.not_lt.mp c2)
  rcases (show j = 0 ∨ j = 1 ∨ j = 2 by omega) with z | z | z <;> subst z
  · exact Or.inr (Or.inl ej)
  · exact Or.inr (Or.inr (Or.inl ej))
  · exact Or.inr (Or.inr (Or.inr ej))
/-- what the readers need, out of the invariant -/
theorem inv_read {h : Hp} (I : INV h) : ∃ n s', HT h n ∧ HSm h n (hI h 2) ∧ PSm h n (hI h 2) ∧ LSm h n (hI h 2) ∧ hR h 0 11 = some s' ∧ (s' = 4 ∨ s' = 131) ∧ HL h s' ∧ hI h 147 6 = nI n ∧ TB (hI h 2) (hI h 148) n := by
  have Y := I.1
  obtain ⟨s, W, _⟩ := I.2.2.1
  obtain ⟨n, t1, t2, t3, t4⟩ := I.2.2.2.2.2.2.2.2.2.2
  obtain ⟨⟨b1, b2, b3⟩, _, _, b4, _, _, b7, b8, b9, _⟩ := ly_LXb Y
  have Xa := ly_LXa Y
  have P := ly_PLl Y
  have M : hK h 147 = 12 := (ly_UL Y).1
  have x : ∃ s', hR h 0 11 = some s' ∧ (s' = 4 ∨ s' = 131) := by
    rcases W.1 with ⟨_, z⟩ | ⟨_, z⟩
    · exact ⟨131, z, Or.inr rfl⟩
    · exact ⟨4, z, Or.inl rfl⟩
  obtain ⟨s', e, hs⟩ := x
  refine ⟨n, s', ⟨ly_TapeL Y, t2, t1⟩, ⟨ly_ML Y, ly_MIt Y, b1, t3, b2, b3, t4⟩, ⟨M, b1, t3, b2, b3, t4, P.2.2.1, P.2.2.2, b9⟩, ⟨M, b1, t3, b2, b3, t4, b4, b7, b8⟩, e, hs, ?_, t3, t4⟩
  rcases hs with z | z
  · rw [z]; exact Xa.2.2.2.2.2.2.1
  · rw [z]; exact Xa.2.2.2.2.2.2.2.1
theorem ci_fault {h : Hp} (I : INV h) (y : Int32) : CI h (FX11_fault [vR (some 0), vI y]) (FX12_fault [vR (some 147), vI y]) := by
  have Y := I.1
  have K0 := (ly_CF Y).1
  have R00 := (ly_LXa Y).1
  obtain ⟨n, s', H, A, B, C, e11, hs, L, _⟩ := inv_read I
  rcases i32_02 y with c | c | c | c
  · exact ci_qry I (fault_out (ly_UL Y).1 c)
  · subst c
    obtain ⟨res, h1, h2, y1, y2, G, gR⟩ := fault_0 K0 R00 e11 hs H L (ly_SIt Y) A
    exact ci_hs I y1 y2 e11 G gR
  · subst c
    obtain ⟨res, h1, h2, y1, y2, G⟩ := fault_1 K0 (ly_LXa Y).2.2.2.2.2.2.2.2.2.2 H (ly_LwL Y) (ly_PL Y) C
    exact ci_rl I y1 y2 G
  · subst c
    obtain ⟨res, h1, h2, y1, y2, G⟩ := fault_2 K0 R00 H B
    exact ci_plq I y1 y2 (G.mono plN_Q)
