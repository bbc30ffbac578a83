/-! ===== the calls keep the invariant: g2.test ===== -/
theorem ci_test {h : Hp} (I : INV h) (y : Int32) {i : Nat} (hi : i ≤ 1) : CI h (FX11_test [vR (some 0), vI y, vI (nI i)]) (FX12_test [vR (some 147), vI y, vI (nI i)]) := by
  have I0 := I
  obtain ⟨Y, F, H, R⟩ := I
  obtain ⟨r1, ⟨pc, pn, r2⟩, ⟨tc, so, is, r3⟩, ⟨sc, ss, sm, si, r4⟩, r5, r6, ⟨a1, a2, r7⟩, r8⟩ := R
  refine ci_two I0 (fun s r d b dc bc lw v u w lg bk z A x W J => ?_) (fun s W H0 => ci_qry I0 (test_hom (hm_hom I0 W H0) y (nI i)))
  obtain ⟨res, h1, h2, y1, y2', G, tc', so', is', T'⟩ := test_both J (ly_PRl Y) r3 (ly_TEN Y) y hi
  have E : FN tsP tsP h h2 := fn_fr G G.2.2.2.2.1
  have q1 : ∀ a k, tsP a k → PR0 a k := fun a k z => by unfold tsP at z; unfold PR0; omega
  have q2 : ∀ a k, tsP a k → a ≤ 172 := fun a k z => by unfold tsP at z; omega
  have Y' : LAYO h2 := LAYO_t (fn_leq F E q1 q2) Y
  exact ⟨res, h1, h2, y1, y2', ⟨Y', frsh_fn F E, hse_fn F Y Y' E q1 (by unfold tsP; omega) (by unfold tsP; omega) (fun s W a k z => by have := hw_s W; unfold tsP at z; unfold NH; omega) (by unfold tsP; omega) (by unfold tsP; omega) (fun lw l => lws_fn F Y Y' E q1 q2 l (by unfold tsP; omega) (by unfold tsP; omega) (fun i _ _ => ⟨fun j _ => by unfold tsP; omega, by unfold tsP; omega⟩)) H, lwb_fn F Y Y' E q1 q2 r1 (fun i => by unfold tsP; omega) (by unfold tsP; omega) (by unfold tsP; omega) (by unfold tsP; omega) (by unfold tsP; omega) (fun k => by unfold tsP; omega) (fun k => by unfold tsP; omega), ⟨pc, pn, pln_fn F E r2 (by unfold tsP; omega) (by unfold tsP; omega) (fun a k z1 z2 => by unfold tsP; omega) (fun k z => by unfold tsP; omega) (fun k z => by unfold tsP; omega)⟩, ⟨tc', so', is', T'⟩, ⟨sc, ss, sm, si, sgn_fn F E r4 (by unfold tsP; omega) (by unfold tsP; omega) (fun k => by unfold tsP; omega) (fun k => by unfold tsP; omega) (fun k => by unfold tsP; omega) (fun k => by unfold tsP; omega)⟩, img_fn F E r5 (by unfold tsP; omega) (by unfold tsP; omega) (fun a k z1 z2 => by unfold tsP; omega) (fun k => by unfold tsP; omega), (by rw [E.I F (by omega) (by unfold tsP; omega), E.I F (by omega) (by unfold tsP; omega)]; exact r6), ⟨a1, a2, sw_fn F Y' E r7 (by unfold tsP; omega) (by unfold tsP; omega)⟩, tpe_fn F E r8 (by unfold tsP; omega) (by unfold tsP; omega) (fun k => by unfold tsP; omega) (fun k => by unfold tsP; omega)⟩, E.1.2.1, E.1.2.2⟩
