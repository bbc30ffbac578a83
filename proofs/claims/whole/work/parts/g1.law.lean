/-! ===== the calls keep the invariant: g1.law ===== -/
theorem ci_law {h : Hp} (I : INV h) (y : Int32) : CI h (FX11_law [vR (some 0), vI y]) (FX12_law [vR (some 147), vI y]) := by
  obtain ⟨Y, F, H, R⟩ := I
  obtain ⟨r1, ⟨pc, pn, r2⟩, ⟨tc, so, is, r3⟩, ⟨sc, ss, sm, si, r4⟩, r5, r6, ⟨a1, a2, r7⟩, r8⟩ := R
  obtain ⟨nL, l1, l2⟩ := r1
  have ex : ∃ lw, LWS h lw := by
    obtain ⟨s, W, H⟩ := H
    rcases H with H | ⟨r, d, b, dc, bc, lw, v, u, w, lg, bk, z, A, x, J⟩
    · exact H.2.2.2.2.2.2.2.1
    · exact ⟨lw, J.2.1.2.2.2.2.2.2⟩
  obtain ⟨lw, l0⟩ := ex
  obtain ⟨res, h1, h2, lw', y1, y2, G, g1, g2, g3⟩ := lawcall_any (ly_CF Y).1 (ly_CF Y).2.1 (ly_LXa Y).2.1 (ly_UL Y).1 l0 l1 (ly_SRl Y).1.2.1 y
  have E : FN lawP lawP h h2 := fn_fr G G.2.2.2.2.1
  have q1 : ∀ a k, lawP a k → PR0 a k := fun a k z => by unfold lawP at z; unfold PR0; omega
  have q2 : ∀ a k, lawP a k → a ≤ 172 := fun a k z => by unfold lawP at z; omega
  have Y' : LAYO h2 := LAYO_t (fn_leq F E q1 q2) Y
  have H' : HSE h2 := by
    obtain ⟨s, W, H⟩ := H
    have W' : HW h2 s := ⟨by rw [E.R F (by omega) (by unfold lawP; omega)]; exact W.1, (E.R F (by omega) (by unfold lawP; omega)).trans W.2⟩
    refine ⟨s, W', ?_⟩
    rcases H with H | ⟨r, d, b, dc, bc, lw, v, u, w, lg, bk, z, A, x, J⟩
    · exact Or.inl (hm_fn (hw_s W) H F E (fun a k z => by have := hw_s W; unfold lawP at z; unfold NHm; omega) (by unfold lawP; omega) (by unfold lawP; omega) ⟨lw', g1⟩)
    · exact Or.inr ⟨r, d, b, dc, bc, lw', v, u, w, lg, bk, z, A, x, ainv_fn J F Y' E (by unfold lawP; omega) (fun a k z => by have := hw_s W; unfold lawP at z; unfold NH; omega) g1⟩
  have B : LWB h2 := by
    refine ⟨nL, g2, ?_⟩
    rcases g3 with z | z | z
    · rw [z]; exact l2
    · exact Or.inl z
    · exact Or.inr z
  exact ⟨res, h1, h2, y1, y2, ⟨Y', frsh_fn F E, H', B, ⟨pc, pn, pln_fn F E r2 (by unfold lawP; omega) (by unfold lawP; omega) (fun a k z1 z2 => by unfold lawP; omega) (fun k z => by unfold lawP; omega) (fun k z => by unfold lawP; omega)⟩, ⟨tc, so, is, tst_fn F E r3 (fun k z => by unfold lawP; omega) (by unfold lawP; omega) (fun k => by unfold lawP; omega) (fun k => by unfold lawP; omega)⟩, ⟨sc, ss, sm, si, sgn_fn F E r4 (by unfold lawP; omega) (by unfold lawP; omega) (fun k => by unfold lawP; omega) (fun k => by unfold lawP; omega) (fun k => by unfold lawP; omega) (fun k => by unfold lawP; omega)⟩, img_fn F E r5 (by unfold lawP; omega) (by unfold lawP; omega) (fun a k z1 z2 => by unfold lawP; omega) (fun k => by unfold lawP; omega), (by rw [E.I F (by omega) (by unfold lawP; omega), E.I F (by omega) (by unfold lawP; omega)]; exact r6), ⟨a1, a2, sw_fn F Y' E r7 (by unfold lawP; omega) (by unfold lawP; omega)⟩, tpe_fn F E r8 (by unfold lawP; omega) (by unfold lawP; omega) (fun k => by unfold lawP; omega) (fun k => by unfold lawP; omega)⟩, E.1.2.1, E.1.2.2⟩
