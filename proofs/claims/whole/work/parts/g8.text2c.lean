/-! ===== text of a plan keeps the invariant ===== -/
theorem ci_text2 {h : Hp} (I : INV h) : CI h (FX11_text [vR (some 0), vI 2]) (FX12_text [vR (some 147), vI 2]) := by
  obtain ⟨n, s', H0, A, B, C, e11, hs, L, _⟩ := inv_read I
  obtain ⟨Y, F, H, R⟩ := I
  obtain ⟨r1, ⟨pc, pn, r2⟩, ⟨tc, so, is, r3⟩, ⟨sc, ss, sm, si, r4⟩, r5, r6, ⟨a1, a2, r7⟩, r8⟩ := R
  obtain ⟨res, h1, h2, y1, y2, G, gR, T, pc', pn', N'⟩ := text_2 (ly_CF Y).1 (ly_LXa Y).1 H0 B (ly_PLl Y) r2
  have E : FN p5 t2P h h2 := fn_fr G (fun a k z => gR a k (by unfold p5 at z; omega))
  have q1 := p5_0
  have q2 : ∀ a k, t2P a k → a ≤ 172 := fun a k z => by unfold t2P at z; omega
  have Y' : LAYO h2 := LAYO_t (fn_leq F E q1 q2) Y
  exact ⟨res, h1, h2, y1, y2, ⟨Y', frsh_fn F E, hse_fn F Y Y' E q1 (by unfold p5; omega) (by unfold p5; omega) (fun s W a k z => by have := hw_s W; unfold t2P at z; unfold NH; rcases z with z | z | z | z | z | z <;> omega) (by unfold t2P; omega) (by unfold t2P; omega) (fun lw l => lws_fn F Y Y' E q1 q2 l (by unfold p5; omega) (by unfold t2P; omega) (fun i _ _ => ⟨fun j _ => by unfold t2P; omega, by unfold t2P; omega⟩)) H, lwb_fn F Y Y' E q1 q2 r1 (fun i => by unfold p5; omega) (by unfold t2P; omega) (by unfold t2P; omega) (by unfold t2P; omega) (by unfold t2P; omega) (fun k => by unfold t2P; omega) (fun k => by unfold t2P; omega), ⟨pc', pn', N'⟩, ⟨tc, so, is, tst_fn F E r3 (fun k z => by unfold t2P; omega) (by unfold t2P; omega) (fun k => by unfold t2P; omega) (fun k => by unfold t2P; omega)⟩, ⟨sc, ss, sm, si, sgn_fn F E r4 (by unfold t2P; omega) (by unfold t2P; omega) (fun k => by unfold t2P; omega) (fun k => by unfold t2P; omega) (fun k => by unfold t2P; omega) (fun k => by unfold t2P; omega)⟩, img_fn F E r5 (by unfold t2P; omega) (by unfold t2P; omega) (fun a k z1 z2 => by unfold t2P; omega) (fun k => by unfold t2P; omega), (by rw [E.I F (by omega) (by unfold t2P; omega), E.I F (by omega) (by unfold t2P; omega)]; exact r6), ⟨a1, a2, sw_fn F Y' E r7 (by unfold p5; omega) (by unfold p5; omega)⟩, T⟩, E.1.2.1, E.1.2.2⟩
