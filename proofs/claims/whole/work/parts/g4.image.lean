/-! ===== the calls keep the invariant: g4.image ===== -/
def imP (a k : Nat) : Prop := (a = 0 ∧ k = 10) ∨ (126 ≤ a ∧ a ≤ 130) ∨ a = 151 ∨ a = 171 ∨ (a = 147 ∧ (k = 0 ∨ k = 53 ∨ (8 ≤ k ∧ k ≤ 17)))
theorem ci_image {h : Hp} (I : INV h) : CI h (FX11_image [vR (some 0)]) (FX12_image [vR (some 147)]) := by
  have I0 := I
  obtain ⟨Y, F, H, R⟩ := I
  obtain ⟨r1, ⟨pc, pn, r2⟩, ⟨tc, so, is, r3⟩, ⟨sc, ss, sm, si, r4⟩, r5, r6, ⟨a1, a2, r7⟩, r8⟩ := R
  refine ci_two I0 (fun s r d b dc bc lw v u w lg bk z A x W J => ?_) (fun s W H0 => ci_qry I0 (image_hom (hm_hom I0 W H0)))
  obtain ⟨res, h1, h2, y1, O, y2, M, e53, V⟩ := image_both J (ly_IMl Y)
  have O2 : Only h (sI h1 0 10 1) [126, 127, 129, 130, 0] := (O.mono (by simp)).trans (only_sI _ _ _ (by simp))
  have r0 : ∀ k, hI h2 0 k = hI (sI h1 0 10 1) 0 k := fun k => by rw [M.2.2.2.2.2.2.1 0 (by decide) (by decide) (by simp)]
  have E : FN p5 imP h h2 := fn_sub (fn_mq O2 M) (fun a k z p => by
      have a0 : a = 0 := by
        unfold mqP at z
        unfold imP at p
        simp only [List.mem_cons, List.not_mem_nil, or_false, false_or] at z
        omega
      subst a0
      rw [r0 k, hI_slot _ _ _ _ (by unfold imP at p; omega), O.I (by simp)]) (fun k z p => by
      unfold mqP at z
      simp only [List.mem_cons, List.not_mem_nil, or_false, false_or] at z
      omega)
  have q1 := p5_0
  have q2 : ∀ a k, imP a k → a ≤ 172 := fun a k z => by unfold imP at z; omega
  have Y' : LAYO h2 := LAYO_t (fn_leq F E q1 q2) Y
  have W' : HW h2 s := ⟨by rw [E.R F (by omega) (by unfold p5; omega)]; exact W.1, (E.R F (by omega) (by unfold p5; omega)).trans W.2⟩
  have L' : LWS h2 lw := lws_fn F Y Y' E q1 q2 J.2.1.2.2.2.2.2.2 (by unfold p5; omega) (by unfold imP; omega) (fun i _ _ => ⟨fun j _ => by unfold imP; omega, by unfold imP; omega⟩)
  have J' := ainv_fn J F Y' E (by unfold p5; omega) (fun a k z => by have := hw_s W; unfold imP at z; unfold NH; omega) L'
  exact ⟨res, _, h2, y1, y2, ⟨Y', frsh_fn F E, ⟨s, W', Or.inr ⟨r, d, b, dc, bc, lw, v, u, w, lg, bk, z, A, x, J'⟩⟩, lwb_fn F Y Y' E q1 q2 r1 (fun i => by unfold p5; omega) (by unfold imP; omega) (by unfold imP; omega) (by unfold imP; omega) (by unfold imP; omega) (fun k => by unfold imP; omega) (fun k => by unfold imP; omega), ⟨pc, pn, pln_fn F E r2 (by unfold imP; omega) (by unfold imP; omega) (fun a k z1 z2 => by unfold imP; omega) (fun k z => by unfold imP; omega) (fun k z => by unfold imP; omega)⟩, ⟨tc, so, is, tst_fn F E r3 (fun k z => by unfold imP; omega) (by unfold imP; omega) (fun k => by unfold imP; omega) (fun k => by unfold imP; omega)⟩, ⟨sc, ss, sm, si, sgn_fn F E r4 (by unfold imP; omega) (by unfold imP; omega) (fun k => by unfold imP; omega) (fun k => by unfold imP; omega) (fun k => by unfold imP; omega) (fun k => by unfold imP; omega)⟩, Or.inr ⟨(r0 10).trans (hI_same _ _ _ _), e53, V⟩, (by rw [E.I F (by omega) (by unfold imP; omega), E.I F (by omega) (by unfold imP; omega)]; exact r6), ⟨a1, a2, sw_fn F Y' E r7 (by unfold p5; omega) (by unfold p5; omega)⟩, tpe_fn F E r8 (by unfold imP; omega) (by unfold imP; omega) (fun k => by unfold imP; omega) (fun k => by unfold imP; omega)⟩, E.1.2.1, E.1.2.2⟩
