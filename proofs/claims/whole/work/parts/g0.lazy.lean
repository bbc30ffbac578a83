/-! ===== the calls keep the invariant: count, lazy, law, image, test, sign, soonest ===== -/
theorem fn_sub {PR PI PI' : Nat → Nat → Prop} {h h' : Hp} (E : FN PR PI h h') (x : ∀ a k, PI a k → ¬ PI' a k → hI h' a k = hI h a k) (y : ∀ k, PI 101 k → ¬ PI' 101 k → hL h' 101 k = hL h 101 k) : FN PR PI' h h' := by
  obtain ⟨a1, a2, a3, a4, a5, a6⟩ := E
  refine ⟨a1, a2, a3, fun a k o p => ?_, fun k p => ?_, a6⟩
  · by_cases c : PI a k
    · exact x a k c p
    · exact a4 a k o c
  · by_cases c : PI 101 k
    · exact y k c p
    · exact a5 k c
theorem ci_count {h : Hp} (I : INV h) (y : Int32) : CI h (FX11_count [vR (some 0), vI y]) (FX12_count [vR (some 147), vI y]) := by
  obtain ⟨s, v, u, w, lg, bk, N⟩ := inv_ni I
  have I0 := I
  obtain ⟨Y, F, _, ⟨nL, l1, _⟩, ⟨pc, pn, q1⟩, ⟨tc, so, is, t1⟩, ⟨sc, ss, sm, si, g1⟩, _, r6, _, ⟨n, _, e1, e2, _⟩⟩ := I
  have C : hI h 14 2 = hI h 147 37 → CNT h := fun e => ⟨⟨(ly_LXa Y).1, (ly_TapeL Y).1⟩, ⟨(ly_PRl Y).1.1, (ly_PRl Y).1.2.1⟩, l1.2.1.trans l1.2.2.1.symm, q1.2.1.trans q1.2.2.1.symm, e1.trans e2.symm, l1.2.2.2.2.1, r6, t1.2.1.trans t1.2.2.1.symm, g1.2.1.trans g1.2.2.1.symm, e⟩
  refine ci_two I0 (fun s r d b dc bc lw v u w lg bk z A x W J => ?_) (fun s W H => ?_)
  · obtain ⟨k0, k1⟩ := count0_a J
    exact ci_qry I0 (count_both N (C (J.2.2.2.2.2.1.trans J.2.2.2.2.1.symm)) k0 k1 y)
  · obtain ⟨k0, k1⟩ := count0_h (hm_hom I0 W H) (hm_hos I0 W H)
    exact ci_qry I0 (count_both N (C (H.2.2.2.1.trans H.2.2.2.2.1.symm)) k0 k1 y)
def lzP (a k : Nat) : Prop := (a = 0 ∧ k = 18) ∨ a = 151 ∨ (a = 147 ∧ (k = 0 ∨ k = 35 ∨ (8 ≤ k ∧ k ≤ 17)))
theorem p5_0 : ∀ a k, p5 a k → PR0 a k := fun a k z => by unfold p5 at z; unfold PR0; omega
theorem ci_lazy {h : Hp} (I : INV h) (y : Int32) : CI h (FX11_lazy [vR (some 0), vI y]) (FX12_lazy [vR (some 147), vI y]) := by
  obtain ⟨Y, F, H, R⟩ := I
  obtain ⟨res, h1, h2, y1, y2, e, O, e0, M⟩ := lazy_both (ly_CF Y).1 (ly_UL Y).1 R.2.2.2.2.2.1 y
  have E : FN p5 lzP h h2 := fn_sub (fn_mq O M) (fun a k z p => by
      have a0 : a = 0 := by
        unfold mqP at z
        unfold lzP at p
        simp only [List.mem_cons, List.not_mem_nil, or_false, false_or] at z
        omega
      subst a0
      rw [M.2.2.2.2.2.2.1 0 (by decide) (by decide) (by simp)]
      exact e0 k (by unfold lzP at p; omega)) (fun k z p => by
      unfold mqP at z
      simp only [List.mem_cons, List.not_mem_nil, or_false, false_or] at z
      omega)
  have q1 := p5_0
  have q2 : ∀ a k, lzP a k → a ≤ 172 := fun a k z => by unfold lzP at z; omega
  have Y' : LAYO h2 := LAYO_t (fn_leq F E q1 q2) Y
  obtain ⟨r1, ⟨pc, pn, r2⟩, ⟨tc, so, is, r3⟩, ⟨sc, ss, sm, si, r4⟩, r5, r6, ⟨a1, a2, r7⟩, r8⟩ := R
  refine ⟨res, h1, h2, y1, y2, ⟨Y', frsh_fn F E, hse_fn F Y Y' E q1 (by unfold p5; omega) (by unfold p5; omega) (fun s W a k z => by have := hw_s W; unfold lzP at z; unfold NH; omega) (by unfold lzP; omega) (by unfold lzP; omega) (fun lw l => lws_fn F Y Y' E q1 q2 l (by unfold p5; omega) (by unfold lzP; omega) (fun i _ _ => ⟨fun j _ => by unfold lzP; omega, by unfold lzP; omega⟩)) H, lwb_fn F Y Y' E q1 q2 r1 (fun i => by unfold p5; omega) (by unfold lzP; omega) (by unfold lzP; omega) (by unfold lzP; omega) (by unfold lzP; omega) (fun k => by unfold lzP; omega) (fun k => by unfold lzP; omega), ⟨pc, pn, pln_fn F E r2 (by unfold lzP; omega) (by unfold lzP; omega) (fun a k z1 z2 => by unfold lzP; omega) (fun k z => by unfold lzP; omega) (fun k z => by unfold lzP; omega)⟩, ⟨tc, so, is, tst_fn F E r3 (fun k z => by unfold lzP; omega) (by unfold lzP; omega) (fun k => by unfold lzP; omega) (fun k => by unfold lzP; omega)⟩, ⟨sc, ss, sm, si, sgn_fn F E r4 (by unfold lzP; omega) (by unfold lzP; omega) (fun k => by unfold lzP; omega) (fun k => by unfold lzP; omega) (fun k => by unfold lzP; omega) (fun k => by unfold lzP; omega)⟩, img_fn F E r5 (by unfold lzP; omega) (by unfold lzP; omega) (fun a k z1 z2 => by unfold lzP; omega) (fun k => by unfold lzP; omega), e, ⟨a1, a2, sw_fn F Y' E r7 (by unfold p5; omega) (by unfold p5; omega)⟩, tpe_fn F E r8 (by unfold lzP; omega) (by unfold lzP; omega) (fun k => by unfold lzP; omega) (fun k => by unfold lzP; omega)⟩, E.1.2.1, E.1.2.2⟩
