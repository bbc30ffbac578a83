/-! ===== the calls keep the invariant: g5.soon ===== -/
def snP (a k : Nat) : Prop := p5 a k ∨ (a = 103 ∧ (k = 6 ∨ k = 7))
theorem ci_soonest {h : Hp} (I : INV h) (y : Int32) : CI h (FX11_soonest [vR (some 0), vI y]) (FX12_soonest [vR (some 147), vI y]) := by
  have I0 := I
  obtain ⟨Y, F, H, R⟩ := I
  obtain ⟨r1, ⟨pc, pn, r2⟩, ⟨tc, so, is, r3⟩, ⟨sc, ss, sm, si, r4⟩, r5, r6, ⟨a1, a2, r7⟩, r8⟩ := R
  refine ci_two I0 (fun s r d b dc bc lw v u w lg bk z A x W J => ?_) (fun s W H0 => ci_qry I0 (soonest_hom (hm_hom I0 W H0) y))
  obtain ⟨res, h1, h2, y1, y2, S, ⟨b1, b2, T⟩, M⟩ := soonest_both J (ly_SRl Y) r7 (ly_M6 Y) y
  obtain ⟨s1, s2, s3, s4, s5, s6, s7⟩ := S
  obtain ⟨m1, m2, m3, m4, m5, m6, m7, m8⟩ := M
  have E : FN snP QP h h2 := by
    refine ⟨⟨by rw [m1, s1]; omega, by rw [m1, s1]; omega, by rw [m2, s2]; omega⟩, fun a _ => ⟨by rw [m3, s3], by rw [m4, s4]⟩, fun a k _ p => ?_, fun a k _ p => ?_, fun k _ => by rw [m5, s7 101 (by decide) (by decide)], fun a _ _ => by rw [m3, s3]⟩
    · unfold snP p5 at p
      rw [m6 a k (by omega), s5 a k (by omega)]
    · unfold QP at p
      have o : hI h1 a = hI h a := s6 a (by simp only [List.mem_cons, List.not_mem_nil, or_false]; omega)
      by_cases c : a = 147
      · subst c
        rw [m8 k (by simp only [List.mem_cons, List.not_mem_nil, or_false]; omega) (by unfold scrS; simp only [List.mem_cons, List.not_mem_nil, or_false]; omega), o]
      · rw [m7 a c (by omega) (by unfold scrM; simp only [List.mem_cons, List.not_mem_nil, or_false]; omega), o]
  have q1 : ∀ a k, snP a k → PR0 a k := fun a k z => by unfold snP p5 at z; unfold PR0; omega
  have q2 : ∀ a k, QP a k → a ≤ 172 := fun a k z => by unfold QP at z; omega
  have Y' : LAYO h2 := LAYO_t (fn_leq F E q1 q2) Y
  have T' : SW h2 b1 b2 := by
    obtain ⟨t1, t2, t3, t4, t5⟩ := T
    exact ⟨(m6 103 6 (by decide)).trans t1, (m6 103 7 (by decide)).trans t2, t3, ⟨by rw [m3]; exact t4.1, by rw [m4]; exact t4.2⟩, ⟨by rw [m3]; exact t5.1, by rw [m4]; exact t5.2⟩⟩
  exact ⟨res, h1, h2, y1, y2, ⟨Y', frsh_fn F E, hse_fn F Y Y' E q1 (by unfold snP p5; omega) (by unfold snP p5; omega) (fun s W a k z => by have := hw_s W; unfold QP at z; unfold NH; omega) (by unfold QP; omega) (by unfold QP; omega) (fun lw l => lws_fn F Y Y' E q1 q2 l (by unfold snP p5; omega) (by unfold QP; omega) (fun i _ _ => ⟨fun j _ => by unfold QP; omega, by unfold QP; omega⟩)) H, lwb_fn F Y Y' E q1 q2 r1 (fun i => by unfold snP p5; omega) (by unfold QP; omega) (by unfold QP; omega) (by unfold QP; omega) (by unfold QP; omega) (fun k => by unfold QP; omega) (fun k => by unfold QP; omega), ⟨pc, pn, pln_fn F E r2 (by unfold QP; omega) (by unfold QP; omega) (fun a k z1 z2 => by unfold QP; omega) (fun k z => by unfold QP; omega) (fun k z => by unfold QP; omega)⟩, ⟨tc, so, is, tst_fn F E r3 (fun k z => by unfold QP; omega) (by unfold QP; omega) (fun k => by unfold QP; omega) (fun k => by unfold QP; omega)⟩, ⟨sc, ss, sm, si, sgn_fn F E r4 (by unfold QP; omega) (by unfold QP; omega) (fun k => by unfold QP; omega) (fun k => by unfold QP; omega) (fun k => by unfold QP; omega) (fun k => by unfold QP; omega)⟩, img_fn F E r5 (by unfold QP; omega) (by unfold QP; omega) (fun a k z1 z2 => by unfold QP; omega) (fun k => by unfold QP; omega), (by rw [E.I F (by omega) (by unfold QP; omega), E.I F (by omega) (by unfold QP; omega)]; exact r6), ⟨b1, b2, T'⟩, tpe_fn F E r8 (by unfold QP; omega) (by unfold QP; omega) (fun k => by unfold QP; omega) (fun k => by unfold QP; omega)⟩, E.1.2.1, E.1.2.2⟩
