/-! ===== text of a law, both ===== -/
theorem ci_text1 {h : Hp} (I : INV h) (hB : hN h + 2 < PRE) : CI h (FX11_text [vR (some 0), vI 1]) (FX12_text [vR (some 147), vI 1]) := by
  have I0 := I
  obtain ⟨n, s', H0, A, B, C, e11, hs, L, e6, t4⟩ := inv_read I
  obtain ⟨Y, F, H, R⟩ := I
  obtain ⟨r1, ⟨pc, pn, r2⟩, ⟨tc, so, is, r3⟩, ⟨sc, ss, sm, si, r4⟩, r5, r6, ⟨a1, a2, r7⟩, r8⟩ := R
  obtain ⟨nL, l1, l2⟩ := r1
  have PB := PRE_big
  have hn := H0.2.2
  have F1 := F.1
  by_cases c4 : nL = 4
  · subst c4
    obtain ⟨y1, y2⟩ := text_full1 (ly_CF Y).1 (ly_UL Y).1 (ly_LXa Y).2.2.2.2.2.2.2.2.2.1 l1.2.1 l1.2.2.1
    exact ci_qry I0 (QRY.id y1 y2)
  have hL4 : nL < 4 := by have := l1.2.2.2.1; omega
  rcases text_1 rfl (by omega) hB Y H0 C t4 l1.2.1 l1.2.2.1 hL4 with ⟨h1, h2, y1, y2, G⟩ | ⟨h1, h2, s, c, p', y1, y2, s0, s1, e, E, ⟨n1, n2, n3, n4, n5, n6⟩, ⟨m1, m2, m3, m4, m5, m6⟩⟩
  · exact ci_rl I0 y1 y2 G
  have q1 : ∀ a k, t1R nL a k → PR0 a k := fun a k z => by unfold t1R at z; unfold PR0; omega
  have q2 : ∀ a k, t1P nL a k → a ≤ 172 := fun a k z => by unfold t1P at z; omega
  have Y' : LAYO h2 := LAYO_t (fn_leq F E q1 q2) Y
  have X' := ly_LXa Y'
  have Z' := ly_LXb Y'
  have B' : LWB h2 := by
    refine ⟨nL + 1, ⟨X'.2.2.2.2.2.2.2.2.2.1, m1, m2, by omega, ?_, fun i hi => ?_⟩, ?_⟩
    · rw [E.I F (by omega) (by unfold t1P; omega), E.I F (by omega) (by unfold t1P; omega)]; exact l1.2.2.2.2.1
    · by_cases ci : i = nL
      · subst ci
        refine ⟨c, s, hN h, hN h + 1, n, hI h 2, n5, ⟨n1, n2, n3, n4, by omega, X'.2.2.2.2.2.2.2.2.1.1, X'.2.2.2.2.2.2.2.2.1.2.1, X'.2.2.2.2.2.2.2.2.1.2.2.1, X'.2.2.2.2.2.2.2.2.1.2.2.2, by omega⟩, n6, by omega, ⟨h, p', H0, ly_LwL Y, ly_PL Y, fun _ _ => rfl, by omega, e⟩, ⟨⟨hI_same _ _ _ _, hL4⟩, Z'.2.1, Z'.2.2.1, ⟨?_, hn⟩, fun j hj => ?_, Z'.2.2.2.1, stl_fr Z'.2.2.2.2.2.2.1 rfl rfl (hI_row _ _ _ _ (by omega)), stl_fr Z'.2.2.2.2.2.2.2.1 rfl rfl (hI_row _ _ _ _ (by omega))⟩⟩
        · rw [hI_oth _ _ _ _ _ (by decide)]; exact m5
        · rw [hI_oth _ _ _ _ _ (by decide), m6 j hj]; exact t4 j hj
      · obtain ⟨c', N', Q⟩ := l1.2.2.2.2.2 i (by omega)
        exact ⟨c', N', lwi_fn F Y Y' E q1 q2 Q (by unfold t1R; omega) (fun j hj => by unfold t1P; omega) (by unfold t1P; omega)⟩
    · rw [E.I F (by omega) (by unfold t1P; omega)]
      rcases l2 with z | ⟨li, z1, z⟩
      · exact Or.inl z
      · exact Or.inr ⟨li, by omega, z⟩
  have T : TPE h2 := ⟨0, by omega, m3, m4, fun i hi => absurd hi (by omega)⟩
  exact ⟨nI nL, h1, h2, y1, y2, ⟨Y', frsh_fn F E, hse_fn F Y Y' E q1 (by unfold t1R; omega) (by unfold t1R; omega) (fun s W a k z => by have := hw_s W; unfold t1P at z; unfold NH; rcases z with z | z | z | z | z | z | z <;> omega) (by unfold t1P; omega) (by unfold t1P; omega) (fun lw l => lws_fn F Y Y' E q1 q2 l (by unfold t1R; omega) (by unfold t1P; omega) (fun i e hi => by
      have hl : i < nL := by
        rcases l2 with z | ⟨li, z1, z⟩
        · exact absurd (e.symm.trans z) (nI_nm1 (by omega))
        · have := (nI_eq (by omega) (by omega)).mp (e.symm.trans z)
          omega
      exact ⟨fun j hj => by unfold t1P; omega, by unfold t1P; omega⟩)) H, B', ⟨pc, pn, pln_fn F E r2 (by unfold t1P; omega) (by unfold t1P; omega) (fun a k z1 z2 => by unfold t1P; omega) (fun k z => by unfold t1P; omega) (fun k z => by unfold t1P; omega)⟩, ⟨tc, so, is, tst_fn F E r3 (fun k z => by unfold t1P; omega) (by unfold t1P; omega) (fun k => by unfold t1P; omega) (fun k => by unfold t1P; omega)⟩, ⟨sc, ss, sm, si, sgn_fn F E r4 (by unfold t1P; omega) (by unfold t1P; omega) (fun k => by unfold t1P; omega) (fun k => by unfold t1P; omega) (fun k => by unfold t1P; omega) (fun k => by unfold t1P; omega)⟩, img_fn F E r5 (by unfold t1P; omega) (by unfold t1P; omega) (fun a k z1 z2 => by unfold t1P; omega) (fun k => by unfold t1P; omega), (by rw [E.I F (by omega) (by unfold t1P; omega), E.I F (by omega) (by unfold t1P; omega)]; exact r6), ⟨a1, a2, sw_fn F Y' E r7 (by unfold t1R; omega) (by unfold t1R; omega)⟩, T⟩, E.1.2.1, E.1.2.2⟩
