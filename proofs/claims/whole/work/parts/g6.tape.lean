/-! ===== the calls keep the invariant: g6.tape ===== -/
def fdP (a k : Nat) : Prop := (a = 1 ∧ k = 1) ∨ a = 2 ∨ a = 148 ∨ (a = 147 ∧ (k = 0 ∨ k = 6))
theorem ci_tape {h h2 : Hp} {X Y0 : Hp → Option (RV × Hp)} {res : Int32} {h1 : Hp} (I : INV h) (y1 : X h = some (rI res, h1)) (y2 : Y0 h1 = some (rI res, h2)) (G : FR fdP h h2) (gR : hR h2 = hR h) (T : TPE h2) : CI h X Y0 := by
  obtain ⟨Y, F, H, R⟩ := I
  obtain ⟨r1, ⟨pc, pn, r2⟩, ⟨tc, so, is, r3⟩, ⟨sc, ss, sm, si, r4⟩, r5, r6, ⟨a1, a2, r7⟩, r8⟩ := R
  have E : FN p5 fdP h h2 := fn_fr G (fun a k _ => by rw [gR])
  have q1 := p5_0
  have q2 : ∀ a k, fdP a k → a ≤ 172 := fun a k z => by unfold fdP at z; omega
  have Y' : LAYO h2 := LAYO_t (fn_leq F E q1 q2) Y
  exact ⟨res, h1, h2, y1, y2, ⟨Y', frsh_fn F E, hse_fn F Y Y' E q1 (by unfold p5; omega) (by unfold p5; omega) (fun s W a k z => by have := hw_s W; unfold fdP at z; unfold NH; omega) (by unfold fdP; omega) (by unfold fdP; omega) (fun lw l => lws_fn F Y Y' E q1 q2 l (by unfold p5; omega) (by unfold fdP; omega) (fun i _ _ => ⟨fun j _ => by unfold fdP; omega, by unfold fdP; omega⟩)) H, lwb_fn F Y Y' E q1 q2 r1 (fun i => by unfold p5; omega) (by unfold fdP; omega) (by unfold fdP; omega) (by unfold fdP; omega) (by unfold fdP; omega) (fun k => by unfold fdP; omega) (fun k => by unfold fdP; omega), ⟨pc, pn, pln_fn F E r2 (by unfold fdP; omega) (by unfold fdP; omega) (fun a k z1 z2 => by unfold fdP; omega) (fun k z => by unfold fdP; omega) (fun k z => by unfold fdP; omega)⟩, ⟨tc, so, is, tst_fn F E r3 (fun k z => by unfold fdP; omega) (by unfold fdP; omega) (fun k => by unfold fdP; omega) (fun k => by unfold fdP; omega)⟩, ⟨sc, ss, sm, si, sgn_fn F E r4 (by unfold fdP; omega) (by unfold fdP; omega) (fun k => by unfold fdP; omega) (fun k => by unfold fdP; omega) (fun k => by unfold fdP; omega) (fun k => by unfold fdP; omega)⟩, img_fn F E r5 (by unfold fdP; omega) (by unfold fdP; omega) (fun a k z1 z2 => by unfold fdP; omega) (fun k => by unfold fdP; omega), (by rw [E.I F (by omega) (by unfold fdP; omega), E.I F (by omega) (by unfold fdP; omega)]; exact r6), ⟨a1, a2, sw_fn F Y' E r7 (by unfold p5; omega) (by unfold p5; omega)⟩, T⟩, E.1.2.1, E.1.2.2⟩
theorem ci_feed {h : Hp} (I : INV h) (x1 x2 x3 x4 x5 : Int32) : CI h (FX11_feed [vR (some 0), vI x1, vI x2, vI x3, vI x4, vI x5]) (FX12_feed [vR (some 147), vI x1, vI x2, vI x3, vI x4, vI x5]) := by
  have Y := I.1
  obtain ⟨n, t1, t2, t3, t4⟩ := I.2.2.2.2.2.2.2.2.2.2
  obtain ⟨res, h1, h2, y1, y2, z⟩ := feed_one (x1 := x1) (x2 := x2) (x3 := x3) (x4 := x4) (x5 := x5) ⟨ly_TapeL Y, (ly_CF Y).1, (ly_LXa Y).1⟩ ⟨(ly_UL Y).1, (ly_LXb Y).1⟩ t1 t2 t3 t4
  have f0 : ∀ g : Hp, FR fdP g (sI g 147 0 0) := fun g => fr_sI _ _ _ _ (by unfold fdP; omega)
  rcases z with ⟨e1, e2⟩ | ⟨n', t', u', z1, e1, e2, z2⟩
  · subst e1 e2
    exact ci_tape I y1 y2 (f0 _) rfl ⟨n, t1, by rw [hI_oth _ _ _ _ _ (by decide)]; exact t2, by rw [hI_slot _ _ _ _ (by decide)]; exact t3, by rw [hI_row _ _ _ _ (by decide), hI_row _ _ _ _ (by decide)]; exact t4⟩
  · subst e1 e2
    refine ci_tape I y1 y2 ?_ rfl ⟨n', z1, ?_, ?_, ?_⟩
    · unfold TM TS
      exact ((((fr_wA _ _ _ (fun k => by unfold fdP; omega)).trans (fr_sI _ _ _ _ (by unfold fdP; omega))).trans (f0 _)).trans (fr_wA _ _ _ (fun k => by unfold fdP; omega))).trans (fr_sI _ _ _ _ (by unfold fdP; omega))
    · unfold TM TS
      rw [hI_oth _ _ _ _ _ (by decide), wA_O _ _ (by decide), hI_oth _ _ _ _ _ (by decide), hI_same]
    · unfold TM; rw [hI_same]
    · unfold TM TS
      rw [hI_row _ _ _ _ (show 2 ≠ 147 by decide), wA_O _ _ (show 2 ≠ 148 by decide), hI_row _ _ _ _ (show 2 ≠ 147 by decide), hI_row _ _ _ _ (show 2 ≠ 1 by decide), wA_I, hI_row _ _ _ _ (show 148 ≠ 147 by decide), wA_I]
      exact z2
theorem ci_end {h : Hp} (I : INV h) (x : Int32) : CI h (FX11_end [vR (some 0), vI x]) (FX12_end [vR (some 147), vI x]) := by
  have Y := I.1
  obtain ⟨n, t1, t2, t3, t4⟩ := I.2.2.2.2.2.2.2.2.2.2
  obtain ⟨res, h1, h2, y1, y2, z⟩ := end_one (x := x) ⟨ly_TapeL Y, (ly_CF Y).1, (ly_LXa Y).1⟩ ⟨(ly_UL Y).1, (ly_LXb Y).1⟩ t1 t2 t3
  have f0 : ∀ g : Hp, FR fdP g (sI g 147 0 0) := fun g => fr_sI _ _ _ _ (by unfold fdP; omega)
  rcases z with ⟨e1, e2⟩ | ⟨m, z1, e1, e2⟩
  · subst e1 e2
    exact ci_tape I y1 y2 (f0 _) rfl ⟨n, t1, by rw [hI_oth _ _ _ _ _ (by decide)]; exact t2, by rw [hI_slot _ _ _ _ (by decide)]; exact t3, by rw [hI_row _ _ _ _ (by decide), hI_row _ _ _ _ (by decide)]; exact t4⟩
  · subst e1 e2
    refine ci_tape I y1 y2 (((fr_sI _ _ _ _ (by unfold fdP; omega)).trans (f0 _)).trans (fr_sI _ _ _ _ (by unfold fdP; omega))) rfl ⟨m, by omega, ?_, hI_same _ _ _ _, ?_⟩
    · rw [hI_oth _ _ _ _ _ (by decide), hI_oth _ _ _ _ _ (by decide), hI_same]
    · rw [hI_row _ _ _ _ (show 2 ≠ 147 by decide), hI_row _ _ _ _ (show 2 ≠ 147 by decide), hI_row _ _ _ _ (show 2 ≠ 1 by decide), hI_row _ _ _ _ (show 148 ≠ 147 by decide), hI_row _ _ _ _ (show 148 ≠ 147 by decide), hI_row _ _ _ _ (show 148 ≠ 1 by decide)]
      exact fun i hi => t4 i (by omega)
