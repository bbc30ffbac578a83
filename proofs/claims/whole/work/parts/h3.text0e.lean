/-! ===== text of a house, both; text ===== -/
def bgW (w : Nat → Nat) (r0 r5 : Nat) : Nat → Nat := fun k => if k = 0 then r0 else if k = 2 then r5 else if k < 381 then 0 else w k
theorem bgW_row {f : Nat → Int32} {w : Nat → Nat} {r0 r5 : Nat} (e : f = nR w) : up1 (up1 (fil (fun _ => 0) 0 381 0 f) 0 (nI r0)) 2 (nI r5) = nR (bgW w r0 r5) := by
  funext k
  by_cases c2 : k = 2
  · subst c2; rw [up1_s]; rfl
  rw [up1_o _ _ c2]
  by_cases c0 : k = 0
  · subst c0; rw [up1_s]; rfl
  rw [up1_o _ _ c0]
  show _ = nI (bgW w r0 r5 k)
  unfold bgW
  rw [if_neg c0, if_neg c2]
  by_cases c : k < 381
  · rw [if_pos c]
    have := fil_in (fun _ => (0 : Int32)) 0 381 0 f k (by omega) (by omega)
    rw [Nat.zero_add] at this
    rw [this, nI_0]
  · rw [if_neg c, fil_out _ _ _ _ _ _ (by omega), e]; rfl
theorem beg_ok {v u w lg bk : Nat → Nat} {r0 r5 : Nat} (h0 : r0 ≤ 60) (h5 : r5 ≤ 9) : BV (bgV v r0 r5) (zr 5 0 u) ∧ MR (bgV v r0 r5) (zr 5 0 u) (bgW w r0 r5) ∧ LB (bgV v r0 r5) (bgW w r0 r5) lg bk := by
  have e0 : bgV v r0 r5 0 = r0 := rfl
  have e2 : bgV v r0 r5 2 = r5 := rfl
  have e1 : bgV v r0 r5 1 = 0 := rfl
  have e3 : bgV v r0 r5 3 = 0 := rfl
  have e4 : bgV v r0 r5 4 = 0 := rfl
  have e5 : bgV v r0 r5 5 = 0 := rfl
  have e6 : bgV v r0 r5 6 = 0 := rfl
  have e7 : bgV v r0 r5 7 = 0 := rfl
  have e9 : bgV v r0 r5 9 = 0 := rfl
  have e10 : bgV v r0 r5 10 = 0 := rfl
  have e11 : bgV v r0 r5 11 = 0 := rfl
  have e12 : bgV v r0 r5 12 = 0 := rfl
  have z : ∀ i, i < 5 → zr 5 0 u i = 0 := fun i hi => zr_in 5 0 u i (by omega) (by omega)
  have w0 : ∀ k, k ≠ 0 → k ≠ 2 → k < 381 → bgW w r0 r5 k = 0 := fun k z1 z2 z3 => by unfold bgW; rw [if_neg z1, if_neg z2, if_pos z3]
  have w00 : bgW w r0 r5 0 = r0 := rfl
  have w02 : bgW w r0 r5 2 = r5 := rfl
  refine ⟨⟨by omega, by omega, ⟨by omega, Or.inr (by omega)⟩, by omega, by omega, by omega, by omega, by omega, by omega, by omega, by omega, fun i hi => by rw [z i hi]; omega⟩, ⟨fun k hk => ?_, ?_, fun i hi => ?_, fun i hi => ?_, ?_⟩, ⟨?_, fun i hi => absurd hi (by omega), fun i hi => ?_⟩⟩
  · rcases (show k = 0 ∨ k = 1 ∨ k = 2 ∨ k = 3 ∨ k = 4 ∨ k = 5 ∨ k = 6 by omega) with c | c | c | c | c | c | c <;> subst c
    · rw [w00, e0]
    · rw [w0 _ (by omega) (by omega) (by omega), e1]
    · rw [w02, e2]
    · rw [w0 _ (by omega) (by omega) (by omega), e3]
    · rw [w0 _ (by omega) (by omega) (by omega), e4]
    · rw [w0 _ (by omega) (by omega) (by omega), e5]
    · rw [w0 _ (by omega) (by omega) (by omega), e6]
  · rw [w0 _ (by omega) (by omega) (by omega), e9]
  · rw [w0 _ (by omega) (by omega) (by omega), e7, Nat.zero_div]
  · rw [w0 _ (by omega) (by omega) (by omega), z i hi]
  · rw [w0 _ (by omega) (by omega) (by omega), e10]
  · rw [w0 _ (by omega) (by omega) (by omega), e11]; rfl
  · rw [w0 200 (by omega) (by omega) (by omega)] at hi; omega
/-- what text(0) needs of the life before -/
theorem inv_now {h : Hp} (I : INV h) : ∃ s v u w lg bk z x lw, HW h s ∧ NowC h v u lg bk ∧ hI h 160 = nR w ∧ hI h 162 = nR z ∧ hI h 14 1 = nI x ∧ x < 41 ∧ LWS h lw := by
  obtain ⟨s, W, H⟩ := I.2.2.1
  rcases H with H | ⟨r, d, b, dc, bc, lw, v, u, w, lg, bk, z, A, x, J⟩
  · obtain ⟨_, _, _, _, _, _, _, ⟨lw, l⟩, v, u, w, lg, bk, z, x, n, k3, k2, k4, k5, q1, q2, q3⟩ := H
    exact ⟨s, v, u, w, lg, bk, z, x, lw, W, n, k3, q1, q2, q3, l⟩
  · exact ⟨s, v, u, w, lg, bk, z, x, lw, W, J.2.2.1.1, J.2.2.1.2.2.1, J.2.2.2.1, J.2.2.2.2.2.2.1, J.2.2.2.2.2.2.2.1, J.2.1.2.2.2.2.2.2⟩
theorem ci_text0 {h : Hp} (I : INV h) : CI h (FX11_text [vR (some 0), vI 0]) (FX12_text [vR (some 147), vI 0]) := by
  have I0 := I
  obtain ⟨n, s', H0, A, B, C, e11, hs, L, e6, t4⟩ := inv_read I
  obtain ⟨s, v, u, w, lg, bk, z, x, lw, W, N, n160, n162, n14, hx, l0⟩ := inv_now I
  obtain ⟨Y, F, H, R⟩ := I
  obtain ⟨r1, ⟨pc, pn, r2⟩, ⟨tc, so, is, r3⟩, ⟨sc, ss, sm, si, r4⟩, r5, r6, ⟨a1, a2, r7⟩, r8⟩ := R
  rcases text_0 Y W e11 H0 A L N with ⟨h1, h2, y1, y2, G, gR⟩ | ⟨res, h1, h2, r, d, b, dc, bc, y1, y2, E, ⟨x1, x2⟩, ⟨b1, b2, b3, b4, b5⟩, ⟨c1, c2, c3, c4, c5, c6⟩, ⟨d1, d2, d3, d4, d5⟩, ⟨f1, f2, f3⟩, ⟨g1, g2, g3, g4, g5, g6, g7, g8, g9, g10, g11, g12⟩⟩
  · exact ci_hs I0 y1 y2 e11 G gR
  have sp := hw_sp W e11
  have q1 : ∀ a k, t0R a k → PR0 a k := fun a k z => by unfold t0R at z; unfold PR0; rcases z with z | z | z <;> omega
  have q2 : ∀ a k, t0P s' a k → a ≤ 172 := fun a k z => by unfold t0P at z; rcases z with z | z | z | z | z | z | z | z | z | z <;> omega
  have Y' : LAYO h2 := LAYO_t (fn_leq F E q1 q2) Y
  have W' : HW h2 s' := ⟨by rw [x2]; rcases sp with z | z; exact Or.inr ⟨z.2, by rw [z.1]⟩; exact Or.inl ⟨z.2, by rw [z.1]⟩, x1⟩
  have L' : LWS h2 lw := lws_fn F Y Y' E q1 q2 l0 (by unfold t0R; omega) (by unfold t0P; omega) (fun i _ _ => ⟨fun j _ => by unfold t0P; omega, by unfold t0P; omega⟩)
  obtain ⟨o1, o2, o3⟩ := beg_ok (v := v) (u := u) (w := w) (lg := lg) (bk := bk) (r0 := r 0) (r5 := r 5) (b4 0) b5.2.2.2.2.2.2.2.1
  have Xa := ly_LXa Y'
  have X5 := ly_MR2 Y'
  have hl : HL h2 s' := by
    rcases hs with z | z
    · rw [z]; exact Xa.2.2.2.2.2.2.1
    · rw [z]; exact Xa.2.2.2.2.2.2.2.1
  have ll : LL h2 10 s' := by
    rcases hs with z | z
    · rw [z]; exact Xa.2.2.2.1
    · rw [z]; exact Xa.2.2.2.2.1
  have rd : ∀ k, d k ≤ 99 := b5.2.2.2.2.2.2.2.2.2.2.2.1
  have rb : ∀ k, b k ≤ 60 := b5.2.2.2.2.2.2.2.2.2.2.1
  have J : AINV h2 s' r d b dc bc lw (bgV v (r 0) (r 5)) (zr 5 0 u) (bgW w (r 0) (r 5)) lg bk z 0 x := by
    refine ⟨⟨ly_CF Y', ly_PTL Y', Xa.2.2.1, ll, ly_UL Y', Xa.2.2.2.2.2.1⟩, ⟨hs, c1, ⟨⟨Xa.2.1, x1⟩, hl, ⟨b1, b2⟩, ⟨c2, c3⟩, c4, c5, c6, b4, rd, rb⟩, ⟨X5.1, X5.2.1, X5.2.2.1, X5.2.2.2.1, ⟨b1, b2⟩, ⟨d1, d2⟩, d3, d4, d5, b4, rd, rb⟩, b3, b5, L'⟩, ⟨⟨f1, f2, ?_, ?_⟩, o1, ?_, o2, o3⟩, ⟨?_, by rw [g2]; rfl, by rw [g1]; rfl, ?_, hx, by omega, fun _ => bgV v (r 0) (r 5), fun _ => zr 5 0 u, fun j hj => absurd hj (by omega), fun j hj => absurd hj (by omega)⟩⟩
    · rw [E.row F (by omega) (fun k => by unfold t0P; omega)]; exact N.2.2.1
    · rw [E.row F (by omega) (fun k => by unfold t0P; omega)]; exact N.2.2.2
    · rw [f3]; exact bgW_row n160
    · rw [E.row F (by omega) (fun k => by unfold t0P; omega)]; exact n162
    · rw [E.I F (by omega) (by unfold t0P; omega)]; exact n14
  have T : TPE h2 := ⟨0, by omega, by rw [g12]; rfl, by rw [g6]; rfl, fun i hi => absurd hi (by omega)⟩
  have T1 : TST h2 0 (fun _ => 0) (fun _ => 0) := ⟨by omega, by rw [g7]; rfl, by rw [g3]; rfl, by rw [g9]; rfl, by rw [g10]; rfl, fun k hk => absurd hk (by omega)⟩
  have T2 : SGN h2 0 (fun _ => 0) (fun _ => 0) (fun _ => 0) := ⟨by omega, by rw [g8]; rfl, by rw [g4]; rfl, fun k hk => absurd hk (by omega)⟩
  exact ⟨res, h1, h2, y1, y2, ⟨Y', frsh_fn F E, ⟨s', W', Or.inr ⟨r, d, b, dc, bc, lw, _, _, _, lg, bk, z, 0, x, J⟩⟩, lwb_fn F Y Y' E q1 q2 r1 (fun i => by unfold t0R; omega) (by unfold t0P; omega) (by unfold t0P; omega) (by unfold t0P; omega) (by unfold t0P; omega) (fun k => by unfold t0P; omega) (fun k => by unfold t0P; omega), ⟨pc, pn, pln_fn F E r2 (by unfold t0P; omega) (by unfold t0P; omega) (fun a k z1 z2 => by unfold t0P; omega) (fun k z => by unfold t0P; omega) (fun k z => by unfold t0P; omega)⟩, ⟨0, _, _, T1⟩, ⟨0, _, _, _, T2⟩, Or.inl ⟨g11, g5⟩, (by rw [E.I F (by omega) (by unfold t0P; omega), E.I F (by omega) (by unfold t0P; omega)]; exact r6), ⟨a1, a2, sw_fn F Y' E r7 (by unfold t0R; omega) (by unfold t0R; omega)⟩, T⟩, E.1.2.1, E.1.2.2⟩
theorem ci_text {h : Hp} (I : INV h) (hB : hN h + 2 < PRE) (y : Int32) : CI h (FX11_text [vR (some 0), vI y]) (FX12_text [vR (some 147), vI y]) := by
  rcases i32_02 y with c | c | c | c
  · exact ci_qry I (text_out (ly_UL I.1).1 c)
  · subst c; exact ci_text0 I
  · subst c; exact ci_text1 I hB
  · subst c; exact ci_text2 I
