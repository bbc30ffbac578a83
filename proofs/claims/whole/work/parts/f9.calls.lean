/-! ===== the calls keep the invariant ===== -/
theorem hm_hos {h : Hp} {s : Nat} (I : INV h) (W : HW h s) (H : HM h s) : HOS h s := by
  have Y := I.1
  have Xa := ly_LXa Y
  refine ⟨(ly_CF Y).2.1, Xa.2.1, W.2, ?_, H.1, H.2.1⟩
  rcases hw_s W with z | z
  · rw [z]; exact Xa.2.2.2.2.2.2.1.1
  · rw [z]; exact Xa.2.2.2.2.2.2.2.1.1
theorem hm_hom {h : Hp} {s : Nat} (I : INV h) (W : HW h s) (H : HM h s) : HOM h := ⟨(ly_CF I.1).1, (ly_UL I.1).1, H.2.2.1, hos_hom (hm_hos I W H) (ly_CF I.1).1⟩
theorem inv_ni {h : Hp} (I : INV h) : ∃ s v u w lg bk, NI h s v u w lg bk := by
  obtain ⟨Y, F, ⟨s, W, H⟩, R⟩ := I
  have Xa := ly_LXa Y
  have ll : LL h 10 s := by
    rcases hw_s W with z | z
    · rw [z]; exact Xa.2.2.2.1
    · rw [z]; exact Xa.2.2.2.2.1
  have S : ST1 h s := ⟨ly_CF Y, ly_PTL Y, Xa.2.2.1, ll, ly_UL Y, Xa.2.2.2.2.2.1⟩
  rcases H with H | ⟨r, d, b, dc, bc, lw, v, u, w, lg, bk, z, A, x, I⟩
  · obtain ⟨_, _, _, _, _, _, _, _, v, u, w, lg, bk, z, x, n, k3, k2, k4, k5, _⟩ := H
    exact ⟨s, v, u, w, lg, bk, S, n, k3, k2, k4, k5⟩
  · exact ⟨s, v, u, w, lg, bk, S, I.2.2.1.1, I.2.2.1.2.2.1, I.2.2.1.2.1, I.2.2.1.2.2.2.1, I.2.2.1.2.2.2.2⟩
theorem ci_two {h : Hp} {X Y : Hp → Option (RV × Hp)} (I : INV h) (f : ∀ s r d b dc bc lw v u w lg bk z A x, HW h s → AINV h s r d b dc bc lw v u w lg bk z A x → CI h X Y) (g : ∀ s, HW h s → HM h s → CI h X Y) : CI h X Y := by
  obtain ⟨s, W, H⟩ := I.2.2.1
  rcases H with H | ⟨r, d, b, dc, bc, lw, v, u, w, lg, bk, z, A, x, J⟩
  · exact g s W H
  · exact f s r d b dc bc lw v u w lg bk z A x W J
/-- what acts may leave -/
def AP (a k : Nat) : Prop := a = 8 ∨ a = 9 ∨ a = 10 ∨ a = 11 ∨ (14 ≤ a ∧ a ≤ 100) ∨ a = 160 ∨ a = 162 ∨ a = 151 ∨ (a = 147 ∧ (k = 0 ∨ k = 37 ∨ (8 ≤ k ∧ k ≤ 17)))
theorem mq_ap : ∀ a k, mqP allL [160, 162] [0, 37] a k → AP a k := by
  intro a k z
  unfold mqP allL at z
  simp only [List.mem_cons, List.not_mem_nil, or_false] at z
  unfold AP
  omega
theorem ci_actL {h : Hp} {s : Nat} {r d b : Nat → Nat} {dc bc : Nat} {lw : Option ((Nat → Int32) × Nat)} {X Y : Hp → Option (RV × Hp)} (I : INV h) (W : HW h s) (C : CALLL h s r d b dc bc lw X Y) : CI h X Y := by
  obtain ⟨Ly, F, _, R⟩ := I
  obtain ⟨res, h1, h2, y1, y2, O, M, v', u', w', lg', bk', z', A', x', J⟩ := C
  have E : FN p5 AP h h2 := (fn_mqL O M).mono (fun _ _ z => z) mq_ap
  have q1 : ∀ a k, p5 a k → PR0 a k := fun a k z => by unfold p5 at z; unfold PR0; omega
  have Y' : LAYO h2 := LAYO_t (fn_leq F E q1 (fun a k z => by unfold AP at z; omega)) Ly
  have W' : HW h2 s := ⟨by rw [E.R F (by omega) (by unfold p5; omega)]; exact W.1, (E.R F (by omega) (by unfold p5; omega)).trans W.2⟩
  exact ⟨res, h1, h2, y1, y2, ⟨Y', frsh_fn F E, ⟨s, W', Or.inr ⟨r, d, b, dc, bc, lw, v', u', w', lg', bk', z', A', x', J⟩⟩, rst_fn F Ly Y' E (fun a k z => ⟨q1 a k z, by unfold p5 at z; omega, by unfold p5 at z; omega⟩) (fun a k z => by unfold AP at z; unfold NR; omega) R⟩, E.1.2.1, E.1.2.2⟩
theorem ci_act2 {h : Hp} {s : Nat} {r d b : Nat → Nat} {dc bc : Nat} {lw : Option ((Nat → Int32) × Nat)} {X Y : Hp → Option (RV × Hp)} (I : INV h) (W : HW h s) (C : CALL2 h s r d b dc bc lw X Y) : CI h X Y := by
  obtain ⟨res, h1, h2, y1, y2, O, M, J⟩ := C
  exact ci_actL I W ⟨res, h1, h2, y1, y2, O.toL, M.toL, J⟩
theorem ci_act {h : Hp} {s : Nat} {r d b : Nat → Nat} {dc bc : Nat} {lw : Option ((Nat → Int32) × Nat)} {x : Nat} {X Y : Hp → Option (RV × Hp)} (I : INV h) (W : HW h s) (hx : x < 41) (C : CALL h s r d b dc bc lw x X Y) : CI h X Y := ci_act2 I W (C.all hx)
/-- what a mark leaves before a house was told -/
theorem ci_mrk {h : Hp} {s x : Nat} {X Y : Hp → Option (RV × Hp)} (I : INV h) (W : HW h s) (H : HM h s) (hx : x < 41) (C : MRK h x X Y) : CI h X Y := by
  obtain ⟨Ly, F, _, R⟩ := I
  obtain ⟨res, h1, h2, y1, y2, O, M⟩ := C
  have E : FN p5 (fun a k => QP a k ∨ (16 ≤ a ∧ a ≤ 97)) h h2 := (fn_mq O M).mono (fun _ _ z => z) (fun a k z => by
    unfold mqP scrM scrS at z
    simp only [List.mem_cons, List.not_mem_nil, or_false] at z
    unfold QP
    omega)
  have q1 : ∀ a k, p5 a k → PR0 a k := fun a k z => by unfold p5 at z; unfold PR0; omega
  have q2 : ∀ a k, (QP a k ∨ (16 ≤ a ∧ a ≤ 97)) → a ≤ 172 := fun a k z => by unfold QP at z; omega
  have Y' : LAYO h2 := LAYO_t (fn_leq F E q1 q2) Ly
  have W' : HW h2 s := ⟨by rw [E.R F (by omega) (by unfold p5; omega)]; exact W.1, (E.R F (by omega) (by unfold p5; omega)).trans W.2⟩
  have L : ∃ lw, LWS h2 lw := by
    obtain ⟨lw, l⟩ := H.2.2.2.2.2.2.2.1
    exact ⟨lw, lws_fn F Ly Y' E q1 q2 l (by unfold p5; omega) (by unfold QP; omega) (fun i _ _ => ⟨fun j _ => by unfold QP; omega, by unfold QP; omega⟩)⟩
  have H' : HM h2 s := hm_fn (hw_s W) H F E (fun a k z => by have := hw_s W; unfold QP at z; unfold NHm; omega) (by unfold QP; omega) (by unfold QP; omega) L
  exact ⟨res, h1, h2, y1, y2, ⟨Y', frsh_fn F E, ⟨s, W', Or.inl H'⟩, rst_fn F Ly Y' E (fun a k z => ⟨q1 a k z, by unfold p5 at z; omega, by unfold p5 at z; omega⟩) (fun a k z => by unfold QP at z; unfold NR; omega) R⟩, E.1.2.1, E.1.2.2⟩
theorem ci_rule {h : Hp} (I : INV h) (y : Int32) : CI h (FX11_rule [vR (some 0), vI y]) (FX12_rule [vR (some 147), vI y]) := ci_two I (fun s r d b dc bc lw v u w lg bk z A x W J => ci_qry I (rule_both J y)) (fun s W H => ci_qry I (rule_hom (hm_hom I W H) y))
theorem ci_odds {h : Hp} (I : INV h) (y y2 : Int32) : CI h (FX11_odds [vR (some 0), vI y, vI y2]) (FX12_odds [vR (some 147), vI y, vI y2]) := ci_two I (fun s r d b dc bc lw v u w lg bk z A x W J => ci_qry I (odds_both J y y2)) (fun s W H => ci_qry I (odds_hom (hm_hom I W H) y y2))
theorem ci_game {h : Hp} (I : INV h) (y y2 y3 : Int32) : CI h (FX11_game [vR (some 0), vI y, vI y2, vI y3]) (FX12_game [vR (some 147), vI y, vI y2, vI y3]) := ci_two I (fun s r d b dc bc lw v u w lg bk z A x W J => ci_qry I (game_both J y y2 y3)) (fun s W H => ci_qry I (game_hom (hm_hom I W H) y y2 y3))
theorem ci_rests {h : Hp} (I : INV h) (y : Int32) : CI h (FX11_rests [vR (some 0), vI y]) (FX12_rests [vR (some 147), vI y]) := ci_two I (fun s r d b dc bc lw v u w lg bk z A x W J => ci_qry I (rests_both J y)) (fun s W H => ci_qry I (rests_hom (hm_hom I W H) y))
theorem ci_pieces {h : Hp} (I : INV h) (y : Int32) : CI h (FX11_pieces [vR (some 0), vI y]) (FX12_pieces [vR (some 147), vI y]) := ci_two I (fun s r d b dc bc lw v u w lg bk z A x W J => ci_qry I (pieces_both J y)) (fun s W H => ci_qry I (pieces_hom (hm_hom I W H) y))
theorem ci_best {h : Hp} (I : INV h) : CI h (FX11_best [vR (some 0)]) (FX12_best [vR (some 147)]) := ci_two I (fun s r d b dc bc lw v u w lg bk z A x W J => ci_qry I (best_both J)) (fun s W H => ci_qry I (best_hom (hm_hom I W H)))
theorem ci_weaves {h : Hp} (I : INV h) : CI h (FX11_weaves [vR (some 0)]) (FX12_weaves [vR (some 147)]) := ci_two I (fun s r d b dc bc lw v u w lg bk z A x W J => ci_qry I (weaves_both J)) (fun s W H => ci_qry I (weaves_hom (hm_hom I W H)))
theorem ci_moon {h : Hp} (I : INV h) : CI h (FX11_moon [vR (some 0)]) (FX12_moon [vR (some 147)]) := ci_two I (fun s r d b dc bc lw v u w lg bk z A x W J => ci_qry I (moon_both J)) (fun s W H => ci_qry I (moon_hom (hm_hom I W H)))
theorem ci_owed {h : Hp} (I : INV h) (y : Int32) : CI h (FX11_owed [vR (some 0), vI y]) (FX12_owed [vR (some 147), vI y]) := ci_two I (fun s r d b dc bc lw v u w lg bk z A x W J => ci_qry I (owed_both J y)) (fun s W H => ci_qry I (owed_hom (hm_hom I W H) y))
theorem ci_paying {h : Hp} (I : INV h) (y : Int32) : CI h (FX11_paying [vR (some 0), vI y]) (FX12_paying [vR (some 147), vI y]) := ci_two I (fun s r d b dc bc lw v u w lg bk z A x W J => ci_qry I (paying_both J y)) (fun s W H => ci_qry I (paying_hom (hm_hom I W H) y))
theorem ci_debt {h : Hp} (I : INV h) (y y2 : Int32) : CI h (FX11_debt [vR (some 0), vI y, vI y2]) (FX12_debt [vR (some 147), vI y, vI y2]) := ci_two I (fun s r d b dc bc lw v u w lg bk z A x W J => ci_qry I (debt_both J y y2)) (fun s W H => ci_qry I (debt_hom (hm_hom I W H) (hm_hos I W H) y y2))
theorem ci_stands {h : Hp} (I : INV h) : CI h (FX11_stands [vR (some 0)]) (FX12_stands [vR (some 147)]) := ci_two I (fun s r d b dc bc lw v u w lg bk z A x W J => ci_qry I (stands_both J (ly_LSd I.1))) (fun s W H => ci_qry I (stands_hom (hm_hom I W H)))
theorem ci_bears {h : Hp} (I : INV h) (y : Int32) : CI h (FX11_bears [vR (some 0), vI y]) (FX12_bears [vR (some 147), vI y]) := ci_two I (fun s r d b dc bc lw v u w lg bk z A x W J => ci_qry I (bears_both J (ly_LSd I.1) y)) (fun s W H => ci_qry I (bears_hom (hm_hom I W H) y))
theorem ci_weaving {h : Hp} (I : INV h) (y y2 y3 : Int32) : CI h (FX11_weaving [vR (some 0), vI y, vI y2, vI y3]) (FX12_weaving [vR (some 147), vI y, vI y2, vI y3]) := ci_two I (fun s r d b dc bc lw v u w lg bk z A x W J => ci_qry I (weaving_both J (ly_SRl I.1) y y2 y3)) (fun s W H => ci_qry I (weaving_hom (hm_hom I W H) y y2 y3))
theorem ci_market {h : Hp} (I : INV h) (y : Int32) : CI h (FX11_market [vR (some 0), vI y]) (FX12_market [vR (some 147), vI y]) := ci_two I (fun s r d b dc bc lw v u w lg bk z A x W J => ci_qry I (market_both J (ly_SRl I.1) (ly_T5 I.1) y)) (fun s W H => ci_qry I (market_hom (hm_hom I W H) y))
theorem ci_ring {h : Hp} (I : INV h) (y : Int32) : CI h (FX11_ring [vR (some 0), vI y]) (FX12_ring [vR (some 147), vI y]) := ci_two I (fun s r d b dc bc lw v u w lg bk z A x W J => ci_qry I (ring_both J (ly_SRl I.1) (ly_T5 I.1) y)) (fun s W H => ci_qry I (ring_hom (hm_hom I W H) y))
theorem ci_crane {h : Hp} (I : INV h) : CI h (FX11_crane [vR (some 0)]) (FX12_crane [vR (some 147)]) := by
  obtain ⟨_, _, ⟨tc, so, is, T⟩, ⟨sc, ss, sm, si, S⟩, _⟩ := I.2.2.2
  exact ci_two I (fun s r d b dc bc lw v u w lg bk z A x W J => ci_qry I (crane_both J (ly_PRl I.1) T)) (fun s W H => ci_qry I (crane_hom (hm_hom I W H)))
theorem ci_from {h : Hp} (I : INV h) (y : Int32) : CI h (FX11_from [vR (some 0), vI y]) (FX12_from [vR (some 147), vI y]) := by
  obtain ⟨_, _, ⟨tc, so, is, T⟩, ⟨sc, ss, sm, si, S⟩, _⟩ := I.2.2.2
  exact ci_two I (fun s r d b dc bc lw v u w lg bk z A x W J => ci_qry I (from_both J (ly_PRl I.1) S y)) (fun s W H => ci_qry I (from_hom (hm_hom I W H) y))
theorem ci_ask {h : Hp} (I : INV h) : CI h (FX11_ask [vR (some 0)]) (FX12_ask [vR (some 147)]) := by
  obtain ⟨_, _, ⟨tc, so, is, T⟩, ⟨sc, ss, sm, si, S⟩, _⟩ := I.2.2.2
  exact ci_two I (fun s r d b dc bc lw v u w lg bk z A x W J => ci_qry I (ask_both J (ly_PRl I.1) S)) (fun s W H => ci_qry I (ask_hom (hm_hom I W H)))
theorem ci_run {h : Hp} (I : INV h) (y y2 : Int32) : CI h (FX11_run [vR (some 0), vI y, vI y2]) (FX12_run [vR (some 147), vI y, vI y2]) := by
  obtain ⟨_, ⟨pc, pn, N⟩, _⟩ := I.2.2.2
  exact ci_two I (fun s r d b dc bc lw v u w lg bk z A x W J => ci_qry I (run_both J (ly_LSd I.1) (ly_PLl I.1) N y y2)) (fun s W H => ci_qry I (run_hom (hm_hom I W H) y y2))
theorem ci_log {h : Hp} (I : INV h) (y y2 : Int32) : CI h (FX11_log [vR (some 0), vI y, vI y2]) (FX12_log [vR (some 147), vI y, vI y2]) := by
  obtain ⟨s, v, u, w, lg, bk, N⟩ := inv_ni I
  exact ci_qry I (log_both N y y2)
theorem ci_book {h : Hp} (I : INV h) (y y2 : Int32) : CI h (FX11_book [vR (some 0), vI y, vI y2]) (FX12_book [vR (some 147), vI y, vI y2]) := by
  obtain ⟨s, v, u, w, lg, bk, N⟩ := inv_ni I
  exact ci_qry I (book_both N y y2)
theorem ci_thin {h : Hp} (I : INV h) : CI h (FX11_thin [vR (some 0)]) (FX12_thin [vR (some 147)]) := by
  obtain ⟨s, v, u, w, lg, bk, N⟩ := inv_ni I
  exact ci_qry I (thin_both N)
theorem ci_step {h : Hp} (I : INV h) (y y2 y3 : Int32) : CI h (FX11_step [vR (some 0), vI y, vI y2, vI y3]) (FX12_step [vR (some 147), vI y, vI y2, vI y3]) := by
  obtain ⟨_, ⟨pc, pn, N⟩, _⟩ := I.2.2.2
  exact ci_qry I (step_both (ly_CF I.1).1 (ly_UL I.1).1 (ly_PLl I.1) N y y2 y3)
theorem ci_week {h : Hp} (I : INV h) (y : Int32) : CI h (FX11_week [vR (some 0), vI y]) (FX12_week [vR (some 147), vI y]) := ci_two I (fun s r d b dc bc lw v u w lg bk z A x W J => ci_act I W J.2.2.2.2.2.2.2.1 (by obtain ⟨res, h1, h2, a1, a2, a3, a4, v', w', lg', bk', z', A', x', a5⟩ := week_both J y; exact ⟨res, h1, h2, a1, a2, a3, a4, v', _, w', lg', bk', z', A', x', a5⟩)) (fun s W H => ci_qry I (week_hom (hm_hom I W H) y))
theorem ci_give {h : Hp} (I : INV h) (y : Int32) : CI h (FX11_give [vR (some 0), vI y]) (FX12_give [vR (some 147), vI y]) := ci_two I (fun s r d b dc bc lw v u w lg bk z A x W J => ci_act I W J.2.2.2.2.2.2.2.1 (give_both J y)) (fun s W H => ci_qry I (give_hom (hm_hom I W H) y))
theorem ci_iron {h : Hp} (I : INV h) {i : Nat} (hi : i ≤ 1) : CI h (FX11_iron [vR (some 0), vI (nI i)]) (FX12_iron [vR (some 147), vI (nI i)]) := ci_two I (fun s r d b dc bc lw v u w lg bk z A x W J => ci_act I W J.2.2.2.2.2.2.2.1 (iron_both J hi)) (fun s W H => ci_qry I (iron_hom (hm_hom I W H) (nI i)))
theorem ci_undo {h : Hp} (I : INV h) : CI h (FX11_undo [vR (some 0)]) (FX12_undo [vR (some 147)]) := ci_two I (fun s r d b dc bc lw v u w lg bk z A x W J => ci_act I W J.2.2.2.2.2.2.2.1 (undo_both J)) (fun s W H => ci_qry I (undo_none (ly_CF I.1).1 (ly_CF I.1).2.2.2.1 (ly_CF I.1).2.2.1 (ly_PTL I.1).1.1 (ly_UL I.1).1 H.2.2.2.1 H.2.2.2.2.1))
theorem ci_perform {h : Hp} (I : INV h) (y : Int32) : CI h (FX11_perform [vR (some 0), vI y]) (FX12_perform [vR (some 147), vI y]) := by
  obtain ⟨_, ⟨pc, pn, N⟩, _⟩ := I.2.2.2
  exact ci_two I (fun s r d b dc bc lw v u w lg bk z A x W J => ci_act2 I W (perform_both J (ly_PLl I.1) N y)) (fun s W H => ci_qry I (perform_hom (hm_hom I W H) y))
theorem ci_lives {h : Hp} (I : INV h) (y : Int32) (t : Int64) : CI h (FX11_lives [vR (some 0), vI y, vL t]) (FX12_lives [vR (some 147), vI y, vL t]) := ci_two I (fun s r d b dc bc lw v u w lg bk z A x W J => ci_actL I W (lives_both J I.2.2.2.2.2.2.2.2.1 rfl y t)) (fun s W H => ci_qry I (lives_hom (hm_hom I W H) y t))
theorem ci_back {h : Hp} (I : INV h) : CI h (FX11_back [vR (some 0)]) (FX12_back [vR (some 147)]) := ci_two I (fun s r d b dc bc lw v u w lg bk z A x W J => ci_act I W J.2.2.2.2.2.2.2.1 (back_both J (ly_IMl I.1) I.2.2.2.2.2.2.2.1)) (fun s W H => ci_qry I (back_hom (hm_hom I W H) H.2.2.2.2.2.2.1))
theorem ci_cut {h : Hp} (I : INV h) : CI h (FX11_cut [vR (some 0)]) (FX12_cut [vR (some 147)]) := ci_two I (fun s r d b dc bc lw v u w lg bk z A x W J => ci_act I W J.2.2.2.2.2.2.2.1 (cut_both J)) (fun s W H => by
  have H0 := H
  obtain ⟨_, _, _, _, _, _, _, _, v, u, w, lg, bk, z, x, ⟨n1, n2, _, _⟩, _, k2, _, _, _, q2, q3⟩ := H
  have C : CLa h 10 v u := ⟨fun k _ _ => by rw [n1]; rfl, fun k _ => by rw [n2]; rfl⟩
  obtain ⟨h', m1, m2⟩ := mark_hom (ly_PTL I.1) C k2.2.1 k2.2.2.2.1 q2 q3
  exact ci_mrk I W H0 q3 (cut_hom (hm_hos I W H0) (ly_CF I.1).1 (ly_UL I.1).1 H0.2.2.1 (ly_CF I.1).2.2.2.1 (ly_PTL I.1).1.1 (ly_CF I.1).2.2.1 (hw_s W) q3 m1 m2))
theorem ci_pay {h : Hp} (I : INV h) (y : Int32) : CI h (FX11_pay [vR (some 0), vI y]) (FX12_pay [vR (some 147), vI y]) := ci_two I (fun s r d b dc bc lw v u w lg bk z A x W J => ci_act I W J.2.2.2.2.2.2.2.1 (pay_both J y)) (fun s W H => by
  have H0 := H
  obtain ⟨_, _, _, _, _, _, _, _, v, u, w, lg, bk, z, x, ⟨n1, n2, _, _⟩, _, k2, _, _, _, q2, q3⟩ := H
  have C : CLa h 10 v u := ⟨fun k _ _ => by rw [n1]; rfl, fun k _ => by rw [n2]; rfl⟩
  obtain ⟨h', m1, m2⟩ := mark_hom (ly_PTL I.1) C k2.2.1 k2.2.2.2.1 q2 q3
  exact ci_mrk I W H0 q3 (pay_hom (hm_hos I W H0) (ly_CF I.1).1 (ly_UL I.1).1 (ly_CF I.1).2.2.2.1 (ly_PTL I.1).1.1 (ly_CF I.1).2.2.1 (hw_s W) q3 m1 m2 y))
theorem ci_sell {h : Hp} (I : INV h) (y y2 : Int32) : CI h (FX11_sell [vR (some 0), vI y, vI y2]) (FX12_sell [vR (some 147), vI y, vI y2]) := ci_two I (fun s r d b dc bc lw v u w lg bk z A x W J => ci_act I W J.2.2.2.2.2.2.2.1 (sell_both J y y2)) (fun s W H => by
  have H0 := H
  obtain ⟨_, _, _, _, _, _, _, _, v, u, w, lg, bk, z, x, ⟨n1, n2, _, _⟩, _, k2, _, _, _, q2, q3⟩ := H
  have C : CLa h 10 v u := ⟨fun k _ _ => by rw [n1]; rfl, fun k _ => by rw [n2]; rfl⟩
  obtain ⟨h', m1, m2⟩ := mark_hom (ly_PTL I.1) C k2.2.1 k2.2.2.2.1 q2 q3
  exact ci_mrk I W H0 q3 (sell_hom (hm_hos I W H0) (ly_CF I.1).1 (ly_UL I.1).1 H0.2.2.1 (ly_CF I.1).2.2.2.1 (ly_PTL I.1).1.1 (ly_CF I.1).2.2.1 (hw_s W) q3 m1 m2 y y2))
