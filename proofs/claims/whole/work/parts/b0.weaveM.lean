/-! ===== PURE: weaving, in the reference ===== -/
theorem takesBy_s {h : Hp} {s : Nat} {r d b : Nat → Nat} {dc bc : Nat} {lw : Option ((Nat → Int32) × Nat)} (S : STc h s r d b dc bc lw) (x1 x2 x3 x4 x5 : Nat) : ∃ h', FX12_takesBy [vR (some 147), vI (nI x1), vI (nI x2), vI (nI x3), vI (nI x4), vI (nI x5)] h = some (rI (nI (TK lw r x1 x2 x3 x4 x5)), h') ∧ Mo h h' := by
  have M := S.2.2.2.2.1
  have Q := S.2.2.2.2.2.2.2
  cases lw with
  | none => exact ⟨h, takesBy_0 M Q.2, Mo.refl _⟩
  | some p =>
    obtain ⟨c, N⟩ := p
    obtain ⟨l, cd, li, n, t, q1, q2, q3, q4, q5, q6⟩ := Q
    obtain ⟨fv, h', e, mo, O⟩ := takesBy_l (x1 := x1) (x2 := x2) (x3 := x3) (x4 := x4) (x5 := x5) M q5 q6
    have eq : fv = lawV c (LT x1 (r 3) x2 x3 x4 x5) N := wo_unique q2 q3 (by omega) O (lawV_sp O)
    refine ⟨h', ?_, mo⟩
    rw [e, eq]
    rfl
noncomputable def pIf {α : Type} (c : Prop) (a b : α) : α := @ite α c (Classical.propDecidable c) a b
theorem pIf_t {α : Type} {c : Prop} (h : c) (a b : α) : pIf c a b = a := if_pos h
theorem pIf_f {α : Type} {c : Prop} (h : ¬ c) (a b : α) : pIf c a b = b := if_neg h
/-- the best so far: its worth and its row -/
def updS (st : Option (Nat × Nat)) (w row : Nat) : Option (Nat × Nat) := match st with
  | none => some (w, row)
  | some (w0, r0) => if w0 < w then some (w, row) else some (w0, r0)
noncomputable def tkV (lw : Option ((Nat → Int32) × Nat)) (r V : Nat → Nat) : Nat := TK lw r (V 0) (V 2) (V 10) (V 9) (V 4)
/-- all rows of k weeks from a life, the best of them -/
noncomputable def wvF (lw : Option ((Nat → Int32) × Nat)) (r : Nat → Nat) (p : Nat) : Nat → (Nat → Nat) → Nat → Option (Nat × Nat) → Option (Nat × Nat)
  | 0, V, row, st => updS st (V 4 + p * V 5) row
  | k + 1, V, row, st => wvF lw r p k (dayV lw r V 2) (10 * row + 2) (pIf (canW V 1 (tkV lw r V)) (wvF lw r p k (dayV lw r V 1) (10 * row + 1) (wvF lw r p k (dayV lw r V 0) (10 * row + 0) st)) (wvF lw r p k (dayV lw r V 0) (10 * row + 0) st))
theorem wvF_s (lw : Option ((Nat → Int32) × Nat)) (r : Nat → Nat) (p k : Nat) (V : Nat → Nat) (row : Nat) (st : Option (Nat × Nat)) : wvF lw r p (k + 1) V row st = wvF lw r p k (dayV lw r V 2) (10 * row + 2) (pIf (canW V 1 (tkV lw r V)) (wvF lw r p k (dayV lw r V 1) (10 * row + 1) (wvF lw r p k (dayV lw r V 0) (10 * row + 0) st)) (wvF lw r p k (dayV lw r V 0) (10 * row + 0) st)) := rfl
/-- how the reference holds the best -/
def encM (h : Hp) (st : Option (Nat × Nat)) : Prop := match st with
  | none => hI h 147 39 = -1
  | some (w0, r0) => hI h 147 39 = nI w0 ∧ hI h 147 40 = nI r0 ∧ w0 ≤ 20000
theorem encM_mo {h h' : Hp} {st : Option (Nat × Nat)} (E : encM h st) (mo : Mo h h') : encM h' st := by
  unfold encM
  cases st with
  | none => show hI h' 147 39 = -1; rw [mo.2.2.2.2.2.2.2 39 (by simp)]; exact E
  | some p =>
    obtain ⟨e1, e2, e3⟩ := E
    exact ⟨by rw [mo.2.2.2.2.2.2.2 39 (by simp)]; exact e1, by rw [mo.2.2.2.2.2.2.2 40 (by simp)]; exact e2, e3⟩
theorem upd_m {h : Hp} {st : Option (Nat × Nat)} {d : Nat} {row x2 x3 x4 : Nat} {y3 y4 y5 y8 y9 : Int32} (M147 : hK h 147 = 12) (E : encM h st) (hw : x3 + x2 * x4 ≤ 20000) : ∃ h', gGw (d + 1) 0 [vR (some 147), vI (nI 0), vI (nI x2), vI y3, vI y4, vI y5, vI (nI x3), vI (nI x4), vI y8, vI y9, vI (nI row)] h = some (rV, h') ∧ Mq h h' [] [39, 40] ∧ encM h' (updS st (x3 + x2 * x4) row) := by
  have e : nI x3 + nI x2 * nI x4 = nI (x3 + x2 * x4) := by rw [pk_mul, nI_add]
  have up : ∀ h', h' = sI (sI h 147 39 (nI (x3 + x2 * x4))) 147 40 (nI row) → Mq h h' [] [39, 40] ∧ encM h' (some (x3 + x2 * x4, row)) := fun h' eh => by
    subst eh
    exact ⟨(mq_sI _ _ _ (by simp)).trans (mq_sI _ _ _ (by simp)), by rw [hI_slot _ _ _ _ (by decide), hI_same], hI_same _ _ _ _, hw⟩
  cases st with
  | none =>
    have e1 : hI h 147 39 = -1 := E
    obtain ⟨u1, u2⟩ := up _ rfl
    refine ⟨_, ?_, u1, u2⟩
    show Fm (kX12_goWeaving (gGw d)) 18 _ h = _
    rw [tX12_goWeaving (gGw_G d)]
    simp only [oB_some, dR_some, cond_true, cond_false, if_true, if_false, Bool.true_and, Bool.and_true, Nat.beq_refl, nI_0, M147, e1, hK_sI, e]
  | some q =>
    obtain ⟨w0, r0⟩ := q
    obtain ⟨e1, e2, e3⟩ := E
    have n1 : ¬ nI w0 = -1 := nI_nm1 (by omega)
    have q1 : (nI w0 < nI (x3 + x2 * x4)) = (w0 < x3 + x2 * x4) := nI_nlt' (by omega) (by omega)
    by_cases c : w0 < x3 + x2 * x4
    · obtain ⟨u1, u2⟩ := up _ rfl
      refine ⟨_, ?_, u1, by show encM _ (if w0 < x3 + x2 * x4 then _ else _); rw [if_pos c]; exact u2⟩
      show Fm (kX12_goWeaving (gGw d)) 18 _ h = _
      rw [tX12_goWeaving (gGw_G d)]
      simp only [oB_some, dR_some, cond_true, cond_false, if_true, if_false, Bool.true_and, Bool.and_true, Nat.beq_refl, nI_0, M147, e1, n1, hK_sI, e, q1, c]
    · refine ⟨h, ?_, mq_refl _ _ _, by show encM h (if w0 < x3 + x2 * x4 then _ else _); rw [if_neg c]; exact ⟨e1, e2, e3⟩⟩
      show Fm (kX12_goWeaving (gGw d)) 18 _ h = _
      rw [tX12_goWeaving (gGw_G d)]
      simp only [oB_some, dR_some, cond_true, cond_false, if_true, if_false, Bool.true_and, Bool.and_true, Nat.beq_refl, nI_0, M147, e1, n1, e, q1, c]
/-- one deed of the reference's search, from its own cut on -/
theorem gw_175 {h : Hp} {s : Nat} {r d b X : Nat → Nat} {dc bc k dd tk mo D : Nat} {lw : Option ((Nat → Int32) × Nat)} {x2 x5 x6 x10 : Int32} {V0 V5 V10 V9 : Nat} (S : STc h s r d b dc bc lw) (hd : dd ≤ 2) (ht : tk ≤ V0) (h0 : V0 ≤ 60) (h1 : X 1 ≤ 1) (h2 : X 2 < 2 ^ 29) (e0 : X 0 = V0 - tk) (e5 : X 5 = V5 + mo) (e10 : X 10 = V10 + mo) (e9 : X 9 = V9) (em : mo = if dd = 1 then 1 else 0) : ∃ o13 o14 o15 o16 o17, Run (kX12_goWeaving (gGw D)) 175 [some (vR (some 147)), some (vI (nI (k + 1))), some (vI x2), some (vI (nI V0)), some (vI (nI (X 1))), some (vI x5), some (vI x6), some (vI (nI V5)), some (vI (nI V10)), some (vI (nI V9)), some (vI x10), some (vI (nI dd)), some (vI (nI tk)), some (vI (nI (X 2))), none, none, none, none] [vI (nI (X 4))] h = oB (gGw D 0 [vR (some 147), vI (nI k), vI x2, vI (nI (wkE X r dd 0)), vI (nI (wkE X r dd 1)), vI (nI (wkE X r dd 2)), vI (nI (wkE X r dd 4)), vI (nI (wkE X r dd 5)), vI (nI (wkE X r dd 10)), vI (nI (wkE X r dd 9)), vI (10 * x10 + nI dd)] h) (fun _ h2 => Run (kX12_goWeaving (gGw D)) 48 [some (vR (some 147)), some (vI (nI (k + 1))), some (vI x2), some (vI (nI V0)), some (vI (nI (X 1))), some (vI x5), some (vI x6), some (vI (nI V5)), some (vI (nI V10)), some (vI (nI V9)), some (vI x10), some (vI (nI (dd + 1))), none, o13, o14, o15, o16, o17] [] h2) := by
  obtain ⟨M147, R18, K152, E152, R20, K154, E154, R22, K156, E156, R32, K160, E160, dcM, bcM⟩ := smf S
  have rM := S.2.2.2.2.1.2.2.2.2.2.2.1
  have r1 := rM 1 (by decide)
  have r2 := rM 2 (by decide)
  have r6 := rM 6 (by decide)
  have rb := S.2.2.2.2.1.2.2.2.2.2.2.2.2.2.1
  have i71 : inb 1 7 = true := by decide
  have i72 : inb 2 7 = true := by decide
  have i76 : inb 6 7 = true := by decide
  have q1 : nI (k + 1) - 1 = nI k := nI_p1 k
  have q2 : nI V0 - nI tk = nI (V0 - tk) := by
    have : nI (V0 - tk) + nI tk = nI V0 := by rw [nI_add]; congr 1; omega
    rw [← this, Int32.add_sub_cancel]
  have q6 : (nI (X 2) < nI (r 6)) = (X 2 < r 6) := nI_nlt' (by omega) (by have := rb 6; omega)
  have a1 : nI V5 + 1 = nI (V5 + 1) := nI_1 _
  have w2 : wkE X r dd 2 = X 2 := wkE_o (by decide) (by decide) (by decide)
  have w4 : wkE X r dd 4 = X 4 := wkE_o (by decide) (by decide) (by decide)
  have w5 : wkE X r dd 5 = V5 + mo := by rw [wkE_o (by decide) (by decide) (by decide)]; exact e5
  have w10 : wkE X r dd 10 = V10 + mo := by rw [wkE_o (by decide) (by decide) (by decide)]; exact e10
  have w9 : wkE X r dd 9 = V9 + 1 := by rw [wkE_9, e9]
  have nd3 : ¬ dd = 3 := by omega
  have qdd : (nI dd = (1 : Int32)) = (dd = 1) := nI_neq' (b := 1) (by omega) (by omega)
  have end_ : ∀ (W0 W1 : Nat) (o13 o14 o15 o16 : Option EV), wkE X r dd 0 = W0 → wkE X r dd 1 = W1 → ∃ o17, Run (kX12_goWeaving (gGw D)) 235 [some (vR (some 147)), some (vI (nI (k + 1))), some (vI x2), some (vI (nI V0)), some (vI (nI (X 1))), some (vI x5), some (vI x6), some (vI (nI V5)), some (vI (nI V10)), some (vI (nI V9)), some (vI x10), some (vI (nI dd)), some (vI (nI tk)), some (vI (nI (X 2))), some (vI (nI (X 4))), some (vI (nI W1)), none, none] [vI (nI W0)] h = oB (gGw D 0 [vR (some 147), vI (nI k), vI x2, vI (nI W0), vI (nI W1), vI (nI (wkE X r dd 2)), vI (nI (wkE X r dd 4)), vI (nI (wkE X r dd 5)), vI (nI (wkE X r dd 10)), vI (nI (wkE X r dd 9)), vI (10 * x10 + nI dd)] h) (fun _ h2 => Run (kX12_goWeaving (gGw D)) 48 [some (vR (some 147)), some (vI (nI (k + 1))), some (vI x2), some (vI (nI V0)), some (vI (nI (X 1))), some (vI x5), some (vI x6), some (vI (nI V5)), some (vI (nI V10)), some (vI (nI V9)), some (vI x10), some (vI (nI (dd + 1))), none, some (vI (nI (X 2))), some (vI (nI (X 4))), some (vI (nI W1)), some (vI (nI W0)), o17] [] h2) := by
    intro W0 W1 o13 o14 o15 o16 f0 f1
    rw [w2, w4, w5, w10, w9, tX12_goWeaving_235 (gGw_G D)]
    by_cases c : dd = 1
    · rw [if_pos c] at em
      refine ⟨some (vI 1), ?_⟩
      simp only [oB_some, dR_some, cond_true, cond_false, if_true, if_false, Bool.true_and, Bool.and_true, Nat.beq_refl, qdd.trans (eq_true c), M147, q1, nI_1, em]
    · rw [if_neg c] at em
      refine ⟨some (vI 0), ?_⟩
      simp only [oB_some, dR_some, cond_true, cond_false, if_true, if_false, Bool.true_and, Bool.and_true, Nat.beq_refl, qdd, c, M147, q1, nI_1, em, Int32.add_zero, Nat.add_zero]
  rw [tX12_goWeaving_175 (gGw_G D)]
  rcases (show X 1 = 0 ∨ X 1 = 1 by omega) with z | z
  · by_cases c6 : X 2 < r 6
    · have f1 : wkE X r dd 1 = 0 := by
        unfold wkE growV; rw [up1_o _ _ (by decide), if_pos z, if_neg nd3, if_pos c6, up1_o _ _ (by decide)]; exact z
      have f0 : wkE X r dd 0 = mnN (V0 - tk + r 2) (r 1) := by
        unfold wkE growV; rw [up1_o _ _ (by decide), if_pos z, if_neg nd3, if_pos c6, up1_s, e0]
      obtain ⟨o17, en⟩ := end_ _ _ none none none none f0 f1
      rw [f0, f1]
      refine ⟨some (vI (nI (X 2))), some (vI (nI (X 4))), some (vI (nI 0)), some (vI (nI (mnN (V0 - tk + r 2) (r 1)))), o17, ?_⟩
      rw [← en]
      have mm : (if nI (V0 - tk + r 2) < nI (r 1) then nI (V0 - tk + r 2) else nI (r 1)) = nI (mnN (V0 - tk + r 2) (r 1)) := mn' (by have := rb 2; omega) (by have := rb 1; omega)
      simp only [oB_some, dR_some, cond_true, cond_false, if_true, if_false, Bool.true_and, Bool.and_true, Nat.beq_refl, z, nI_0, ne01, M147, R18, K152, E152, iaK20, i76, tc6, r6, q6, c6, tX12_goWeaving_200 (gGw_G D), i71, tc1, r1, i72, tc2, r2, q2, nI_add, mm]
    · have f1 : wkE X r dd 1 = 1 := by
        unfold wkE growV; rw [up1_o _ _ (by decide), if_pos z, if_neg nd3, if_neg c6, up1_s]
      have f0 : wkE X r dd 0 = V0 - tk := by
        unfold wkE growV; rw [up1_o _ _ (by decide), if_pos z, if_neg nd3, if_neg c6, up1_o _ _ (by decide), e0]
      obtain ⟨o17, en⟩ := end_ _ _ none none none none f0 f1
      rw [f0, f1]
      refine ⟨some (vI (nI (X 2))), some (vI (nI (X 4))), some (vI (nI 1)), some (vI (nI (V0 - tk))), o17, ?_⟩
      rw [← en]
      simp only [oB_some, dR_some, cond_true, cond_false, if_true, if_false, Bool.true_and, Bool.and_true, Nat.beq_refl, z, nI_0, ne01, M147, R18, K152, E152, iaK20, i76, tc6, r6, q6, c6, tX12_goWeaving_200 (gGw_G D), q2]
      rfl
  · have nz : ¬ X 1 = 0 := by omega
    have f1 : wkE X r dd 1 = 1 := by
      unfold wkE growV; rw [up1_o _ _ (by decide), if_neg nz]; exact z
    have f0 : wkE X r dd 0 = V0 - tk := by
      unfold wkE growV; rw [up1_o _ _ (by decide), if_neg nz, e0]
    obtain ⟨o17, en⟩ := end_ _ _ none none none none f0 f1
    rw [f0, f1]
    refine ⟨some (vI (nI (X 2))), some (vI (nI (X 4))), some (vI (nI 1)), some (vI (nI (V0 - tk))), o17, ?_⟩
    rw [← en]
    simp only [oB_some, dR_some, cond_true, cond_false, if_true, if_false, Bool.true_and, Bool.and_true, Nat.beq_refl, z, show nI 1 = (1 : Int32) from rfl, tX12_goWeaving_200 (gGw_G D), q2]
