/-! ===== PURE: weaving, in the class, and by both ===== -/
def eqv (V V2 : Nat → Nat) : Prop := ∀ k, k ≤ 12 → k ≠ 8 → V2 k = V k
theorem eqv_up {V V2 : Nat → Nat} (e : eqv V V2) {k x y : Nat} (h : x = y) : eqv (up1 V k x) (up1 V2 k y) := fun j hj h8 => by
  unfold up1
  by_cases c : j = k
  · rw [if_pos c, if_pos c, h]
  · rw [if_neg c, if_neg c]; exact e j hj h8
theorem eqv_wk {V V2 r : Nat → Nat} {dd : Nat} (e : eqv V V2) : eqv (wkE V r dd) (wkE V2 r dd) := by
  unfold wkE
  refine eqv_up ?_ (by rw [e 9 (by omega) (by omega)])
  unfold growV
  rw [e 1 (by omega) (by omega), e 2 (by omega) (by omega)]
  by_cases c1 : V 1 = 0
  · rw [if_pos c1, if_pos c1]
    by_cases c2 : dd = 3
    · rw [if_pos c2, if_pos c2]; exact eqv_up e rfl
    · rw [if_neg c2, if_neg c2]
      by_cases c3 : V 2 < r 6
      · rw [if_pos c3, if_pos c3]; exact eqv_up e (by rw [e 0 (by omega) (by omega)])
      · rw [if_neg c3, if_neg c3]; exact eqv_up e rfl
  · rw [if_neg c1, if_neg c1]; exact e
theorem eqv_tk {V V2 r : Nat → Nat} {lw : Option ((Nat → Int32) × Nat)} (e : eqv V V2) : tkV lw r V2 = tkV lw r V := by
  unfold tkV; rw [e 0 (by omega) (by omega), e 2 (by omega) (by omega), e 10 (by omega) (by omega), e 9 (by omega) (by omega), e 4 (by omega) (by omega)]
theorem eqv_can {V V2 : Nat → Nat} {dd tk : Nat} (e : eqv V V2) : canW V2 dd tk ↔ canW V dd tk := by
  unfold canW; rw [e 0 (by omega) (by omega), e 1 (by omega) (by omega), e 10 (by omega) (by omega)]
theorem eqv_day {V V2 r : Nat → Nat} {lw : Option ((Nat → Int32) × Nat)} {dd : Nat} (e : eqv V V2) : eqv (dayV lw r V dd) (dayV lw r V2 dd) := by
  by_cases c : dd = 1
  · subst c
    rw [day_y1, day_y1, eqv_tk e]
    refine eqv_wk ?_
    unfold bolt
    rw [e 3 (by omega) (by omega)]
    by_cases c3 : V 3 = 0
    · rw [if_pos c3, if_pos c3]
      exact eqv_up (eqv_up (eqv_up (eqv_up (eqv_up e rfl) (by rw [e 0 (by omega) (by omega)])) (by rw [e 5 (by omega) (by omega)])) (by rw [e 10 (by omega) (by omega)])) (by rw [e 2 (by omega) (by omega)])
    · rw [if_neg c3, if_neg c3]
      exact eqv_up (eqv_up (eqv_up (eqv_up e rfl) (by rw [e 0 (by omega) (by omega)])) (by rw [e 5 (by omega) (by omega)])) (by rw [e 10 (by omega) (by omega)])
  · rw [day_n1 c, day_n1 c]
    refine eqv_wk ?_
    unfold deedV
    by_cases c2 : dd = 2
    · rw [if_pos c2, if_pos c2]; exact eqv_up e (by rw [e 4 (by omega) (by omega)])
    · rw [if_neg c2, if_neg c2]
      by_cases c0 : dd = 0
      · rw [if_pos c0, if_pos c0]; exact eqv_up e (by rw [e 2 (by omega) (by omega)])
      · rw [if_neg c0, if_neg c0]; exact e
theorem eqv_wv {lw : Option ((Nat → Int32) × Nat)} {r : Nat → Nat} {p : Nat} : ∀ k {V V2 : Nat → Nat} (row : Nat) (st : Option (Nat × Nat)), eqv V V2 → wvF lw r p k V2 row st = wvF lw r p k V row st := by
  intro k
  induction k with
  | zero => intro V V2 row st e; show updS st (V2 4 + p * V2 5) row = updS st (V 4 + p * V 5) row; rw [e 4 (by omega) (by omega), e 5 (by omega) (by omega)]
  | succ k ih =>
    intro V V2 row st e
    rw [wvF_s, wvF_s, ih _ _ (eqv_day e), ih _ _ (eqv_day e), ih _ _ (eqv_day e), eqv_tk e]
    by_cases c : canW V 1 (tkV lw r V)
    · rw [pIf_t c, pIf_t ((eqv_can e).mpr c)]
    · rw [pIf_f c, pIf_f (fun q => c ((eqv_can e).mp q))]
/-- what money and bolts are behind a week -/
theorem day_gain {lw : Option ((Nat → Int32) × Nat)} {r V : Nat → Nat} : (dayV lw r V 0 4 = V 4 ∧ dayV lw r V 0 5 = V 5) ∧ (dayV lw r V 1 4 = V 4 ∧ dayV lw r V 1 5 = V 5 + 1) ∧ (dayV lw r V 2 4 ≤ V 4 + r 4 ∧ dayV lw r V 2 5 = V 5) := by
  refine ⟨⟨?_, ?_⟩, ⟨?_, ?_⟩, ⟨?_, ?_⟩⟩
  · rw [day_n1 (by decide), wkE_o (by decide) (by decide) (by decide), deed_0o (by decide)]
  · rw [day_n1 (by decide), wkE_o (by decide) (by decide) (by decide), deed_0o (by decide)]
  · rw [day_y1, wkE_o (by decide) (by decide) (by decide), bolt_o (by decide) (by decide) (by decide) (by decide) (by decide)]
  · rw [day_y1, wkE_o (by decide) (by decide) (by decide), bolt_5]
  · rw [day_n1 (by decide), wkE_o (by decide) (by decide) (by decide), deed2_4]; unfold mnN; split <;> omega
  · rw [day_n1 (by decide), wkE_o (by decide) (by decide) (by decide), deed_2o (by decide)]
def mxp (p q : Nat) : Nat := if p < q then q else p
theorem wvF_low {lw : Option ((Nat → Int32) × Nat)} {r : Nat → Nat} {p w0 r0 : Nat} : ∀ k (V : Nat → Nat) (row : Nat), V 4 + p * V 5 + mxp p (r 4) * k ≤ w0 → wvF lw r p k V row (some (w0, r0)) = some (w0, r0) := by
  intro k
  induction k with
  | zero => intro V row h; show (if w0 < V 4 + p * V 5 then _ else _) = _; rw [if_neg (by omega)]
  | succ k ih =>
    intro V row h
    obtain ⟨⟨a1, a2⟩, ⟨b1, b2⟩, ⟨c1, c2⟩⟩ := day_gain (lw := lw) (r := r) (V := V)
    have m1 : p ≤ mxp p (r 4) := by unfold mxp; split <;> omega
    have m2 : r 4 ≤ mxp p (r 4) := by unfold mxp; split <;> omega
    rw [Nat.mul_succ] at h
    have e0 := ih (dayV lw r V 0) (10 * row + 0) (by rw [a1, a2]; omega)
    have e1 := ih (dayV lw r V 1) (10 * row + 1) (by rw [b1, b2, Nat.mul_succ]; omega)
    have e2 := ih (dayV lw r V 2) (10 * row + 2) (by rw [c2]; omega)
    rw [wvF_s, e0, e1]
    by_cases c : canW V 1 (tkV lw r V)
    · rw [pIf_t c]; exact e2
    · rw [pIf_f c]; exact e2
theorem wvF_some {lw : Option ((Nat → Int32) × Nat)} {r : Nat → Nat} {p : Nat} : ∀ k (V : Nat → Nat) (row : Nat) (st : Option (Nat × Nat)), ∃ w0 r0, wvF lw r p k V row st = some (w0, r0) := by
  intro k
  induction k with
  | zero =>
    intro V row st
    cases st with
    | none => exact ⟨_, _, rfl⟩
    | some q =>
      obtain ⟨w0, r0⟩ := q
      show ∃ w1 r1, (if w0 < V 4 + p * V 5 then some (V 4 + p * V 5, row) else some (w0, r0)) = some (w1, r1)
      split
      · exact ⟨_, _, rfl⟩
      · exact ⟨_, _, rfl⟩
  | succ k ih => intro V row st; rw [wvF_s]; exact ih _ _ _
/-- the class's search, where it lies -/
def SRl (h : Hp) : Prop := (hR h 0 7 = some 103 ∧ hK h 103 = 8 ∧ hR h 103 0 = some 3 ∧ hR h 103 1 = some 104 ∧ hK h 104 = 34 ∧ hE h 104 = 9) ∧ (∀ j, j < 9 → hR h 104 j = some (108 + 2 * j) ∧ LPl h (108 + 2 * j)) ∧ (hR h 103 8 = some 107 ∧ hK h 107 = 20 ∧ hE h 107 = 2116)
theorem srl_only {h h' : Hp} {l : List Nat} (P : SRl h) (O : Only h h' l) : SRl h' := by
  unfold SRl LPl; rw [O.K, O.E, O.R]; exact P
theorem ll_sr {h : Hp} {s j : Nat} (P : SRl h) (hs : s = 4 ∨ s = 131) (hj : j < 9) : LL h (108 + 2 * j) s := by
  obtain ⟨p1, p2, p3, p4⟩ := (P.2.1 j hj).2
  exact ⟨p1, p2, p3, p4, by omega⟩
def wvL : List Nat := [8, 9, 103, 108, 109, 110, 111, 112, 113, 114, 115, 116, 117, 118, 119, 120, 121, 122, 123, 124, 125]
theorem wvL_of {a : Nat} : a ∈ wvL ↔ (a = 8 ∨ a = 9 ∨ a = 103 ∨ (108 ≤ a ∧ a ≤ 125)) := by
  unfold wvL
  constructor
  · intro h; simp at h; omega
  · intro h
    have : ∀ a, a < 126 → (a = 8 ∨ a = 9 ∨ a = 103 ∨ (108 ≤ a ∧ a ≤ 125)) → a ∈ wvL := by decide
    exact this a (by omega) h
theorem st_wv {h h' : Hp} {s : Nat} {r d b : Nat → Nat} {dc bc : Nat} {lw : Option ((Nat → Int32) × Nat)} (S : STc h s r d b dc bc lw) (O : Only h h' wvL) : STc h' s r d b dc bc lw := st_sg S (sg_only O (fun a ha => by have := wvL_of.mp ha; omega))
def encC (h : Hp) (st : Option (Nat × Nat)) : Prop := match st with
  | none => hI h 103 5 = -1
  | some (w0, r0) => hI h 103 5 = nI w0 ∧ hI h 103 4 = nI r0 ∧ w0 ≤ 20000
theorem encC_fr {h h' : Hp} {st : Option (Nat × Nat)} (E : encC h st) (e : hI h' 103 = hI h 103) : encC h' st := by
  unfold encC; rw [e]; exact E
theorem tryRows_c {s : Nat} {r d b : Nat → Nat} {dc bc p n : Nat} {lw : Option ((Nat → Int32) × Nat)} (hp : p ≤ 60) (hn : n ≤ 8) : ∀ k D N j row (h : Hp) (st : Option (Nat × Nat)) (V U : Nat → Nat), j + k = n → k ≤ D → N + k ≤ 5000 → STc h s r d b dc bc lw → SRl h → hI h 103 2 = nI n → hI h 103 3 = nI p → hI h (108 + 2 * j) = nR V → hI h (108 + 2 * j + 1) = nR U → SVb N V U → encC h st → ∃ h', gTr (D + 1) 0 [vR (some 103), vI (nI j), vI (nI row)] h = some (rV, h') ∧ Only h h' wvL ∧ (∀ a, 108 ≤ a → a ≤ 109 + 2 * j → hI h' a = hI h a) ∧ hI h' 103 2 = nI n ∧ hI h' 103 3 = nI p ∧ encC h' (wvF lw r p k V row st) := by
  intro k
  induction k with
  | zero =>
    intro D N j row h st V U ej hD hN S L c2 c3 e1 e2 B E
    obtain ⟨K0, R01, R02, R04, R05, K3, R30, Ks, Rs2, Rs3, Rs4, Ks1, Es1, Ks2, Es2, Ks3, Es3, K10, R108, K11, E11, K14, K98, td, dcC, bcC⟩ := sfa S
    obtain ⟨⟨s1, s2, s3, s4, s5, s6⟩, s7, _⟩ := L
    obtain ⟨q1, q2⟩ := s7 j (by omega)
    have K4 := q2.1
    have r4 := S.2.2.2.1.2.2.2.2.1 4 (by decide)
    have rb := S.2.2.2.2.1.2.2.2.2.2.2.2.2.2.1
    obtain ⟨b0, b1, b2, b3, b4, b5, b7, b9, b10, b11, b12, bu⟩ := B
    have pv : p * V 5 ≤ 60 * 60 := Nat.mul_le_mul hp (by omega)
    have ib : inb (nI j) 9 = true := inb_nI (by omega) (by omega)
    have cl : (nI j).toNatClampNeg = j := nI_clamp (by omega)
    have i74 : inb 4 7 = true := by decide
    have v4 : hI h (108 + 2 * j) 4 = nI (V 4) := by rw [e1]; rfl
    have v5 : hI h (108 + 2 * j) 5 = nI (V 5) := by rw [e1]; rfl
    have jn : j = n := by omega
    subst jn
    have dz : nI j - nI j = nI 0 := by rw [Int32.sub_self]; rfl
    have m0 : ∀ x : Int32, x * nI 0 = nI 0 := fun x => by rw [show nI 0 = (0 : Int32) from rfl, Int32.mul_zero]
    have ew : nI (V 4) + nI p * nI (V 5) = nI (V 4 + p * V 5) := by rw [pk_mul, nI_add]
    have ng : nI (V 4 + p * V 5) + nI 0 = nI (V 4 + p * V 5) := by rw [nI_add]; rfl
    have nlt : ¬ nI j < nI j := fun q => Int32.lt_irrefl q
    have upd : ∀ h', h' = sI (sI h 103 5 (nI (V 4 + p * V 5))) 103 4 (nI row) → Only h h' wvL ∧ (∀ a, 108 ≤ a → a ≤ 109 + 2 * j → hI h' a = hI h a) ∧ hI h' 103 2 = nI j ∧ hI h' 103 3 = nI p ∧ encC h' (some (V 4 + p * V 5, row)) := fun h' eh => by
      subst eh
      exact ⟨(only_sI _ _ _ (wvL_of.mpr (by omega))).trans (only_sI _ _ _ (wvL_of.mpr (by omega))), fun a h1 h2 => by rw [hI_row _ _ _ _ (by omega), hI_row _ _ _ _ (by omega)], by rw [hI_slot _ _ _ _ (by decide), hI_slot _ _ _ _ (by decide)]; exact c2, by rw [hI_slot _ _ _ _ (by decide), hI_slot _ _ _ _ (by decide)]; exact c3, by rw [hI_slot _ _ _ _ (by decide), hI_same], hI_same _ _ _ _, by omega⟩
    cases st with
    | none =>
      have f5 : hI h 103 5 = -1 := E
      have lt : (-1 : Int32) < nI (V 4 + p * V 5) := by
        rw [Int32.lt_iff_toInt_lt, nI_toInt (by omega), show (-1 : Int32).toInt = -1 from rfl]; omega
      obtain ⟨u1, u2, u3, u4, u5⟩ := upd _ rfl
      refine ⟨_, ?_, u1, u2, u3, u4, u5⟩
      show Fm (kX8_tryRows (gTr D)) 7 _ h = _
      rw [tX8_tryRows (gTr_G D)]
      simp only [oB_some, dR_some, cond_true, cond_false, if_true, if_false, Bool.true_and, Bool.and_true, Nat.beq_refl, s2, s4, s5, s6, ib, cl, q1, K4, s3, K3, R30, Ks, Rs2, Ks1, Es1, iaK20, i74, tc4, r4, v4, v5, c2, c3, dz, m0, ew, ng, f5, lt, nlt, hK_sI]
    | some q =>
      obtain ⟨w0, r0⟩ := q
      obtain ⟨f5, f4, f3⟩ := E
      have ql : (nI w0 < nI (V 4 + p * V 5)) = (w0 < V 4 + p * V 5) := nI_nlt' (by omega) (by omega)
      by_cases c : w0 < V 4 + p * V 5
      · obtain ⟨u1, u2, u3, u4, u5⟩ := upd _ rfl
        refine ⟨_, ?_, u1, u2, u3, u4, by show encC _ (if w0 < V 4 + p * V 5 then _ else _); rw [if_pos c]; exact u5⟩
        show Fm (kX8_tryRows (gTr D)) 7 _ h = _
        rw [tX8_tryRows (gTr_G D)]
        simp only [oB_some, dR_some, cond_true, cond_false, if_true, if_false, Bool.true_and, Bool.and_true, Nat.beq_refl, s2, s4, s5, s6, ib, cl, q1, K4, s3, K3, R30, Ks, Rs2, Ks1, Es1, iaK20, i74, tc4, r4, v4, v5, c2, c3, dz, m0, ew, ng, f5, ql, c, nlt, hK_sI]
      · refine ⟨h, ?_, Only.refl _ _, fun _ _ _ => rfl, c2, c3, by show encC _ (if w0 < V 4 + p * V 5 then _ else _); rw [if_neg c]; exact ⟨f5, f4, f3⟩⟩
        show Fm (kX8_tryRows (gTr D)) 7 _ h = _
        rw [tX8_tryRows (gTr_G D)]
        simp only [oB_some, dR_some, cond_true, cond_false, if_true, if_false, Bool.true_and, Bool.and_true, Nat.beq_refl, s2, s4, s5, s6, ib, cl, q1, K4, s3, K3, R30, Ks, Rs2, Ks1, Es1, iaK20, i74, tc4, r4, v4, v5, c2, c3, dz, m0, ew, ng, f5, ql, c]
  | succ k ih =>
    intro D N j row h st V U ej hD hN S L c2 c3 e1 e2 B E
    obtain ⟨D, rfl⟩ : ∃ D', D = D' + 1 := ⟨D - 1, by omega⟩
    obtain ⟨K0, R01, R02, R04, R05, K3, R30, Ks, Rs2, Rs3, Rs4, Ks1, Es1, Ks2, Es2, Ks3, Es3, K10, R108, K11, E11, K14, K98, td, dcC, bcC⟩ := sfa S
    have L0 := L
    obtain ⟨⟨s1, s2, s3, s4, s5, s6⟩, s7, _⟩ := L
    obtain ⟨q1, q2⟩ := s7 j (by omega)
    have K4 := q2.1
    have H := S.2.2.2.2.2.2.1
    have r4 := S.2.2.2.1.2.2.2.2.1 4 (by decide)
    have rb := S.2.2.2.2.1.2.2.2.2.2.2.2.2.2.1
    have B0 := B
    obtain ⟨b0, b1, b2, b3, b4, b5, b7, b9, b10, b11, b12, bu⟩ := B
    have pv : p * V 5 ≤ 60 * 60 := Nat.mul_le_mul hp (by omega)
    have ib : inb (nI j) 9 = true := inb_nI (by omega) (by omega)
    have cl : (nI j).toNatClampNeg = j := nI_clamp (by omega)
    have i74 : inb 4 7 = true := by decide
    have v4 : hI h (108 + 2 * j) 4 = nI (V 4) := by rw [e1]; rfl
    have v5 : hI h (108 + 2 * j) 5 = nI (V 5) := by rw [e1]; rfl
    have dz : nI n - nI j = nI (k + 1) := by
      have : nI (k + 1) + nI j = nI n := by rw [nI_add]; congr 1; omega
      rw [← this, Int32.add_sub_cancel]
    have ew : nI (V 4) + nI p * nI (V 5) = nI (V 4 + p * V 5) := by rw [pk_mul, nI_add]
    have mx : (if nI p < nI (r 4) then nI (r 4) else nI p) = nI (mxp p (r 4)) := by
      have q : (nI p < nI (r 4)) = (p < r 4) := nI_nlt' (by omega) (by have := rb 4; omega)
      unfold mxp
      by_cases c : p < r 4
      · rw [if_pos c, if_pos (by rw [q]; exact c)]
      · rw [if_neg c, if_neg (by rw [q]; exact c)]
    have mb : mxp p (r 4) ≤ 60 := by unfold mxp; have := rb 4; split <;> omega
    have mk : mxp p (r 4) * (k + 1) ≤ 60 * 8 := Nat.mul_le_mul mb (by omega)
    have nlt : nI j < nI n := nI_lt (by omega) (by omega)
    -- the deeds, one by one
    have ib1 : inb (nI (j + 1)) 9 = true := inb_nI (by omega) (by omega)
    have cl1 : (nI (j + 1)).toNatClampNeg = j + 1 := nI_clamp (by omega)
    have deed : ∀ (dd : Nat) (g : Hp) (st : Option (Nat × Nat)) (o4 o5 : Option EV), dd ≤ 2 → STc g s r d b dc bc lw → SRl g → hI g 103 2 = nI n → hI g 103 3 = nI p → hI g (108 + 2 * j) = nR V → hI g (108 + 2 * j + 1) = nR U → encC g st → ∃ g', Run (kX8_tryRows (gTr (D + 1))) 87 [some (vR (some 103)), some (vI (nI j)), some (vI (nI row)), some (vR (some (108 + 2 * j))), o4, o5, some (vI (nI dd))] [] g = Run (kX8_tryRows (gTr (D + 1))) 87 [some (vR (some 103)), some (vI (nI j)), some (vI (nI row)), some (vR (some (108 + 2 * j))), none, none, some (vI (nI (dd + 1)))] [] g' ∧ Only g g' wvL ∧ (∀ a, 108 ≤ a → a ≤ 109 + 2 * j → hI g' a = hI g a) ∧ hI g' 103 2 = nI n ∧ hI g' 103 3 = nI p ∧ encC g' (pIf (canW V dd (tkV lw r V)) (wvF lw r p k (dayV lw r V dd) (10 * row + dd) st) st) := by
      intro dd g st o4 o5 hd Sg Lg g2 g3 ge1 ge2 Eg
      obtain ⟨⟨t1, t2, t3, t4, t5, t6⟩, t7, _⟩ := Lg
      obtain ⟨u1, u2⟩ := t7 (j + 1) (by omega)
      have gK3 := (sfa Sg).2.2.2.2.2.1
      obtain ⟨ga, cp, Oa, C1, C2⟩ := copy_g (t7 j (by omega)).2 u2 (by omega) (by omega) (by omega) (show CLa g (108 + 2 * j) V U from ⟨fun k _ _ => by rw [ge1]; rfl, fun k _ => by rw [ge2]; rfl⟩) b1 b3
      obtain ⟨V2, hV, eV⟩ := row_rep C1
      obtain ⟨U2, hU, eU⟩ := row_rep5 C2
      have Oa' : Only g ga wvL := Oa.mono (fun a ha => wvL_of.mpr (by simp at ha; omega))
      have Sa := st_wv Sg Oa'
      have La := srl_only ⟨⟨t1, t2, t3, t4, t5, t6⟩, t7, by assumption⟩ Oa'
      have a103 : hI ga 103 = hI g 103 := Oa.I (by simp; omega)
      have B2 := sv_ext B0 eV eU
      have pw := pass_s (dd := dd) Sa (ll_sr La Sa.2.1 (show j + 1 < 9 by omega)) (by omega) hV hU B2 (by omega) (by omega)
      have eq2 : TK lw r (V2 0) (V2 2) (V2 10) (V2 9) (V2 4) = tkV lw r V := eqv_tk (V := V) (V2 := V2) eV
      obtain ⟨⟨y1, y2, y3, y4, y5, y6⟩, y7, _⟩ := La
      have u1a := (y7 (j + 1) (by omega)).1
      have aK3 := (sfa Sa).2.2.2.2.2.1
      have q2d : ¬ (2 : Int32) < nI dd := nI_nlt (a := 2) (by omega) (by omega)
      by_cases C : canW V2 dd (TK lw r (V2 0) (V2 2) (V2 10) (V2 9) (V2 4))
      · obtain ⟨gb, pb, Ob, f1, f2⟩ := pw.1 C
        have Ob' : Only ga gb wvL := Ob.mono (fun a ha => wvL_of.mpr (by simp at ha; omega))
        have Sb := st_wv Sa Ob'
        have Lb := srl_only ⟨⟨y1, y2, y3, y4, y5, y6⟩, y7, by assumption⟩ Ob'
        have b103 : hI gb 103 = hI g 103 := by rw [Ob.I (by simp; omega)]; exact a103
        obtain ⟨gc, rc, Oc, kc, m2, m3, Ec⟩ := ih D (N + 1) (j + 1) (10 * row + dd) gb st (dayV lw r V2 dd) U2 (by omega) (by omega) (by omega) Sb Lb (by rw [b103]; exact g2) (by rw [b103]; exact g3) f1 f2 (sv_day B2 H C) (encC_fr Eg b103)
        have C' : canW V dd (tkV lw r V) := by rw [← eq2]; exact (eqv_can eV).mp C
        have dig : (10 : Int32) * nI row + nI dd = nI (10 * row + dd) := by rw [show (10 : Int32) * nI row = nI (10 * row) from pk_mul 10 row, nI_add]
        refine ⟨gc, ?_, (Oa'.trans Ob').trans Oc, fun a h1 h2 => by rw [kc a h1 (by omega), Ob.I (by simp; omega), Oa.I (by simp; omega)], m2, m3, by rw [pIf_t C', ← eqv_wv k _ _ (eqv_day eV)]; exact Ec⟩
        have bK := Lb.1.2.1
        rw [tX8_tryRows_87 (gTr_G (D + 1))]
        simp only [oB_some, dR_some, cond_true, cond_false, if_true, if_false, Bool.true_and, Bool.and_true, Nat.beq_refl, q2d, t2, t4, t5, t6, nI_1, ib1, cl1, u1, u2.1, cp, y2, y3, y4, y5, y6, u1a, aK3, pb, ne10, bK, dig, rc]
      · obtain ⟨gb, pb, Ob⟩ := pw.2 C
        have Ob' : Only ga gb wvL := Ob.mono (fun a ha => wvL_of.mpr (by simp at ha; omega))
        have b103 : hI gb 103 = hI g 103 := by rw [Ob.I (by simp)]; exact a103
        have C' : ¬ canW V dd (tkV lw r V) := by rw [← eq2]; exact fun q => C ((eqv_can eV).mpr q)
        refine ⟨gb, ?_, Oa'.trans Ob', fun a h1 h2 => by rw [Ob.I (by simp; omega), Oa.I (by simp; omega)], by rw [b103]; exact g2, by rw [b103]; exact g3, by rw [pIf_f C']; exact encC_fr Eg b103⟩
        rw [tX8_tryRows_87 (gTr_G (D + 1))]
        simp only [oB_some, dR_some, cond_true, cond_false, if_true, if_false, Bool.true_and, Bool.and_true, Nat.beq_refl, q2d, t2, t4, t5, t6, nI_1, ib1, cl1, u1, u2.1, cp, y2, y3, y4, y5, y6, u1a, aK3, pb]
    have body : ∃ h', Run (kX8_tryRows (gTr (D + 1))) 87 [some (vR (some 103)), some (vI (nI j)), some (vI (nI row)), some (vR (some (108 + 2 * j))), some (vI (nI (V 4 + p * V 5))), some (vI (nI (mxp p (r 4)) * nI (k + 1))), some (vI 0)] [] h = some (rV, h') ∧ Only h h' wvL ∧ (∀ a, 108 ≤ a → a ≤ 109 + 2 * j → hI h' a = hI h a) ∧ hI h' 103 2 = nI n ∧ hI h' 103 3 = nI p ∧ encC h' (wvF lw r p (k + 1) V row st) := by
      obtain ⟨g1, f1, O1, k1, m1, m1', E1⟩ := deed 0 h st (some (vI (nI (V 4 + p * V 5)))) (some (vI (nI (mxp p (r 4)) * nI (k + 1)))) (by omega) S L0 c2 c3 e1 e2 E
      have S1 := st_wv S O1
      have L1 := srl_only L0 O1
      obtain ⟨g2, f2, O2, k2, m2, m2', E2⟩ := deed 1 g1 _ none none (by omega) S1 L1 m1 m1' (by rw [k1 _ (by omega) (by omega)]; exact e1) (by rw [k1 _ (by omega) (by omega)]; exact e2) E1
      have S2 := st_wv S1 O2
      have L2 := srl_only L1 O2
      obtain ⟨g3, f3, O3, k3, m3, m3', E3⟩ := deed 2 g2 _ none none (by omega) S2 L2 m2 m2' (by rw [k2 _ (by omega) (by omega), k1 _ (by omega) (by omega)]; exact e1) (by rw [k2 _ (by omega) (by omega), k1 _ (by omega) (by omega)]; exact e2) E2
      rw [pIf_t (show canW V 0 (tkV lw r V) from can0 (Or.inl rfl)), pIf_t (show canW V 2 (tkV lw r V) from can0 (Or.inr rfl))] at E3
      refine ⟨g3, ?_, (O1.trans O2).trans O3, fun a h1 h2 => by rw [k3 a h1 h2, k2 a h1 h2, k1 a h1 h2], m3, m3', by rw [wvF_s]; exact E3⟩
      have z0 : (0 : Int32) = nI 0 := rfl
      rw [z0, f1, f2, f3, tX8_tryRows_87 (gTr_G (D + 1)), if_pos (show (2 : Int32) < nI (2 + 1) by decide)]
    cases st with
    | none =>
      have f5 : hI h 103 5 = -1 := E
      have lt : (-1 : Int32) < nI (V 4 + p * V 5) + nI (mxp p (r 4)) * nI (k + 1) := by
        rw [pk_mul, nI_add, Int32.lt_iff_toInt_lt, nI_toInt (by omega), show (-1 : Int32).toInt = -1 from rfl]; omega
      obtain ⟨h', y1, y2⟩ := body
      refine ⟨h', ?_, y2⟩
      show Fm (kX8_tryRows (gTr (D + 1))) 7 _ h = _
      rw [tX8_tryRows (gTr_G (D + 1))]
      simp only [oB_some, dR_some, cond_true, cond_false, if_true, if_false, Bool.true_and, Bool.and_true, Nat.beq_refl, s2, s4, s5, s6, ib, cl, q1, K4, s3, K3, R30, Ks, Rs2, Ks1, Es1, iaK20, i74, tc4, r4, v4, v5, c2, c3, dz, mx, ew, f5, lt, nlt]
      exact y1
    | some q =>
      obtain ⟨w0, r0⟩ := q
      obtain ⟨f5, f4, f3⟩ := E
      have gs : nI (V 4 + p * V 5) + nI (mxp p (r 4)) * nI (k + 1) = nI (V 4 + p * V 5 + mxp p (r 4) * (k + 1)) := by rw [pk_mul, nI_add]
      have ql : (nI w0 < nI (V 4 + p * V 5 + mxp p (r 4) * (k + 1))) = (w0 < V 4 + p * V 5 + mxp p (r 4) * (k + 1)) := nI_nlt' (by omega) (by omega)
      by_cases c : w0 < V 4 + p * V 5 + mxp p (r 4) * (k + 1)
      · obtain ⟨h', y1, y2⟩ := body
        refine ⟨h', ?_, y2⟩
        have lt : nI w0 < nI (V 4 + p * V 5) + nI (mxp p (r 4)) * nI (k + 1) := by rw [gs, ql]; exact c
        show Fm (kX8_tryRows (gTr (D + 1))) 7 _ h = _
        rw [tX8_tryRows (gTr_G (D + 1))]
        simp only [oB_some, dR_some, cond_true, cond_false, if_true, if_false, Bool.true_and, Bool.and_true, Nat.beq_refl, s2, s4, s5, s6, ib, cl, q1, K4, s3, K3, R30, Ks, Rs2, Ks1, Es1, iaK20, i74, tc4, r4, v4, v5, c2, c3, dz, mx, ew, f5, lt, nlt]
        exact y1
      · have lt : ¬ nI w0 < nI (V 4 + p * V 5) + nI (mxp p (r 4)) * nI (k + 1) := by rw [gs, ql]; exact c
        refine ⟨h, ?_, Only.refl _ _, fun _ _ _ => rfl, c2, c3, by rw [wvF_low (k + 1) V row (by omega)]; exact ⟨f5, f4, f3⟩⟩
        show Fm (kX8_tryRows (gTr (D + 1))) 7 _ h = _
        rw [tX8_tryRows (gTr_G (D + 1))]
        simp only [oB_some, dR_some, cond_true, cond_false, if_true, if_false, Bool.true_and, Bool.and_true, Nat.beq_refl, s2, s4, s5, s6, ib, cl, q1, K4, s3, K3, R30, Ks, Rs2, Ks1, Es1, iaK20, i74, tc4, r4, v4, v5, c2, c3, dz, mx, ew, f5, lt]
