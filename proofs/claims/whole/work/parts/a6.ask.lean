/-! ===== PURE: ask, test, sign: by both ===== -/
/-- nothing changed but what P names -/
def FR (P : Nat → Nat → Prop) (h h' : Hp) : Prop := hN h' = hN h ∧ hS h' = hS h ∧ hK h' = hK h ∧ hE h' = hE h ∧ (∀ a k, ¬ P a k → hR h' a k = hR h a k) ∧ (∀ a k, ¬ P a k → hI h' a k = hI h a k) ∧ (∀ a k, ¬ P a k → hL h' a k = hL h a k)
theorem FR.trans {P : Nat → Nat → Prop} {h h' h'' : Hp} (A : FR P h h') (B : FR P h' h'') : FR P h h'' := by
  obtain ⟨a1, a2, a3, a4, a5, a6, a7⟩ := A
  obtain ⟨b1, b2, b3, b4, b5, b6, b7⟩ := B
  exact ⟨b1.trans a1, b2.trans a2, b3.trans a3, b4.trans a4, fun a k p => (b5 a k p).trans (a5 a k p), fun a k p => (b6 a k p).trans (a6 a k p), fun a k p => (b7 a k p).trans (a7 a k p)⟩
theorem FR.mono {P Q : Nat → Nat → Prop} {h h' : Hp} (A : FR P h h') (e : ∀ a k, P a k → Q a k) : FR Q h h' := by
  obtain ⟨a1, a2, a3, a4, a5, a6, a7⟩ := A
  exact ⟨a1, a2, a3, a4, fun a k p => a5 a k (fun z => p (e a k z)), fun a k p => a6 a k (fun z => p (e a k z)), fun a k p => a7 a k (fun z => p (e a k z))⟩
theorem fr_only {P : Nat → Nat → Prop} {h h' : Hp} {l : List Nat} (O : Only h h' l) (hl : ∀ a ∈ l, ∀ k, P a k) : FR P h h' :=
  ⟨O.N, O.S, O.K, O.E, fun _ _ _ => by rw [O.R], fun a k p => by rw [O.I (fun z => p (hl a z k))], fun _ _ _ => by rw [O.L]⟩
theorem fr_mq {P : Nat → Nat → Prop} {h h' : Hp} {l ks : List Nat} (Q : Mq h h' l ks) (hl : ∀ a ∈ l, ∀ k, P a k) (hk : ∀ k ∈ ks, P 147 k) (h5 : P 147 5) (h151 : ∀ k, P 151 k) (hs : ∀ k, k = 8 ∨ k = 9 ∨ k = 10 ∨ k = 11 ∨ k = 12 ∨ k = 13 ∨ k = 14 ∨ k = 17 → P 147 k) : FR P h h' := by
  obtain ⟨a1, a2, a3, a4, a5, a6, a7, a8⟩ := Q
  refine ⟨a1, a2, a3, a4, fun a k p => a6 a k ?_, fun a k p => ?_, fun a k _ => by rw [a5]⟩
  · by_cases c : a = 147
    · subst c; exact Or.inr (fun z => p (by rw [z]; exact h5))
    · exact Or.inl c
  · by_cases c : a = 147
    · subst c
      exact a8 k (fun z => p (hs k (by simpa using z))) (fun z => p (hk k z))
    · rw [a7 a c (fun z => p (by rw [z]; exact h151 k)) (fun z => p (hl a z k))]
theorem fr_sI {P : Nat → Nat → Prop} (h : Hp) (a k : Nat) (x : Int32) (p : P a k) : FR P h (sI h a k x) :=
  ⟨rfl, rfl, rfl, rfl, fun _ _ _ => rfl, fun a' k' q => by
    rw [hI_sI]
    by_cases c : a' = a
    · by_cases c2 : k' = k
      · subst c c2; exact absurd p q
      · rw [if_pos c, if_neg c2]
    · rw [if_neg c], fun _ _ _ => rfl⟩
theorem fr_sL {P : Nat → Nat → Prop} (h : Hp) (a k : Nat) (x : Int64) (p : P a k) : FR P h (sL h a k x) :=
  ⟨rfl, rfl, rfl, rfl, fun _ _ _ => rfl, fun _ _ _ => rfl, fun a' k' q => by
    rw [hL_sL]
    by_cases c : a' = a
    · by_cases c2 : k' = k
      · subst c c2; exact absurd p q
      · rw [if_pos c, if_neg c2]
    · rw [if_neg c]⟩
theorem abs_61 {a : Int32} (h : (-((60 : Nat) : Int)) ≤ a.toInt ∧ a.toInt ≤ ((60 : Nat) : Int)) : ¬ (61 : Int32) ≤ (if 0 ≤ a then a else 0 - a) := by
  rw [Int32.le_iff_toInt_le]
  by_cases c : 0 ≤ a
  · rw [if_pos c, show (61 : Int32).toInt = 61 from rfl]; omega
  · rw [if_neg c, show (61 : Int32).toInt = 61 from rfl, Int32.toInt_sub, show (0 : Int32).toInt = 0 from rfl, Int.bmod_eq_of_le (by omega) (by omega)]; omega
theorem ask_loop {h g : Hp} {s sc : Nat} {v u w lg bk ss sm si : Nat → Nat} {F : Int64} (N : NI h s v u w lg bk) (G : NI g s v u w lg bk) (L : PRl g) (S : SGN g sc ss sm si) (hF : ∀ j, j < 64 → bL F j = (decide (j < v 10) && fitB bk ss sm si j sc 0)) (nz : ¬ lg_cmp F 0 = 0) : ∀ k qu (x5 x6 x1 x2 : Int32) (o0 o4 o8 o9 p4 p5 : Option EV), qu + k = 300 → ((x5 = x1 ∧ x6 = x2 ∧ ¬ x1 = -1) ∨ (x5 = -1 ∧ x1 = -1 ∧ x6 = 61)) → ∃ res, Run kX7_bestQuestion 17 [o0, some (vR (some 98)), some (vI (nI (v 10))), some (vL F), o4, some (vI x5), some (vI x6), some (vI (nI qu)), o8, o9] [] h = some (rI res, h) ∧ Run kX12_ask 28 [some (vR (some 147)), some (vI x1), some (vI x2), some (vI (nI qu)), p4, p5] [] g = some (rI res, g) := by
  have b10 := N.2.2.2.1.2.2.2.2.2.2.2.2.1
  intro k
  induction k with
  | zero =>
    intro qu x5 x6 x1 x2 o0 o4 o8 o9 p4 p5 e R
    have c : (300 : Int32) ≤ nI qu := nI_le (a := 300) (by omega) (by omega)
    have ex : x5 = x1 := by rcases R with ⟨z, _⟩ | ⟨z, z2, _⟩
                            · exact z
                            · rw [z, z2]
    refine ⟨x5, ?_, ?_⟩
    · rw [tX7_bestQuestion_17, if_pos c]
    · rw [tX12_ask_28, if_pos c, ex]
  | succ k ih =>
    intro qu x5 x6 x1 x2 o0 o4 o8 o9 p4 p5 e R
    have c : ¬ (300 : Int32) ≤ nI qu := nI_ge (b := 300) (by omega) (by omega)
    obtain ⟨a', y1, y2, y3⟩ := ask_37 N G L S hF (qu := qu) (by omega) x5 x6 x1 x2 (v 10) 0 0 none none (by omega)
    have bd := y3 0 ⟨by decide, by decide⟩ (by omega)
    have bd60 : (-((60 : Nat) : Int)) ≤ a'.toInt ∧ a'.toInt ≤ ((60 : Nat) : Int) := by omega
    have nq : ¬ nI qu = -1 := nI_nm1 (by omega)
    have n0 : nI 0 = (0 : Int32) := rfl
    rw [n0] at y1 y2
    rw [tX7_bestQuestion_17, if_neg c, if_neg nz, tX12_ask_28, if_neg c, y1, y2]
    rcases R with ⟨e1, e2, e3⟩ | ⟨e1, e2, e3⟩
    · subst e1 e2
      rw [if_neg e3]
      by_cases q : x6 ≤ (if 0 ≤ a' then a' else 0 - a')
      · rw [if_pos q, if_neg (Int32.not_lt.mpr q)]
        exact ih (qu + 1) _ _ _ _ _ _ _ _ _ _ (by omega) (Or.inl ⟨rfl, rfl, e3⟩)
      · rw [if_neg q, if_pos (Int32.not_le.mp q)]
        exact ih (qu + 1) _ _ _ _ _ _ _ _ _ _ (by omega) (Or.inl ⟨rfl, rfl, nq⟩)
    · subst e1 e2 e3
      rw [if_neg (abs_61 bd60), if_pos rfl]
      exact ih (qu + 1) _ _ _ _ _ _ _ _ _ _ (by omega) (Or.inl ⟨rfl, rfl, nq⟩)
/-- how many bolts fit -/
def fitN (bk ss sm si : Nat → Nat) (sc : Nat) : Nat → Nat → Nat
  | 0, _ => 0
  | k + 1, i => (bif fitB bk ss sm si i sc 0 then 1 else 0) + fitN bk ss sm si sc k (i + 1)
theorem fitN_le (bk ss sm si : Nat → Nat) (sc : Nat) : ∀ k i, fitN bk ss sm si sc k i ≤ k := by
  intro k
  induction k with
  | zero => intro i; exact Nat.le_refl _
  | succ k ih =>
    intro i
    have := ih (i + 1)
    show (bif fitB bk ss sm si i sc 0 then 1 else 0) + fitN bk ss sm si sc k (i + 1) ≤ k + 1
    cases fitB bk ss sm si i sc 0 <;> simp only [cond_true, cond_false] <;> omega
theorem fitN_0 (bk ss sm si : Nat → Nat) (sc : Nat) : ∀ k i, fitN bk ss sm si sc k i = 0 ↔ ∀ j, i ≤ j → j < i + k → fitB bk ss sm si j sc 0 = false := by
  intro k
  induction k with
  | zero => intro i; exact ⟨fun _ j h1 h2 => absurd h2 (by omega), fun _ => rfl⟩
  | succ k ih =>
    intro i
    show (bif fitB bk ss sm si i sc 0 then 1 else 0) + fitN bk ss sm si sc k (i + 1) = 0 ↔ _
    constructor
    · intro h j h1 h2
      cases c : fitB bk ss sm si i sc 0 with
      | true => rw [c] at h; simp only [cond_true] at h; omega
      | false =>
        rw [c] at h
        simp only [cond_false] at h
        by_cases e : j = i
        · rw [e]; exact c
        · exact (ih (i + 1)).mp (by omega) j (by omega) (by omega)
    · intro h
      rw [h i (by omega) (by omega), (ih (i + 1)).mpr (fun j h1 h2 => h j (by omega) (by omega))]
      rfl
theorem from_cnt {g : Hp} {s sc : Nat} {v u w lg bk ss sm si : Nat → Nat} (G : NI g s v u w lg bk) (L : PRl g) (S : SGN g sc ss sm si) : ∀ k i m, i + k = v 10 → m ≤ i → Run kX12_from 23 [some (vR (some 147)), some (vI (-1)), some (vI (nI m)), some (vI (nI i))] [] g = some (rI (nI (m + fitN bk ss sm si sc k i)), g) := by
  obtain ⟨u1, u2, u3, u4, _⟩ := G.1.2.2.2.2.1
  have b10 := G.2.2.2.1.2.2.2.2.2.2.2.2.1
  have w19 : hI g 160 19 = nI (v 10) := by rw [G.2.2.1]; show nI (w 19) = _; rw [G.2.2.2.2.1.2.2.2.2]
  intro k
  induction k with
  | zero =>
    intro i m e hm
    have c : nI (v 10) ≤ nI i := nI_le (by omega) (by omega)
    rw [tX12_from_23]; simp only [oB_some, dR_some, cond_true, cond_false, if_true, if_false, Bool.true_and, Bool.and_true, Nat.beq_refl, u1, u2, u3, u4, iaK20, ib19, tc19, w19, c]; rfl
  | succ k ih =>
    intro i m e hm
    have c : ¬ nI (v 10) ≤ nI i := nI_ge (by omega) (by omega)
    have fr := isFrom_now G L S (show i < v 10 by omega)
    have nm : ¬ nI m = -1 := nI_nm1 (by omega)
    show _ = some (rI (nI (m + ((bif fitB bk ss sm si i sc 0 then 1 else 0) + fitN bk ss sm si sc k (i + 1)))), g)
    rw [tX12_from_23]
    cases cf : fitB bk ss sm si i sc 0 with
    | false =>
      rw [cf] at fr
      rw [cond_false, Nat.zero_add, ← ih (i + 1) m (by omega) (by omega)]
      simp only [oB_some, dR_some, cond_true, cond_false, if_true, if_false, Bool.true_and, Bool.and_true, Nat.beq_refl, u1, u2, u3, u4, iaK20, ib19, tc19, w19, c, fr, nI_1]
    | true =>
      rw [cf] at fr
      rw [cond_true, ← Nat.add_assoc, ← ih (i + 1) (m + 1) (by omega) (by omega)]
      simp only [oB_some, dR_some, cond_true, cond_false, if_true, if_false, Bool.true_and, Bool.and_true, Nat.beq_refl, u1, u2, u3, u4, iaK20, ib19, tc19, w19, c, fr, ne10, nm, nI_1]
theorem ask_both {h : Hp} {s : Nat} {r d b : Nat → Nat} {dc bc : Nat} {lw : Option ((Nat → Int32) × Nat)} {v u w lg bk z : Nat → Nat} {A x : Nat} {sc : Nat} {ss sm si : Nat → Nat} (I : AINV h s r d b dc bc lw v u w lg bk z A x) (L : PRl h) (S : SGN h sc ss sm si) : QRY h (FX11_ask [vR (some 0)]) (FX12_ask [vR (some 147)]) := by
  obtain ⟨K0, R01, R02, R04, R05, K3, R30, Ks, Rs2, Rs3, Rs4, Ks1, Es1, Ks2, Es2, Ks3, Es3, K10, R108, K11, E11, K14, K98, td, dcC, bcC, Ev, Eu⟩ := cfa I
  have hm := hom I
  have M0 := (mfa I).1
  obtain ⟨M147, R18, K152, E152, R20, K154, E154, R22, K156, E156, R32, K160, E160, dcM, bcM, Ew⟩ := mfa (ainv_t I)
  have b5 : bc ≤ 5 := I.2.1.2.2.2.1.2.2.2.2.1.2
  have nz : ¬ nI bc = 0 := nI_nz I.2.1.2.2.2.2.1 (by omega)
  have b10 := I.2.2.1.2.1.2.2.2.2.2.2.2.2.1
  obtain ⟨F, g1, g2⟩ := fit_now (ni_of I) L S b10
  have G := ni_t (ni_of I)
  have fc := from_cnt G (prl_t L) (sgn_t S) (v 10) 0 0 (by omega) (by omega)
  rw [Nat.zero_add] at fc
  have le := fitN_le bk ss sm si sc (v 10) 0
  have fm : FX12_from [vR (some 147), vI (-1)] (sI h 147 0 0) = some (rI (nI (fitN bk ss sm si sc (v 10) 0)), sI h 147 0 0) := by
    rw [tX12_from]
    simp only [oB_some, dR_some, cond_true, cond_false, if_true, if_false, Bool.true_and, Bool.and_true, Nat.beq_refl, M147, sI_sI, bcM, nz, show (-1 : Int32) ≤ -1 by decide]
    exact fc
  have z0 : (lg_cmp F 0 = 0) = (fitN bk ss sm si sc (v 10) 0 = 0) := by
    rw [bL_nz]
    refine propext (Iff.trans ⟨fun h j _ h2 => ?_, fun h j hj => ?_⟩ (fitN_0 bk ss sm si sc (v 10) 0).symm)
    · have := h j (by omega)
      rw [g2 j (by omega), decide_eq_true (by omega), Bool.true_and] at this
      exact this
    · rw [g2 j hj]
      by_cases q : j < v 10
      · rw [h j (by omega) (by omega), Bool.and_false]
      · rw [decide_eq_false q, Bool.false_and]
  by_cases c : fitN bk ss sm si sc (v 10) 0 = 0
  · have e0 : (nI (fitN bk ss sm si sc (v 10) 0) = (0 : Int32)) = True := eq_true (by rw [c]; rfl)
    refine QRY.id (res := -1) ?_ ?_
    · rw [tX11_ask]; simp only [oB_some, dR_some, cond_true, cond_false, if_true, if_false, Bool.true_and, Bool.and_true, Nat.beq_refl, K0, hm, R02, R05, K10, L.1.1, L.1.2.1, Ev, tX7_bestQuestion, g1]
      rw [tX7_bestQuestion_17, if_neg (show ¬ (300 : Int32) ≤ 0 by decide), if_pos (by rw [z0]; exact c)]
      rfl
    · rw [tX12_ask]; simp only [oB_some, dR_some, cond_true, cond_false, if_true, if_false, Bool.true_and, Bool.and_true, Nat.beq_refl, M0, M147, bcM, nz, fm, e0]
  · have e0 : ¬ nI (fitN bk ss sm si sc (v 10) 0) = (0 : Int32) := nI_nz (by omega) (by omega)
    obtain ⟨res, e1, e2⟩ := ask_loop (ni_of I) G (prl_t L) (sgn_t S) g2 (by rw [z0]; exact c) 300 0 (-1) 61 (-1) 0 (some (vR (some 101))) none none none none none (by omega) (Or.inr ⟨rfl, rfl, rfl⟩)
    refine QRY.id (res := res) ?_ ?_
    · rw [tX11_ask]; simp only [oB_some, dR_some, cond_true, cond_false, if_true, if_false, Bool.true_and, Bool.and_true, Nat.beq_refl, K0, hm, R02, R05, K10, L.1.1, L.1.2.1, Ev, tX7_bestQuestion, g1]
      rw [show (0 : Int32) = nI 0 from rfl, e1]; rfl
    · rw [tX12_ask]; simp only [oB_some, dR_some, cond_true, cond_false, if_true, if_false, Bool.true_and, Bool.and_true, Nat.beq_refl, M0, M147, bcM, nz, fm, e0]; exact e2
