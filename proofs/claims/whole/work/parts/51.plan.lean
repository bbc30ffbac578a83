/-! ===== PURE: a plan, by both readers ===== -/
theorem nl_none {α : Type} (A D : Option α) : nl none A D = A := rfl
theorem nl_some {α : Type} (a : Nat) (A D : Option α) : nl (some a) A D = D := rfl
def put3 (f : Nat → Int32) (k : Nat) (x y z : Int32) : Nat → Int32 := up1 (up1 (up1 f k x) (k + 1) y) (k + 2) z
theorem put3_0 (f : Nat → Int32) (k : Nat) (x y z : Int32) : put3 f k x y z k = x := by unfold put3; rw [up1_o _ _ (by omega), up1_o _ _ (by omega), up1_s]
theorem put3_1 (f : Nat → Int32) (k : Nat) (x y z : Int32) : put3 f k x y z (k + 1) = y := by unfold put3; rw [up1_o _ _ (by omega), up1_s]
theorem put3_2 (f : Nat → Int32) (k : Nat) (x y z : Int32) : put3 f k x y z (k + 2) = z := by unfold put3; rw [up1_s]
theorem put3_o (f : Nat → Int32) (k : Nat) (x y z : Int32) {j : Nat} (h : j < k ∨ k + 2 < j) : put3 f k x y z j = f j := by unfold put3; rw [up1_o _ _ (by omega), up1_o _ _ (by omega), up1_o _ _ (by omega)]
/-- the plan that is filled, if one is -/
def PQ (h : Hp) (q : Option Nat) (f : Nat → Int32) : Hp := match q with
  | none => h
  | some P => wA h (P + 1) f
def PC (h : Hp) (q : Option Nat) (x : Int32) : Hp := match q with
  | none => h
  | some P => sI h P 1 x
def QL (h : Hp) (q : Option Nat) : Prop := ∀ P, q = some P → hK h P = 6 ∧ hR h P 0 = some (P + 1) ∧ hK h (P + 1) = 20 ∧ hE h (P + 1) = 48 ∧ 2 < P
theorem PQ_K (h : Hp) (q : Option Nat) (f : Nat → Int32) (a : Nat) : hK (PQ h q f) a = hK h a := by cases q <;> rfl
theorem PQ_E (h : Hp) (q : Option Nat) (f : Nat → Int32) (a : Nat) : hE (PQ h q f) a = hE h a := by cases q <;> rfl
theorem PQ_R (h : Hp) (q : Option Nat) (f : Nat → Int32) (a k : Nat) : hR (PQ h q f) a k = hR h a k := by cases q <;> rfl
theorem PQ_o {h : Hp} {q : Option Nat} (Q : QL h q) (f : Nat → Int32) {a : Nat} (ha : a ≤ 2) : hI (PQ h q f) a = hI h a := by
  cases q with
  | none => rfl
  | some P => exact wA_O h f (by have := (Q P rfl).2.2.2.2; omega)
theorem HT.PQ {h : Hp} {n : Nat} {q : Option Nat} (H : HT h n) (Q : QL h q) (f : Nat → Int32) : HT (PQ h q f) n := by
  obtain ⟨⟨a1, a2, a3, a4⟩, b, c⟩ := H
  exact ⟨⟨by rw [PQ_K]; exact a1, by rw [PQ_R]; exact a2, by rw [PQ_K]; exact a3, by rw [PQ_E]; exact a4⟩, by rw [PQ_o Q f (by omega)]; exact b, c⟩
def PS (h : Hp) (q : Option Nat) (f : Nat → Int32) (p : Nat) (w : Int32) : Hp := tw (PQ h q f) p w
theorem PS_K (h : Hp) (q : Option Nat) (f : Nat → Int32) (p : Nat) (w : Int32) (a : Nat) : hK (PS h q f p w) a = hK h a := by unfold PS; rw [tw_K, PQ_K]
theorem pq_peek {h : Hp} {n p : Nat} {q : Option Nat} {f : Nat → Int32} {w : Int32} (H : HT h n) (Q : QL h q) (hp : p ≤ 240) : FX9_peek [vR (some 1)] (PS h q f p w) = some (rI (chT (hI h 2) n (sk (hI h 2) n p)), PS h q f (sk (hI h 2) n p) w) := by
  have := tp_peek (w := w) (H.PQ Q f) hp
  rw [PQ_o Q f (by omega)] at this; exact this
theorem pq_accept {h : Hp} {n p : Nat} {q : Option Nat} {f : Nat → Int32} {w x : Int32} (H : HT h n) (Q : QL h q) (hp : p ≤ 240) : FX9_accept [vR (some 1), vI x] (PS h q f p w) = if w = -1 then (if chT (hI h 2) n (sk (hI h 2) n p) = x then some (rI 1, PS h q f (sk (hI h 2) n p + 1) w) else some (rI 0, PS h q f (sk (hI h 2) n p) w)) else some (rI 0, PS h q f p w) := by
  have := tp_accept (w := w) (s := x) (H.PQ Q f) hp
  rw [PQ_o Q f (by omega)] at this; exact this
theorem pq_demand {h : Hp} {n p : Nat} {q : Option Nat} {f : Nat → Int32} {w x : Int32} (H : HT h n) (Q : QL h q) (hp : p ≤ 240) : FX9_demand [vR (some 1), vI x] (PS h q f p w) = if w = -1 then (if chT (hI h 2) n (sk (hI h 2) n p) = x then some (rV, PS h q f (sk (hI h 2) n p + 1) w) else some (rV, PS h q f (sk (hI h 2) n p) (nI (sk (hI h 2) n p)))) else some (rV, PS h q f p w) := by
  have := tp_demand (w := w) (s := x) (H.PQ Q f) hp
  rw [PQ_o Q f (by omega)] at this; exact this
theorem pq_end {h : Hp} {n p : Nat} {q : Option Nat} {f : Nat → Int32} {w : Int32} (H : HT h n) (Q : QL h q) (hp : p ≤ 240) : FX9_demandEnd [vR (some 1)] (PS h q f p w) = some (rV, PS h q f (sk (hI h 2) n p) (if chT (hI h 2) n (sk (hI h 2) n p) = -1 then w else if w = -1 then nI (sk (hI h 2) n p) else w)) := by
  have := tp_demandEnd (w := w) (H.PQ Q f) hp
  rw [PQ_o Q f (by omega)] at this; exact this
/-- a digit of a step -/
def dgo (t : Nat → Int32) (n : Nat) (x : Int32) (p : Nat) : Prop := dg (chT t n (sk t n p)) ∧ chT t n (sk t n p) - 48 ≤ x
theorem pq_digit {h : Hp} {n p : Nat} {q : Option Nat} {f : Nat → Int32} {w x : Int32} (H : HT h n) (Q : QL h q) (hp : p ≤ n) :
    (w = -1 → dgo (hI h 2) n x p → FX9_digit [vR (some 1), vI x] (PS h q f p w) = some (rI (chT (hI h 2) n (sk (hI h 2) n p) - 48), PS h q f (sk (hI h 2) n p + 1) (-1))) ∧
    (w = -1 → ¬ dgo (hI h 2) n x p → FX9_digit [vR (some 1), vI x] (PS h q f p w) = some (rI 0, PS h q f (sk (hI h 2) n p) (nI (sk (hI h 2) n p)))) ∧
    (w ≠ -1 → FX9_digit [vR (some 1), vI x] (PS h q f p w) = some (rI 0, PS h q f (sk (hI h 2) n p) w)) := by
  have := tp_digit (w := w) (x := x) (H.PQ Q f) hp
  rw [PQ_o Q f (by omega)] at this
  exact ⟨fun a b => this.1 a b.1 b.2, this.2.1, this.2.2⟩
theorem put_sp {h : Hp} {P i : Nat} {x y z : Int32} (Q : QL h (some P)) (hi : i < 16) : FX6_put [vR (some P), vI (nI i), vI x, vI y, vI z] h = some (rV, wA h (P + 1) (put3 (hI h (P + 1)) (3 * i) x y z)) := by
  obtain ⟨q1, q2, q3, q4, q5⟩ := Q P rfl
  have e0 : ¬ nI i < 0 := nI_pos (by omega)
  have e1 := nI_nlt' (a := i) (b := 16) (by omega) (by omega)
  have m3 : (3 : Int32) * nI i = nI (3 * i) := pk_mul 3 i
  have m31 : nI (3 * i) + 1 = nI (3 * i + 1) := nI_1 _
  have m32 : nI (3 * i) + 2 = nI (3 * i + 2) := nI_add _ 2
  have b0 : inb (nI (3 * i)) 48 = true := inb_nI (by omega) (by omega)
  have b1 : inb (nI (3 * i + 1)) 48 = true := inb_nI (by omega) (by omega)
  have b2 : inb (nI (3 * i + 2)) 48 = true := inb_nI (by omega) (by omega)
  have c0 : (nI (3 * i)).toNatClampNeg = 3 * i := nI_clamp (by omega)
  have c1 : (nI (3 * i + 1)).toNatClampNeg = 3 * i + 1 := nI_clamp (by omega)
  have c2 : (nI (3 * i + 2)).toNatClampNeg = 3 * i + 2 := nI_clamp (by omega)
  rw [tX6_put]
  simp only [oB_some, dR_some, cond_true, cond_false, if_true, if_false, Bool.true_and, Bool.and_true, Nat.beq_refl, hK_sI, hE_sI, hR_sI, q1, q2, q3, q4, e0, show (16 : Int32) = nI 16 from rfl, e1, hi, m3, m31, m32, b0, b1, b2, c0, c1, c2]
  rw [sI_wA h, sI_ws, sI_ws]
  rfl
theorem pq_put {h : Hp} {q : Option Nat} {f : Nat → Int32} {p i : Nat} {w x y z : Int32} (Q : QL h q) (hi : i < 16) : nl q (some (rV, PS h q f p w)) (dR q (fun a => bif Nat.beq (hK h a) 6 then oB (FX6_put [vR (some a), vI (nI i), vI x, vI y, vI z] (PS h q f p w)) (fun r17 h18 => some (rV, h18)) else none)) = some (rV, PS h q (put3 f (3 * i) x y z) p w) := by
  cases q with
  | none => rfl
  | some P =>
    have Q' : QL (PS h (some P) f p w) (some P) := fun P' e => Q P' e
    have hP := (Q P rfl).2.2.2.2
    have e : hI (PS h (some P) f p w) (P + 1) = f := by
      show hI (tw (wA h (P + 1) f) p w) (P + 1) = f
      rw [tw_row _ _ _ (by omega), wA_I]
    rw [nl_some, dR_some, (Q P rfl).1]
    simp only [Nat.beq_refl, cond_true, put_sp Q' hi, oB_some, e]
    show some (rV, wA (tw (wA h (P + 1) f) p w) (P + 1) (put3 f (3 * i) x y z)) = some (rV, tw (wA h (P + 1) (put3 f (3 * i) x y z)) p w)
    rw [tw_wA _ _ _ _ (by omega), wA_wA]
theorem tx_look {h : Hp} {T B n p : Nat} {t : Nat → Int32} {w : Int32} (M : TX h T B n t) (hp : p ≤ n) : FX12_look [vR (some 147)] (mw h p w) = some (rI (chT t n (sk t n p)), mw h (sk t n p) w) := by
  have := md_look (w := w) M.1 hp
  rw [sk_congr M.2, chT_congr M.2] at this
  exact this
theorem tx_isDigit {h : Hp} {T B n p : Nat} {t : Nat → Int32} {w : Int32} (M : TX h T B n t) (hp : p ≤ n) : (dg (chT t n p) → FX12_isDigit [vR (some 147)] (mw h p w) = some (rI 1, mw h p w)) ∧ (¬ dg (chT t n p) → FX12_isDigit [vR (some 147)] (mw h p w) = some (rI 0, mw h p w)) := by
  have := md_isDigit (w := w) M.1 hp
  rw [chT_congr M.2] at this
  exact this
theorem tx_digit {h : Hp} {T B n p : Nat} {t : Nat → Int32} {x : Int32} (M : TX h T B n t) (hp : p ≤ n) :
    (dgo t n x p → FX12_digit [vR (some 147), vI x] (mw h p (-1)) = some (rI (chT t n (sk t n p) - 48), mw h (sk t n p + 1) (-1))) ∧
    (¬ dgo t n x p → FX12_digit [vR (some 147), vI x] (mw h p (-1)) = some (rI 0, mw h (sk t n p) (nI (sk t n p)))) := by
  have M1 := M.1.1.1
  have hk := (sk_le (t := t) (n := n) p).2 hp
  refine ⟨fun z => ?_, fun z => ?_⟩
  · rw [tX12_digit]
    simp only [oB_some, dR_some, cond_true, cond_false, if_true, if_false, Bool.true_and, Bool.and_true, Nat.beq_refl, hK_sI, mw_K, M1, tx_look M hp, (tx_isDigit M hk).1 z.1, show ¬ ((1 : Int32) = 0) by decide, z.2, mw_at, nI_1, mw_pat]
  · rw [tX12_digit]
    by_cases d : dg (chT t n (sk t n p))
    · have : ¬ chT t n (sk t n p) - 48 ≤ x := fun y => z ⟨d, y⟩
      simp only [oB_some, dR_some, cond_true, cond_false, if_true, if_false, Bool.true_and, Bool.and_true, Nat.beq_refl, hK_sI, mw_K, M1, tx_look M hp, (tx_isDigit M hk).1 d, show ¬ ((1 : Int32) = 0) by decide, this, md_fails M1]
    · simp only [oB_some, dR_some, cond_true, cond_false, if_true, if_false, Bool.true_and, Bool.and_true, Nat.beq_refl, hK_sI, mw_K, M1, tx_look M hp, (tx_isDigit M hk).2 d, md_fails M1]
def sp4 (x : Int32) : Int32 := if x = 119 then 0 else if x = 99 then 1 else if x = 115 then 2 else if x = 112 then 3 else -1
theorem spot4 {h : Hp} (S : StL h (PRE + 15) 4 (bT [119, 99, 115, 112])) (x : Int32) : FX12_spotOf [vR (some (PRE + 15)), vI x] h = some (rI (sp4 x), h) := by
  rw [tX12_spotOf, show (0 : Int32) = nI 0 from rfl, spot_go S (by omega), spot_go S (by omega), spot_go S (by omega), spot_go S (by omega), show (3 + 1 : Nat) = 4 from rfl, spot_end S]
  unfold sp4
  by_cases q0 : x = 119
  · subst q0; rfl
  by_cases q1 : x = 99
  · subst q1; rfl
  by_cases q2 : x = 115
  · subst q2; rfl
  by_cases q3 : x = 112
  · subst q3; rfl
  have n0 : ¬ x = nI (bT [119, 99, 115, 112] 0) := q0
  have n1 : ¬ x = nI (bT [119, 99, 115, 112] (0 + 1)) := q1
  have n2 : ¬ x = nI (bT [119, 99, 115, 112] (0 + 1 + 1)) := q2
  have n3 : ¬ x = nI (bT [119, 99, 115, 112] 3) := q3
  simp only [q0, q1, q2, q3, if_false]
  rw [if_neg n0, if_neg n1, if_neg n2, if_neg n3]
def MP (h : Hp) (r : Nat → Int32) (p : Nat) (w : Int32) : Hp := mw (wA h 158 r) p w
theorem MP_K (h : Hp) (r : Nat → Int32) (p : Nat) (w : Int32) (a : Nat) : hK (MP h r p w) a = hK h a := rfl
theorem MP_E (h : Hp) (r : Nat → Int32) (p : Nat) (w : Int32) (a : Nat) : hE (MP h r p w) a = hE h a := rfl
theorem MP_R (h : Hp) (r : Nat → Int32) (p : Nat) (w : Int32) (a k : Nat) : hR (MP h r p w) a k = hR h a k := rfl
theorem MP_w (h : Hp) (r : Nat → Int32) (p : Nat) (w : Int32) (k : Nat) (v : Int32) : sI (MP h r p w) 158 k v = MP h (up1 r k v) p w := by
  unfold MP; rw [mw_sI _ _ _ _ (Or.inl (by decide)), sI_ws]
theorem MP_p (h : Hp) (r : Nat → Int32) (p q : Nat) (w : Int32) : sI (MP h r p w) 147 10 (nI q) = MP h r q w := mw_pat _ _ _ _
theorem MP_10 (h : Hp) (r : Nat → Int32) (p : Nat) (w : Int32) : hI (MP h r p w) 147 10 = nI p := mw_at _ _ _
theorem MP_11 (h : Hp) (r : Nat → Int32) (p : Nat) (w : Int32) : hI (MP h r p w) 147 11 = w := mw_wr _ _ _
/-- what the reference needs to read a plan -/
def RP (h : Hp) (T B n : Nat) (t : Nat → Int32) : Prop := TX h T B n t ∧ hR h 147 24 = some 158 ∧ hK h 158 = 20 ∧ hE h 158 = 240 ∧ hR h 147 25 = some 159 ∧ hK h 159 = 20 ∧ hE h 159 = 5 ∧ StL h (PRE + 15) 4 (bT [119, 99, 115, 112]) ∧ T ≠ 158 ∧ T ≠ 159
theorem TX.wA {h : Hp} {T B n a : Nat} {t : Nat → Int32} (M : TX h T B n t) (r : Nat → Int32) (h1 : T ≠ a) (h2 : a ≠ 147) : TX (wA h a r) T B n t := by
  obtain ⟨⟨⟨M1, M2, M3, M4, M5, M6, M7, M8⟩, hby⟩, ht⟩ := M
  refine ⟨⟨⟨M1, M2, M3, M4, M5, ?_, ?_, M8⟩, ?_⟩, ?_⟩
  · rw [wA_O _ _ (Ne.symm h2)]; exact M6
  · rw [wA_O _ _ (Ne.symm h2)]; exact M7
  · rw [wA_O _ _ h1]; exact hby
  · unfold mt; rw [wA_O _ _ h1]; exact ht
theorem mp_look {h : Hp} {T B n p : Nat} {t r : Nat → Int32} {w : Int32} (M : RP h T B n t) (hp : p ≤ n) : FX12_look [vR (some 147)] (MP h r p w) = some (rI (chT t n (sk t n p)), MP h r (sk t n p) w) := tx_look (M.1.wA r M.2.2.2.2.2.2.2.2.1 (by decide)) hp
theorem mp_digit {h : Hp} {T B n p : Nat} {t r : Nat → Int32} {x : Int32} (M : RP h T B n t) (hp : p ≤ n) :
    (dgo t n x p → FX12_digit [vR (some 147), vI x] (MP h r p (-1)) = some (rI (chT t n (sk t n p) - 48), MP h r (sk t n p + 1) (-1))) ∧
    (¬ dgo t n x p → FX12_digit [vR (some 147), vI x] (MP h r p (-1)) = some (rI 0, MP h r (sk t n p) (nI (sk t n p)))) := tx_digit (M.1.wA r M.2.2.2.2.2.2.2.2.1 (by decide)) hp
theorem mp_fails {h : Hp} {p : Nat} {r : Nat → Int32} {w : Int32} (hK147 : hK h 147 = 12) : FX12_fails [vR (some 147)] (MP h r p w) = some (rI 0, MP h r p (if w = -1 then nI p else w)) := md_fails (h := wA h 158 r) hK147
theorem mp_spot {h : Hp} {T B n p : Nat} {t r : Nat → Int32} {w : Int32} (M : RP h T B n t) (x : Int32) : FX12_spotOf [vR (some (PRE + 15)), vI x] (MP h r p w) = some (rI (sp4 x), MP h r p w) := by
  refine spot4 ?_ x
  have S := M.2.2.2.2.2.2.2.1
  unfold StL
  have e : hI (MP h r p w) (PRE + 15 + 100) = hI h (PRE + 15 + 100) := by
    unfold MP; rw [mw_row _ _ _ (by decide), wA_O _ _ (by decide)]
  rw [e]
  exact S
theorem dgo_lt {t : Nat → Int32} {n p : Nat} {x : Int32} (h : dgo t n x p) : sk t n p < n := dg_lt h.1
/-- a step's first two numbers -/
def stp (x y : Int32) : Prop := (x = 0 ∧ ∃ dd, dd ≤ 3 ∧ y = nI dd) ∨ x = 1 ∨ x = 2 ∨ x = 3
/-- a step, by both -/
def SO (h hm : Hp) (n : Nat) (q : Option Nat) (f r : Nat → Int32) (i p : Nat) (A D : Option (RV × Hp)) : Prop :=
  (∃ p' x y z, p < p' ∧ p' ≤ n ∧ stp x y ∧ A = some (rV, PS h q (put3 f (3 * i) x y z) p' (-1)) ∧ D = some (rV, MP hm (put3 r (192 + 3 * i) x y z) p' (-1))) ∨
  (∃ w f' r' p' p'', w ≠ -1 ∧ p' ≤ n ∧ p'' ≤ n ∧ A = some (rV, PS h q f' p' w) ∧ D = some (rV, MP hm r' p'' w))
theorem dgo_3 {t : Nat → Int32} {n p : Nat} (h : dgo t n 3 p) : ∃ dd, dd ≤ 3 ∧ chT t n (sk t n p) - 48 = nI dd := by
  obtain ⟨h1, h2⟩ := h
  obtain ⟨m, m1, m2, em⟩ := dg_nat h1
  have e : chT t n (sk t n p) - 48 = nI (m - 48) := by
    rw [em, show m = m - 48 + 48 by omega, ← nI_add]
    show nI (m - 48) + 48 - 48 = _
    rw [Int32.add_sub_cancel, show m - 48 + 48 - 48 = m - 48 by omega]
  rw [e] at h2
  refine ⟨m - 48, ?_, e⟩
  have : nI (m - 48) ≤ nI 3 := h2
  rw [nI_nle' (by omega) (by omega)] at this
  exact this
theorem j_step {h hm : Hp} {n T B i p : Nat} {q : Option Nat} {f r : Nat → Int32} (H : HT h n) (Q : QL h q) (M : RP hm T B n (hI h 2)) (hi : i < 16) (hp : p ≤ n) : SO h hm n q f r i p (FX6_readStep [vR (some 1), vR q, vI (nI i)] (PS h q f p (-1))) (FX12_readStep [vR (some 147), vI (nI (192 + 3 * i))] (MP hm r p (-1))) := by
  have hn := H.2.2
  have T1 := H.1.1
  have M1 := M.1.1.1.1
  obtain ⟨R1, R2, R3, _⟩ := M.2
  have hk0 := (sk_le (t := hI h 2) (n := n) p).1
  have hk := (sk_le (t := hI h 2) (n := n) p).2 hp
  have hp240 : p ≤ 240 := by omega
  have hq240 : sk (hI h 2) n p ≤ 240 := by omega
  have m1 : nI (192 + 3 * i) + 1 = nI (192 + 3 * i + 1) := nI_1 _
  have m2 : nI (192 + 3 * i) + 2 = nI (192 + 3 * i + 2) := nI_add _ 2
  have b0 : inb (nI (192 + 3 * i)) 240 = true := inb_nI (by omega) (by omega)
  have b1 : inb (nI (192 + 3 * i + 1)) 240 = true := inb_nI (by omega) (by omega)
  have b2 : inb (nI (192 + 3 * i + 2)) 240 = true := inb_nI (by omega) (by omega)
  have c0 : (nI (192 + 3 * i)).toNatClampNeg = 192 + 3 * i := nI_clamp (by omega)
  have c1 : (nI (192 + 3 * i + 1)).toNatClampNeg = 192 + 3 * i + 1 := nI_clamp (by omega)
  have c2 : (nI (192 + 3 * i + 2)).toNatClampNeg = 192 + 3 * i + 2 := nI_clamp (by omega)
  by_cases qw : chT (hI h 2) n (sk (hI h 2) n p) = 119
  · have hq := ch_lt qw (by decide)
    have hk2 := (sk_le (t := hI h 2) (n := n) (sk (hI h 2) n p + 1)).1
    have hk2' := (sk_le (t := hI h 2) (n := n) (sk (hI h 2) n p + 1)).2 (by omega)
    by_cases qd : dgo (hI h 2) n 3 (sk (hI h 2) n p + 1)
    · have hq2 := dgo_lt qd
      refine Or.inl ⟨sk (hI h 2) n (sk (hI h 2) n p + 1) + 1, 0, chT (hI h 2) n (sk (hI h 2) n (sk (hI h 2) n p + 1)) - 48, -1, by omega, by omega, Or.inl ⟨rfl, dgo_3 qd⟩, ?_, ?_⟩
      · rw [tX6_readStep]
        simp only [oB_some, dR_some, cond_true, cond_false, if_true, if_false, Bool.true_and, Bool.and_true, Nat.beq_refl, PS_K, T1, pq_accept H Q hp240, qw, show ¬ ((1 : Int32) = 0) by decide, (pq_digit (f := f) H Q (show sk (hI h 2) n p + 1 ≤ n by omega)).1 rfl qd, pq_put Q hi]
      · rw [tX12_readStep]
        simp only [oB_some, dR_some, cond_true, cond_false, if_true, if_false, Bool.true_and, Bool.and_true, Nat.beq_refl, hK_sI, MP_K, MP_E, MP_R, M1, R1, R2, R3, mp_look M hp, mp_spot M, qw, show sp4 119 = 0 from rfl, show ¬ ((0 : Int32) = -1) by decide, show ¬ ((0 : Int32) = 1) by decide, show ¬ ((0 : Int32) = 2) by decide, MP_10, nI_1, MP_p, m1, m2, b0, b1, b2, c0, c1, c2, MP_w, (mp_digit M (show sk (hI h 2) n p + 1 ≤ n by omega)).1 qd, MP_11]
        rfl
    · have nq : nI (sk (hI h 2) n (sk (hI h 2) n p + 1)) ≠ -1 := nI_nm1 (by omega)
      refine Or.inr ⟨_, put3 f (3 * i) 0 0 (-1), put3 r (192 + 3 * i) 0 0 (-1), _, _, nq, hk2', hk2', ?_, ?_⟩
      · rw [tX6_readStep]
        simp only [oB_some, dR_some, cond_true, cond_false, if_true, if_false, Bool.true_and, Bool.and_true, Nat.beq_refl, PS_K, T1, pq_accept H Q hp240, qw, show ¬ ((1 : Int32) = 0) by decide, (pq_digit (f := f) H Q (show sk (hI h 2) n p + 1 ≤ n by omega)).2.1 rfl qd, pq_put Q hi]
      · rw [tX12_readStep]
        simp only [oB_some, dR_some, cond_true, cond_false, if_true, if_false, Bool.true_and, Bool.and_true, Nat.beq_refl, hK_sI, MP_K, MP_E, MP_R, M1, R1, R2, R3, mp_look M hp, mp_spot M, qw, show sp4 119 = 0 from rfl, show ¬ ((0 : Int32) = -1) by decide, show ¬ ((0 : Int32) = 1) by decide, show ¬ ((0 : Int32) = 2) by decide, MP_10, nI_1, MP_p, m1, m2, b0, b1, b2, c0, c1, c2, MP_w, (mp_digit M (show sk (hI h 2) n p + 1 ≤ n by omega)).2 qd, MP_11, nq]
        rfl
  by_cases qc : chT (hI h 2) n (sk (hI h 2) n p) = 99
  · have hq := ch_lt qc (by decide)
    refine Or.inl ⟨sk (hI h 2) n p + 1, 1, -1, -1, by omega, by omega, Or.inr (Or.inl rfl), ?_, ?_⟩
    · rw [tX6_readStep]
      simp only [oB_some, dR_some, cond_true, cond_false, if_true, if_false, Bool.true_and, Bool.and_true, Nat.beq_refl, PS_K, T1, pq_accept H Q hp240, pq_accept H Q hq240, sk_sk, qc, show ¬ ((99 : Int32) = 119) by decide, show ¬ ((1 : Int32) = 0) by decide, pq_put Q hi]
    · rw [tX12_readStep]
      simp only [oB_some, dR_some, cond_true, cond_false, if_true, if_false, Bool.true_and, Bool.and_true, Nat.beq_refl, hK_sI, MP_K, MP_E, MP_R, M1, R1, R2, R3, mp_look M hp, mp_spot M, qc, show sp4 99 = 1 from rfl, show ¬ ((1 : Int32) = -1) by decide, show ¬ ((1 : Int32) = 2) by decide, MP_10, nI_1, MP_p, m1, m2, b0, b1, b2, c0, c1, c2, MP_w, MP_11]
      rfl
  by_cases qs : chT (hI h 2) n (sk (hI h 2) n p) = 115
  · have hq := ch_lt qs (by decide)
    have hk2 := (sk_le (t := hI h 2) (n := n) (sk (hI h 2) n p + 1)).1
    have hk2' := (sk_le (t := hI h 2) (n := n) (sk (hI h 2) n p + 1)).2 (by omega)
    by_cases qd : dgo (hI h 2) n 9 (sk (hI h 2) n p + 1)
    · have hq2 := dgo_lt qd
      have hk3 := (sk_le (t := hI h 2) (n := n) (sk (hI h 2) n (sk (hI h 2) n p + 1) + 1)).1
      have hk3' := (sk_le (t := hI h 2) (n := n) (sk (hI h 2) n (sk (hI h 2) n p + 1) + 1)).2 (by omega)
      by_cases qe : dgo (hI h 2) n 1 (sk (hI h 2) n (sk (hI h 2) n p + 1) + 1)
      · have hq3 := dgo_lt qe
        refine Or.inl ⟨sk (hI h 2) n (sk (hI h 2) n (sk (hI h 2) n p + 1) + 1) + 1, 2, chT (hI h 2) n (sk (hI h 2) n (sk (hI h 2) n p + 1)) - 48, chT (hI h 2) n (sk (hI h 2) n (sk (hI h 2) n (sk (hI h 2) n p + 1) + 1)) - 48, by omega, by omega, Or.inr (Or.inr (Or.inl rfl)), ?_, ?_⟩
        · rw [tX6_readStep]
          simp only [oB_some, dR_some, cond_true, cond_false, if_true, if_false, Bool.true_and, Bool.and_true, Nat.beq_refl, PS_K, T1, pq_accept H Q hp240, pq_accept H Q hq240, sk_sk, qs, show ¬ ((115 : Int32) = 119) by decide, show ¬ ((115 : Int32) = 99) by decide, show ¬ ((1 : Int32) = 0) by decide, (pq_digit (f := f) H Q (show sk (hI h 2) n p + 1 ≤ n by omega)).1 rfl qd, (pq_digit (f := f) H Q (show sk (hI h 2) n (sk (hI h 2) n p + 1) + 1 ≤ n by omega)).1 rfl qe, pq_put Q hi]
        · rw [tX12_readStep]
          simp only [oB_some, dR_some, cond_true, cond_false, if_true, if_false, Bool.true_and, Bool.and_true, Nat.beq_refl, hK_sI, MP_K, MP_E, MP_R, M1, R1, R2, R3, mp_look M hp, mp_spot M, qs, show sp4 115 = 2 from rfl, show ¬ ((2 : Int32) = -1) by decide, show ¬ ((2 : Int32) = 1) by decide, show ¬ ((2 : Int32) = 0) by decide, MP_10, nI_1, MP_p, m1, m2, b0, b1, b2, c0, c1, c2, MP_w, (mp_digit M (show sk (hI h 2) n p + 1 ≤ n by omega)).1 qd, (mp_digit M (show sk (hI h 2) n (sk (hI h 2) n p + 1) + 1 ≤ n by omega)).1 qe, MP_11, up1_up1]
          rfl
      · have nq : nI (sk (hI h 2) n (sk (hI h 2) n (sk (hI h 2) n p + 1) + 1)) ≠ -1 := nI_nm1 (by omega)
        refine Or.inr ⟨_, put3 f (3 * i) 2 (chT (hI h 2) n (sk (hI h 2) n (sk (hI h 2) n p + 1)) - 48) 0, put3 r (192 + 3 * i) 2 (chT (hI h 2) n (sk (hI h 2) n (sk (hI h 2) n p + 1)) - 48) 0, _, _, nq, hk3', hk3', ?_, ?_⟩
        · rw [tX6_readStep]
          simp only [oB_some, dR_some, cond_true, cond_false, if_true, if_false, Bool.true_and, Bool.and_true, Nat.beq_refl, PS_K, T1, pq_accept H Q hp240, pq_accept H Q hq240, sk_sk, qs, show ¬ ((115 : Int32) = 119) by decide, show ¬ ((115 : Int32) = 99) by decide, show ¬ ((1 : Int32) = 0) by decide, (pq_digit (f := f) H Q (show sk (hI h 2) n p + 1 ≤ n by omega)).1 rfl qd, (pq_digit (f := f) H Q (show sk (hI h 2) n (sk (hI h 2) n p + 1) + 1 ≤ n by omega)).2.1 rfl qe, pq_put Q hi]
        · rw [tX12_readStep]
          simp only [oB_some, dR_some, cond_true, cond_false, if_true, if_false, Bool.true_and, Bool.and_true, Nat.beq_refl, hK_sI, MP_K, MP_E, MP_R, M1, R1, R2, R3, mp_look M hp, mp_spot M, qs, show sp4 115 = 2 from rfl, show ¬ ((2 : Int32) = -1) by decide, show ¬ ((2 : Int32) = 1) by decide, show ¬ ((2 : Int32) = 0) by decide, MP_10, nI_1, MP_p, m1, m2, b0, b1, b2, c0, c1, c2, MP_w, (mp_digit M (show sk (hI h 2) n p + 1 ≤ n by omega)).1 qd, (mp_digit M (show sk (hI h 2) n (sk (hI h 2) n p + 1) + 1 ≤ n by omega)).2 qe, MP_11, up1_up1]
          rfl
    · have nq : nI (sk (hI h 2) n (sk (hI h 2) n p + 1)) ≠ -1 := nI_nm1 (by omega)
      refine Or.inr ⟨_, put3 f (3 * i) 2 0 0, put3 r (192 + 3 * i) 2 0 (-1), sk (hI h 2) n (sk (hI h 2) n p + 1), _, nq, hk2', hk2', ?_, ?_⟩
      · rw [tX6_readStep]
        simp only [oB_some, dR_some, cond_true, cond_false, if_true, if_false, Bool.true_and, Bool.and_true, Nat.beq_refl, PS_K, T1, pq_accept H Q hp240, pq_accept H Q hq240, sk_sk, qs, show ¬ ((115 : Int32) = 119) by decide, show ¬ ((115 : Int32) = 99) by decide, show ¬ ((1 : Int32) = 0) by decide, (pq_digit (f := f) H Q (show sk (hI h 2) n p + 1 ≤ n by omega)).2.1 rfl qd, (pq_digit (f := f) H Q hk2').2.2 nq, pq_put Q hi]
      · rw [tX12_readStep]
        simp only [oB_some, dR_some, cond_true, cond_false, if_true, if_false, Bool.true_and, Bool.and_true, Nat.beq_refl, hK_sI, MP_K, MP_E, MP_R, M1, R1, R2, R3, mp_look M hp, mp_spot M, qs, show sp4 115 = 2 from rfl, show ¬ ((2 : Int32) = -1) by decide, show ¬ ((2 : Int32) = 1) by decide, show ¬ ((2 : Int32) = 0) by decide, MP_10, nI_1, MP_p, m1, m2, b0, b1, b2, c0, c1, c2, MP_w, (mp_digit M (show sk (hI h 2) n p + 1 ≤ n by omega)).2 qd, MP_11, nq]
        rfl
  by_cases qp : chT (hI h 2) n (sk (hI h 2) n p) = 112
  · have hq := ch_lt qp (by decide)
    have hk2 := (sk_le (t := hI h 2) (n := n) (sk (hI h 2) n p + 1)).1
    have hk2' := (sk_le (t := hI h 2) (n := n) (sk (hI h 2) n p + 1)).2 (by omega)
    by_cases qd : dgo (hI h 2) n 9 (sk (hI h 2) n p + 1)
    · have hq2 := dgo_lt qd
      refine Or.inl ⟨sk (hI h 2) n (sk (hI h 2) n p + 1) + 1, 3, chT (hI h 2) n (sk (hI h 2) n (sk (hI h 2) n p + 1)) - 48, -1, by omega, by omega, Or.inr (Or.inr (Or.inr rfl)), ?_, ?_⟩
      · rw [tX6_readStep]
        simp only [oB_some, dR_some, cond_true, cond_false, if_true, if_false, Bool.true_and, Bool.and_true, Nat.beq_refl, PS_K, T1, pq_accept H Q hp240, pq_accept H Q hq240, pq_demand H Q hq240, sk_sk, qp, show ¬ ((112 : Int32) = 119) by decide, show ¬ ((112 : Int32) = 99) by decide, show ¬ ((112 : Int32) = 115) by decide, (pq_digit (f := f) H Q (show sk (hI h 2) n p + 1 ≤ n by omega)).1 rfl qd, pq_put Q hi]
      · rw [tX12_readStep]
        simp only [oB_some, dR_some, cond_true, cond_false, if_true, if_false, Bool.true_and, Bool.and_true, Nat.beq_refl, hK_sI, MP_K, MP_E, MP_R, M1, R1, R2, R3, mp_look M hp, mp_spot M, qp, show sp4 112 = 3 from rfl, show ¬ ((3 : Int32) = -1) by decide, show ¬ ((3 : Int32) = 1) by decide, show ¬ ((3 : Int32) = 0) by decide, show ¬ ((3 : Int32) = 2) by decide, MP_10, nI_1, MP_p, m1, m2, b0, b1, b2, c0, c1, c2, MP_w, (mp_digit M (show sk (hI h 2) n p + 1 ≤ n by omega)).1 qd, MP_11]
        rfl
    · have nq : nI (sk (hI h 2) n (sk (hI h 2) n p + 1)) ≠ -1 := nI_nm1 (by omega)
      refine Or.inr ⟨_, put3 f (3 * i) 3 0 (-1), put3 r (192 + 3 * i) 3 0 (-1), _, _, nq, hk2', hk2', ?_, ?_⟩
      · rw [tX6_readStep]
        simp only [oB_some, dR_some, cond_true, cond_false, if_true, if_false, Bool.true_and, Bool.and_true, Nat.beq_refl, PS_K, T1, pq_accept H Q hp240, pq_accept H Q hq240, pq_demand H Q hq240, sk_sk, qp, show ¬ ((112 : Int32) = 119) by decide, show ¬ ((112 : Int32) = 99) by decide, show ¬ ((112 : Int32) = 115) by decide, (pq_digit (f := f) H Q (show sk (hI h 2) n p + 1 ≤ n by omega)).2.1 rfl qd, pq_put Q hi]
      · rw [tX12_readStep]
        simp only [oB_some, dR_some, cond_true, cond_false, if_true, if_false, Bool.true_and, Bool.and_true, Nat.beq_refl, hK_sI, MP_K, MP_E, MP_R, M1, R1, R2, R3, mp_look M hp, mp_spot M, qp, show sp4 112 = 3 from rfl, show ¬ ((3 : Int32) = -1) by decide, show ¬ ((3 : Int32) = 1) by decide, show ¬ ((3 : Int32) = 0) by decide, show ¬ ((3 : Int32) = 2) by decide, MP_10, nI_1, MP_p, m1, m2, b0, b1, b2, c0, c1, c2, MP_w, (mp_digit M (show sk (hI h 2) n p + 1 ≤ n by omega)).2 qd, MP_11, nq]
        rfl
  have nq : nI (sk (hI h 2) n p) ≠ -1 := nI_nm1 (by omega)
  have es : sp4 (chT (hI h 2) n (sk (hI h 2) n p)) = -1 := by
    unfold sp4; rw [if_neg qw, if_neg qc, if_neg qs, if_neg qp]
  refine Or.inr ⟨_, put3 f (3 * i) 3 0 (-1), r, sk (hI h 2) n p, _, nq, hk, hk, ?_, ?_⟩
  · have dd := (pq_digit (f := f) (x := 9) H Q hk).2.2 nq
    rw [sk_sk] at dd
    rw [tX6_readStep]
    simp only [oB_some, dR_some, cond_true, cond_false, if_true, if_false, Bool.true_and, Bool.and_true, Nat.beq_refl, PS_K, T1, pq_accept H Q hp240, pq_accept H Q hq240, pq_demand H Q hq240, sk_sk, qw, qc, qs, qp, dd, pq_put Q hi]
  · rw [tX12_readStep]
    simp only [oB_some, dR_some, cond_true, cond_false, if_true, if_false, Bool.true_and, Bool.and_true, Nat.beq_refl, hK_sI, MP_K, M1, mp_look M hp, mp_spot M, es, mp_fails M1]
