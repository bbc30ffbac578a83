/-! ===== PURE: items of a house, by both readers ===== -/
theorem t64_lt (a b : Int32) : (a.toInt64 < b.toInt64) = (a < b) := by
  apply propext
  rw [Int64.lt_iff_toInt_lt, Int32.lt_iff_toInt_lt, Int32.toInt_toInt64, Int32.toInt_toInt64]
theorem isIn_sp (a b c : Int32) (h : Hp) : FX12_isIn [vL a.toInt64, vL b.toInt64, vL c.toInt64] h = some (rI (if a < b then 0 else if c < a then 0 else 1), h) := by
  rw [tX12_isIn]
  simp only [lg_cmp_lt, lg_cmp_gt, t64_lt, isZ0, isZ1, cond_true]
  by_cases q : a < b <;> by_cases r : c < a <;> simp only [q, r, if_true, if_false]
theorem tx_here {h : Hp} {T B n p : Nat} {t : Nat → Int32} {w : Int32} (M : TX h T B n t) (hp : p ≤ n) : FX12_here [vR (some 147)] (mw h p w) = some (rI (chT t n p), mw h p w) := by
  have := md_here (w := w) M.1 hp
  rw [chT_congr M.2] at this
  exact this
theorem z10 (c : Int32) : (10 : Int32) * 0 + c - 48 = c - 48 := by
  rw [show (10 : Int32) * 0 = 0 from by decide, Int32.zero_add]
theorem nI_p1 (s : Nat) : nI (s + 1) - 1 = nI s := by
  rw [show (1 : Int32) = nI 1 from rfl, pk_sub (by omega), Nat.add_sub_cancel]
theorem nuW_stop {t : Nat → Int32} {n : Nat} {lo hi : Int32} {r : Nat × Int32} (h : ¬ dg (chT t n r.1)) : nuW t n lo hi r = if r.2 < lo then nI r.1 - 1 else if r.2 ≤ hi then -1 else nI r.1 - 1 := if_neg h
theorem nuW_go {t : Nat → Int32} {n : Nat} {lo hi : Int32} {r : Nat × Int32} (h : dg (chT t n r.1)) : nuW t n lo hi r = nI r.1 := if_pos h
theorem i32_lt_of {a b : Int32} (h : ¬ a ≤ b) : b < a := Int32.not_le.mp h
theorem i32_nlt_of {a b : Int32} (h : a ≤ b) : ¬ b < a := Int32.not_lt.mpr h
def nuE (lo hi : Int32) (q : Nat) (v : Int32) : Int32 := if v < lo then nI q else if v ≤ hi then -1 else nI q
theorem nuW_end {t : Nat → Int32} {n q : Nat} {lo hi v : Int32} (h : ¬ dg (chT t n (q + 1))) : nuW t n lo hi (q + 1, v) = nuE lo hi q v := by
  refine (nuW_stop (r := (q + 1, v)) h).trans ?_
  show (if v < lo then nI (q + 1) - 1 else if v ≤ hi then -1 else nI (q + 1) - 1) = nuE lo hi q v
  unfold nuE
  have e := nI_p1 q
  rw [e]
/-- the reference's end of a number that stands at q, read to q + 1 -/
theorem tx_num {h : Hp} {q : Nat} {lo hi v : Int32} (M1 : hK h 147 = 12) (hq : q < 2 ^ 30) :
    oB (FX12_isIn [vL v.toInt64, vL lo.toInt64, vL hi.toInt64] (mw h (q + 1) (-1))) (fun r12 h13 => if r12.1 = 0 then if hK h13 147 = 12 then if hK h13 147 = 12 then oB (some (rV, sI h13 147 10 ((hI h13 147 10) - 1))) (fun _ h14 => bif Nat.beq (hK h14 147) 12 && true then oB (FX12_fails [vR (some 147)] h14) (fun r15 h16 => some (rI v, h16)) else none) else none else none else some (rI v, h13)) =
    some (rI v, mw h (if nuE lo hi q v = -1 then q + 1 else q) (nuE lo hi q v)) := by
  have nq : nI q ≠ -1 := nI_nm1 (by omega)
  have ep := nI_p1 q
  rw [isIn_sp]
  unfold nuE
  by_cases c1 : v < lo
  · simp only [oB_some, dR_some, cond_true, cond_false, if_true, if_false, Bool.true_and, Bool.and_true, Nat.beq_refl, hK_sI, mw_K, M1, c1, mw_at, ep, mw_pat, md_fails M1, nq]
  · by_cases c2 : v ≤ hi
    · simp only [oB_some, dR_some, cond_true, cond_false, if_true, if_false, Bool.true_and, Bool.and_true, Nat.beq_refl, c1, i32_nlt_of c2, c2, show ¬ (1 : Int32) = 0 by decide]
    · simp only [oB_some, dR_some, cond_true, cond_false, if_true, if_false, Bool.true_and, Bool.and_true, Nat.beq_refl, hK_sI, mw_K, M1, c1, c2, i32_lt_of c2, mw_at, ep, mw_pat, md_fails M1, nq]
theorem tx_number {h : Hp} {T B n p : Nat} {t : Nat → Int32} {lo hi : Int32} (M : TX h T B n t) (hp : p ≤ n) :
    (¬ dg (chT t n (sk t n p)) → FX12_number [vR (some 147), vI lo, vI hi] (mw h p (-1)) = some (rI 0, mw h (sk t n p) (nI (sk t n p)))) ∧
    (dg (chT t n (sk t n p)) → ∃ v q, FX12_number [vR (some 147), vI lo, vI hi] (mw h p (-1)) = some (rI v, mw h q (nuW t n lo hi (nuS t n 2 (sk t n p) 0))) ∧ (nuW t n lo hi (nuS t n 2 (sk t n p) 0) = -1 → v = (nuS t n 2 (sk t n p) 0).2 ∧ q = (nuS t n 2 (sk t n p) 0).1)) := by
  have M1 := M.1.1.1
  have hn := M.1.1.2.2.2.1
  have hn2 := M.1.1.2.2.2.2.1
  have hk := (sk_le (t := t) (n := n) p).2 hp
  refine ⟨fun d => ?_, fun d => ?_⟩
  · rw [tX12_number]
    simp only [oB_some, dR_some, cond_true, cond_false, if_true, if_false, Bool.true_and, Bool.and_true, Nat.beq_refl, mw_K, M1, tx_look M hp, (tx_isDigit M hk).2 d, md_fails M1]
  · have hq := dg_lt d
    by_cases d1 : dg (chT t n (sk t n p + 1))
    · have hq1 := dg_lt d1
      have e : nuS t n 2 (sk t n p) 0 = (sk t n p + 1 + 1, 10 * (chT t n (sk t n p) - 48) + chT t n (sk t n p + 1) - 48) := by
        rw [nuS_go d, z10, nuS_go d1]; rfl
      rw [e]
      by_cases d2 : dg (chT t n (sk t n p + 1 + 1))
      · have hq2 := dg_lt d2
        have nq : nI (sk t n p + 1 + 1) ≠ -1 := nI_nm1 (by omega)
        refine ⟨0, sk t n p + 1 + 1, ?_, fun z => ?_⟩
        · rw [tX12_number]
          simp only [oB_some, dR_some, cond_true, cond_false, if_true, if_false, Bool.true_and, Bool.and_true, Nat.beq_refl, hK_sI, mw_K, M1, tx_look M hp, (tx_isDigit M hk).1 d, (tx_isDigit M (show sk t n p + 1 ≤ n by omega)).1 d1, (tx_isDigit M (show sk t n p + 1 + 1 ≤ n by omega)).1 d2, mw_at, nI_1, mw_pat, tx_here M (show sk t n p + 1 ≤ n by omega), show ¬ (1 : Int32) = 0 by decide, md_fails M1, nuW_go (r := (sk t n p + 1 + 1, 10 * (chT t n (sk t n p) - 48) + chT t n (sk t n p + 1) - 48)) d2]
        · rw [nuW_go (r := (sk t n p + 1 + 1, 10 * (chT t n (sk t n p) - 48) + chT t n (sk t n p + 1) - 48)) d2] at z
          exact absurd z nq
      · have E := tx_num (q := sk t n p + 1) (lo := lo) (hi := hi) (v := 10 * (chT t n (sk t n p) - 48) + chT t n (sk t n p + 1) - 48) M1 (by omega)
        rw [nuW_end d2]
        refine ⟨10 * (chT t n (sk t n p) - 48) + chT t n (sk t n p + 1) - 48, (if nuE lo hi (sk t n p + 1) (10 * (chT t n (sk t n p) - 48) + chT t n (sk t n p + 1) - 48) = -1 then sk t n p + 1 + 1 else sk t n p + 1), ?_, fun z => ⟨rfl, if_pos z⟩⟩
        rw [tX12_number]
        simp only [oB_some, dR_some, cond_true, cond_false, if_true, if_false, Bool.true_and, Bool.and_true, Nat.beq_refl, hK_sI, mw_K, M1, tx_look M hp, (tx_isDigit M hk).1 d, (tx_isDigit M (show sk t n p + 1 ≤ n by omega)).1 d1, (tx_isDigit M (show sk t n p + 1 + 1 ≤ n by omega)).2 d2, mw_at, nI_1, mw_pat, tx_here M (show sk t n p + 1 ≤ n by omega), show ¬ (1 : Int32) = 0 by decide]
        simp only [oB_some, dR_some, cond_true, cond_false, if_true, if_false, Bool.true_and, Bool.and_true, Nat.beq_refl, hK_sI, mw_K, M1] at E
        exact E
    · have e : nuS t n 2 (sk t n p) 0 = (sk t n p + 1, chT t n (sk t n p) - 48) := by
        rw [nuS_go d, z10, nuS_stop d1]
      rw [e]
      have E := tx_num (q := sk t n p) (lo := lo) (hi := hi) (v := chT t n (sk t n p) - 48) M1 (by omega)
      rw [nuW_end d1]
      refine ⟨chT t n (sk t n p) - 48, (if nuE lo hi (sk t n p) (chT t n (sk t n p) - 48) = -1 then sk t n p + 1 else sk t n p), ?_, fun z => ⟨rfl, if_pos z⟩⟩
      rw [tX12_number]
      simp only [oB_some, dR_some, cond_true, cond_false, if_true, if_false, Bool.true_and, Bool.and_true, Nat.beq_refl, hK_sI, mw_K, M1, tx_look M hp, (tx_isDigit M hk).1 d, (tx_isDigit M (show sk t n p + 1 ≤ n by omega)).2 d1, mw_at, nI_1, mw_pat, show ¬ (1 : Int32) = 0 by decide]
      simp only [oB_some, dR_some, cond_true, cond_false, if_true, if_false, Bool.true_and, Bool.and_true, Nat.beq_refl, hK_sI, mw_K, M1] at E
      exact E
theorem nuS_le {t : Nat → Int32} {n : Nat} : ∀ (k p : Nat) (v : Int32), p ≤ n → p ≤ (nuS t n k p v).1 ∧ (nuS t n k p v).1 ≤ n := by
  intro k
  induction k with
  | zero => intro p v hp; exact ⟨Nat.le_refl _, hp⟩
  | succ k ih =>
    intro p v hp
    by_cases d : dg (chT t n p)
    · rw [nuS_go d]
      have := ih (p + 1) (10 * v + chT t n p - 48) (dg_lt d)
      exact ⟨by omega, this.2⟩
    · rw [nuS_stop d]; exact ⟨Nat.le_refl _, hp⟩
/-- a number without fault lies within -/
theorem nuW_in {t : Nat → Int32} {n : Nat} {lo hi : Int32} {r : Nat × Int32} (hr : r.1 ≤ n) (h0 : 0 < r.1) (hn : n < 2 ^ 30) (h : nuW t n lo hi r = -1) : ¬ r.2 < lo ∧ r.2 ≤ hi := by
  by_cases d : dg (chT t n r.1)
  · rw [nuW_go d] at h; exact absurd h (nI_nm1 (by omega))
  · rw [nuW_stop d] at h
    obtain ⟨m, hm⟩ : ∃ m, r.1 = m + 1 := ⟨r.1 - 1, by omega⟩
    rw [hm, nI_p1] at h
    by_cases c1 : r.2 < lo
    · rw [if_pos c1] at h; exact absurd h (nI_nm1 (by omega))
    · rw [if_neg c1] at h
      by_cases c2 : r.2 ≤ hi
      · exact ⟨c1, c2⟩
      · rw [if_neg c2] at h; exact absurd h (nI_nm1 (by omega))
/-- the first of k from i on that is x -/
def sp (g : Nat → Int32) (x : Int32) : Nat → Nat → Int32
  | 0, _ => -1
  | k + 1, i => if g i = x then nI i else sp g x k (i + 1)
theorem sp_cases (g : Nat → Int32) (x : Int32) : ∀ k i, sp g x k i = -1 ∨ ∃ j, i ≤ j ∧ j < i + k ∧ g j = x ∧ sp g x k i = nI j := by
  intro k
  induction k with
  | zero => intro i; exact Or.inl rfl
  | succ k ih =>
    intro i
    show (if g i = x then nI i else sp g x k (i + 1)) = -1 ∨ ∃ j, i ≤ j ∧ j < i + (k + 1) ∧ g j = x ∧ (if g i = x then nI i else sp g x k (i + 1)) = nI j
    by_cases c : g i = x
    · exact Or.inr ⟨i, Nat.le_refl _, by omega, c, if_pos c⟩
    · rw [if_neg c]
      rcases ih (i + 1) with e | ⟨j, h1, h2, h3, h4⟩
      · exact Or.inl e
      · exact Or.inr ⟨j, by omega, by omega, h3, h4⟩
theorem sp_congr {g g' : Nat → Int32} (x : Int32) : ∀ k i, (∀ j, i ≤ j → j < i + k → g j = g' j) → sp g x k i = sp g' x k i := by
  intro k
  induction k with
  | zero => intro i _; rfl
  | succ k ih =>
    intro i e
    show (if g i = x then nI i else sp g x k (i + 1)) = (if g' i = x then nI i else sp g' x k (i + 1))
    rw [e i (Nat.le_refl _) (by omega), ih (i + 1) (fun j a b => e j (by omega) (by omega))]
theorem spot_run {h : Hp} {s n : Nat} {b : Nat → Nat} {x : Int32} (S : StL h s n b) : ∀ k i, i + k = n → Run kX12_spotOf 2 [some (vR (some s)), some (vI x), some (vI (nI i))] [] h = some (rI (sp (fun j => nI (b j)) x k i), h) := by
  intro k
  induction k with
  | zero => intro i hi; rw [show i = n by omega, spot_end S]; rfl
  | succ k ih =>
    intro i hi
    rw [spot_go S (by omega), ih (i + 1) (by omega)]
    show (if x = nI (b i) then some (rI (nI i), h) else some (rI (sp (fun j => nI (b j)) x k (i + 1)), h)) = some (rI (if nI (b i) = x then nI i else sp (fun j => nI (b j)) x k (i + 1)), h)
    by_cases c : x = nI (b i)
    · rw [if_pos c, if_pos c.symm]
    · rw [if_neg c, if_neg (fun z => c z.symm)]
theorem spot_sp {h : Hp} {s n : Nat} {b : Nat → Nat} {x : Int32} (S : StL h s n b) : FX12_spotOf [vR (some s), vI x] h = some (rI (sp (fun j => nI (b j)) x n 0), h) := by
  rw [tX12_spotOf, show (0 : Int32) = nI 0 from rfl]
  exact spot_run S n 0 (by omega)
theorem item_run {h : Hp} {I K : Nat} {x : Int32} (h1 : hK h I = 25) (h2 : hE h I = 4 * K) (hK7 : K ≤ 7) : ∀ k i, i + k = K → Run kX0_itemOf 2 [some (vR (some I)), some (vI x), some (vI (nI i))] [] h = some (rI (sp (fun j => hI h I (4 * j)) x k i), h) := by
  intro k
  induction k with
  | zero =>
    intro i hi
    have e4 : (4 : Int32) * nI i + 3 = nI (4 * i + 3) := by rw [show (4 : Int32) = nI 4 from rfl, pk_mul, show (3 : Int32) = nI 3 from rfl, nI_add]
    have e1 := nI_nle' (a := 4 * K) (b := 4 * i + 3) (by omega) (by omega)
    rw [tX0_itemOf_2]
    simp only [oB_some, dR_some, cond_true, cond_false, if_true, if_false, Bool.true_and, Bool.and_true, Nat.beq_refl, h1, h2, alK25, e4, show Int32.ofNat (4 * K) = nI (4 * K) from rfl, e1, show 4 * K ≤ 4 * i + 3 by omega]
    rfl
  | succ k ih =>
    intro i hi
    have e4 : (4 : Int32) * nI i + 3 = nI (4 * i + 3) := by rw [show (4 : Int32) = nI 4 from rfl, pk_mul, show (3 : Int32) = nI 3 from rfl, nI_add]
    have e3 : (4 : Int32) * nI i = nI (4 * i) := by rw [show (4 : Int32) = nI 4 from rfl, pk_mul]
    have e6 : nI (4 * i) + 3 = nI (4 * i + 3) := nI_add _ 3
    have e1 := nI_nle' (a := 4 * K) (b := 4 * i + 3) (by omega) (by omega)
    have b0 : inb (nI (4 * i)) (4 * K) = true := inb_nI (by omega) (by omega)
    have c0 : (nI (4 * i)).toNatClampNeg = 4 * i := nI_clamp (by omega)
    rw [tX0_itemOf_2]
    simp only [oB_some, dR_some, cond_true, cond_false, if_true, if_false, Bool.true_and, Bool.and_true, Nat.beq_refl, h1, h2, alK25, iaK25, e6, e3, b0, c0, show Int32.ofNat (4 * K) = nI (4 * K) from rfl, e1, show ¬ 4 * K ≤ 4 * i + 3 by omega, nI_1, ih (i + 1) (by omega)]
    show _ = some (rI (if hI h I (4 * i) = x then nI i else sp (fun j => hI h I (4 * j)) x k (i + 1)), h)
    by_cases c : hI h I (4 * i) = x <;> simp only [c, if_true, if_false]
theorem item_sp {h : Hp} {I K : Nat} {x : Int32} (h1 : hK h I = 25) (h2 : hE h I = 4 * K) (hK7 : K ≤ 7) : FX0_itemOf [vR (some I), vI x] h = some (rI (sp (fun j => hI h I (4 * j)) x K 0), h) := by
  rw [tX0_itemOf, show (0 : Int32) = nI 0 from rfl]
  exact item_run h1 h2 hK7 K 0 (by omega)
/-- a section filled -/
def fil (u : Nat → Int32) (a : Nat) : Nat → Nat → (Nat → Int32) → (Nat → Int32)
  | 0, _, f => f
  | k + 1, i, f => fil u a k (i + 1) (up1 f (a + i) (u i))
def EqTo (f r : Nat → Int32) (m : Nat) : Prop := ∀ j, j < m → f j = r j
theorem EqTo.up {f r : Nat → Int32} {m : Nat} (E : EqTo f r m) (k : Nat) (v : Int32) : EqTo (up1 f k v) (up1 r k v) m := by
  intro j hj
  by_cases c : j = k
  · subst c; rw [up1_s, up1_s]
  · rw [up1_o _ _ c, up1_o _ _ c]; exact E j hj
theorem EqTo.next {f r : Nat → Int32} {m : Nat} (E : EqTo f r m) (v : Int32) : EqTo (up1 f m v) (up1 r m v) (m + 1) := by
  intro j hj
  by_cases c : j = m
  · subst c; rw [up1_s, up1_s]
  · rw [up1_o _ _ c, up1_o _ _ c]; exact E j (by omega)
theorem fil_eq (u : Nat → Int32) (a : Nat) : ∀ k i f r, EqTo f r (a + i) → EqTo (fil u a k i f) (fil u a k i r) (a + i + k) := by
  intro k
  induction k with
  | zero => intro i f r E; exact E
  | succ k ih =>
    intro i f r E
    have := ih (i + 1) _ _ (E.next (u i))
    rw [show a + (i + 1) + k = a + i + (k + 1) by omega] at this
    exact this
theorem fil_out (u : Nat → Int32) (a : Nat) : ∀ k i f j, (j < a + i ∨ a + i + k ≤ j) → fil u a k i f j = f j := by
  intro k
  induction k with
  | zero => intro i f j _; rfl
  | succ k ih =>
    intro i f j h
    show fil u a k (i + 1) (up1 f (a + i) (u i)) j = f j
    rw [ih (i + 1) _ j (by omega), up1_o _ _ (by omega)]
theorem fil_in (u : Nat → Int32) (a : Nat) : ∀ k i f j, i ≤ j → j < i + k → fil u a k i f (a + j) = u j := by
  intro k
  induction k with
  | zero => intro i f j h1 h2; omega
  | succ k ih =>
    intro i f j h1 h2
    show fil u a k (i + 1) (up1 f (a + i) (u i)) (a + j) = u j
    by_cases c : j = i
    · subst c
      rw [fil_out _ _ _ _ _ _ (Or.inl (by omega)), up1_s]
    · exact ih (i + 1) _ j (by omega) (by omega)
theorem fill_run {h : Hp} {a m I K N : Nat} (h1 : hK h I = 25) (h2 : hE h I = 4 * K) (hK7 : K ≤ 7) (a1 : hK h a = 20) (a2 : hE h a = N) (ha : a ≠ I) (hm : m + K ≤ N) (hN : N ≤ 100) : ∀ k i f, i + k = K → Run kX0_fillUsual 2 [some (vR (some a)), some (vI (nI m)), some (vR (some I)), some (vI (nI i))] [] (wA h a f) = some (rV, wA h a (fil (fun j => hI h I (4 * j + 3)) m k i f)) := by
  intro k
  induction k with
  | zero =>
    intro i f hi
    have e4 : (4 : Int32) * nI i + 3 = nI (4 * i + 3) := by rw [show (4 : Int32) = nI 4 from rfl, pk_mul, show (3 : Int32) = nI 3 from rfl, nI_add]
    have e1 := nI_nle' (a := 4 * K) (b := 4 * i + 3) (by omega) (by omega)
    rw [tX0_fillUsual_2]
    simp only [oB_some, dR_some, cond_true, cond_false, if_true, if_false, Bool.true_and, Bool.and_true, Nat.beq_refl, wA_K, wA_E, h1, h2, alK25, e4, show Int32.ofNat (4 * K) = nI (4 * K) from rfl, e1, show 4 * K ≤ 4 * i + 3 by omega]
    rfl
  | succ k ih =>
    intro i f hi
    have e4 : (4 : Int32) * nI i + 3 = nI (4 * i + 3) := by rw [show (4 : Int32) = nI 4 from rfl, pk_mul, show (3 : Int32) = nI 3 from rfl, nI_add]
    have e5 : nI m + nI i = nI (m + i) := nI_add _ _
    have e1 := nI_nle' (a := 4 * K) (b := 4 * i + 3) (by omega) (by omega)
    have e2 := nI_nle' (a := N) (b := m + i) (by omega) (by omega)
    have b0 : inb (nI (4 * i + 3)) (4 * K) = true := inb_nI (by omega) (by omega)
    have c0 : (nI (4 * i + 3)).toNatClampNeg = 4 * i + 3 := nI_clamp (by omega)
    have b1 : inb (nI (m + i)) N = true := inb_nI (by omega) (by omega)
    have c1 : (nI (m + i)).toNatClampNeg = m + i := nI_clamp (by omega)
    rw [tX0_fillUsual_2]
    simp only [oB_some, dR_some, cond_true, cond_false, if_true, if_false, Bool.true_and, Bool.and_true, Nat.beq_refl, wA_K, wA_E, h1, h2, a1, a2, alK25, alK20, iaK25, e4, e5, b0, c0, b1, c1, show Int32.ofNat (4 * K) = nI (4 * K) from rfl, show Int32.ofNat N = nI N from rfl, e1, e2, show ¬ 4 * K ≤ 4 * i + 3 by omega, show ¬ N ≤ m + i by omega, nI_1, sI_ws, wA_O h f (Ne.symm ha), ih (i + 1) _ (by omega)]
    rfl
theorem fill_sp {h : Hp} {a m I K N : Nat} {f : Nat → Int32} (h1 : hK h I = 25) (h2 : hE h I = 4 * K) (hK7 : K ≤ 7) (a1 : hK h a = 20) (a2 : hE h a = N) (ha : a ≠ I) (hm : m + K ≤ N) (hN : N ≤ 100) : FX0_fillUsual [vR (some a), vI (nI m), vR (some I)] (wA h a f) = some (rV, wA h a (fil (fun j => hI h I (4 * j + 3)) m K 0 f)) := by
  rw [tX0_fillUsual, show (0 : Int32) = nI 0 from rfl]
  exact fill_run h1 h2 hK7 a1 a2 ha hm hN K 0 f (by omega)
