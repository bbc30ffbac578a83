/-! ===== PURE: the items' loop, by both readers ===== -/
theorem bt_read : ∀ M, M < 128 → ∀ j, j < 7 → ((nI M >>> (nI j &&& 31)) &&& 1) = nI (M / 2 ^ j % 2) := by decide +kernel
theorem bt_set : ∀ M, M < 128 → ∀ j, j < 7 → nI M ||| (1 <<< (nI j &&& 31)) = nI (M ||| 2 ^ j) := by decide +kernel
def pop (M : Nat) : Nat := M % 2 + M / 2 % 2 + M / 4 % 2 + M / 8 % 2 + M / 16 % 2 + M / 32 % 2 + M / 64 % 2
theorem pop7 : ∀ M, M < 128 → ∀ j, j < 7 → (M / 2 ^ j % 2 = 0 → (M ||| 2 ^ j) < 128 ∧ pop (M ||| 2 ^ j) = pop M + 1) ∧ (pop M = 7 → M / 2 ^ j % 2 = 1) := by decide +kernel
theorem pop3 : ∀ M, M < 8 → ∀ j, j < 3 → (M / 2 ^ j % 2 = 0 → (M ||| 2 ^ j) < 8 ∧ pop (M ||| 2 ^ j) = pop M + 1) ∧ (pop M = 3 → M / 2 ^ j % 2 = 1) := by decide +kernel
def MK (K M nn : Nat) : Prop := (K = 7 ∧ M < 128 ∨ K = 3 ∧ M < 8) ∧ pop M = nn
theorem MK.set {K M nn j : Nat} (h : MK K M nn) (hj : j < K) (hb : M / 2 ^ j % 2 = 0) : MK K (M ||| 2 ^ j) (nn + 1) := by
  rcases h.1 with ⟨k, m⟩ | ⟨k, m⟩
  · subst k
    have := (pop7 M m j hj).1 hb
    exact ⟨Or.inl ⟨rfl, this.1⟩, by rw [this.2, h.2]⟩
  · subst k
    have := (pop3 M m j hj).1 hb
    exact ⟨Or.inr ⟨rfl, this.1⟩, by rw [this.2, h.2]⟩
theorem MK.full {K M j : Nat} (h : MK K M K) (hj : j < K) : M / 2 ^ j % 2 = 1 := by
  rcases h.1 with ⟨k, m⟩ | ⟨k, m⟩
  · subst k; exact (pop7 M m j hj).2 h.2
  · subst k; exact (pop3 M m j hj).2 h.2
theorem MK.lt {K M nn : Nat} (h : MK K M nn) : M < 128 ∧ K ≤ 7 := by rcases h.1 with ⟨k, m⟩ | ⟨k, m⟩ <;> omega
theorem has_sp {M j : Nat} (hM : M < 128) (hj : j < 7) (h : Hp) : FX12_has [vI (nI M), vI (nI j)] h = some (rI (nI (M / 2 ^ j % 2)), h) := by
  rw [tX12_has, bt_read M hM j hj]
  rcases (show M / 2 ^ j % 2 = 0 ∨ M / 2 ^ j % 2 = 1 by omega) with e | e <;> rw [e] <;> rfl
theorem HT.wA {h : Hp} {n a : Nat} (H : HT h n) (f : Nat → Int32) (ha : 2 < a) : HT (wA h a f) n := by
  obtain ⟨⟨a1, a2, a3, a4⟩, b, c⟩ := H
  exact ⟨⟨a1, a2, a3, a4⟩, by rw [wA_O _ _ (by omega)]; exact b, c⟩
theorem ci_peek {h : Hp} {n a p : Nat} {f : Nat → Int32} {w : Int32} (H : HT h n) (ha : 2 < a) (hp : p ≤ 240) : FX9_peek [vR (some 1)] (tw (wA h a f) p w) = some (rI (chT (hI h 2) n (sk (hI h 2) n p)), tw (wA h a f) (sk (hI h 2) n p) w) := by
  have := tp_peek (w := w) (H.wA f ha) hp
  rw [wA_O _ _ (by omega)] at this; exact this
theorem ci_number {h : Hp} {n a p : Nat} {f : Nat → Int32} {w lo hi : Int32} (H : HT h n) (ha : 2 < a) (hp : p ≤ n) :
    (w = -1 → dg (chT (hI h 2) n (sk (hI h 2) n p)) → FX9_number [vR (some 1), vI 2, vI lo, vI hi] (tw (wA h a f) p w) = some (rI (nuS (hI h 2) n 2 (sk (hI h 2) n p) 0).2, tw (wA h a f) (nuS (hI h 2) n 2 (sk (hI h 2) n p) 0).1 (nuW (hI h 2) n lo hi (nuS (hI h 2) n 2 (sk (hI h 2) n p) 0)))) ∧
    (w = -1 → ¬ dg (chT (hI h 2) n (sk (hI h 2) n p)) → FX9_number [vR (some 1), vI 2, vI lo, vI hi] (tw (wA h a f) p w) = some (rI lo, tw (wA h a f) (sk (hI h 2) n p) (nI (sk (hI h 2) n p)))) ∧
    (w ≠ -1 → FX9_number [vR (some 1), vI 2, vI lo, vI hi] (tw (wA h a f) p w) = some (rI lo, tw (wA h a f) p w)) := by
  have := tp_number (k := 2) (lo := lo) (hi := hi) (w := w) (H.wA f ha) hp (by omega)
  rw [wA_O _ _ (show (2 : Nat) ≠ a by omega)] at this; exact this
theorem ci_skip {h : Hp} {n a p : Nat} {f : Nat → Int32} {w : Int32} (H : HT h n) : FX9_skip [vR (some 1)] (tw (wA h a f) p w) = if w = -1 then some (rI 1, tw (wA h a f) (p + 1) w) else some (rI 0, tw (wA h a f) p w) := tp_skip H.1
theorem ci_row {h : Hp} {a p I : Nat} {f : Nat → Int32} {w : Int32} (h1 : I ≠ a) (h2 : I ≠ 1) : hI (tw (wA h a f) p w) I = hI h I := by rw [tw_row _ _ _ h2, wA_O _ _ h1]
theorem ci_w {h : Hp} {a p k : Nat} {f : Nat → Int32} {w v : Int32} (ha : 2 < a) : sI (tw (wA h a f) p w) a k v = tw (wA h a (up1 f k v)) p w := by
  rw [tw_sI _ _ _ _ _ (by omega), sI_ws]
/-- what the class's items stand on -/
def IC (h : Hp) (I K a N m : Nat) : Prop := hK h I = 25 ∧ hE h I = 4 * K ∧ hK h a = 20 ∧ hE h a = N ∧ I ≠ a ∧ m + K ≤ N ∧ N ≤ 100 ∧ 2 < a ∧ 2 < I ∧ (K = 7 ∨ K = 3)
theorem ci_item {h : Hp} {a p I K N m : Nat} {f : Nat → Int32} {w x : Int32} (C : IC h I K a N m) : FX0_itemOf [vR (some I), vI x] (tw (wA h a f) p w) = some (rI (sp (fun j => hI h I (4 * j)) x K 0), tw (wA h a f) p w) := by
  obtain ⟨c1, c2, c3, c4, c5, c6, c7, c8, c9, c10⟩ := C
  have := item_sp (h := tw (wA h a f) p w) (x := x) c1 c2 (by omega)
  rw [ci_row c5 (by omega)] at this
  exact this
theorem div4 {K : Nat} (h : K = 7 ∨ K = 3) : Int32.ofNat (4 * K) / 4 = nI K := by rcases h with e | e <;> subst e <;> decide
theorem it_bad {h : Hp} {n a m I K N : Nat} {w : Int32} (H : HT h n) (C : IC h I K a N m) (hw : w ≠ -1) : ∀ k nn, nn + k = K → ∀ x4 f p o6, p ≤ n → ∃ f' p', p' ≤ n ∧ Run kX0_readItems 12 [some (vR (some 1)), some (vR (some a)), some (vI (nI m)), some (vR (some I)), some (vI x4), some (vI (nI nn)), o6] [] (tw (wA h a f) p w) = some (rV, tw (wA h a f') p' w) := by
  have T1 := H.1.1
  have hn := H.2.2
  have C' := C
  obtain ⟨c1, c2, c3, c4, c5, c6, c7, c8, c9, c10⟩ := C
  intro k
  induction k with
  | zero =>
    intro nn hk x4 f p o6 hp
    have e1 : nI K ≤ nI nn := nI_le (by omega) (by omega)
    refine ⟨f, p, hp, ?_⟩
    rw [tX0_readItems_12]
    simp only [oB_some, dR_some, cond_true, cond_false, if_true, if_false, Bool.true_and, Bool.and_true, Nat.beq_refl, tw_K, tw_E, wA_K, wA_E, c1, c2, alK25, show ¬ (4 : Int32) = 0 by decide, div4 c10, e1]
  | succ k ih =>
    intro nn hk x4 f p o6 hp
    have e1 : ¬ nI K ≤ nI nn := by rw [nI_nle' (by omega) (by omega)]; omega
    have hs := (sk_le (t := hI h 2) (n := n) p).2 hp
    rw [tX0_readItems_12]
    rcases sp_cases (fun j => hI h I (4 * j)) (chT (hI h 2) n (sk (hI h 2) n p)) K 0 with e | ⟨j, _, j2, _, e⟩
    · refine ⟨f, sk (hI h 2) n p, hs, ?_⟩
      simp only [oB_some, dR_some, cond_true, cond_false, if_true, if_false, Bool.true_and, Bool.and_true, Nat.beq_refl, tw_K, tw_E, wA_K, wA_E, c1, c2, alK25, show ¬ (4 : Int32) = 0 by decide, div4 c10, e1, T1, ci_peek H c8 (show p ≤ 240 by omega), ci_item C', e]
    · have nj : nI j ≠ -1 := nI_nm1 (by omega)
      by_cases b : ((x4 >>> (nI j &&& 31)) &&& 1) = 0
      · have e3 : nI m + nI j = nI (m + j) := nI_add _ _
        have e4 : (nI (m + j) < nI N) = (m + j < N) := nI_nlt' (by omega) (by omega)
        have e5 : (4 : Int32) * nI j + 1 = nI (4 * j + 1) := by rw [show (4 : Int32) = nI 4 from rfl, pk_mul, nI_1]
        have e6 : (4 : Int32) * nI j + 2 = nI (4 * j + 2) := by rw [show (4 : Int32) = nI 4 from rfl, pk_mul, show (2 : Int32) = nI 2 from rfl, nI_add]
        have b0 : inb (nI (4 * j + 1)) (4 * K) = true := inb_nI (by omega) (by omega)
        have b1 : inb (nI (4 * j + 2)) (4 * K) = true := inb_nI (by omega) (by omega)
        have b2 : inb (nI (m + j)) N = true := inb_nI (by omega) (by omega)
        have d0 : (nI (4 * j + 1)).toNatClampNeg = 4 * j + 1 := nI_clamp (by omega)
        have d1 : (nI (4 * j + 2)).toNatClampNeg = 4 * j + 2 := nI_clamp (by omega)
        have d2 : (nI (m + j)).toNatClampNeg = m + j := nI_clamp (by omega)
        obtain ⟨f', p', l1, E⟩ := ih (nn + 1) (by omega) (x4 ||| (1 <<< (nI j &&& 31))) (up1 f (m + j) (hI h I (4 * j + 1))) (sk (hI h 2) n p) (some (vI (nI j))) hs
        refine ⟨f', p', l1, ?_⟩
        simp only [oB_some, dR_some, cond_true, cond_false, if_true, if_false, Bool.true_and, Bool.and_true, Nat.beq_refl, tw_K, tw_E, wA_K, wA_E, c1, c2, c3, c4, alK25, alK20, iaK25, show ¬ (4 : Int32) = 0 by decide, div4 c10, e1, T1, ci_peek H c8 (show p ≤ 240 by omega), ci_item C', e, nj, b, e3, show Int32.ofNat N = nI N from rfl, e4, show m + j < N by omega, ci_skip H, hw, e5, e6, b0, b1, b2, d0, d1, d2, (ci_number H c8 hs).2.2 hw, ci_row c5 (show I ≠ 1 by omega), ci_w c8, nI_1, E]
      · refine ⟨f, sk (hI h 2) n p, hs, ?_⟩
        simp only [oB_some, dR_some, cond_true, cond_false, if_true, if_false, Bool.true_and, Bool.and_true, Nat.beq_refl, tw_K, tw_E, wA_K, wA_E, c1, c2, alK25, show ¬ (4 : Int32) = 0 by decide, div4 c10, e1, T1, ci_peek H c8 (show p ≤ 240 by omega), ci_item C', e, nj, b]
/-- what the reference's items stand on -/
def IM (hm : Hp) (T B n : Nat) (t : Nat → Int32) (S K o N m : Nat) (kd : Int32) (g : Nat → Int32) (b : Nat → Nat) : Prop :=
  TX hm T B n t ∧ StL hm S K b ∧ hK hm o = 20 ∧ hE hm o = N ∧ (o ≠ 147 ∧ T ≠ o ∧ S + 100 ≠ o ∧ S + 100 ≠ 147) ∧ (∀ j, j < K → nI (b j) = g (4 * j)) ∧ (∀ j, j < K → g (4 * j) ≠ 59 ∧ g (4 * j) ≠ -1) ∧
  (∀ j, j < K → ∀ h', FX12_usual [vI kd, vI (nI j)] h' = some (rI (g (4 * j + 3)), h')) ∧ (∀ j, j < K → ∀ h', FX12_leastOf [vI kd, vI (nI j)] h' = some (rI (g (4 * j + 1)), h')) ∧ (∀ j, j < K → ∀ h', FX12_mostOf [vI kd, vI (nI j)] h' = some (rI (g (4 * j + 2)), h'))
theorem im_spot {hm : Hp} {T B n S K o N m p : Nat} {t g r : Nat → Int32} {b : Nat → Nat} {kd x w : Int32} (M : IM hm T B n t S K o N m kd g b) : FX12_spotOf [vR (some S), vI x] (mw (wA hm o r) p w) = some (rI (sp (fun j => g (4 * j)) x K 0), mw (wA hm o r) p w) := by
  obtain ⟨m1, m2, m3, m4, ⟨m5, m6, m7, m8⟩, m9, _⟩ := M
  have S' : StL (mw (wA hm o r) p w) S K b := by
    unfold StL
    rw [mw_row _ _ _ m8, wA_O _ _ m7]
    exact m2
  rw [spot_sp S']
  rw [sp_congr x K 0 (fun j _ hj => m9 j (by omega))]
theorem im_w {hm : Hp} {o p k : Nat} {r : Nat → Int32} {w v : Int32} (ho : o ≠ 147) : sI (mw (wA hm o r) p w) o k v = mw (wA hm o (up1 r k v)) p w := by
  rw [mw_sI _ _ _ _ (Or.inl ho), sI_ws]
def Rg (g f : Nat → Int32) (m K : Nat) : Prop := ∀ j, j < K → ¬ f (m + j) < g (4 * j + 1) ∧ f (m + j) ≤ g (4 * j + 2)
theorem Rg.up {g f : Nat → Int32} {m K : Nat} (R : Rg g f m K) {j : Nat} {v : Int32} (h : ¬ v < g (4 * j + 1) ∧ v ≤ g (4 * j + 2)) : Rg g (up1 f (m + j) v) m K := by
  intro i hi
  by_cases c : i = j
  · subst c; rw [up1_s]; exact h
  · rw [up1_o _ _ (by omega)]; exact R i hi
def IO (h hm : Hp) (n a o m K : Nat) (g f0 : Nat → Int32) (A D : Option (RV × Hp)) : Prop :=
  (∃ f' r' p', p' ≤ n ∧ EqTo f' r' (m + K) ∧ Rg g f' m K ∧ EqTo f' f0 m ∧ A = some (rV, tw (wA h a f') p' (-1)) ∧ D = some (rV, mw (wA hm o r') (sk (hI h 2) n p') (-1))) ∨
  (∃ f' r' p', p' ≤ n ∧ chT (hI h 2) n (sk (hI h 2) n p') ≠ 59 ∧ chT (hI h 2) n (sk (hI h 2) n p') ≠ -1 ∧ A = some (rV, tw (wA h a f') p' (-1)) ∧ D = some (rV, mw (wA hm o r') (sk (hI h 2) n p') (nI (sk (hI h 2) n p')))) ∨
  (∃ w f' r' p' p'', w ≠ -1 ∧ p' ≤ n ∧ A = some (rV, tw (wA h a f') p' w) ∧ D = some (rV, mw (wA hm o r') p'' w))
theorem im_none {hm : Hp} {o p : Nat} {r : Nat → Int32} {kd : Int32} {x m S : Int32} {q q' : Option Nat} {w : Int32} : Run kX12_readItems 45 [some (vR (some 147)), some (vI kd), some (vR q), some (vI m), some (vR q'), some (vI x), some (vI (-1))] [] (mw (wA hm o r) p w) = some (rV, mw (wA hm o r) p w) := by
  rw [tX12_readItems_45, if_pos rfl]
theorem im_bad {hm : Hp} {o p j : Nat} {r : Nat → Int32} {kd : Int32} {x m : Int32} {q q' : Option Nat} {w : Int32} (M1 : hK hm 147 = 12) (hj : j < 7) (hw : w ≠ -1) : Run kX12_readItems 45 [some (vR (some 147)), some (vI kd), some (vR q), some (vI m), some (vR q'), some (vI x), some (vI (nI j))] [] (mw (wA hm o r) p w) = some (rV, mw (wA hm o r) p w) := by
  have nj : nI j ≠ -1 := nI_nm1 (by omega)
  rw [tX12_readItems_45]
  simp only [oB_some, dR_some, cond_true, cond_false, if_true, if_false, Bool.true_and, Bool.and_true, Nat.beq_refl, nj, mw_K, wA_K, M1, mw_wr, hw]
theorem im_dup {hm : Hp} {o p j M : Nat} {r : Nat → Int32} {kd : Int32} {m : Int32} {q q' : Option Nat} (M1 : hK hm 147 = 12) (hM : M < 128) (hj : j < 7) (hb : M / 2 ^ j % 2 = 1) : Run kX12_readItems 45 [some (vR (some 147)), some (vI kd), some (vR q), some (vI m), some (vR q'), some (vI (nI M)), some (vI (nI j))] [] (mw (wA hm o r) p (-1)) = some (rV, mw (wA hm o r) p (nI p)) := by
  have nj : nI j ≠ -1 := nI_nm1 (by omega)
  rw [tX12_readItems_45]
  simp only [oB_some, dR_some, cond_true, cond_false, if_true, if_false, Bool.true_and, Bool.and_true, Nat.beq_refl, nj, mw_K, wA_K, M1, mw_wr, has_sp hM hj, hb, show ¬ nI 1 = 0 by decide, md_fails (h := wA hm o r) M1]
theorem it_loop {h hm : Hp} {n T B a o m I K N S : Nat} {kd : Int32} {b : Nat → Nat} {f0 : Nat → Int32} (H : HT h n) (C : IC h I K a N m) (M : IM hm T B n (hI h 2) S K o N m kd (hI h I) b) :
    ∀ k nn Mk f r p o6, nn + k = K → MK K Mk nn → p ≤ n → EqTo f r (m + K) → Rg (hI h I) f m K → EqTo f f0 m →
    IO h hm n a o m K (hI h I) f0 (Run kX0_readItems 12 [some (vR (some 1)), some (vR (some a)), some (vI (nI m)), some (vR (some I)), some (vI (nI Mk)), some (vI (nI nn)), o6] [] (tw (wA h a f) p (-1))) (Run kX12_readItems 45 [some (vR (some 147)), some (vI kd), some (vR (some o)), some (vI (nI m)), some (vR (some S)), some (vI (nI Mk)), some (vI (sp (fun j => hI h I (4 * j)) (chT (hI h 2) n (sk (hI h 2) n p)) K 0))] [] (mw (wA hm o r) (sk (hI h 2) n p) (-1))) := by
  have T1 := H.1.1
  have hn := H.2.2
  have C' := C
  have M' := M
  obtain ⟨c1, c2, c3, c4, c5, c6, c7, c8, c9, c10⟩ := C
  obtain ⟨m1, m2, m3, m4, ⟨m5, m6, m7, m8⟩, m9, m10, m11, m12, m13⟩ := M
  have M1 := m1.1.1.1
  intro k
  induction k with
  | zero =>
    intro nn Mk f r p o6 hk hM hp E R Z
    have e1 : nI K ≤ nI nn := nI_le (by omega) (by omega)
    have hnn : nn = K := by omega
    rw [tX0_readItems_12]
    simp only [oB_some, dR_some, cond_true, cond_false, if_true, if_false, Bool.true_and, Bool.and_true, Nat.beq_refl, tw_K, tw_E, wA_K, wA_E, c1, c2, alK25, show ¬ (4 : Int32) = 0 by decide, div4 c10, e1]
    rcases sp_cases (fun j => hI h I (4 * j)) (chT (hI h 2) n (sk (hI h 2) n p)) K 0 with e | ⟨j, _, j2, j3, e⟩
    · rw [e, im_none (S := 0)]
      exact Or.inl ⟨f, r, p, hp, E, R, Z, rfl, rfl⟩
    · subst hnn
      have j7 : j < 7 := by have := hM.lt.2; omega
      rw [e, im_dup M1 hM.lt.1 j7 (hM.full (by omega))]
      have g1 := m10 j (by omega)
      refine Or.inr (Or.inl ⟨f, r, p, hp, ?_, ?_, rfl, rfl⟩)
      · rw [← j3]; exact g1.1
      · rw [← j3]; exact g1.2
  | succ k ih =>
    intro nn Mk f r p o6 hk hM hp E R Z
    have e1 : ¬ nI K ≤ nI nn := by rw [nI_nle' (by omega) (by omega)]; omega
    have hs := (sk_le (t := hI h 2) (n := n) p).2 hp
    rw [tX0_readItems_12]
    rcases sp_cases (fun j => hI h I (4 * j)) (chT (hI h 2) n (sk (hI h 2) n p)) K 0 with e | ⟨j, _, j2, j3, e⟩
    · rw [e, im_none (S := 0)]
      refine Or.inl ⟨f, r, sk (hI h 2) n p, hs, E, R, Z, ?_, by rw [sk_sk]⟩
      simp only [oB_some, dR_some, cond_true, cond_false, if_true, if_false, Bool.true_and, Bool.and_true, Nat.beq_refl, tw_K, tw_E, wA_K, wA_E, c1, c2, alK25, show ¬ (4 : Int32) = 0 by decide, div4 c10, e1, T1, ci_peek H c8 (show p ≤ 240 by omega), ci_item C', e]
    · have nj : nI j ≠ -1 := nI_nm1 (by omega)
      have j7 : j < 7 := by have := hM.lt.2; omega
      have bt := bt_read Mk hM.lt.1 j j7
      rcases (show Mk / 2 ^ j % 2 = 0 ∨ Mk / 2 ^ j % 2 = 1 by omega) with hb | hb
      · have hq : sk (hI h 2) n p < n := ch_lt j3.symm (m10 j (by omega)).2
        have e3 : nI m + nI j = nI (m + j) := nI_add _ _
        have e4 : (nI (m + j) < nI N) = (m + j < N) := nI_nlt' (by omega) (by omega)
        have e5 : (4 : Int32) * nI j + 1 = nI (4 * j + 1) := by rw [show (4 : Int32) = nI 4 from rfl, pk_mul, nI_1]
        have e6 : (4 : Int32) * nI j + 2 = nI (4 * j + 2) := by rw [show (4 : Int32) = nI 4 from rfl, pk_mul, show (2 : Int32) = nI 2 from rfl, nI_add]
        have b0 : inb (nI (4 * j + 1)) (4 * K) = true := inb_nI (by omega) (by omega)
        have b1 : inb (nI (4 * j + 2)) (4 * K) = true := inb_nI (by omega) (by omega)
        have b2 : inb (nI (m + j)) N = true := inb_nI (by omega) (by omega)
        have d0 : (nI (4 * j + 1)).toNatClampNeg = 4 * j + 1 := nI_clamp (by omega)
        have d1 : (nI (4 * j + 2)).toNatClampNeg = 4 * j + 2 := nI_clamp (by omega)
        have d2 : (nI (m + j)).toNatClampNeg = m + j := nI_clamp (by omega)
        have bs := bt_set Mk hM.lt.1 j j7
        have hs1 : sk (hI h 2) n p + 1 ≤ n := by omega
        have hs2 := (sk_le (t := hI h 2) (n := n) (sk (hI h 2) n p + 1)).2 hs1
        have hs3 := (sk_le (t := hI h 2) (n := n) (sk (hI h 2) n p + 1)).1
        have nu := tx_number (lo := hI h I (4 * j + 1)) (hi := hI h I (4 * j + 2)) (m1.wA r m6 m5) hs1
        have nl := nuS_le (t := hI h 2) (n := n) 2 (sk (hI h 2) n (sk (hI h 2) n p + 1)) 0 hs2
        rw [tX12_readItems_45, e]
        by_cases d : dg (chT (hI h 2) n (sk (hI h 2) n (sk (hI h 2) n p + 1)))
        · obtain ⟨v, q, N1, N2⟩ := nu.2 d
          by_cases W : nuW (hI h 2) n (hI h I (4 * j + 1)) (hI h I (4 * j + 2)) (nuS (hI h 2) n 2 (sk (hI h 2) n (sk (hI h 2) n p + 1)) 0) = -1
          · obtain ⟨V, Q⟩ := N2 W
            have iv := nuW_in nl.2 (by omega) (by omega) W
            rw [V, Q, W] at N1
            have := ih (nn + 1) (Mk ||| 2 ^ j) (up1 f (m + j) (nuS (hI h 2) n 2 (sk (hI h 2) n (sk (hI h 2) n p + 1)) 0).2) (up1 r (m + j) (nuS (hI h 2) n 2 (sk (hI h 2) n (sk (hI h 2) n p + 1)) 0).2) (nuS (hI h 2) n 2 (sk (hI h 2) n (sk (hI h 2) n p + 1)) 0).1 (some (vI (nI j))) (by omega) (hM.set (by omega) hb) nl.2 (E.up _ _) (R.up iv) (fun i hi => by rw [up1_o _ _ (by omega)]; exact Z i hi)
            simp only [oB_some, dR_some, cond_true, cond_false, if_true, if_false, Bool.true_and, Bool.and_true, Nat.beq_refl, tw_K, tw_E, wA_K, wA_E, c1, c2, c3, c4, alK25, alK20, iaK25, show ¬ (4 : Int32) = 0 by decide, div4 c10, e1, T1, ci_peek H c8 (show p ≤ 240 by omega), ci_item C', e, nj, bt, hb, show nI 0 = (0 : Int32) from rfl, e3, show Int32.ofNat N = nI N from rfl, e4, show m + j < N by omega, ci_skip H, e5, e6, b0, b1, b2, d0, d1, d2, (ci_number H c8 hs1).1 rfl d, ci_row c5 (show I ≠ 1 by omega), ci_w c8, nI_1, bs, W, hK_sI, hE_sI, mw_K, mw_E, mw_at, mw_pat, mw_wr, M1, m3, m4, has_sp hM.lt.1 j7, m12 j (show j < K by omega), m13 j (show j < K by omega), N1, im_w m5, tx_look (m1.wA (up1 r (m + j) (nuS (hI h 2) n 2 (sk (hI h 2) n (sk (hI h 2) n p + 1)) 0).2) m6 m5) nl.2, im_spot M']
            exact this
          · obtain ⟨f', p', l1, E'⟩ := it_bad H C' W k (nn + 1) (by omega) (nI (Mk ||| 2 ^ j)) (up1 f (m + j) (nuS (hI h 2) n 2 (sk (hI h 2) n (sk (hI h 2) n p + 1)) 0).2) (nuS (hI h 2) n 2 (sk (hI h 2) n (sk (hI h 2) n p + 1)) 0).1 (some (vI (nI j))) nl.2
            refine Or.inr (Or.inr ⟨_, f', up1 r (m + j) v, p', q, W, l1, ?_, ?_⟩)
            · simp only [oB_some, dR_some, cond_true, cond_false, if_true, if_false, Bool.true_and, Bool.and_true, Nat.beq_refl, tw_K, tw_E, wA_K, wA_E, c1, c2, c3, c4, alK25, alK20, iaK25, show ¬ (4 : Int32) = 0 by decide, div4 c10, e1, T1, ci_peek H c8 (show p ≤ 240 by omega), ci_item C', e, nj, bt, hb, show nI 0 = (0 : Int32) from rfl, e3, show Int32.ofNat N = nI N from rfl, e4, show m + j < N by omega, ci_skip H, e5, e6, b0, b1, b2, d0, d1, d2, (ci_number H c8 hs1).1 rfl d, ci_row c5 (show I ≠ 1 by omega), ci_w c8, nI_1, bs, E']
            · simp only [oB_some, dR_some, cond_true, cond_false, if_true, if_false, Bool.true_and, Bool.and_true, Nat.beq_refl, nj, e3, b2, d2, hb, show nI 0 = (0 : Int32) from rfl, hK_sI, hE_sI, mw_K, mw_E, wA_K, wA_E, mw_at, nI_1, mw_pat, mw_wr, M1, m3, m4, has_sp hM.lt.1 j7, m12 j (show j < K by omega), m13 j (show j < K by omega), N1, im_w m5, W, im_bad M1 j7 W]
        · have nq : nI (sk (hI h 2) n (sk (hI h 2) n p + 1)) ≠ -1 := nI_nm1 (by omega)
          obtain ⟨f', p', l1, E'⟩ := it_bad H C' nq k (nn + 1) (by omega) (nI (Mk ||| 2 ^ j)) (up1 f (m + j) (hI h I (4 * j + 1))) (sk (hI h 2) n (sk (hI h 2) n p + 1)) (some (vI (nI j))) hs2
          refine Or.inr (Or.inr ⟨nI (sk (hI h 2) n (sk (hI h 2) n p + 1)), f', up1 r (m + j) 0, p', sk (hI h 2) n (sk (hI h 2) n p + 1), nq, l1, ?_, ?_⟩)
          · simp only [oB_some, dR_some, cond_true, cond_false, if_true, if_false, Bool.true_and, Bool.and_true, Nat.beq_refl, tw_K, tw_E, wA_K, wA_E, c1, c2, c3, c4, alK25, alK20, iaK25, show ¬ (4 : Int32) = 0 by decide, div4 c10, e1, T1, ci_peek H c8 (show p ≤ 240 by omega), ci_item C', e, nj, bt, hb, show nI 0 = (0 : Int32) from rfl, e3, show Int32.ofNat N = nI N from rfl, e4, show m + j < N by omega, ci_skip H, e5, e6, b0, b1, b2, d0, d1, d2, (ci_number H c8 hs1).2.1 rfl d, ci_row c5 (show I ≠ 1 by omega), ci_w c8, nI_1, bs, E']
          · simp only [oB_some, dR_some, cond_true, cond_false, if_true, if_false, Bool.true_and, Bool.and_true, Nat.beq_refl, nj, e3, b2, d2, hb, show nI 0 = (0 : Int32) from rfl, hK_sI, hE_sI, mw_K, mw_E, wA_K, wA_E, mw_at, nI_1, mw_pat, mw_wr, M1, m3, m4, has_sp hM.lt.1 j7, m12 j (show j < K by omega), m13 j (show j < K by omega), nu.1 d, im_w m5, nq, im_bad M1 j7 nq]
      · rw [e, im_dup M1 hM.lt.1 j7 hb]
        have g1 := m10 j (by omega)
        refine Or.inr (Or.inl ⟨f, r, sk (hI h 2) n p, hs, ?_, ?_, ?_, by rw [sk_sk]⟩)
        · rw [sk_sk, ← j3]; exact g1.1
        · rw [sk_sk, ← j3]; exact g1.2
        · simp only [oB_some, dR_some, cond_true, cond_false, if_true, if_false, Bool.true_and, Bool.and_true, Nat.beq_refl, tw_K, tw_E, wA_K, wA_E, c1, c2, alK25, show ¬ (4 : Int32) = 0 by decide, div4 c10, e1, T1, ci_peek H c8 (show p ≤ 240 by omega), ci_item C', e, nj, bt, hb, show ¬ nI 1 = 0 by decide]
