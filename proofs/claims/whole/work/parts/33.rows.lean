/-! ===== PURE: rows of cells ===== -/
/-- the row of cell a is f -/
def wA (h : Hp) (a : Nat) (f : Nat → Int32) : Hp := (h.1, h.2.1, h.2.2.1, h.2.2.2.1, up1 h.2.2.2.2 a f)
theorem wA_N (h : Hp) (a : Nat) (f : Nat → Int32) : hN (wA h a f) = hN h := rfl
theorem wA_S (h : Hp) (a : Nat) (f : Nat → Int32) : hS (wA h a f) = hS h := rfl
theorem wA_K (h : Hp) (a : Nat) (f : Nat → Int32) : hK (wA h a f) = hK h := rfl
theorem wA_E (h : Hp) (a : Nat) (f : Nat → Int32) : hE (wA h a f) = hE h := rfl
theorem wA_R (h : Hp) (a : Nat) (f : Nat → Int32) : hR (wA h a f) = hR h := rfl
theorem wA_L (h : Hp) (a : Nat) (f : Nat → Int32) : hL (wA h a f) = hL h := rfl
theorem wA_I (h : Hp) (a : Nat) (f : Nat → Int32) : hI (wA h a f) a = f := by
  show up1 (hI h) a f a = f
  unfold up1; rw [if_pos rfl]
theorem wA_O (h : Hp) {a b : Nat} (f : Nat → Int32) (hb : b ≠ a) : hI (wA h a f) b = hI h b := by
  show up1 (hI h) a f b = hI h b
  unfold up1; rw [if_neg hb]
theorem up1_s {α : Type} (f : Nat → α) (k : Nat) (v : α) : up1 f k v k = v := by unfold up1; rw [if_pos rfl]
theorem up1_o {α : Type} (f : Nat → α) {k j : Nat} (v : α) (hj : j ≠ k) : up1 f k v j = f j := by unfold up1; rw [if_neg hj]
theorem up1_up1 {α : Type} (f : Nat → α) (k : Nat) (v w : α) : up1 (up1 f k v) k w = up1 f k w := by
  funext j; unfold up1; split <;> rfl
theorem up1_self {α : Type} (f : Nat → α) (k : Nat) : up1 f k (f k) = f := by
  funext j; unfold up1; split
  · rename_i e; rw [e]
  · rfl
theorem up1_comm {α : Type} (f : Nat → α) {k j : Nat} (v w : α) (hj : j ≠ k) : up1 (up1 f k v) j w = up1 (up1 f j w) k v := by
  funext i; unfold up1
  by_cases e : i = j
  · by_cases e2 : i = k
    · exact absurd (e.symm.trans e2) hj
    · simp [e, hj]
  · by_cases e2 : i = k <;> simp [e, e2, Ne.symm hj]
theorem sI_wA (h : Hp) (a k : Nat) (v : Int32) : sI h a k v = wA h a (up1 (hI h a) k v) := by
  show ((h.1, h.2.1, h.2.2.1, h.2.2.2.1, up2 h.2.2.2.2 a k v) : Hp) = (h.1, h.2.1, h.2.2.1, h.2.2.2.1, up1 h.2.2.2.2 a (up1 (h.2.2.2.2 a) k v))
  congr 4
  funext x y
  unfold up2 up1
  by_cases e : x = a
  · subst e; simp
  · simp [e]
theorem wA_wA (h : Hp) (a : Nat) (f g : Nat → Int32) : wA (wA h a f) a g = wA h a g := by
  show ((h.1, h.2.1, h.2.2.1, h.2.2.2.1, up1 (up1 h.2.2.2.2 a f) a g) : Hp) = _
  rw [up1_up1]; rfl
theorem wA_comm (h : Hp) {a b : Nat} (f g : Nat → Int32) (hb : b ≠ a) : wA (wA h a f) b g = wA (wA h b g) a f := by
  show ((h.1, h.2.1, h.2.2.1, h.2.2.2.1, up1 (up1 h.2.2.2.2 a f) b g) : Hp) = (h.1, h.2.1, h.2.2.1, h.2.2.2.1, up1 (up1 h.2.2.2.2 b g) a f)
  rw [up1_comm _ _ _ hb]
theorem wA_self (h : Hp) (a : Nat) : wA h a (hI h a) = h := by
  show ((h.1, h.2.1, h.2.2.1, h.2.2.2.1, up1 h.2.2.2.2 a (h.2.2.2.2 a)) : Hp) = h
  rw [up1_self]
theorem sI_ws (h : Hp) (a k : Nat) (v : Int32) (f : Nat → Int32) : sI (wA h a f) a k v = wA h a (up1 f k v) := by
  rw [sI_wA, wA_I, wA_wA]
theorem sI_wo (h : Hp) {a b : Nat} (k : Nat) (v : Int32) (f : Nat → Int32) (hb : b ≠ a) : sI (wA h a f) b k v = wA (sI h b k v) a f := by
  rw [sI_wA, wA_O h f hb, wA_comm h _ _ hb, ← sI_wA]
theorem wA_si (h : Hp) (a k : Nat) (v : Int32) (f : Nat → Int32) : wA (sI h a k v) a f = wA h a f := by
  rw [sI_wA, wA_wA]
theorem tw_sI (h : Hp) (p : Nat) (w : Int32) {a : Nat} (k : Nat) (v : Int32) (ha : a ≠ 1) : sI (tw h p w) a k v = tw (sI h a k v) p w := by
  unfold tw
  rw [sI_comm _ (Or.inl (Ne.symm ha)), sI_comm h (Or.inl (Ne.symm ha))]
theorem tw_wA (h : Hp) (p : Nat) (w : Int32) {a : Nat} (f : Nat → Int32) (ha : a ≠ 1) : wA (tw h p w) a f = tw (wA h a f) p w := by
  unfold tw
  rw [← sI_wo _ _ _ _ (Ne.symm ha), ← sI_wo _ _ _ _ (Ne.symm ha)]
theorem mw_wA (h : Hp) (p : Nat) (w : Int32) {a : Nat} (f : Nat → Int32) (ha : a ≠ 147) : wA (mw h p w) a f = mw (wA h a f) p w := by
  unfold mw
  rw [← sI_wo _ _ _ _ (Ne.symm ha), ← sI_wo _ _ _ _ (Ne.symm ha)]
/-- texts that agree up to n -/
theorem chT_congr {t u : Nat → Int32} {n : Nat} (h : ∀ i, i < n → t i = u i) (p : Nat) : chT t n p = chT u n p := by
  unfold chT
  by_cases q : p < n
  · rw [if_pos q, if_pos q, h p q]
  · rw [if_neg q, if_neg q]
theorem sk_congr {t u : Nat → Int32} {n : Nat} (h : ∀ i, i < n → t i = u i) : ∀ p, sk t n p = sk u n p := by
  intro p
  refine sk_ind (t := t) (n := n) (P := fun p => sk t n p = sk u n p) (fun p hp => ?_) (fun p hp hb ih => ?_) (n - p) p (Nat.le_refl _)
  · rw [sk_stay hp, sk_stay (fun z => hp ⟨z.1, (h p z.1).trans z.2⟩)]
  · rw [sk_go hp hb, sk_go hp ((h p hp).symm.trans hb)]; exact ih
theorem sk_nb {t : Nat → Int32} {n : Nat} (p : Nat) : ¬ (sk t n p < n ∧ t (sk t n p) = 32) := by
  refine sk_ind (t := t) (n := n) (P := fun p => ¬ (sk t n p < n ∧ t (sk t n p) = 32)) (fun p hp => ?_) (fun p hp hb ih => ?_) (n - p) p (Nat.le_refl _)
  · rw [sk_stay hp]; exact hp
  · rw [sk_go hp hb]; exact ih
theorem ch_lt {t : Nat → Int32} {n p : Nat} {c : Int32} (h : chT t n p = c) (hc : c ≠ -1) : p < n := by
  by_cases q : p < n
  · exact q
  · unfold chT at h; rw [if_neg q] at h; exact absurd h.symm hc
/-- nothing changed but rows of cells in l -/
def Only (h h' : Hp) (l : List Nat) : Prop := hN h' = hN h ∧ hS h' = hS h ∧ hK h' = hK h ∧ hE h' = hE h ∧ hR h' = hR h ∧ hL h' = hL h ∧ ∀ b, b ∉ l → hI h' b = hI h b
theorem Only.refl (h : Hp) (l : List Nat) : Only h h l := ⟨rfl, rfl, rfl, rfl, rfl, rfl, fun _ _ => rfl⟩
theorem Only.N {h h' : Hp} {l : List Nat} (O : Only h h' l) : hN h' = hN h := O.1
theorem Only.S {h h' : Hp} {l : List Nat} (O : Only h h' l) : hS h' = hS h := O.2.1
theorem Only.K {h h' : Hp} {l : List Nat} (O : Only h h' l) : hK h' = hK h := O.2.2.1
theorem Only.E {h h' : Hp} {l : List Nat} (O : Only h h' l) : hE h' = hE h := O.2.2.2.1
theorem Only.R {h h' : Hp} {l : List Nat} (O : Only h h' l) : hR h' = hR h := O.2.2.2.2.1
theorem Only.L {h h' : Hp} {l : List Nat} (O : Only h h' l) : hL h' = hL h := O.2.2.2.2.2.1
theorem Only.I {h h' : Hp} {l : List Nat} (O : Only h h' l) {b : Nat} (hb : b ∉ l) : hI h' b = hI h b := O.2.2.2.2.2.2 b hb
theorem Only.mono {h h' : Hp} {l l' : List Nat} (O : Only h h' l) (hl : ∀ x ∈ l, x ∈ l') : Only h h' l' := ⟨O.1, O.2.1, O.2.2.1, O.2.2.2.1, O.2.2.2.2.1, O.2.2.2.2.2.1, fun b hb => O.I (fun z => hb (hl b z))⟩
theorem Only.trans {h h' h'' : Hp} {l : List Nat} (O : Only h h' l) (P : Only h' h'' l) : Only h h'' l := ⟨P.N.trans O.N, P.S.trans O.S, P.K.trans O.K, P.E.trans O.E, P.R.trans O.R, P.L.trans O.L, fun _ hb => (P.I hb).trans (O.I hb)⟩
theorem only_sI (h : Hp) {a : Nat} (k : Nat) (v : Int32) {l : List Nat} (ha : a ∈ l) : Only h (sI h a k v) l := ⟨rfl, rfl, rfl, rfl, rfl, rfl, fun b hb => hI_row h a k v (fun z => hb (z ▸ ha))⟩
theorem only_wA (h : Hp) {a : Nat} (f : Nat → Int32) {l : List Nat} (ha : a ∈ l) : Only h (wA h a f) l := ⟨rfl, rfl, rfl, rfl, rfl, rfl, fun b hb => wA_O h f (fun z => hb (z ▸ ha))⟩
