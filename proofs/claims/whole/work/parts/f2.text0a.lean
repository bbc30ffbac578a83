/-! ===== PURE: text of a house: a life begins; the reference's rows ===== -/
def zr : Nat → Nat → (Nat → Nat) → (Nat → Nat)
  | 0, _, u => u
  | k + 1, i, u => zr k (i + 1) (up1 u i 0)
theorem zr_in : ∀ k i u j, i ≤ j → j < i + k → zr k i u j = 0 := by
  intro k
  induction k with
  | zero => intro i u j h1 h2; omega
  | succ k ih =>
    intro i u j h1 h2
    show zr k (i + 1) (up1 u i 0) j = 0
    by_cases c : j = i
    · subst c
      have : ∀ k' i' u', j < i' → zr k' i' u' j = u' j := by
        intro k'
        induction k' with
        | zero => intro i' u' _; rfl
        | succ k' ih' => intro i' u' hj; show zr k' (i' + 1) (up1 u' i' 0) j = _; rw [ih' _ _ (by omega), up1_o _ _ (by omega)]
      rw [this _ _ _ (by omega), up1_s]
    · exact ih _ _ _ (by omega) (by omega)
theorem LN_w0 (h : Hp) (a : Nat) (v u : Nat → Nat) (k : Nat) : sI (LN h a v u) a k 0 = LN h a (up1 v k 0) u := by
  have := LN_w h a v u k 0
  rw [nI_0] at this
  exact this
theorem LN_ws0 (h : Hp) (a : Nat) (v u : Nat → Nat) (k : Nat) : sI (LN h a v u) (a + 1) k 0 = LN h a v (up1 u k 0) := by
  have := LN_ws h a v u k 0
  rw [nI_0] at this
  exact this
theorem fill5_go {g : Hp} {a : Nat} {v : Nat → Nat} (L1 : hK g (a + 1) = 20) (L2 : hE g (a + 1) = 5) : ∀ k i u, i + k = 5 → Run kJ7_fill_53178 5 [some (vR (some (a + 1))), some (vI 0), some (vI (nI i)), some (vI (nI 5))] [] (LN g a v u) = some (rV, LN g a v (zr k i u)) := by
  intro k
  induction k with
  | zero =>
    intro i u hi
    have : i = 5 := by omega
    subst this
    rw [tJ7_fill_53178_5, if_pos (by decide)]
    rfl
  | succ k ih =>
    intro i u hi
    have c0 : ¬ nI 5 ≤ nI i := by rw [nI_nle' (by omega) (by omega)]; omega
    have b1 : inb (nI i) 5 = true := inb_nI (by omega) (by omega)
    have l1 : (nI i).toNatClampNeg = i := nI_clamp (by omega)
    rw [tJ7_fill_53178_5, if_neg c0]
    simp only [oB_some, dR_some, cond_true, cond_false, if_true, if_false, Bool.true_and, Bool.and_true, Nat.beq_refl, LN_K, LN_E, L1, L2, b1, l1, LN_ws0, nI_1]
    exact ih (i + 1) (up1 u i 0) (by omega)
theorem fill5 {g : Hp} {a : Nat} {v u : Nat → Nat} (L1 : hK g (a + 1) = 20) (L2 : hE g (a + 1) = 5) : FJ7_fill_53178 [vR (some (a + 1)), vI 0] (LN g a v u) = some (rV, LN g a v (zr 5 0 u)) := by
  have := fill5_go (v := v) L1 L2 5 0 u (by omega)
  rw [nI_0] at this
  rw [tJ7_fill_53178]
  simp only [oB_some, dR_some, cond_true, cond_false, if_true, if_false, Bool.true_and, Bool.and_true, Nat.beq_refl, LN_K, LN_E, L1, L2, alK20]
  exact this
def bgV (v : Nat → Nat) (r0 r5 : Nat) : Nat → Nat := up1 (up1 (up1 (up1 (up1 (up1 (up1 (up1 (up1 (up1 (up1 (up1 v 0 r0) 1 0) 2 r5) 3 0) 4 0) 5 0) 6 0) 7 0) 9 0) 10 0) 11 0) 12 0
theorem begin_c {g : Hp} {s r0 r5 : Nat} {v u : Nat → Nat} (P : LPl g 10) (L : HL g s) (hs : s = 4 ∨ s = 131) (e0 : hI g (s + 1) 0 = nI r0) (e5 : hI g (s + 1) 5 = nI r5) : FX4_begin [vR (some 10), vR (some s)] (LN g 10 v u) = some (rV, LN g 10 (bgV v r0 r5) (zr 5 0 u)) := by
  obtain ⟨P1, P2, P3, P4⟩ := P
  obtain ⟨L1, L2, _, _, ⟨L5, L6⟩, _⟩ := L
  have q0 : ∀ v u, hI (LN g 10 v u) (s + 1) 0 = nI r0 := fun v u => by rw [LN_o _ _ _ (by omega) (by omega)]; exact e0
  have q5 : ∀ v u, hI (LN g 10 v u) (s + 1) 5 = nI r5 := fun v u => by rw [LN_o _ _ _ (by omega) (by omega)]; exact e5
  have F := fun v => fill5 (g := g) (a := 10) (v := v) (u := u) P3 P4
  rw [tX4_begin]
  simp only [oB_some, dR_some, cond_true, cond_false, if_true, if_false, Bool.true_and, Bool.and_true, Nat.beq_refl, LN_K, LN_E, LN_R, P1, P2, P3, P4, L1, L2, L5, L6, iaK20, show inb 0 7 = true by decide, show inb 5 7 = true by decide, tc0, tc5, q0, q5, isZ0, LN_w, LN_w0, F]
  rfl
/-! the reference's rows -/
theorem tx_301e {g : Hp} {o1 o2 : Option EV} {r : Nat → Int32} (M1 : hK g 147 = 12) (R18 : hR g 147 18 = some 152) (K152 : hK g 152 = 20) (E152 : hE g 152 = 7) (R32 : hR g 147 32 = some 160) (K160 : hK g 160 = 20) (E160 : hE g 160 = 381) :
    ∀ k i r o1 o2, i + k = 381 → Run kX12_text 301 [some (vR (some 147)), o1, o2, some (vI (nI i))] [] (wA g 160 r) = some (rI (hI g 147 27), sI (sI (sI (sI (wA g 160 (up1 (up1 (fil (fun _ => 0) 0 k i r) 0 (hI g 152 0)) 2 (hI g 152 5))) 147 50 0) 147 51 0) 147 37 0) 147 53 0) := by
  intro k
  induction k with
  | zero =>
    intro i r o1 o2 hi
    have : i = 381 := by omega
    subst this
    have w152 : ∀ f, hI (wA g 160 f) 152 = hI g 152 := fun f => wA_O _ _ (by decide)
    have w27 : ∀ f, hI (sI (sI (sI (sI (wA g 160 f) 147 50 0) 147 51 0) 147 37 0) 147 53 0) 147 27 = hI g 147 27 := fun f => by
      rw [hI_slot _ _ _ _ (by decide), hI_slot _ _ _ _ (by decide), hI_slot _ _ _ _ (by decide), hI_slot _ _ _ _ (by decide), wA_O _ _ (by decide)]
    rw [tX12_text_301, if_pos (by decide)]
    simp only [oB_some, dR_some, cond_true, cond_false, if_true, if_false, Bool.true_and, Bool.and_true, Nat.beq_refl, hK_sI, wA_K, wA_E, wA_R, M1, R18, K152, E152, R32, K160, E160, iaK20, show inb 0 7 = true by decide, show inb 5 7 = true by decide, show inb 0 381 = true by decide, show inb 2 381 = true by decide, tc0, tc2, tc5, w152, sI_ws, isZ0, w27]
    rfl
  | succ k ih =>
    intro i r o1 o2 hi
    have c0 : ¬ (381 : Int32) ≤ nI i := by rw [show (381 : Int32) = nI 381 from rfl, nI_nle' (by omega) (by omega)]; omega
    have b1 : inb (nI i) 381 = true := inb_nI (by omega) (by omega)
    have l1 : (nI i).toNatClampNeg = i := nI_clamp (by omega)
    rw [tX12_text_301, if_neg c0]
    simp only [oB_some, dR_some, cond_true, cond_false, if_true, if_false, Bool.true_and, Bool.and_true, Nat.beq_refl, wA_K, wA_E, wA_R, M1, R32, K160, E160, b1, l1, sI_ws, nI_1]
    have := ih (i + 1) (up1 r i 0) none none (by omega)
    rw [this]
    show _ = some (rI (hI g 147 27), sI (sI (sI (sI (wA g 160 (up1 (up1 (fil (fun _ => 0) 0 k (i + 1) (up1 r (0 + i) 0)) 0 (hI g 152 0)) 2 (hI g 152 5))) 147 50 0) 147 51 0) 147 37 0) 147 53 0)
    rw [Nat.zero_add]
theorem tx_275 {g : Hp} (M1 : hK g 147 = 12) (A1 : hR g 147 23 = some 157) (A2 : hK g 157 = 20) (A3 : hE g 157 = 15) (B1 : hR g 147 22 = some 156) (B2 : hK g 156 = 20) (B3 : hE g 156 = 15) :
    ∀ k i r o1 o2, i + k = 15 → Run kX12_text 275 [some (vR (some 147)), o1, o2, some (vI (nI i))] [] (wA g 156 r) = Run kX12_text 301 [some (vR (some 147)), none, none, some (vI (nI 0))] [] (wA g 156 (fil (hI g 157) 0 k i r)) := by
  intro k
  induction k with
  | zero =>
    intro i r o1 o2 hi
    have : i = 15 := by omega
    subst this
    rw [tX12_text_275, if_pos (by decide), nI_0]
    rfl
  | succ k ih =>
    intro i r o1 o2 hi
    have c0 : ¬ (15 : Int32) ≤ nI i := by rw [show (15 : Int32) = nI 15 from rfl, nI_nle' (by omega) (by omega)]; omega
    have b1 : inb (nI i) 15 = true := inb_nI (by omega) (by omega)
    have l1 : (nI i).toNatClampNeg = i := nI_clamp (by omega)
    have ws : hI (wA g 156 r) 157 = hI g 157 := wA_O _ _ (by decide)
    rw [tX12_text_275, if_neg c0]
    simp only [oB_some, dR_some, cond_true, cond_false, if_true, if_false, Bool.true_and, Bool.and_true, Nat.beq_refl, wA_K, wA_E, wA_R, M1, A1, A2, A3, B1, B2, B3, iaK20, b1, l1, ws, sI_ws, nI_1]
    have := ih (i + 1) (up1 r i (hI g 157 i)) none none (by omega)
    rw [this]
    show _ = Run kX12_text 301 [some (vR (some 147)), none, none, some (vI (nI 0))] [] (wA g 156 (fil (hI g 157) 0 k (i + 1) (up1 r (0 + i) (hI g 157 i))))
    rw [Nat.zero_add]
theorem tx_249 {g : Hp} (M1 : hK g 147 = 12) (A1 : hR g 147 21 = some 155) (A2 : hK g 155 = 20) (A3 : hE g 155 = 18) (B1 : hR g 147 20 = some 154) (B2 : hK g 154 = 20) (B3 : hE g 154 = 18) :
    ∀ k i r o1 o2, i + k = 18 → Run kX12_text 249 [some (vR (some 147)), o1, o2, some (vI (nI i))] [] (wA g 154 r) = Run kX12_text 275 [some (vR (some 147)), none, none, some (vI (nI 0))] [] (wA g 154 (fil (hI g 155) 0 k i r)) := by
  intro k
  induction k with
  | zero =>
    intro i r o1 o2 hi
    have : i = 18 := by omega
    subst this
    rw [tX12_text_249, if_pos (by decide), nI_0]
    rfl
  | succ k ih =>
    intro i r o1 o2 hi
    have c0 : ¬ (18 : Int32) ≤ nI i := by rw [show (18 : Int32) = nI 18 from rfl, nI_nle' (by omega) (by omega)]; omega
    have b1 : inb (nI i) 18 = true := inb_nI (by omega) (by omega)
    have l1 : (nI i).toNatClampNeg = i := nI_clamp (by omega)
    have ws : hI (wA g 154 r) 155 = hI g 155 := wA_O _ _ (by decide)
    rw [tX12_text_249, if_neg c0]
    simp only [oB_some, dR_some, cond_true, cond_false, if_true, if_false, Bool.true_and, Bool.and_true, Nat.beq_refl, wA_K, wA_E, wA_R, M1, A1, A2, A3, B1, B2, B3, iaK20, b1, l1, ws, sI_ws, nI_1]
    have := ih (i + 1) (up1 r i (hI g 155 i)) none none (by omega)
    rw [this]
    show _ = Run kX12_text 275 [some (vR (some 147)), none, none, some (vI (nI 0))] [] (wA g 154 (fil (hI g 155) 0 k (i + 1) (up1 r (0 + i) (hI g 155 i))))
    rw [Nat.zero_add]
theorem tx_223 {g : Hp} (M1 : hK g 147 = 12) (A1 : hR g 147 19 = some 153) (A2 : hK g 153 = 20) (A3 : hE g 153 = 7) (B1 : hR g 147 18 = some 152) (B2 : hK g 152 = 20) (B3 : hE g 152 = 7) :
    ∀ k i r o1 o2, i + k = 7 → Run kX12_text 223 [some (vR (some 147)), o1, o2, some (vI (nI i))] [] (wA g 152 r) = Run kX12_text 249 [some (vR (some 147)), none, none, some (vI (nI 0))] [] (wA g 152 (fil (hI g 153) 0 k i r)) := by
  intro k
  induction k with
  | zero =>
    intro i r o1 o2 hi
    have : i = 7 := by omega
    subst this
    rw [tX12_text_223, if_pos (by decide), nI_0]
    rfl
  | succ k ih =>
    intro i r o1 o2 hi
    have c0 : ¬ (7 : Int32) ≤ nI i := by rw [show (7 : Int32) = nI 7 from rfl, nI_nle' (by omega) (by omega)]; omega
    have b1 : inb (nI i) 7 = true := inb_nI (by omega) (by omega)
    have l1 : (nI i).toNatClampNeg = i := nI_clamp (by omega)
    have ws : hI (wA g 152 r) 153 = hI g 153 := wA_O _ _ (by decide)
    rw [tX12_text_223, if_neg c0]
    simp only [oB_some, dR_some, cond_true, cond_false, if_true, if_false, Bool.true_and, Bool.and_true, Nat.beq_refl, wA_K, wA_E, wA_R, M1, A1, A2, A3, B1, B2, B3, iaK20, b1, l1, ws, sI_ws, nI_1]
    have := ih (i + 1) (up1 r i (hI g 153 i)) none none (by omega)
    rw [this]
    show _ = Run kX12_text 249 [some (vR (some 147)), none, none, some (vI (nI 0))] [] (wA g 152 (fil (hI g 153) 0 k (i + 1) (up1 r (0 + i) (hI g 153 i))))
    rw [Nat.zero_add]
