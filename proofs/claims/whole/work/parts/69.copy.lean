/-! ===== PURE: lives copied, the ledger, the past ===== -/
def cpV (v v' : Nat → Nat) : Nat → Nat := up1 (up1 (up1 (up1 (up1 (up1 (up1 (up1 (up1 (up1 (up1 (up1 v' 0 (v 0)) 1 (v 1)) 2 (v 2)) 3 (v 3)) 4 (v 4)) 5 (v 5)) 6 (v 6)) 7 (v 7)) 9 (v 9)) 10 (v 10)) 11 (v 11)) 12 (v 12)
def cpU (u u' : Nat → Nat) : Nat → Nat := fun k => if k < 5 then u k else u' k
theorem cpV_at (v v' : Nat → Nat) {k : Nat} (hk : k ≤ 12) (h8 : k ≠ 8) : cpV v v' k = v k := by
  unfold cpV up1
  rcases (show k = 0 ∨ k = 1 ∨ k = 2 ∨ k = 3 ∨ k = 4 ∨ k = 5 ∨ k = 6 ∨ k = 7 ∨ k = 9 ∨ k = 10 ∨ k = 11 ∨ k = 12 by omega) with e | e | e | e | e | e | e | e | e | e | e | e <;> subst e <;> rfl
theorem cpU_at (u u' : Nat → Nat) {k : Nat} (hk : k < 5) : cpU u u' k = u k := if_pos hk
theorem isZ_n {x : Nat} (h : x ≤ 1) : isZ (nI x) = true := by
  rcases (show x = 0 ∨ x = 1 by omega) with e | e <;> subst e <;> decide
theorem cpI_wA (h : Hp) (a0 a sp dp n : Nat) : cpI h a0 a sp dp n = wA h a (va_cpy (hI h a0) (hI h a) sp dp n) := rfl
theorem cp_U {h : Hp} {a' q : Nat} {V U u : Nat → Nat} (e : hI (LN h a' V U) q = nR u) : cpI (LN h a' V U) q (a' + 1) 0 0 5 = LN h a' V (cpU u U) := by
  rw [cpI_wA, e]
  have e2 : hI (LN h a' V U) (a' + 1) = nR U := funext fun k => LN_s h a' V U k
  rw [e2]
  unfold LN
  rw [wA_wA]
  congr 1
  funext k
  unfold nR cpU
  by_cases c : k < 5
  · rw [pk_cpy_in (by omega) (by omega), if_pos c]
    simp only [Nat.zero_add, Nat.sub_zero]
  · rw [pk_cpy_out (by omega), if_neg c]
/-- a place for a life -/
def LPl (h : Hp) (a : Nat) : Prop := hK h a = 4 ∧ hR h a 8 = some (a + 1) ∧ hK h (a + 1) = 20 ∧ hE h (a + 1) = 5
theorem copy_c {h : Hp} {a a' : Nat} {v u v' u' : Nat → Nat} (A : LPl h a) (A' : LPl h a') (n1 : a ≠ a') (n2 : a ≠ a' + 1) (n3 : a + 1 ≠ a') (h1 : v 1 ≤ 1) (h3 : v 3 ≤ 1) : FX4_copyFrom [vR (some a'), vR (some a)] (LN (LN h a v u) a' v' u') = some (rV, LN (LN h a v u) a' (cpV v v') (cpU u u')) := by
  obtain ⟨A1, A2, A3, A4⟩ := A
  obtain ⟨B1, B2, B3, B4⟩ := A'
  have s1 : ∀ V U k, hI (LN (LN h a v u) a' V U) a k = nI (v k) := fun V U k => by rw [LN_o _ _ _ n1 n2, LN_a]
  have s2 : ∀ V U, hI (LN (LN h a v u) a' V U) (a + 1) = nR u := fun V U => by rw [LN_o _ _ _ n3 (by omega)]; exact funext fun k => LN_s h a v u k
  have cp : cpOK 0 0 5 5 5 = true := by decide
  have t0 : Int32.toNatClampNeg 0 = 0 := by decide
  have t5 : Int32.toNatClampNeg 5 = 5 := by decide
  rw [tX4_copyFrom]
  simp only [oB_some, dR_some, cond_true, cond_false, if_true, if_false, Bool.true_and, Bool.and_true, Nat.beq_refl, hK_sI, hR_sI, LN_K, LN_R, LN_E, A1, A2, A3, A4, B1, B2, B3, B4, s1, isZ_n h1, isZ_n h3, LN_w, cp, t0, t5, cp_U (s2 _ _)]
  rfl
theorem xor100 : ∀ n, n < 1200 → 0 ≤ (nI n ^^^ 100) := by decide +kernel
theorem floor_sp {n : Nat} (hn : n < 1200) (h : Hp) : FJ9_floorMod_7cf53 [vI (nI n), vI 100] h = some (rI (nI (n % 100)), h) := by
  have r := pk_rem (a := n) (d := 100) (by omega) (by omega) (by omega)
  rw [show nI 100 = 100 from rfl] at r
  rw [tJ9_floorMod_7cf53]
  simp only [show ¬ (100 : Int32) = 0 by decide, if_false, xor100 n hn, if_true, r]
/-- a ledger's rows -/
def DN (h : Hp) (g : Nat) (lg bk : Nat → Nat) : Hp := wA (wA h (g + 1) (nR lg)) (g + 2) (nR bk)
def DP (h : Hp) (g : Nat) : Prop := hK h g = 3 ∧ hR h g 0 = some (g + 1) ∧ hR h g 1 = some (g + 2) ∧ hK h (g + 1) = 20 ∧ hE h (g + 1) = 300 ∧ hK h (g + 2) = 20 ∧ hE h (g + 2) = 180
theorem DN_K (h : Hp) (g : Nat) (lg bk : Nat → Nat) (x : Nat) : hK (DN h g lg bk) x = hK h x := rfl
theorem DN_E (h : Hp) (g : Nat) (lg bk : Nat → Nat) (x : Nat) : hE (DN h g lg bk) x = hE h x := rfl
theorem DN_R (h : Hp) (g : Nat) (lg bk : Nat → Nat) (x y : Nat) : hR (DN h g lg bk) x y = hR h x y := rfl
theorem DN_l (h : Hp) (g : Nat) (lg bk : Nat → Nat) (k : Nat) : hI (DN h g lg bk) (g + 1) k = nI (lg k) := by unfold DN; rw [wA_O _ _ (by omega), wA_I]; rfl
theorem DN_b (h : Hp) (g : Nat) (lg bk : Nat → Nat) (k : Nat) : hI (DN h g lg bk) (g + 2) k = nI (bk k) := by unfold DN; rw [wA_I]; rfl
theorem DN_o (h : Hp) {g x : Nat} (lg bk : Nat → Nat) (h1 : x ≠ g + 1) (h2 : x ≠ g + 2) : hI (DN h g lg bk) x = hI h x := by unfold DN; rw [wA_O _ _ h2, wA_O _ _ h1]
theorem DN_wl (h : Hp) (g : Nat) (lg bk : Nat → Nat) (k x : Nat) : sI (DN h g lg bk) (g + 1) k (nI x) = DN h g (up1 lg k x) bk := by
  unfold DN; rw [sI_wo _ _ _ _ (by omega), sI_ws, nR_up]
theorem DN_wb (h : Hp) (g : Nat) (lg bk : Nat → Nat) (k x : Nat) : sI (DN h g lg bk) (g + 2) k (nI x) = DN h g lg (up1 bk k x) := by
  unfold DN; rw [sI_ws, nR_up]
def p3N (f : Nat → Nat) (k x y z : Nat) : Nat → Nat := up1 (up1 (up1 f k x) (k + 1) y) (k + 2) z
theorem putWeek_c {h : Hp} {g n x y z : Nat} {lg bk : Nat → Nat} (D : DP h g) (hn : n < 1200) : FX3_putWeek [vR (some g), vI (nI n), vI (nI x), vI (nI y), vI (nI z)] (DN h g lg bk) = some (rV, DN h g (p3N lg (3 * (n % 100)) x y z) bk) := by
  obtain ⟨D1, D2, D3, D4, D5, D6, D7⟩ := D
  have m : n % 100 < 100 := Nat.mod_lt _ (by omega)
  have e0 : (3 : Int32) * nI (n % 100) = nI (3 * (n % 100)) := pk_mul 3 _
  have e1 : nI (3 * (n % 100)) + 1 = nI (3 * (n % 100) + 1) := nI_1 _
  have e2 : nI (3 * (n % 100)) + 2 = nI (3 * (n % 100) + 2) := nI_add _ 2
  have b0 : inb (nI (3 * (n % 100))) 300 = true := inb_nI (by omega) (by omega)
  have b1 : inb (nI (3 * (n % 100) + 1)) 300 = true := inb_nI (by omega) (by omega)
  have b2 : inb (nI (3 * (n % 100) + 2)) 300 = true := inb_nI (by omega) (by omega)
  have k0 : (nI (3 * (n % 100))).toNatClampNeg = 3 * (n % 100) := nI_clamp (by omega)
  have k1 : (nI (3 * (n % 100) + 1)).toNatClampNeg = 3 * (n % 100) + 1 := nI_clamp (by omega)
  have k2 : (nI (3 * (n % 100) + 2)).toNatClampNeg = 3 * (n % 100) + 2 := nI_clamp (by omega)
  rw [tX3_putWeek]
  simp only [oB_some, dR_some, cond_true, cond_false, if_true, if_false, Bool.true_and, Bool.and_true, Nat.beq_refl, floor_sp hn, DN_K, DN_R, DN_E, D1, D2, D4, D5, e0, e1, e2, b0, b1, b2, k0, k1, k2, DN_wl]
  rfl
theorem putBolt_c {h : Hp} {g i x y z : Nat} {lg bk : Nat → Nat} (D : DP h g) (hi : i < 60) : FX3_putBolt [vR (some g), vI (nI i), vI (nI x), vI (nI y), vI (nI z)] (DN h g lg bk) = some (rV, DN h g lg (p3N bk (3 * i) x y z)) := by
  obtain ⟨D1, D2, D3, D4, D5, D6, D7⟩ := D
  have e0 : (3 : Int32) * nI i = nI (3 * i) := pk_mul 3 _
  have e1 : nI (3 * i) + 1 = nI (3 * i + 1) := nI_1 _
  have e2 : nI (3 * i) + 2 = nI (3 * i + 2) := nI_add _ 2
  have b0 : inb (nI (3 * i)) 180 = true := inb_nI (by omega) (by omega)
  have b1 : inb (nI (3 * i + 1)) 180 = true := inb_nI (by omega) (by omega)
  have b2 : inb (nI (3 * i + 2)) 180 = true := inb_nI (by omega) (by omega)
  have k0 : (nI (3 * i)).toNatClampNeg = 3 * i := nI_clamp (by omega)
  have k1 : (nI (3 * i + 1)).toNatClampNeg = 3 * i + 1 := nI_clamp (by omega)
  have k2 : (nI (3 * i + 2)).toNatClampNeg = 3 * i + 2 := nI_clamp (by omega)
  have n0 : ¬ nI i < 0 := nI_pos (by omega)
  have n60 : nI i < 60 := by rw [show (60 : Int32) = nI 60 from rfl, nI_nlt' (by omega) (by omega)]; exact hi
  rw [tX3_putBolt]
  simp only [oB_some, dR_some, cond_true, cond_false, if_true, if_false, Bool.true_and, Bool.and_true, Nat.beq_refl, n0, n60, DN_K, DN_R, DN_E, D1, D3, D6, D7, e0, e1, e2, b0, b1, b2, k0, k1, k2, DN_wb]
  rfl
theorem logged_c {h : Hp} {g n j : Nat} {lg bk : Nat → Nat} (D : DP h g) (hn : n < 1200) (hj : j < 3) : FX3_logged [vR (some g), vI (nI n), vI (nI j)] (DN h g lg bk) = some (rI (nI (lg (3 * (n % 100) + j))), DN h g lg bk) := by
  obtain ⟨D1, D2, D3, D4, D5, D6, D7⟩ := D
  have m : n % 100 < 100 := Nat.mod_lt _ (by omega)
  have e0 : (3 : Int32) * nI (n % 100) = nI (3 * (n % 100)) := pk_mul 3 _
  have e1 : nI (3 * (n % 100)) + nI j = nI (3 * (n % 100) + j) := nI_add _ _
  have b0 : inb (nI (3 * (n % 100) + j)) 300 = true := inb_nI (by omega) (by omega)
  have k0 : (nI (3 * (n % 100) + j)).toNatClampNeg = 3 * (n % 100) + j := nI_clamp (by omega)
  rw [tX3_logged]
  simp only [oB_some, dR_some, cond_true, cond_false, if_true, if_false, Bool.true_and, Bool.and_true, Nat.beq_refl, floor_sp hn, DN_K, DN_R, DN_E, D1, D2, D4, D5, iaK20, e0, e1, b0, k0, DN_l]
theorem bound_c {h : Hp} {g i j : Nat} {lg bk : Nat → Nat} (D : DP h g) (hi : i < 60) (hj : j < 3) : FX3_bound [vR (some g), vI (nI i), vI (nI j)] (DN h g lg bk) = some (rI (nI (bk (3 * i + j))), DN h g lg bk) := by
  obtain ⟨D1, D2, D3, D4, D5, D6, D7⟩ := D
  have e0 : (3 : Int32) * nI i = nI (3 * i) := pk_mul 3 _
  have e1 : nI (3 * i) + nI j = nI (3 * i + j) := nI_add _ _
  have b0 : inb (nI (3 * i + j)) 180 = true := inb_nI (by omega) (by omega)
  have k0 : (nI (3 * i + j)).toNatClampNeg = 3 * i + j := nI_clamp (by omega)
  rw [tX3_bound]
  simp only [oB_some, dR_some, cond_true, cond_false, if_true, if_false, Bool.true_and, Bool.and_true, Nat.beq_refl, DN_K, DN_R, DN_E, D1, D3, D6, D7, iaK20, e0, e1, b0, k0, DN_b]
/-- log and book of a life in the ledger, against a row of the reference -/
def LB (v w lg bk : Nat → Nat) : Prop := w 200 = (if v 11 < 60 then v 11 else 60) ∧ (∀ i, i < v 10 → ∀ j, j < 3 → w (20 + 3 * i + j) = bk (3 * i + j)) ∧ (∀ i, i < w 200 → ∀ j, j < 3 → w (201 + 3 * i + j) = lg (3 * ((v 11 - w 200 + i) % 100) + j))
theorem p3N_at (f : Nat → Nat) (k x y z j : Nat) : p3N f k x y z j = if j = k + 2 then z else if j = k + 1 then y else if j = k then x else f j := rfl
theorem mod_ne {a c : Nat} (h1 : a < c) (h2 : c < a + 100) : a % 100 ≠ c % 100 := by omega
