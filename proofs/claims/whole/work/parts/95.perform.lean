/-! ===== PURE: step, perform, by both ===== -/
theorem step_both {h : Hp} {pc : Nat} {pn : Nat → Nat} (K0 : hK h 0 = 11) (M0 : hK h 147 = 12) (P : PLl h) (N : PLN h pc pn) (y y2 y3 : Int32) : QRY h (FX11_step [vR (some 0), vI y, vI y2, vI y3]) (FX12_step [vR (some 147), vI y, vI y2, vI y3]) := by
  obtain ⟨n1, n2, n3, n4⟩ := N
  obtain ⟨⟨a1, a2, a3⟩, a4, ⟨a5, a6, a7⟩, ⟨a8, a9, a10⟩⟩ := P
  have hP := hasPlan_c K0 n2 y
  have M147 : hK (sI h 147 0 0) 147 = 12 := M0
  have n3' : hI (sI h 147 0 0) 147 30 = nI pc := by rw [hI_slot _ _ _ _ (by decide)]; exact n3
  have iP := isPlan_m M147 n3' y
  rcases ix_both y (n := pc) (by omega) with c | ⟨c1, c2, c3⟩ | ⟨p, hp, c, c1, c2, c3⟩
  · refine QRY.id (res := -1000000) ?_ ?_
    · rw [tX11_step]; simp only [oB_some, dR_some, cond_true, cond_false, if_true, if_false, Bool.true_and, Bool.and_true, Nat.beq_refl, K0, hP, c]
    · rw [tX12_step]; simp only [oB_some, dR_some, cond_true, cond_false, if_true, if_false, Bool.true_and, Bool.and_true, Nat.beq_refl, M0, M147, iP, c]
  · refine QRY.id (res := -1000000) ?_ ?_
    · rw [tX11_step]; simp only [oB_some, dR_some, cond_true, cond_false, if_true, if_false, Bool.true_and, Bool.and_true, Nat.beq_refl, K0, hP, c1, c2]
    · rw [tX12_step]; simp only [oB_some, dR_some, cond_true, cond_false, if_true, if_false, Bool.true_and, Bool.and_true, Nat.beq_refl, M0, M147, iP, c1, c3]
  subst c
  obtain ⟨q1, q2, q3, q4, q5⟩ := a4 p (by omega)
  obtain ⟨m0, m1, m2, m3, m4, m5⟩ := n4 p hp
  have ib : inb (nI p) 4 = true := inb_nI (by omega) (by omega)
  have ib' : inb (nI p) 5 = true := inb_nI (by omega) (by omega)
  have cl : (nI p).toNatClampNeg = p := nI_clamp (by omega)
  have m3' : hI (sI h 147 0 0) 159 p = nI (pn p) := by rw [hI_oth _ _ _ _ _ (by decide)]; exact m3
  have is2 : FX12_isIn [vL (Int32.toInt64 y2), vL 0, vL (Int32.toInt64 (nI (pn p) - 1))] (sI h 147 0 0) = some (rI (if y2 < 0 then 0 else if nI (pn p) - 1 < y2 then 0 else 1), sI h 147 0 0) := isIn_sp y2 0 (nI (pn p) - 1) _
  rcases ix_both y2 (n := pn p) (by omega) with k | ⟨k1, k2, k3⟩ | ⟨i, hi, k, k1, k2, k3⟩
  · refine QRY.id (res := -1000000) ?_ ?_
    · rw [tX11_step]; simp only [oB_some, dR_some, cond_true, cond_false, if_true, if_false, Bool.true_and, Bool.and_true, Nat.beq_refl, K0, hP, c1, c2, ne10, a1, a2, a3, ib, cl, q1, q2, m2, within11, k]
    · rw [tX12_step]; simp only [oB_some, dR_some, cond_true, cond_false, if_true, if_false, Bool.true_and, Bool.and_true, Nat.beq_refl, M0, M147, iP, c1, c3, ne10, hR_sI, hK_sI, hE_sI, a8, a9, a10, iaK20, ib', cl, m3', is2, k]
  · refine QRY.id (res := -1000000) ?_ ?_
    · rw [tX11_step]; simp only [oB_some, dR_some, cond_true, cond_false, if_true, if_false, Bool.true_and, Bool.and_true, Nat.beq_refl, K0, hP, c1, c2, ne10, a1, a2, a3, ib, cl, q1, q2, m2, within11, k1, k2]
    · rw [tX12_step]; simp only [oB_some, dR_some, cond_true, cond_false, if_true, if_false, Bool.true_and, Bool.and_true, Nat.beq_refl, M0, M147, iP, c1, c3, ne10, hR_sI, hK_sI, hE_sI, a8, a9, a10, iaK20, ib', cl, m3', is2, k1, k2]
  by_cases w1 : y3 < 0
  · refine QRY.id (res := -1000000) ?_ ?_
    · rw [tX11_step]; simp only [oB_some, dR_some, cond_true, cond_false, if_true, if_false, Bool.true_and, Bool.and_true, Nat.beq_refl, K0, hP, c1, c2, ne10, a1, a2, a3, ib, cl, q1, q2, m2, within11, k1, k2, w1]
    · rw [tX12_step]; simp only [oB_some, dR_some, cond_true, cond_false, if_true, if_false, Bool.true_and, Bool.and_true, Nat.beq_refl, M0, M147, iP, c1, c3, ne10, hR_sI, hK_sI, hE_sI, a8, a9, a10, iaK20, ib', cl, m3', is2, k1, k2, isIn_02, w1]
  by_cases w2 : (2 : Int32) < y3
  · refine QRY.id (res := -1000000) ?_ ?_
    · rw [tX11_step]; simp only [oB_some, dR_some, cond_true, cond_false, if_true, if_false, Bool.true_and, Bool.and_true, Nat.beq_refl, K0, hP, c1, c2, ne10, a1, a2, a3, ib, cl, q1, q2, m2, within11, k1, k2, w1, w2]
    · rw [tX12_step]; simp only [oB_some, dR_some, cond_true, cond_false, if_true, if_false, Bool.true_and, Bool.and_true, Nat.beq_refl, M0, M147, iP, c1, c3, ne10, hR_sI, hK_sI, hE_sI, a8, a9, a10, iaK20, ib', cl, m3', is2, k1, k2, isIn_02, w1, w2]
  subst k
  obtain ⟨j, hj, ej⟩ := nI_of2 (M := 2) (n := 2) (by decide) w1 (Int32.not_lt.mp w2)
  subst ej
  have pc' := part_c (p := p) (i := i) (j := j) ⟨⟨a1, a2, a3⟩, a4, ⟨a5, a6, a7⟩, ⟨a8, a9, a10⟩⟩ (by omega) (by omega) (by omega)
  have e1 : nI (48 * p + 3 * i) + nI j = nI (48 * p + 3 * i + j) := nI_add _ _
  have x1 : inb (nI (48 * p + 3 * i + j)) 240 = true := inb_nI (by omega) (by omega)
  have x2 : (nI (48 * p + 3 * i + j)).toNatClampNeg = 48 * p + 3 * i + j := nI_clamp (by omega)
  have e2 : hI (sI h 147 0 0) 158 (48 * p + 3 * i + j) = hI h (140 + 2 * p) (3 * i + j) := by rw [hI_oth _ _ _ _ _ (by decide), Nat.add_assoc]; exact (m4 (3 * i + j) (by omega)).symm
  refine QRY.id (res := hI h (140 + 2 * p) (3 * i + j)) ?_ ?_
  · rw [tX11_step]; simp only [oB_some, dR_some, cond_true, cond_false, if_true, if_false, Bool.true_and, Bool.and_true, Nat.beq_refl, K0, hP, c1, c2, ne10, a1, a2, a3, ib, cl, q1, q2, m2, within11, k1, k2, w1, w2, pc']
  · rw [tX12_step]; simp only [oB_some, dR_some, cond_true, cond_false, if_true, if_false, Bool.true_and, Bool.and_true, Nat.beq_refl, M0, M147, iP, c1, c3, ne10, hR_sI, hK_sI, hE_sI, a8, a9, a10, iaK20, ib', cl, m3', is2, k1, k2, isIn_02, w1, w2, a5, a6, a7, p48, e1, x1, x2, e2]
/-- all that acts of the class write -/
def allL : List Nat := [8, 9, 10, 11, 14, 99, 100, 16, 17, 18, 19, 20, 21, 22, 23, 24, 25, 26, 27, 28, 29, 30, 31, 32, 33, 34, 35, 36, 37, 38, 39, 40, 41, 42, 43, 44, 45, 46, 47, 48, 49, 50, 51, 52, 53, 54, 55, 56, 57, 58, 59, 60, 61, 62, 63, 64, 65, 66, 67, 68, 69, 70, 71, 72, 73, 74, 75, 76, 77, 78, 79, 80, 81, 82, 83, 84, 85, 86, 87, 88, 89, 90, 91, 92, 93, 94, 95, 96, 97]
theorem allL_of {a : Nat} : a ∈ allL ↔ (a = 8 ∨ a = 9 ∨ a = 10 ∨ a = 11 ∨ a = 14 ∨ a = 99 ∨ a = 100 ∨ (16 ≤ a ∧ a ≤ 97)) := by
  unfold allL
  constructor
  · intro h; simp at h; omega
  · intro h
    have : ∀ a, a < 101 → (a = 8 ∨ a = 9 ∨ a = 10 ∨ a = 11 ∨ a = 14 ∨ a = 99 ∨ a = 100 ∨ (16 ≤ a ∧ a ≤ 97)) → a ∈ allL := by decide
    exact this a (by omega) h
theorem act_all {h h' : Hp} {x : Nat} (O : Only h h' (actL x)) (hx : x < 41) : Only h h' allL := O.mono (fun a ha => allL_of.mpr (by unfold actL at ha; simp at ha; omega))
theorem ref_all {h h' : Hp} {x : Nat} (O : Only h h' (refL x)) (hx : x < 41) : Only h h' allL := O.mono (fun a ha => allL_of.mpr (by unfold refL at ha; simp at ha; omega))
/-- what a step of a plan makes of the life that is, of the log and of the book -/
def nowR (lw : Option ((Nat → Int32) × Nat)) (r d b : Nat → Nat) (dc bc : Nat) (v u w lg bk : Nat → Nat) (kd a c : Int32) (v' u' w' lg' bk' : Nat → Nat) : Prop :=
  (kd = 0 ∧ ∃ dd, dd ≤ 3 ∧ a = nI dd ∧ v 9 < 999 ∧ canW v dd (TK lw r (v 0) (v 2) (v 10) (v 9) (v 4)) ∧ v' = up1 (dayV lw r v dd) 11 (v 11 + 1) ∧ u' = u ∧ w' = dayM lw r w dd ∧ lg' = p3N lg (3 * (v 11 % 100)) dd (dayV lw r v dd 4) (dayV lw r v dd 0) ∧ bk' = (if dd = 1 then p3N bk (3 * v 10) (v 9) (v 0) (TK lw r (v 0) (v 2) (v 10) (v 9) (v 4)) else bk)) ∨
  (kd = 1 ∧ 0 < v 5 ∧ v' = cutV v ∧ u' = u ∧ w' = cutV w ∧ lg' = lg ∧ bk' = bk) ∨
  (kd = 2 ∧ ∃ i k, a = nI i ∧ c = nI k ∧ sellOK b v u bc i k ∧ v' = sellV b v i k ∧ u' = up1 u i (u i + 1) ∧ w' = sellVm b w i k ∧ lg' = lg ∧ bk' = bk) ∨
  (kd = 3 ∧ ∃ i, a = nI i ∧ payOK d v dc i ∧ v' = payV d v i ∧ u' = u ∧ w' = payVm d w i ∧ lg' = lg ∧ bk' = bk)
theorem nowR_step {lw : Option ((Nat → Int32) × Nat)} {r d b : Nat → Nat} {dc bc : Nat} {v u w lg bk v' u' w' lg' bk' : Nat → Nat} {kd a c : Int32} (R : nowR lw r d b dc bc v u w lg bk kd a c v' u' w' lg' bk') : ∃ v'', stepR lw r d b dc bc v u w kd a c v'' u' w' := by
  rcases R with ⟨z0, dd, y1, y2, h9, C, z1, z2, z3, _⟩ | ⟨z0, h5, z1, z2, z3, _⟩ | ⟨z0, i', k', y1, y2, PO, z1, z2, z3, _⟩ | ⟨z0, i', y1, PO, z1, z2, z3, _⟩
  · exact ⟨_, Or.inl ⟨z0, dd, y1, y2, h9, C, rfl, z2, z3⟩⟩
  · exact ⟨_, Or.inr (Or.inl ⟨z0, h5, rfl, z2, z3⟩)⟩
  · exact ⟨_, Or.inr (Or.inr (Or.inl ⟨z0, i', k', y1, y2, PO, rfl, z2, z3⟩))⟩
  · exact ⟨_, Or.inr (Or.inr (Or.inr ⟨z0, i', y1, PO, rfl, z2, z3⟩))⟩
theorem step_now {lw : Option ((Nat → Int32) × Nat)} {r d b : Nat → Nat} {dc bc : Nat} {v u w lg bk v' u' w' : Nat → Nat} {kd a c : Int32} (R : stepR lw r d b dc bc v u w kd a c v' u' w') : ∃ v'' lg' bk', nowR lw r d b dc bc v u w lg bk kd a c v'' u' w' lg' bk' := by
  rcases R with ⟨z0, dd, y1, y2, h9, C, z1, z2, z3⟩ | ⟨z0, h5, z1, z2, z3⟩ | ⟨z0, i', k', y1, y2, PO, z1, z2, z3⟩ | ⟨z0, i', y1, PO, z1, z2, z3⟩
  · exact ⟨_, _, _, Or.inl ⟨z0, dd, y1, y2, h9, C, rfl, z2, z3, rfl, rfl⟩⟩
  · exact ⟨_, _, _, Or.inr (Or.inl ⟨z0, h5, rfl, z2, z3, rfl, rfl⟩)⟩
  · exact ⟨_, _, _, Or.inr (Or.inr (Or.inl ⟨z0, i', k', y1, y2, PO, rfl, z2, z3, rfl, rfl⟩))⟩
  · exact ⟨_, _, _, Or.inr (Or.inr (Or.inr ⟨z0, i', y1, PO, rfl, z2, z3, rfl, rfl⟩))⟩
/-- numbers behind an act -/
theorem nowR_pst {lw : Option ((Nat → Int32) × Nat)} {r d b : Nat → Nat} {dc bc : Nat} {v u w lg bk z v' u' w' lg' bk' : Nat → Nat} {V U : Nat → Nat → Nat} {A : Nat} {kd a c : Int32} (R : nowR lw r d b dc bc v u w lg bk kd a c v' u' w' lg' bk') (H : BH r d b) (hd : dc ≤ 6) (hb : bc ≤ 5) (P : PST v u w lg bk V U z A) (hA : A ≤ 40) : PST v' u' w' lg' bk' (sh1 v V) (sh1 u U) (remZ z w A) (remA A) := by
  have B := P.1
  have M := P.2.1
  have E := P.2.2.1
  have b10 := B.2.2.2.2.2.2.2.2.1
  rcases R with ⟨z0, dd, y1, y2, h9, C, z1, z2, z3, z4, z5⟩ | ⟨z0, h5, z1, z2, z3, z4, z5⟩ | ⟨z0, i', k', y1, y2, PO, z1, z2, z3, z4, z5⟩ | ⟨z0, i', y1, PO, z1, z2, z3, z4, z5⟩
  · subst z1 z2 z3 z4 z5
    obtain ⟨MRn, LBn⟩ := mr_day (lw := lw) (r := r) (dd := dd) M E b10 C
    refine pst_act P hA (bv_day B H h9 C) MRn LBn ⟨Or.inr ⟨_, _, _, rfl⟩, fun i hi => ?_⟩ ?_ ?_ ?_
    · by_cases cd : dd = 1
      · rw [if_pos cd, p3N_o _ _ _ _ _ (by omega)]
      · rw [if_neg cd]
    · rw [up1_o _ _ (by decide), day_10]; by_cases cd : dd = 1 <;> simp only [cd, if_true, if_false] <;> omega
    · rw [up1_s]; omega
    · rw [up1_s]; exact Nat.le_refl _
  · subst z1 z2 z3 z4 z5
    have ex : ∀ (f : Nat → Nat) k, k ≠ 5 → k ≠ 6 → cutV f k = f k := fun f k a c => by unfold cutV; rw [up1_o _ _ c, up1_o _ _ a]
    refine pst_act P hA (bv_cut B h5) (mr_cut M) (lb_same E (ex v 10 (by decide) (by decide)) (ex v 11 (by decide) (by decide)) b10 (fun k hk => ex w k (by omega) (by omega))) ⟨Or.inl rfl, fun i hi => rfl⟩ ?_ ?_ ?_
    · rw [ex v 10 (by decide) (by decide)]; omega
    · rw [ex v 11 (by decide) (by decide)]; omega
    · rw [ex v 11 (by decide) (by decide)]; omega
  · subst z1 z2 z3 z4 z5
    have p2 := PO.2.1
    have ex : ∀ k, k ≠ 4 → k ≠ 5 + k' → sellV b v i' k' k = v k := fun k a c => by unfold sellV; rw [up1_o _ _ a, up1_o _ _ c]
    refine pst_act P hA (bv_sell B PO H.2.2.2.2.2.2.2.2.2.2.1) (mr_sell M (by have := PO.1; omega) p2) (lb_sell E b10 (by have := PO.1; omega) p2) ⟨Or.inl rfl, fun i hi => rfl⟩ ?_ ?_ ?_
    · rw [ex 10 (by decide) (by omega)]; omega
    · rw [ex 11 (by decide) (by omega)]; omega
    · rw [ex 11 (by decide) (by omega)]; omega
  · subst z1 z2 z3 z4 z5
    have ex : ∀ k, k ≠ 4 → k ≠ 7 → payV d v i' k = v k := fun k a c => by unfold payV; rw [up1_o _ _ c, up1_o _ _ a]
    refine pst_act P hA (bv_pay B (by have := PO.1; omega)) (mr_pay M (by have := PO.1; omega) B.2.2.2.2.2.2.1) (lb_pay E b10 (by have := PO.1; omega)) ⟨Or.inl rfl, fun i hi => rfl⟩ ?_ ?_ ?_
    · rw [ex 10 (by decide) (by decide)]; omega
    · rw [ex 11 (by decide) (by decide)]; omega
    · rw [ex 11 (by decide) (by decide)]; omega
