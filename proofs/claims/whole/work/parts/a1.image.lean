/-! ===== PURE: log, book, thin, image, back: by both ===== -/
def ST1 (h : Hp) (s : Nat) : Prop := CF h ∧ PTL h ∧ DP h 98 ∧ LL h 10 s ∧ UL h ∧ RLo h 160
/-- the life that is and the row that is, told or not -/
def NI (h : Hp) (s : Nat) (v u w lg bk : Nat → Nat) : Prop := ST1 h s ∧ NowC h v u lg bk ∧ hI h 160 = nR w ∧ BV v u ∧ MR v u w ∧ LB v w lg bk
theorem ni_of {h : Hp} {s : Nat} {r d b : Nat → Nat} {dc bc : Nat} {lw : Option ((Nat → Int32) × Nat)} {v u w lg bk z : Nat → Nat} {A x : Nat} (I : AINV h s r d b dc bc lw v u w lg bk z A x) : NI h s v u w lg bk := ⟨I.1, I.2.2.1.1, I.2.2.1.2.2.1, I.2.2.1.2.1, I.2.2.1.2.2.2.1, I.2.2.1.2.2.2.2⟩
theorem ni_t {h : Hp} {s : Nat} {v u w lg bk : Nat → Nat} (N : NI h s v u w lg bk) : NI (sI h 147 0 0) s v u w lg bk := by
  obtain ⟨⟨c1, c2, c3, c4, c5, c6⟩, ⟨n1, n2, n3, n4⟩, n5, n6⟩ := N
  exact ⟨⟨c1, c2, c3, c4, c5, c6⟩, ⟨by rw [hI_row _ _ _ _ (by decide)]; exact n1, by rw [hI_row _ _ _ _ (by decide)]; exact n2, by rw [hI_row _ _ _ _ (by decide)]; exact n3, by rw [hI_row _ _ _ _ (by decide)]; exact n4⟩, by rw [hI_row _ _ _ _ (by decide)]; exact n5, n6⟩
theorem logged_now {h : Hp} {s : Nat} {v u w lg bk : Nat → Nat} (N : NI h s v u w lg bk) {n j : Nat} (hn : n < 1200) (hj : j < 3) : FX3_logged [vR (some 98), vI (nI n), vI (nI j)] h = some (rI (nI (lg (3 * (n % 100) + j))), h) := by
  have := logged_c (lg := lg) (bk := bk) N.1.2.2.1 hn hj
  rw [DN_self N.2.1.2.2.1 N.2.1.2.2.2] at this
  exact this
theorem bound_now {h : Hp} {s : Nat} {v u w lg bk : Nat → Nat} (N : NI h s v u w lg bk) {i j : Nat} (hi : i < 60) (hj : j < 3) : FX3_bound [vR (some 98), vI (nI i), vI (nI j)] h = some (rI (nI (bk (3 * i + j))), h) := by
  have := bound_c (lg := lg) (bk := bk) N.1.2.2.1 hi hj
  rw [DN_self N.2.1.2.2.1 N.2.1.2.2.2] at this
  exact this
theorem page_m {h : Hp} {s : Nat} {v u w lg bk : Nat → Nat} (N : NI h s v u w lg bk) {i j : Nat} (hi : i < v 10) (hj : j < 3) : FX12_page [vR (some 147), vI (nI i), vI (nI j)] h = some (rI (nI (bk (3 * i + j))), h) := by
  have b10 := N.2.2.2.1.2.2.2.2.2.2.2.2.1
  obtain ⟨u1, u2, u3, u4, _⟩ := N.1.2.2.2.2.1
  have e1 : (20 : Int32) + 3 * nI i + nI j = nI (20 + 3 * i + j) := by
    rw [show (3 : Int32) * nI i = nI (3 * i) from pk_mul 3 i, show (20 : Int32) + nI (3 * i) = nI (20 + 3 * i) from nI_add 20 _, nI_add]
  have x1 : inb (nI (20 + 3 * i + j)) 381 = true := inb_nI (by omega) (by omega)
  have x2 : (nI (20 + 3 * i + j)).toNatClampNeg = 20 + 3 * i + j := nI_clamp (by omega)
  have e2 : hI h 160 (20 + 3 * i + j) = nI (bk (3 * i + j)) := by rw [N.2.2.1]; show nI (w (20 + 3 * i + j)) = _; rw [N.2.2.2.2.2.2.1 i hi j hj]
  rw [tX12_page]
  simp only [oB_some, dR_some, cond_true, cond_false, if_true, if_false, Bool.true_and, Bool.and_true, Nat.beq_refl, u1, u2, u3, u4, iaK20, e1, x1, x2, e2]
theorem log_both {h : Hp} {s : Nat} {v u w lg bk : Nat → Nat} (N : NI h s v u w lg bk) (y y2 : Int32) : QRY h (FX11_log [vR (some 0), vI y, vI y2]) (FX12_log [vR (some 147), vI y, vI y2]) := by
  obtain ⟨⟨K0, R01, R02, R04, R05, _⟩, ⟨⟨K14, _⟩, _⟩, D, L, U, RL⟩ := N.1
  obtain ⟨u1, u2, u3, u4, _⟩ := U
  have K10 := L.1
  have K98 := D.1
  have B := N.2.2.2.1
  have b9 := B.2.2.2.2.2.2.2.1
  have b11 := B.2.2.2.2.2.2.2.2.2.1
  have LBh := N.2.2.2.2.2
  have v11 : hI h 10 11 = nI (v 11) := by rw [N.2.1.1]; rfl
  have w2 : hI (sI h 147 0 0) 160 200 = nI (w 200) := by rw [hI_oth _ _ _ _ _ (by decide), N.2.2.1]; rfl
  have w60 := lb_200 LBh
  have e60 : (if (60 : Int32) < nI (v 11) then 60 else nI (v 11)) = nI (w 200) := by
    have q : ((60 : Int32) < nI (v 11)) = (60 < v 11) := nI_nlt' (a := 60) (by omega) (by omega)
    rw [LBh.1]
    by_cases c : 60 < v 11
    · rw [if_pos (by rw [q]; exact c), if_neg (by omega)]; rfl
    · rw [if_neg (by rw [q]; exact c)]
      by_cases c2 : v 11 < 60
      · rw [if_pos c2]
      · rw [if_neg c2, show v 11 = 60 by omega]
  have is1 : ∀ g : Hp, FX12_isIn [vL (Int32.toInt64 y), vL 0, vL (Int32.toInt64 (nI (w 200) - 1))] g = some (rI (if y < 0 then 0 else if nI (w 200) - 1 < y then 0 else 1), g) := fun g => isIn_sp y 0 (nI (w 200) - 1) g
  rcases ix_both y (n := w 200) (by omega) with c | ⟨c1, c2, c3⟩ | ⟨i, hi, c, c1, c2, c3⟩
  · refine QRY.id (res := -1) ?_ ?_
    · rw [tX11_log]; simp only [oB_some, dR_some, cond_true, cond_false, if_true, if_false, Bool.true_and, Bool.and_true, Nat.beq_refl, K0, R02, K10, v11, e60, within11, c]
    · rw [tX12_log]; simp only [oB_some, dR_some, cond_true, cond_false, if_true, if_false, Bool.true_and, Bool.and_true, Nat.beq_refl, u1, hK_sI, hR_sI, hE_sI, u2, u3, u4, iaK20, ib200, tc200, w2, is1, c]
  · refine QRY.id (res := -1) ?_ ?_
    · rw [tX11_log]; simp only [oB_some, dR_some, cond_true, cond_false, if_true, if_false, Bool.true_and, Bool.and_true, Nat.beq_refl, K0, R02, K10, v11, e60, within11, c1, c2]
    · rw [tX12_log]; simp only [oB_some, dR_some, cond_true, cond_false, if_true, if_false, Bool.true_and, Bool.and_true, Nat.beq_refl, u1, hK_sI, hR_sI, hE_sI, u2, u3, u4, iaK20, ib200, tc200, w2, is1, c1, c2]
  by_cases k1 : y2 < 0
  · refine QRY.id (res := -1) ?_ ?_
    · rw [tX11_log]; simp only [oB_some, dR_some, cond_true, cond_false, if_true, if_false, Bool.true_and, Bool.and_true, Nat.beq_refl, K0, R02, K10, v11, e60, within11, c1, c2, ne10, k1]
    · rw [tX12_log]; simp only [oB_some, dR_some, cond_true, cond_false, if_true, if_false, Bool.true_and, Bool.and_true, Nat.beq_refl, u1, hK_sI, hR_sI, hE_sI, u2, u3, u4, iaK20, ib200, tc200, w2, is1, c1, c2, ne10, isIn_02, k1]
  by_cases k2 : (2 : Int32) < y2
  · refine QRY.id (res := -1) ?_ ?_
    · rw [tX11_log]; simp only [oB_some, dR_some, cond_true, cond_false, if_true, if_false, Bool.true_and, Bool.and_true, Nat.beq_refl, K0, R02, K10, v11, e60, within11, c1, c2, ne10, k1, k2]
    · rw [tX12_log]; simp only [oB_some, dR_some, cond_true, cond_false, if_true, if_false, Bool.true_and, Bool.and_true, Nat.beq_refl, u1, hK_sI, hR_sI, hE_sI, u2, u3, u4, iaK20, ib200, tc200, w2, is1, c1, c2, ne10, isIn_02, k1, k2]
  subst c
  obtain ⟨j, hj, ej⟩ := nI_of2 (M := 2) (n := 2) (by decide) k1 (Int32.not_lt.mp k2)
  subst ej
  have le : w 200 ≤ v 11 := by rw [LBh.1]; by_cases q : v 11 < 60 <;> simp only [q, if_true, if_false] <;> omega
  have s1 : nI (v 11) - 1 - nI i = nI (v 11 - 1 - i) := by
    have a : nI (v 11 - 1 - i) + nI i = nI (v 11) - 1 := by rw [nI_add, nI_s1 (by omega)]; congr 1; omega
    rw [← a, Int32.add_sub_cancel]
  have s2 : nI (w 200) - 1 - nI i = nI (w 200 - 1 - i) := by
    have a : nI (w 200 - 1 - i) + nI i = nI (w 200) - 1 := by rw [nI_add, nI_s1 (by omega)]; congr 1; omega
    rw [← a, Int32.add_sub_cancel]
  have lgd := logged_now N (n := v 11 - 1 - i) (j := j) (by omega) (by omega)
  have e3 : (201 : Int32) + 3 * nI (w 200 - 1 - i) + nI j = nI (201 + 3 * (w 200 - 1 - i) + j) := by
    rw [show (3 : Int32) * nI (w 200 - 1 - i) = nI (3 * (w 200 - 1 - i)) from pk_mul 3 _, show (201 : Int32) + nI (3 * (w 200 - 1 - i)) = nI (201 + 3 * (w 200 - 1 - i)) from nI_add 201 _, nI_add]
  have x1 : inb (nI (201 + 3 * (w 200 - 1 - i) + j)) 381 = true := inb_nI (by omega) (by omega)
  have x2 : (nI (201 + 3 * (w 200 - 1 - i) + j)).toNatClampNeg = 201 + 3 * (w 200 - 1 - i) + j := nI_clamp (by omega)
  have e4 : hI (sI h 147 0 0) 160 (201 + 3 * (w 200 - 1 - i) + j) = nI (lg (3 * ((v 11 - 1 - i) % 100) + j)) := by
    rw [hI_oth _ _ _ _ _ (by decide), N.2.2.1]
    show nI (w (201 + 3 * (w 200 - 1 - i) + j)) = _
    rw [LBh.2.2 (w 200 - 1 - i) (by omega) j (by omega), show v 11 - w 200 + (w 200 - 1 - i) = v 11 - 1 - i by omega]
  refine QRY.id (res := nI (lg (3 * ((v 11 - 1 - i) % 100) + j))) ?_ ?_
  · rw [tX11_log]; simp only [oB_some, dR_some, cond_true, cond_false, if_true, if_false, Bool.true_and, Bool.and_true, Nat.beq_refl, K0, R02, R05, K10, K98, v11, e60, within11, c1, c2, ne10, k1, k2, s1, lgd]
  · rw [tX12_log]; simp only [oB_some, dR_some, cond_true, cond_false, if_true, if_false, Bool.true_and, Bool.and_true, Nat.beq_refl, u1, hK_sI, hR_sI, hE_sI, u2, u3, u4, iaK20, ib200, tc200, w2, is1, c1, c2, ne10, isIn_02, k1, k2, s2, e3, x1, x2, e4]
theorem book_both {h : Hp} {s : Nat} {v u w lg bk : Nat → Nat} (N : NI h s v u w lg bk) (y y2 : Int32) : QRY h (FX11_book [vR (some 0), vI y, vI y2]) (FX12_book [vR (some 147), vI y, vI y2]) := by
  obtain ⟨⟨K0, R01, R02, R04, R05, _⟩, ⟨⟨K14, _⟩, _⟩, D, L, U, RL⟩ := N.1
  obtain ⟨u1, u2, u3, u4, _⟩ := U
  have K10 := L.1
  have K98 := D.1
  have B := N.2.2.2.1
  have b10 := B.2.2.2.2.2.2.2.2.1
  have v10 : hI h 10 10 = nI (v 10) := by rw [N.2.1.1]; rfl
  have w19 : hI (sI h 147 0 0) 160 19 = nI (v 10) := by rw [hI_oth _ _ _ _ _ (by decide), N.2.2.1]; show nI (w 19) = _; rw [N.2.2.2.2.1.2.2.2.2]
  have is1 : ∀ g : Hp, FX12_isIn [vL (Int32.toInt64 y), vL 0, vL (Int32.toInt64 (nI (v 10) - 1))] g = some (rI (if y < 0 then 0 else if nI (v 10) - 1 < y then 0 else 1), g) := fun g => isIn_sp y 0 (nI (v 10) - 1) g
  rcases ix_both y (n := v 10) (by omega) with c | ⟨c1, c2, c3⟩ | ⟨i, hi, c, c1, c2, c3⟩
  · refine QRY.id (res := -1) ?_ ?_
    · rw [tX11_book]; simp only [oB_some, dR_some, cond_true, cond_false, if_true, if_false, Bool.true_and, Bool.and_true, Nat.beq_refl, K0, R02, K10, v10, within11, c]
    · rw [tX12_book]; simp only [oB_some, dR_some, cond_true, cond_false, if_true, if_false, Bool.true_and, Bool.and_true, Nat.beq_refl, u1, hK_sI, hR_sI, hE_sI, u2, u3, u4, iaK20, ib19, tc19, w19, is1, c]
  · refine QRY.id (res := -1) ?_ ?_
    · rw [tX11_book]; simp only [oB_some, dR_some, cond_true, cond_false, if_true, if_false, Bool.true_and, Bool.and_true, Nat.beq_refl, K0, R02, K10, v10, within11, c1, c2]
    · rw [tX12_book]; simp only [oB_some, dR_some, cond_true, cond_false, if_true, if_false, Bool.true_and, Bool.and_true, Nat.beq_refl, u1, hK_sI, hR_sI, hE_sI, u2, u3, u4, iaK20, ib19, tc19, w19, is1, c1, c2]
  by_cases k1 : y2 < 0
  · refine QRY.id (res := -1) ?_ ?_
    · rw [tX11_book]; simp only [oB_some, dR_some, cond_true, cond_false, if_true, if_false, Bool.true_and, Bool.and_true, Nat.beq_refl, K0, R02, K10, v10, within11, c1, c2, ne10, k1]
    · rw [tX12_book]; simp only [oB_some, dR_some, cond_true, cond_false, if_true, if_false, Bool.true_and, Bool.and_true, Nat.beq_refl, u1, hK_sI, hR_sI, hE_sI, u2, u3, u4, iaK20, ib19, tc19, w19, is1, c1, c2, ne10, isIn_02, k1]
  by_cases k2 : (2 : Int32) < y2
  · refine QRY.id (res := -1) ?_ ?_
    · rw [tX11_book]; simp only [oB_some, dR_some, cond_true, cond_false, if_true, if_false, Bool.true_and, Bool.and_true, Nat.beq_refl, K0, R02, K10, v10, within11, c1, c2, ne10, k1, k2]
    · rw [tX12_book]; simp only [oB_some, dR_some, cond_true, cond_false, if_true, if_false, Bool.true_and, Bool.and_true, Nat.beq_refl, u1, hK_sI, hR_sI, hE_sI, u2, u3, u4, iaK20, ib19, tc19, w19, is1, c1, c2, ne10, isIn_02, k1, k2]
  subst c
  obtain ⟨j, hj, ej⟩ := nI_of2 (M := 2) (n := 2) (by decide) k1 (Int32.not_lt.mp k2)
  subst ej
  have bd := bound_now N (i := i) (j := j) (by omega) (by omega)
  have pg := page_m (ni_t N) (i := i) (j := j) hi (by omega)
  refine QRY.id (res := nI (bk (3 * i + j))) ?_ ?_
  · rw [tX11_book]; simp only [oB_some, dR_some, cond_true, cond_false, if_true, if_false, Bool.true_and, Bool.and_true, Nat.beq_refl, K0, R02, R05, K10, K98, v10, within11, c1, c2, ne10, k1, k2, bd]
  · rw [tX12_book]; simp only [oB_some, dR_some, cond_true, cond_false, if_true, if_false, Bool.true_and, Bool.and_true, Nat.beq_refl, u1, hK_sI, hR_sI, hE_sI, u2, u3, u4, iaK20, ib19, tc19, w19, is1, c1, c2, ne10, isIn_02, k1, k2, pg]
theorem thin_loop {h g : Hp} {s : Nat} {v u w lg bk : Nat → Nat} (N : NI h s v u w lg bk) (G : NI g s v u w lg bk) : ∀ k i m, i + k = v 10 → m < v 10 → ∃ res, Run kX11_thin 4 [some (vR (some 0)), some (vI (nI m)), some (vI (nI i))] [] h = some (rI res, h) ∧ Run kX12_thin 21 [some (vR (some 147)), some (vI (nI m)), some (vI (nI i))] [] g = some (rI res, g) := by
  obtain ⟨⟨K0, R01, R02, R04, R05, _⟩, ⟨⟨K14, _⟩, _⟩, D, L, U, RL⟩ := N.1
  obtain ⟨u1, u2, u3, u4, _⟩ := G.1.2.2.2.2.1
  have K10 := L.1
  have K98 := D.1
  have b10 := N.2.2.2.1.2.2.2.2.2.2.2.2.1
  have v10 : hI h 10 10 = nI (v 10) := by rw [N.2.1.1]; rfl
  have w19 : hI g 160 19 = nI (v 10) := by rw [G.2.2.1]; show nI (w 19) = _; rw [G.2.2.2.2.1.2.2.2.2]
  have n0 : (0 : Int32) = nI 0 := rfl
  have n1 : (1 : Int32) = nI 1 := rfl
  intro k
  induction k with
  | zero =>
    intro i m e hm
    have c : nI (v 10) ≤ nI i := nI_le (by omega) (by omega)
    have nm : ¬ nI m = -1 := nI_nm1 (by omega)
    have bd := bound_now N (i := m) (j := 0) (by omega) (by omega)
    have pg := page_m G (i := m) (j := 0) hm (by omega)
    rw [← n0] at bd pg
    refine ⟨nI (bk (3 * m + 0)), ?_, ?_⟩
    · rw [tX11_thin_4]; simp only [oB_some, dR_some, cond_true, cond_false, if_true, if_false, Bool.true_and, Bool.and_true, Nat.beq_refl, K0, R02, R05, K10, K98, v10, c, nm, bd]
    · rw [tX12_thin_21]; simp only [oB_some, dR_some, cond_true, cond_false, if_true, if_false, Bool.true_and, Bool.and_true, Nat.beq_refl, u1, u2, u3, u4, iaK20, ib19, tc19, w19, c, pg]
  | succ k ih =>
    intro i m e hm
    have c : ¬ nI (v 10) ≤ nI i := nI_ge (by omega) (by omega)
    have nm : ¬ nI m = -1 := nI_nm1 (by omega)
    have hi : i < v 10 := by omega
    have bd := bound_now N (i := m) (j := 1) (by omega) (by omega)
    have bd' := bound_now N (i := i) (j := 1) (by omega) (by omega)
    have pg := page_m G (i := m) (j := 1) hm (by omega)
    have pg' := page_m G (i := i) (j := 1) hi (by omega)
    rw [← n1] at bd bd' pg pg'
    rw [tX11_thin_4, tX12_thin_21]
    simp only [oB_some, dR_some, cond_true, cond_false, if_true, if_false, Bool.true_and, Bool.and_true, Nat.beq_refl, K0, R02, R05, K10, K98, v10, c, nm, bd, bd', u1, u2, u3, u4, iaK20, ib19, tc19, w19, pg, pg', nI_1]
    by_cases q : nI (bk (3 * m + 1)) ≤ nI (bk (3 * i + 1))
    · simp only [q, if_true]; exact ih (i + 1) m (by omega) hm
    · simp only [q, if_false]; exact ih (i + 1) i (by omega) hi
theorem thin_both {h : Hp} {s : Nat} {v u w lg bk : Nat → Nat} (N : NI h s v u w lg bk) : QRY h (FX11_thin [vR (some 0)]) (FX12_thin [vR (some 147)]) := by
  have G := ni_t N
  obtain ⟨⟨K0, R01, R02, R04, R05, _⟩, ⟨⟨K14, _⟩, _⟩, D, L, U, RL⟩ := N.1
  obtain ⟨u1, u2, u3, u4, _⟩ := U
  have K10 := L.1
  have b10 := N.2.2.2.1.2.2.2.2.2.2.2.2.1
  have v10 : hI h 10 10 = nI (v 10) := by rw [N.2.1.1]; rfl
  have w19 : hI (sI h 147 0 0) 160 19 = nI (v 10) := by rw [G.2.2.1]; show nI (w 19) = _; rw [G.2.2.2.2.1.2.2.2.2]
  by_cases c : v 10 = 0
  · have c1 : nI (v 10) ≤ (0 : Int32) := by rw [c]; decide
    have c2 : (nI (v 10) = (0 : Int32)) = True := eq_true (by rw [c]; rfl)
    refine QRY.id (res := -1) ?_ ?_
    · rw [tX11_thin, tX11_thin_4]; simp only [oB_some, dR_some, cond_true, cond_false, if_true, if_false, Bool.true_and, Bool.and_true, Nat.beq_refl, K0, R02, K10, v10, c1]
    · rw [tX12_thin]; simp only [oB_some, dR_some, cond_true, cond_false, if_true, if_false, Bool.true_and, Bool.and_true, Nat.beq_refl, u1, hK_sI, hR_sI, hE_sI, u2, u3, u4, iaK20, ib19, tc19, w19, c2]
  · have c1 : ¬ nI (v 10) ≤ (0 : Int32) := nI_nle (by omega) (by omega)
    have c2 : ¬ nI (v 10) = (0 : Int32) := nI_nz (by omega) (by omega)
    obtain ⟨res, e1, e2⟩ := thin_loop N G (v 10 - 1) 1 0 (by omega) (by omega)
    refine QRY.id (res := res) ?_ ?_
    · rw [tX11_thin, tX11_thin_4]; simp only [oB_some, dR_some, cond_true, cond_false, if_true, if_false, Bool.true_and, Bool.and_true, Nat.beq_refl, K0, R02, K10, v10, c1]; exact e1
    · rw [tX12_thin]; simp only [oB_some, dR_some, cond_true, cond_false, if_true, if_false, Bool.true_and, Bool.and_true, Nat.beq_refl, u1, hK_sI, hR_sI, hE_sI, u2, u3, u4, iaK20, ib19, tc19, w19, c2]; exact e2
