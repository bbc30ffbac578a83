/-! ===== PURE: the ledger against the reference's row ===== -/
theorem lgP_at (w : Nat → Nat) (dd k : Nat) : lgP w dd k = if k = 200 then w 200 + 1 else if k = 201 + 3 * w 200 + 2 then w 0 else if k = 201 + 3 * w 200 + 1 then w 4 else if k = 201 + 3 * w 200 then dd else w k := rfl
theorem p3N_0 (f : Nat → Nat) (k x y z : Nat) : p3N f k x y z k = x := by rw [p3N_at, if_neg (by omega), if_neg (by omega), if_pos rfl]
theorem p3N_1 (f : Nat → Nat) (k x y z : Nat) : p3N f k x y z (k + 1) = y := by rw [p3N_at, if_neg (by omega), if_pos rfl]
theorem p3N_2 (f : Nat → Nat) (k x y z : Nat) : p3N f k x y z (k + 2) = z := by rw [p3N_at, if_pos rfl]
theorem p3N_o (f : Nat → Nat) (k x y z : Nat) {j : Nat} (h : j < k ∨ k + 2 < j) : p3N f k x y z j = f j := by rw [p3N_at, if_neg (by omega), if_neg (by omega), if_neg (by omega)]
theorem lgP_new (w : Nat → Nat) (dd : Nat) {j : Nat} (hj : j < 3) : lgP w dd (201 + 3 * w 200 + j) = (if j = 0 then dd else if j = 1 then w 4 else w 0) := by
  rw [lgP_at]
  rcases lt3 hj with e | e | e <;> subst e
  · rw [if_neg (by omega), if_neg (by omega), if_neg (by omega), if_pos (by omega), if_pos rfl]
  · rw [if_neg (by omega), if_neg (by omega), if_pos (by omega), if_neg (by omega), if_pos rfl]
  · rw [if_neg (by omega), if_pos (by omega), if_neg (by omega), if_neg (by omega)]
theorem p3N_new (f : Nat → Nat) (k x y z : Nat) {j : Nat} (hj : j < 3) : p3N f k x y z (k + j) = (if j = 0 then x else if j = 1 then y else z) := by
  rcases lt3 hj with e | e | e <;> subst e
  · rw [Nat.add_zero, p3N_0, if_pos rfl]
  · rw [p3N_1, if_neg (by omega), if_pos rfl]
  · rw [p3N_2, if_neg (by omega), if_neg (by omega)]
theorem lgP_old (w : Nat → Nat) (dd : Nat) {k : Nat} (h1 : k ≠ 200) (h2 : k < 201 + 3 * w 200) : lgP w dd k = w k := by
  rw [lgP_at, if_neg h1, if_neg (by omega), if_neg (by omega), if_neg (by omega)]
theorem lb_page {v w lg bk : Nat → Nat} {dd : Nat} (B : LB v w lg bk) (h10 : v 10 ≤ 60) : LB (up1 v 11 (v 11 + 1)) (lgW w dd) (p3N lg (3 * (v 11 % 100)) dd (w 4) (w 0)) bk := by
  obtain ⟨b1, b2, b3⟩ := B
  have hv : up1 v 11 (v 11 + 1) 11 = v 11 + 1 := up1_s _ _ _
  have hv10 : up1 v 11 (v 11 + 1) 10 = v 10 := up1_o _ _ (by decide)
  have m : v 11 % 100 < 100 := Nat.mod_lt _ (by omega)
  have book : ∀ i, i < v 10 → ∀ j, j < 3 → lgW w dd (20 + 3 * i + j) = bk (3 * i + j) := fun i hi j hj => by
    rw [lgW_o (by omega)]; exact b2 i hi j hj
  by_cases c : w 200 = 60
  · have c60 : ¬ v 11 < 60 := by intro z; rw [if_pos z] at b1; omega
    have e : lgW w dd = lgP (shF w) dd := by unfold lgW; rw [if_pos c]
    have s200 : shF w 200 = 59 := by unfold shF; rw [up1_s]
    have t200 : lgP (shF w) dd 200 = 60 := by rw [lgP_at, if_pos rfl, s200]
    have s4 : shF w 4 = w 4 := shF_o (by omega)
    have s0 : shF w 0 = w 0 := shF_o (by omega)
    refine ⟨?_, ?_, fun i hi j hj => ?_⟩
    · rw [e, t200, hv, if_neg (by omega)]
    · rw [hv10]; exact book
    · rw [e, t200] at hi
      rw [e, t200, hv]
      by_cases z : i = 59
      · subst z
        have q : v 11 + 1 - 60 + 59 = v 11 := by omega
        have := lgP_new (shF w) dd hj
        rw [s200, s4, s0] at this
        rw [q, p3N_new _ _ _ _ _ hj]
        exact this
      · have ne : (v 11 + 1 - 60 + i) % 100 ≠ v 11 % 100 := mod_ne (by omega) (by omega)
        have m2 : (v 11 + 1 - 60 + i) % 100 < 100 := Nat.mod_lt _ (by omega)
        rw [lgP_old _ _ (by omega) (by rw [s200]; omega), p3N_o _ _ _ _ _ (by omega)]
        have s : shF w (201 + 3 * i + j) = w (201 + 3 * (i + 1) + j) := by
          unfold shF sh
          rw [up1_o _ _ (by omega), if_pos (by omega), show 201 + 3 * i + j + 3 = 201 + 3 * (i + 1) + j by omega]
        rw [s, b3 (i + 1) (by omega) j hj, c, show v 11 - 60 + (i + 1) = v 11 + 1 - 60 + i by omega]
  · have lt : v 11 < 60 := by
      apply Classical.byContradiction
      intro z
      rw [if_neg z] at b1
      exact c b1
    rw [if_pos lt] at b1
    have e : lgW w dd = lgP w dd := by unfold lgW; rw [if_neg c]
    have t200 : lgP w dd 200 = v 11 + 1 := by rw [lgP_at, if_pos rfl, b1]
    refine ⟨?_, ?_, fun i hi j hj => ?_⟩
    · rw [e, t200, hv]
      by_cases z : v 11 + 1 < 60
      · rw [if_pos z]
      · rw [if_neg z]; omega
    · rw [hv10]; exact book
    · rw [e, t200] at hi
      rw [e, t200, hv, show v 11 + 1 - (v 11 + 1) + i = i by omega]
      by_cases z : i = v 11
      · subst z
        have := lgP_new w dd hj
        rw [b1] at this
        rw [p3N_new _ _ _ _ _ hj]
        exact this
      · have ne : i % 100 ≠ v 11 % 100 := by rw [Nat.mod_eq_of_lt (by omega), Nat.mod_eq_of_lt (by omega)]; exact z
        have m2 : i % 100 < 100 := Nat.mod_lt _ (by omega)
        rw [lgP_old _ _ (by omega) (by rw [b1]; omega), p3N_o _ _ _ _ _ (by omega)]
        have := b3 i (by omega) j hj
        rw [b1, show v 11 - v 11 + i = i by omega] at this
        exact this
/-- what doesn't touch the log and the book keeps them -/
theorem lb_same {v v' w w' lg bk : Nat → Nat} (B : LB v w lg bk) (h10 : v' 10 = v 10) (h11 : v' 11 = v 11) (hv : v 10 ≤ 60) (hw : ∀ k, 20 ≤ k → w' k = w k) : LB v' w' lg bk := by
  obtain ⟨b1, b2, b3⟩ := B
  refine ⟨?_, fun i hi j hj => ?_, fun i hi j hj => ?_⟩
  · rw [h11, hw 200 (by omega)]; exact b1
  · rw [hw _ (by omega)]; exact b2 i (by omega) j hj
  · rw [hw 200 (by omega)] at hi ⊢
    rw [hw _ (by omega), h11]; exact b3 i hi j hj
/-- a bolt goes into the book -/
theorem lb_bolt {v w lg bk : Nat → Nat} {tk : Nat} (B : LB v w lg bk) (h10 : v 10 < 60) (h19 : w 19 = v 10) : LB (up1 v 10 (v 10 + 1)) (wvM w tk) lg (p3N bk (3 * v 10) (w 7) (w 0) tk) := by
  obtain ⟨b1, b2, b3⟩ := B
  have hw19 : w 19 < 60 := by omega
  have hv : up1 v 10 (v 10 + 1) 10 = v 10 + 1 := up1_s _ _ _
  have hv11 : up1 v 10 (v 10 + 1) 11 = v 11 := up1_o _ _ (by decide)
  have o200 : ∀ k, 200 ≤ k → wvM w tk k = w k := fun k hk => wvM_s hw19 (by omega) (by omega) (by omega) (by omega) (by omega)
  have page : ∀ k, 20 ≤ k → k < 200 → wvM w tk k = p3N w (20 + 3 * w 19) (w 7) (w 0) tk k := fun k h1 h2 => by
    unfold wvM p3N
    by_cases c : w 3 = 0
    · rw [if_pos c, up1_o _ _ (by omega), up1_o _ _ (by omega), up1_o _ _ (by omega), up1_o _ _ (by omega)]
    · rw [if_neg c, up1_o _ _ (by omega), up1_o _ _ (by omega), up1_o _ _ (by omega)]
  refine ⟨?_, fun i hi j hj => ?_, fun i hi j hj => ?_⟩
  · rw [o200 200 (by omega), hv11]; exact b1
  · rw [hv] at hi
    rw [page _ (by omega) (by omega), h19]
    by_cases z : i = v 10
    · subst z
      rw [p3N_new _ _ _ _ _ hj, p3N_new _ _ _ _ _ hj]
    · rw [p3N_o _ _ _ _ _ (by omega), p3N_o _ _ _ _ _ (by omega)]
      exact b2 i (by omega) j hj
  · rw [o200 200 (by omega)] at hi ⊢
    rw [o200 _ (by omega), hv11]; exact b3 i hi j hj
theorem lb_ext {v v' w lg bk : Nat → Nat} (B : LB v w lg bk) (h10 : v' 10 = v 10) (h11 : v' 11 = v 11) : LB v' w lg bk := by
  obtain ⟨b1, b2, b3⟩ := B
  refine ⟨by rw [h11]; exact b1, fun i hi j hj => b2 i (by omega) j hj, fun i hi j hj => by rw [h11]; exact b3 i hi j hj⟩
