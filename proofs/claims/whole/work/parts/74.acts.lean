/-! ===== PURE: an act keeps what stood ahead of it ===== -/
theorem mr_congr {v u w w' : Nat → Nat} (M : MR v u w) (e : ∀ k, k < 381 → w' k = w k) : MR v u w' := by
  obtain ⟨m1, m2, m3, m4, m5⟩ := M
  exact ⟨fun k hk => by rw [e k (by omega)]; exact m1 k hk, by rw [e 7 (by omega)]; exact m2, fun i hi => by rw [e _ (by omega)]; exact m3 i hi, fun i hi => by rw [e _ (by omega)]; exact m4 i hi, by rw [e 19 (by omega)]; exact m5⟩
theorem lb_congr {v w w' lg bk : Nat → Nat} (B : LB v w lg bk) (h10 : v 10 ≤ 60) (e : ∀ k, k < 381 → w' k = w k) : LB v w' lg bk := by
  obtain ⟨b1, b2, b3⟩ := B
  have h2 : w 200 ≤ 60 := by rw [b1]; by_cases c : v 11 < 60 <;> simp only [c, if_true, if_false] <;> omega
  refine ⟨by rw [e 200 (by omega)]; exact b1, fun i hi j hj => by rw [e _ (by omega)]; exact b2 i hi j hj, fun i hi j hj => ?_⟩
  rw [e 200 (by omega)] at hi ⊢
  rw [e _ (by omega)]; exact b3 i hi j hj
/-- how an act may change the ledger -/
def LGs (v lg lg' bk bk' : Nat → Nat) : Prop := (lg' = lg ∨ ∃ a b c, lg' = p3N lg (3 * (v 11 % 100)) a b c) ∧ (∀ i, i < 3 * v 10 → bk' i = bk i)
theorem lb_keep {v vj wj lg lg' bk bk' : Nat → Nat} (B : LB vj wj lg bk) (G : LGs v lg lg' bk bk') (h10 : vj 10 ≤ v 10) (h11 : vj 11 ≤ v 11) (h40 : v 11 < vj 11 + 40) : LB vj wj lg' bk' := by
  obtain ⟨b1, b2, b3⟩ := B
  refine ⟨b1, fun i hi j hj => ?_, fun i hi j hj => ?_⟩
  · rw [G.2 _ (by omega)]; exact b2 i hi j hj
  · rw [b3 i hi j hj]
    rcases G.1 with e | ⟨a, b, c, e⟩
    · rw [e]
    · have w60 : wj 200 ≤ 60 := by rw [b1]; by_cases c : vj 11 < 60 <;> simp only [c, if_true, if_false] <;> omega
      have wl : wj 200 ≤ vj 11 := by rw [b1]; by_cases c : vj 11 < 60 <;> simp only [c, if_true, if_false] <;> omega
      have ne : (vj 11 - wj 200 + i) % 100 ≠ v 11 % 100 := mod_ne (by omega) (by omega)
      rw [e, p3N_o _ _ _ _ _ (by omega)]
/-- a section of what is remembered -/
def sec (z : Nat → Nat) (i : Nat) : Nat → Nat := fun k => z (381 * i + k)
def PJ (vj uj v lg bk z : Nat → Nat) (A j : Nat) : Prop := BV vj uj ∧ MR vj uj (sec z (A - 1 - j)) ∧ LB vj (sec z (A - 1 - j)) lg bk ∧ vj 10 ≤ v 10 ∧ vj 11 ≤ v 11 ∧ v 11 ≤ vj 11 + (j + 1)
theorem sec_new (z w : Nat → Nat) {A : Nat} (hA : A ≤ 40) : ∀ k, k < 381 → sec (remZ z w A) (remA A - 1 - 0) k = w k := by
  intro k hk
  unfold sec remZ remA
  by_cases c : A = 40
  · subst c
    rw [if_pos rfl, if_pos rfl]
    unfold rput
    rw [if_pos (by omega), show 381 * (40 - 1 - 0) + k - 381 * 39 = k by omega]
  · rw [if_neg c, if_neg c]
    unfold rput
    rw [if_pos (by omega), show 381 * (A + 1 - 1 - 0) + k - 381 * A = k by omega]
theorem sec_old (z w : Nat → Nat) {A j : Nat} (hA : A ≤ 40) (hj : j + 1 < remA A) : ∀ k, k < 381 → sec (remZ z w A) (remA A - 1 - (j + 1)) k = sec z (A - 1 - j) k := by
  intro k hk
  unfold remA at hj
  unfold sec remZ remA
  by_cases c : A = 40
  · subst c
    rw [if_pos rfl] at hj
    rw [if_pos rfl, if_pos rfl]
    unfold rput rsh
    rw [if_neg (by omega), if_pos (by omega), show 381 * (40 - 1 - (j + 1)) + k + 381 = 381 * (40 - 1 - j) + k by omega]
  · rw [if_neg c] at hj
    rw [if_neg c, if_neg c]
    unfold rput
    rw [if_neg (by omega), show 381 * (A + 1 - 1 - (j + 1)) + k = 381 * (A - 1 - j) + k by omega]
theorem pj_new {v u w v' lg lg' bk bk' z : Nat → Nat} {A : Nat} (hA : A ≤ 40) (Bv : BV v u) (M : MR v u w) (B : LB v w lg bk) (G : LGs v lg lg' bk bk') (h10 : v 10 ≤ v' 10) (h11 : v 11 ≤ v' 11) (h12 : v' 11 ≤ v 11 + 1) : PJ v u v' lg' bk' (remZ z w A) (remA A) 0 := by
  have v60 : v 10 ≤ 60 := Bv.2.2.2.2.2.2.2.2.1
  refine ⟨Bv, mr_congr M (sec_new z w hA), lb_congr (lb_keep B G (Nat.le_refl _) (Nat.le_refl _) (by omega)) v60 (sec_new z w hA), h10, h11, by omega⟩
theorem pj_old {vj uj v v' w lg lg' bk bk' z : Nat → Nat} {A j : Nat} (hA : A ≤ 40) (P : PJ vj uj v lg bk z A j) (hj : j + 1 < remA A) (G : LGs v lg lg' bk bk') (h10 : v 10 ≤ v' 10) (h11 : v 11 ≤ v' 11) (h12 : v' 11 ≤ v 11 + 1) : PJ vj uj v' lg' bk' (remZ z w A) (remA A) (j + 1) := by
  obtain ⟨Bv, M, B, p1, p2, p3⟩ := P
  have v60 : vj 10 ≤ 60 := Bv.2.2.2.2.2.2.2.2.1
  have j39 : j + 1 < 40 := by unfold remA at hj; by_cases c : A = 40 <;> simp only [c, if_true, if_false] at hj <;> omega
  exact ⟨Bv, mr_congr M (sec_old z w hA hj), lb_congr (lb_keep B G p1 p2 (by omega)) v60 (sec_old z w hA hj), by omega, by omega, by omega⟩
/-- the class's places and the reference's sections: all that undo may bring back -/
def PAST (h : Hp) (v lg bk z : Nat → Nat) (A x : Nat) : Prop := ∃ V U : Nat → Nat → Nat, (∀ j, j < A → CLa h (16 + 2 * ((x + 40 - j) % 41)) (V j) (U j) ∧ PJ (V j) (U j) v lg bk z A j) ∧ (∀ j, j + 1 < A → V (j + 1) 10 ≤ V j 10 ∧ V (j + 1) 11 ≤ V j 11 ∧ V j 11 ≤ V (j + 1) 11 + 1)
def sh1 (v : Nat → Nat) (V : Nat → Nat → Nat) : Nat → Nat → Nat
  | 0 => v
  | j + 1 => V j
theorem cla_fr {h h' : Hp} {a : Nat} {v u : Nat → Nat} (C : CLa h a v u) (e1 : hI h' a = hI h a) (e2 : hI h' (a + 1) = hI h (a + 1)) : CLa h' a v u := by
  unfold CLa
  rw [e1, e2]; exact C
theorem past_act {h h' : Hp} {v u w v' lg lg' bk bk' z : Nat → Nat} {A x : Nat} (P : PAST h v lg bk z A x) (hA : A ≤ 40) (hx : x < 41) (Bv : BV v u) (M : MR v u w) (B : LB v w lg bk) (G : LGs v lg lg' bk bk') (h10 : v 10 ≤ v' 10) (h11 : v 11 ≤ v' 11) (h12 : v' 11 ≤ v 11 + 1) (C : CLa h' (16 + 2 * x) v u) (fr : ∀ i, i < 41 → i ≠ x → hI h' (16 + 2 * i) = hI h (16 + 2 * i) ∧ hI h' (16 + 2 * i + 1) = hI h (16 + 2 * i + 1)) : PAST h' v' lg' bk' (remZ z w A) (remA A) ((x + 1) % 41) := by
  have rA : remA A ≤ 40 := by unfold remA; by_cases c : A = 40 <;> simp only [c, if_true, if_false] <;> omega
  have lift : ∀ j, j + 1 < remA A → j < A := fun j hj => by unfold remA at hj; by_cases c : A = 40 <;> simp only [c, if_true, if_false] at hj <;> omega
  obtain ⟨V, U, P1, P2⟩ := P
  refine ⟨sh1 v V, sh1 u U, fun j hj => ?_, fun j hj => ?_⟩
  · rcases j with _ | j
    · have e : ((x + 1) % 41 + 40 - 0) % 41 = x := by omega
      rw [e]
      exact ⟨C, pj_new hA Bv M B G h10 h11 h12⟩
    · have jA := lift j hj
      have e : ((x + 1) % 41 + 40 - (j + 1)) % 41 = (x + 40 - j) % 41 := by omega
      rw [e]
      obtain ⟨c1, c2⟩ := P1 j jA
      have ne : (x + 40 - j) % 41 ≠ x := by omega
      have lt : (x + 40 - j) % 41 < 41 := Nat.mod_lt _ (by omega)
      obtain ⟨f1, f2⟩ := fr _ lt ne
      exact ⟨cla_fr c1 f1 f2, pj_old hA c2 hj G h10 h11 h12⟩
  · rcases j with _ | j
    · obtain ⟨_, c2⟩ := P1 0 (lift 0 hj)
      obtain ⟨_, _, _, q1, q2, q3⟩ := c2
      exact ⟨q1, q2, by show v 11 ≤ V 0 11 + 1; omega⟩
    · exact P2 j (by have := lift (j + 1) hj; omega)
