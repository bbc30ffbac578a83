/-! ===== PURE: the reference's week on its row; what it remembers and takes back ===== -/
/-- what a call of the reference leaves as it was: all but some rows and some slots -/
def Mq (h h' : Hp) (l ks : List Nat) : Prop := hN h' = hN h ∧ hS h' = hS h ∧ hK h' = hK h ∧ hE h' = hE h ∧ hL h' = hL h ∧ (∀ a k, a ≠ 147 ∨ k ≠ 5 → hR h' a k = hR h a k) ∧ (∀ a, a ≠ 147 → a ≠ 151 → a ∉ l → hI h' a = hI h a) ∧ (∀ k, k ∉ [8, 9, 10, 11, 12, 13, 14, 17] → k ∉ ks → hI h' 147 k = hI h 147 k)
theorem Mq.trans {h h' h'' : Hp} {l ks : List Nat} (A : Mq h h' l ks) (B : Mq h' h'' l ks) : Mq h h'' l ks := by
  obtain ⟨a1, a2, a3, a4, a5, a6, a7, a8⟩ := A
  obtain ⟨b1, b2, b3, b4, b5, b6, b7, b8⟩ := B
  exact ⟨b1.trans a1, b2.trans a2, b3.trans a3, b4.trans a4, b5.trans a5, fun a k z => (b6 a k z).trans (a6 a k z), fun a y z w => (b7 a y z w).trans (a7 a y z w), fun k z w => (b8 k z w).trans (a8 k z w)⟩
theorem Mq.mono {h h' : Hp} {l ks l' ks' : List Nat} (A : Mq h h' l ks) (h1 : ∀ x ∈ l, x ∈ l') (h2 : ∀ x ∈ ks, x ∈ ks') : Mq h h' l' ks' := by
  obtain ⟨a1, a2, a3, a4, a5, a6, a7, a8⟩ := A
  exact ⟨a1, a2, a3, a4, a5, a6, fun a y z w => a7 a y z (fun q => w (h1 a q)), fun k z w => a8 k z (fun q => w (h2 k q))⟩
theorem Mo.mq {h h' : Hp} (A : Mo h h') (l ks : List Nat) : Mq h h' l ks := by
  obtain ⟨a1, a2, a3, a4, a5, a6, a7, a8⟩ := A
  exact ⟨a1, a2, a3, a4, a5, a6, fun a y z _ => a7 a y z, fun k z _ => a8 k z⟩
theorem mq_wA (h : Hp) {a : Nat} (f : Nat → Int32) {l : List Nat} (ks : List Nat) (ha : a ∈ l) (h1 : a ≠ 147) : Mq h (wA h a f) l ks :=
  ⟨rfl, rfl, rfl, rfl, rfl, fun _ _ _ => rfl, fun b _ _ hb => wA_O h f (fun z => hb (z ▸ ha)), fun k _ _ => by rw [wA_O h f (Ne.symm h1)]⟩
theorem mq_sI (h : Hp) {k : Nat} (x : Int32) (l : List Nat) {ks : List Nat} (hk : k ∈ ks) : Mq h (sI h 147 k x) l ks :=
  ⟨rfl, rfl, rfl, rfl, rfl, fun _ _ _ => rfl, fun b hb _ _ => hI_row _ _ _ _ hb, fun j _ hj => hI_slot _ _ _ _ (fun z => hj (z ▸ hk))⟩
theorem mq_refl (h : Hp) (l ks : List Nat) : Mq h h l ks := (Mo.refl h).mq l ks
theorem mq_mw {h h' : Hp} {r d b : Nat → Nat} {dc bc : Nat} {l ks : List Nat} (A : Mq h h' l ks) (W : MW h r d b dc bc) (n1 : 152 ∉ l) (n2 : 154 ∉ l) (n3 : 156 ∉ l) (k1 : 26 ∉ ks) (k2 : 27 ∉ ks) : MW h' r d b dc bc := by
  obtain ⟨a1, a2, a3, a4, a5, a6, a7, a8⟩ := A
  obtain ⟨w1, ⟨w2, w3, w4⟩, ⟨x2, x3, x4⟩, ⟨y2, y3, y4⟩, w5, ⟨z1, z2⟩, w7, w8, w9, w10⟩ := W
  refine ⟨by rw [a3]; exact w1, ⟨by rw [a6 _ _ (by omega)]; exact w2, by rw [a3]; exact w3, by rw [a4]; exact w4⟩, ⟨by rw [a6 _ _ (by omega)]; exact x2, by rw [a3]; exact x3, by rw [a4]; exact x4⟩, ⟨by rw [a6 _ _ (by omega)]; exact y2, by rw [a3]; exact y3, by rw [a4]; exact y4⟩, w5, ⟨?_, ?_⟩, ?_, ?_, ?_, w10⟩
  · rw [a8 26 (by simp) k1]; exact z1
  · rw [a8 27 (by simp) k2]; exact z2
  · rw [a7 152 (by omega) (by omega) n1]; exact w7
  · rw [a7 154 (by omega) (by omega) n2]; exact w8
  · rw [a7 156 (by omega) (by omega) n3]; exact w9
theorem mq_rlo {h h' : Hp} {o : Nat} {l ks : List Nat} (A : Mq h h' l ks) (L : RLo h o) : RLo h' o := by
  obtain ⟨a1, a2, a3, a4, _⟩ := A
  obtain ⟨l1, l2, l3⟩ := L
  exact ⟨by rw [a3]; exact l1, by rw [a4]; exact l2, l3⟩
/-- the reference's row behind a week -/
noncomputable def dayM (lw : Option ((Nat → Int32) × Nat)) (r w : Nat → Nat) (dd : Nat) : Nat → Nat := wkM (if dd = 1 then wvM w (TK lw r (w 0) (w 2) (w 19) (w 7) (w 4)) else deedV w r dd) r dd
theorem day_m {h : Hp} {o dd : Nat} {r d b w : Nat → Nat} {dc bc : Nat} {lw : Option ((Nat → Int32) × Nat)} (M : MW h r d b dc bc) (L : RLo h o) (ho : 160 ≤ o ∧ o < 172) (Q : LWS h lw) (e : hI h o = nR w) (hd : dd ≤ 3) (hw : ∀ k, k ≤ 19 → w k < 2 ^ 29) (h200 : w 200 ≤ 60) (C : canM w dd (TK lw r (w 0) (w 2) (w 19) (w 7) (w 4))) :
    ∃ h', FX12_goWeek [vR (some 147), vR (some o), vI (nI dd)] h = some (rV, h') ∧ hI h' o = nR (dayM lw r w dd) ∧ Mq h h' [o] [] := by
  have w1 := M.1
  have self : RN h o w = h := RN_self e
  by_cases c1 : dd = 1
  · subst c1
    obtain ⟨h', T, mo⟩ := takes_m (w := w) M L ho Q
    have mo' := mo
    rw [self] at mo'
    have hr := mo_RN mo (by omega) (by omega)
    rw [hr] at T
    obtain ⟨q1, q2, q3⟩ := C.1 rfl
    have g := goWeek_w w1 (mo'.MW M) (mo'.RLo L) T q2 (by omega) (fun k hk => hw k (by omega)) h200
    rw [self] at g
    refine ⟨_, g, ?_, ?_⟩
    · unfold dayM RN
      rw [if_pos rfl, wA_I]
    · exact (mo'.mq [o] []).trans (mq_wA h' _ [] (by simp) (by omega))
  · have g := goWeek_m M L hd c1 (fun k hk => hw k (by omega)) h200
    rw [self] at g
    refine ⟨_, g, ?_, ?_⟩
    · unfold dayM RN
      rw [if_neg c1, wA_I]
    · exact mq_wA h _ [] (by simp) (by omega)
/-- the rows ahead of acts -/
def UL (h : Hp) : Prop := hK h 147 = 12 ∧ hR h 147 32 = some 160 ∧ hK h 160 = 20 ∧ hE h 160 = 381 ∧ hR h 147 36 = some 162 ∧ hK h 162 = 20 ∧ hE h 162 = 15240
def rsh (z : Nat → Nat) (i : Nat) : Nat → Nat := fun k => if k < i then z (k + 381) else z k
def rput (z w : Nat → Nat) (A i : Nat) : Nat → Nat := fun k => if 381 * A ≤ k ∧ k < 381 * A + i then w (k - 381 * A) else z k
theorem rsh_step (z : Nat → Nat) (i : Nat) : up1 (rsh z i) i (rsh z i (i + 381)) = rsh z (i + 1) := by
  funext k
  unfold up1 rsh
  by_cases c : k = i
  · subst c
    rw [if_pos rfl, if_neg (by omega), if_pos (by omega)]
  · rw [if_neg c]
    by_cases c1 : k < i
    · rw [if_pos c1, if_pos (by omega)]
    · rw [if_neg c1, if_neg (by omega)]
theorem rput_step (z w : Nat → Nat) (A i : Nat) : up1 (rput z w A i) (381 * A + i) (w i) = rput z w A (i + 1) := by
  funext k
  unfold up1 rput
  by_cases c : k = 381 * A + i
  · subst c
    rw [if_pos rfl, if_pos (by omega), Nat.add_sub_cancel_left]
  · rw [if_neg c]
    by_cases c1 : 381 * A ≤ k ∧ k < 381 * A + i
    · rw [if_pos c1, if_pos (by omega)]
    · rw [if_neg c1, if_neg (by omega)]
theorem rput_0 (z w : Nat → Nat) (A : Nat) : rput z w A 0 = z := by
  funext k
  unfold rput
  rw [if_neg (by omega)]
theorem rsh_0 (z : Nat → Nat) : rsh z 0 = z := by
  funext k
  unfold rsh
  rw [if_neg (by omega)]
theorem rem_52 {h : Hp} {A : Nat} {z w : Nat → Nat} (U : UL h) (e : hI h 160 = nR w) (eA : hI h 147 37 = nI A) (hA : A < 40) : ∀ k i, i + k = 381 → Run kX12_remember 52 [some (vR (some 147)), some (vI (nI i))] [] (RN h 162 (rput z w A i)) = some (rV, sI (RN h 162 (rput z w A 381)) 147 37 (nI (A + 1))) := by
  obtain ⟨U1, U2, U3, U4, U5, U6, U7⟩ := U
  have q : ∀ Z, hI (RN h 162 Z) 147 37 = nI A := fun Z => by rw [RN_o _ _ (by decide)]; exact eA
  have q2 : ∀ Z k, hI (RN h 162 Z) 160 k = nI (w k) := fun Z k => by rw [RN_o _ _ (by decide), e]; rfl
  intro k
  induction k with
  | zero =>
    intro i hi
    have : i = 381 := by omega
    subst this
    rw [tX12_remember_52, if_pos (show (381 : Int32) ≤ nI 381 by decide)]
    simp only [oB_some, dR_some, cond_true, cond_false, if_true, if_false, Bool.true_and, Bool.and_true, Nat.beq_refl, RN_K, U1, q, nI_1]
  | succ k ih =>
    intro i hi
    have c : ¬ (381 : Int32) ≤ nI i := by rw [show (381 : Int32) = nI 381 from rfl, nI_nle' (by omega) (by omega)]; omega
    have e1 : (381 : Int32) * nI A = nI (381 * A) := pk_mul 381 _
    have e2 : nI (381 * A) + nI i = nI (381 * A + i) := nI_add _ _
    have b1 : inb (nI (381 * A + i)) 15240 = true := inb_nI (by omega) (by omega)
    have k1 : (nI (381 * A + i)).toNatClampNeg = 381 * A + i := nI_clamp (by omega)
    have b2 : inb (nI i) 381 = true := inb_nI (by omega) (by omega)
    have k2 : (nI i).toNatClampNeg = i := nI_clamp (by omega)
    rw [tX12_remember_52, if_neg c]
    simp only [oB_some, dR_some, cond_true, cond_false, if_true, if_false, Bool.true_and, Bool.and_true, Nat.beq_refl, RN_K, RN_R, RN_E, U1, U2, U3, U4, U5, U6, U7, iaK20, q, q2, e1, e2, b1, k1, b2, k2, RN_w, rput_step, nI_1, ih (i + 1) (by omega)]
theorem rem_11 {h : Hp} {z w : Nat → Nat} (U : UL h) (e : hI h 160 = nR w) (eA : hI h 147 37 = nI 40) : ∀ k i, i + k = 14859 → Run kX12_remember 11 [some (vR (some 147)), some (vI (nI i))] [] (RN h 162 (rsh z i)) = some (rV, sI (RN (sI h 147 37 (nI 39)) 162 (rput (rsh z 14859) w 39 381)) 147 37 (nI 40)) := by
  have U0 := U
  obtain ⟨U1, U2, U3, U4, U5, U6, U7⟩ := U
  have q : ∀ Z, hI (RN h 162 Z) 147 37 = nI 40 := fun Z => by rw [RN_o _ _ (by decide)]; exact eA
  intro k
  induction k with
  | zero =>
    intro i hi
    have : i = 14859 := by omega
    subst this
    have r := rem_52 (h := sI h 147 37 (nI 39)) (A := 39) (z := rsh z 14859) (w := w) U0 (by rw [hI_row _ _ _ _ (by decide)]; exact e) (by rw [hI_same]) (by omega) 381 0 (by omega)
    rw [rput_0, nI_0] at r
    have cm : sI (RN h 162 (rsh z 14859)) 147 37 (nI 39) = RN (sI h 147 37 (nI 39)) 162 (rsh z 14859) := by
      unfold RN; rw [sI_wo _ _ _ _ (by decide)]
    rw [tX12_remember_11, if_pos (show (14859 : Int32) ≤ nI 14859 by decide)]
    simp only [oB_some, dR_some, cond_true, cond_false, if_true, if_false, Bool.true_and, Bool.and_true, Nat.beq_refl, RN_K, U1, q, show nI 40 - 1 = nI 39 by decide, cm, r]
  | succ k ih =>
    intro i hi
    have c : ¬ (14859 : Int32) ≤ nI i := by rw [show (14859 : Int32) = nI 14859 from rfl, nI_nle' (by omega) (by omega)]; omega
    have e2 : nI i + 381 = nI (i + 381) := nI_add _ 381
    have b1 : inb (nI (i + 381)) 15240 = true := inb_nI (by omega) (by omega)
    have k1 : (nI (i + 381)).toNatClampNeg = i + 381 := nI_clamp (by omega)
    have b2 : inb (nI i) 15240 = true := inb_nI (by omega) (by omega)
    have k2 : (nI i).toNatClampNeg = i := nI_clamp (by omega)
    rw [tX12_remember_11, if_neg c]
    simp only [oB_some, dR_some, cond_true, cond_false, if_true, if_false, Bool.true_and, Bool.and_true, Nat.beq_refl, RN_K, RN_R, RN_E, U1, U5, U6, U7, iaK20, e2, b1, k1, b2, k2, RN_a, RN_w, rsh_step, nI_1, ih (i + 1) (by omega)]
/-- what is remembered, and how many acts -/
def remZ (z w : Nat → Nat) (A : Nat) : Nat → Nat := if A = 40 then rput (rsh z 14859) w 39 381 else rput z w A 381
def remA (A : Nat) : Nat := if A = 40 then 40 else A + 1
theorem remember_m {h : Hp} {A : Nat} {z w : Nat → Nat} (U : UL h) (e : hI h 160 = nR w) (ez : hI h 162 = nR z) (eA : hI h 147 37 = nI A) (hA : A ≤ 40) : ∃ h', FX12_remember [vR (some 147)] h = some (rV, h') ∧ hI h' 162 = nR (remZ z w A) ∧ hI h' 147 37 = nI (remA A) ∧ Mq h h' [162] [37] := by
  have U1 := U.1
  have self : RN h 162 z = h := RN_self ez
  have q : (nI A = (40 : Int32)) = (A = 40) := nI_neq' (b := 40) (by omega) (by omega)
  rw [tX12_remember]
  by_cases c : A = 40
  · subst c
    have r := rem_11 (z := z) U e eA 14859 0 (by omega)
    rw [rsh_0, nI_0, self] at r
    refine ⟨sI (RN (sI h 147 37 (nI 39)) 162 (rput (rsh z 14859) w 39 381)) 147 37 (nI 40), ?_, ?_, ?_, ?_⟩
    · simp only [oB_some, dR_some, cond_true, cond_false, if_true, if_false, Bool.true_and, Bool.and_true, Nat.beq_refl, U1, eA, show nI 40 = (40 : Int32) from rfl]
      exact r
    · unfold remZ
      rw [if_pos rfl, hI_row _ _ _ _ (by decide)]
      unfold RN; rw [wA_I]
    · rw [hI_same]; rfl
    · exact (mq_sI h _ _ (by simp)).trans ((mq_wA _ _ _ (by simp) (by decide)).trans (mq_sI _ _ _ (by simp)))
  · have r := rem_52 (z := z) U e eA (by omega) 381 0 (by omega)
    rw [rput_0, nI_0, self] at r
    refine ⟨sI (RN h 162 (rput z w A 381)) 147 37 (nI (A + 1)), ?_, ?_, ?_, ?_⟩
    · simp only [oB_some, dR_some, cond_true, cond_false, if_true, if_false, Bool.true_and, Bool.and_true, Nat.beq_refl, U1, eA, q, c]
      exact r
    · unfold remZ
      rw [if_neg c, hI_row _ _ _ _ (by decide)]
      unfold RN; rw [wA_I]
    · rw [hI_same]; unfold remA; rw [if_neg c]
    · exact (mq_wA _ _ _ (by simp) (by decide)).trans (mq_sI _ _ _ (by simp))
/-- a row taken back -/
def unW (z w : Nat → Nat) (A i : Nat) : Nat → Nat := fun k => if k < i then z (381 * A + k) else w k
theorem unW_step (z w : Nat → Nat) (A i : Nat) : up1 (unW z w A i) i (z (381 * A + i)) = unW z w A (i + 1) := by
  funext k
  unfold up1 unW
  by_cases c : k = i
  · subst c
    rw [if_pos rfl, if_pos (by omega)]
  · rw [if_neg c]
    by_cases c1 : k < i
    · rw [if_pos c1, if_pos (by omega)]
    · rw [if_neg c1, if_neg (by omega)]
theorem undo_26 {h : Hp} {A : Nat} {z w : Nat → Nat} (U : UL h) (ez : hI h 162 = nR z) (eA : hI h 147 37 = nI A) (hA : A < 40) : ∀ k i, i + k = 381 → Run kX12_undo 26 [some (vR (some 147)), some (vI (nI i))] [] (RN h 160 (unW z w A i)) = some (rI (nI A), RN h 160 (unW z w A 381)) := by
  obtain ⟨U1, U2, U3, U4, U5, U6, U7⟩ := U
  have q : ∀ Z, hI (RN h 160 Z) 147 37 = nI A := fun Z => by rw [RN_o _ _ (by decide)]; exact eA
  have q2 : ∀ Z k, hI (RN h 160 Z) 162 k = nI (z k) := fun Z k => by rw [RN_o _ _ (by decide), ez]; rfl
  intro k
  induction k with
  | zero =>
    intro i hi
    have : i = 381 := by omega
    subst this
    rw [tX12_undo_26, if_pos (show (381 : Int32) ≤ nI 381 by decide)]
    simp only [oB_some, dR_some, cond_true, cond_false, if_true, if_false, Bool.true_and, Bool.and_true, Nat.beq_refl, RN_K, U1, q]
  | succ k ih =>
    intro i hi
    have c : ¬ (381 : Int32) ≤ nI i := by rw [show (381 : Int32) = nI 381 from rfl, nI_nle' (by omega) (by omega)]; omega
    have e1 : (381 : Int32) * nI A = nI (381 * A) := pk_mul 381 _
    have e2 : nI (381 * A) + nI i = nI (381 * A + i) := nI_add _ _
    have b1 : inb (nI (381 * A + i)) 15240 = true := inb_nI (by omega) (by omega)
    have k1 : (nI (381 * A + i)).toNatClampNeg = 381 * A + i := nI_clamp (by omega)
    have b2 : inb (nI i) 381 = true := inb_nI (by omega) (by omega)
    have k2 : (nI i).toNatClampNeg = i := nI_clamp (by omega)
    rw [tX12_undo_26, if_neg c]
    simp only [oB_some, dR_some, cond_true, cond_false, if_true, if_false, Bool.true_and, Bool.and_true, Nat.beq_refl, RN_K, RN_R, RN_E, U1, U2, U3, U4, U5, U6, U7, iaK20, q, q2, e1, e2, b1, k1, b2, k2, RN_w, unW_step, nI_1, ih (i + 1) (by omega)]
