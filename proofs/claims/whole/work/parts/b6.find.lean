/-! ===== PURE: sales by the class: all pieces, and the choice ===== -/
/-- how many the i-th buyer takes when those of wo stand aside -/
def wW (b u : Nat → Nat) (wo i : Nat) : Nat := if wo / 2 ^ i % 2 = 0 then b (3 * i + 2) - u i else 0
def acI (b u : Nat → Nat) (wo : Nat) : Nat → Ach
  | 0 => ach0
  | i + 1 => itA (acI b u wo i) (b (3 * i)) (b (3 * i + 1)) (wW b u wo i)
theorem it_ge {A : Ach} {p q : Nat} {x y m : Nat} (h : A x y m) : ∀ W, itA A p q W x y m := by
  intro W
  induction W with
  | zero => exact h
  | succ W ih => exact Or.inl ih
theorem acI_0 (b u : Nat → Nat) (wo : Nat) : ∀ i, acI b u wo i 0 0 0 := by
  intro i
  induction i with
  | zero => exact ⟨rfl, rfl, rfl⟩
  | succ i ih => exact it_ge ih _
theorem sub_leI {a c j : Nat} (ha : a < 2 ^ 29) (hc : c < 2 ^ 29) (hj : j < 2 ^ 29) : (nI a - nI c ≤ nI j) = (a - c ≤ j) := by
  by_cases e : c ≤ a
  · rw [nI_subL e, nI_nle' (by omega) (by omega)]
  · have : (nI a - nI c ≤ nI j) := by
      have h1 : nI a - nI c ≤ (0 : Int32) := by rw [sub_le0 (by omega) (by omega)]; omega
      have h2 : (0 : Int32) ≤ nI j := Int32.not_lt.mp (nI_pos (by omega))
      exact Int32.le_trans h1 h2
    exact propext ⟨fun _ => by omega, fun _ => this⟩
theorem tb_bd {x : Nat} (hx : x ≤ 45) : ¬ (45 : Int32) ≤ nI x ↔ x < 45 := by
  rw [show (45 : Int32) = nI 45 from rfl, nI_nle' (by omega) (by omega)]; omega
theorem srl107 {h : Hp} {s : Nat} {r d b : Nat → Nat} {dc bc : Nat} {lw : Option ((Nat → Int32) × Nat)} {v u w lg bk z : Nat → Nat} {A x : Nat} (I : AINV h s r d b dc bc lw v u w lg bk z A x) (L : SRl h) {h' : Hp} (O : Only h h' [107]) : AINV h' s r d b dc bc lw v u w lg bk z A x ∧ SRl h' := ⟨ainv_ag I (ag_only O (fun a ha => by simp at ha; unfold frC; omega) (by decide)), srl_only L O⟩
theorem fs63 {s : Nat} {r d b : Nat → Nat} {dc bc : Nat} {lw : Option ((Nat → Int32) × Nat)} {v u w lg bk z : Nat → Nat} {A x : Nat} {i W n0 : Nat} {A0 : Ach} {x2 x5 : Int32} (hi : i < bc) (hW : W ≤ 45) (hn : n0 + W ≤ 45) (hx : ∀ j, j ≤ 45 → (x5 ≤ nI j) = (W ≤ j)) (b0 : bdA A0 n0) (hp : b (3 * i) ≤ 60) (hq : b (3 * i + 1) ≤ 60) : ∀ k j (h : Hp), j + k = W → AINV h s r d b dc bc lw v u w lg bk z A x → SRl h → TabC (hI h 107) (v 5) (v 6 + 3 * v 5) (itA A0 (b (3 * i)) (b (3 * i + 1)) j) → ∃ h' y5 y6, Run kX8_findSales 63 [some (vR (some 103)), some (vR (some 10)), some (vI x2), some (vI (nI (n0 + j))), some (vI (nI i)), some (vI x5), some (vI (nI j))] [] h = Run kX8_findSales 20 [some (vR (some 103)), some (vR (some 10)), some (vI x2), some (vI (nI (n0 + W))), some (vI (nI (i + 1))), y5, y6] [] h' ∧ Only h h' [107] ∧ TabC (hI h' 107) (v 5) (v 6 + 3 * v 5) (itA A0 (b (3 * i)) (b (3 * i + 1)) W) := by
  intro k
  induction k with
  | zero =>
    intro j h hj I L H
    have e : j = W := by omega
    subst e
    refine ⟨h, some (vI x5), some (vI (nI j)), ?_, Only.refl _ _, H⟩
    rw [tX8_findSales_63, if_pos (by rw [hx j hW]; exact Nat.le_refl _), nI_1]
  | succ k ih =>
    intro j h hj I L H
    have K8 := L.1.2.1
    obtain ⟨h1, e1, O1, m1⟩ := addPiece_c I L (i := i) (n := n0 + j) hi (by omega)
    obtain ⟨I1, L1⟩ := srl107 I L O1
    have H1 := mix_done H (bd_it b0 hp hq j) (by omega) hp hq m1
    obtain ⟨h', y5, y6, e', O', H'⟩ := ih (j + 1) h1 (by omega) I1 L1 H1
    refine ⟨h', y5, y6, ?_, O1.trans O', H'⟩
    rw [tX8_findSales_63, if_neg (by rw [hx j (by omega)]; omega), if_neg ((tb_bd (by omega)).mpr (by omega))]
    simp only [oB_some, dR_some, cond_true, cond_false, if_true, if_false, Bool.true_and, Bool.and_true, Nat.beq_refl, K8, nI_1, e1]
    exact e'
theorem wW_le {b u : Nat → Nat} {r d : Nat → Nat} (H : BH r d b) (wo : Nat) {i : Nat} (hi : i < 5) : wW b u wo i ≤ 9 := by
  have := H.2.2.2.2.2.2.2.2.2.2.2.2.1 i hi
  unfold wW; split <;> omega
theorem fs20 {s : Nat} {r d b : Nat → Nat} {dc bc : Nat} {lw : Option ((Nat → Int32) × Nat)} {v u w lg bk z : Nat → Nat} {A x : Nat} {wo : Nat} (hw : wo < 64) : ∀ k i n (h : Hp) (o5 o6 : Option EV), i + k = bc → AINV h s r d b dc bc lw v u w lg bk z A x → SRl h → n ≤ 9 * i → bdA (acI b u wo i) n → TabC (hI h 107) (v 5) (v 6 + 3 * v 5) (acI b u wo i) → ∃ h1, Run kX8_findSales 20 [some (vR (some 103)), some (vR (some 10)), some (vI (nI wo)), some (vI (nI n)), some (vI (nI i)), o5, o6] [] h = oB (FX8_chooseSales [vR (some 103), vR (some 10)] h1) (fun _ h4 => some (rV, h4)) ∧ Only h h1 [107] ∧ TabC (hI h1 107) (v 5) (v 6 + 3 * v 5) (acI b u wo bc) ∧ ∃ n, n ≤ 45 ∧ bdA (acI b u wo bc) n := by
  intro k
  induction k with
  | zero =>
    intro i n h o5 o6 hi I L hn b0 H
    have e : i = bc := by omega
    subst e
    have b5 : i ≤ 5 := I.2.1.2.2.2.1.2.2.2.2.1.2
    obtain ⟨K0, R01, R02, R04, R05, K3, R30, Ks, Rs2, Rs3, Rs4, Ks1, Es1, Ks2, Es2, Ks3, Es3, K10, R108, K11, E11, K14, K98, td, dcC, bcC, Ev, Eu⟩ := cfa I
    obtain ⟨⟨s1, s2, s3, s4, s5, s6⟩, s7, s8, s9, s10⟩ := L
    refine ⟨h, ?_, Only.refl _ _, H, n, by omega, b0⟩
    rw [tX8_findSales_20]
    simp only [oB_some, dR_some, cond_true, cond_false, if_true, if_false, Bool.true_and, Bool.and_true, Nat.beq_refl, s2, s3, K3, R30, Ks, bcC, Int32.le_refl]
  | succ k ih =>
    intro i n h o5 o6 hi I L hn b0 H
    have b5 : bc ≤ 5 := I.2.1.2.2.2.1.2.2.2.2.1.2
    have Hb := I.2.1.2.2.2.2.2.1
    have Bv := I.2.2.1.2.1
    have c9 := wW_le (u := u) Hb wo (show i < 5 by omega)
    have ub : u i ≤ 60 := Bv.2.2.2.2.2.2.2.2.2.2.2 i (by omega)
    have bb : b (3 * i + 2) ≤ 60 := Hb.2.2.2.2.2.2.2.2.2.2.1 _
    obtain ⟨K0, R01, R02, R04, R05, K3, R30, Ks, Rs2, Rs3, Rs4, Ks1, Es1, Ks2, Es2, Ks3, Es3, K10, R108, K11, E11, K14, K98, td, dcC, bcC, Ev, Eu⟩ := cfa I
    obtain ⟨⟨s1, s2, s3, s4, s5, s6⟩, s7, s8, s9, s10⟩ := L
    have L : SRl h := ⟨⟨s1, s2, s3, s4, s5, s6⟩, s7, s8, s9, s10⟩
    have nb : ¬ nI bc ≤ nI i := by rw [nI_nle' (by omega) (by omega)]; omega
    have bt := bt_read wo (by omega) i (by omega)
    have b1 : bdA (acI b u wo (i + 1)) (n + wW b u wo i) := bd_it b0 (Hb.2.2.2.2.2.2.2.2.2.2.1 _) (Hb.2.2.2.2.2.2.2.2.2.2.1 _) _
    have fin : ∀ x5 : Int32, (∀ j, j ≤ 45 → (x5 ≤ nI j) = (wW b u wo i ≤ j)) → ∃ h1, Run kX8_findSales 63 [some (vR (some 103)), some (vR (some 10)), some (vI (nI wo)), some (vI (nI n)), some (vI (nI i)), some (vI x5), some (vI 0)] [] h = oB (FX8_chooseSales [vR (some 103), vR (some 10)] h1) (fun _ h4 => some (rV, h4)) ∧ Only h h1 [107] ∧ TabC (hI h1 107) (v 5) (v 6 + 3 * v 5) (acI b u wo bc) ∧ ∃ n, n ≤ 45 ∧ bdA (acI b u wo bc) n := by
      intro x5 hx
      obtain ⟨h1, y5, y6, e1, O1, H1⟩ := fs63 (x2 := nI wo) (i := i) (n0 := n) (W := wW b u wo i) (by omega) (by omega) (by omega) hx b0 (Hb.2.2.2.2.2.2.2.2.2.2.1 _) (Hb.2.2.2.2.2.2.2.2.2.2.1 _) (wW b u wo i) 0 h (by omega) I L H
      obtain ⟨I1, L1⟩ := srl107 I L O1
      obtain ⟨h2, e2, O2, H2⟩ := ih (i + 1) (n + wW b u wo i) h1 y5 y6 (by omega) I1 L1 (by omega) b1 H1
      exact ⟨h2, e1.trans e2, O1.trans O2, H2⟩
    by_cases c : wo / 2 ^ i % 2 = 0
    · have e : wW b u wo i = b (3 * i + 2) - u i := by unfold wW; rw [if_pos c]
      obtain ⟨h1, e1, R⟩ := fin (nI (b (3 * i + 2)) - nI (u i)) (fun j hj => by rw [e]; exact sub_leI (by omega) (by omega) (by omega))
      refine ⟨h1, ?_, R⟩
      rw [tX8_findSales_20]
      rw [c] at bt
      simp only [oB_some, dR_some, cond_true, cond_false, if_true, if_false, Bool.true_and, Bool.and_true, Nat.beq_refl, s2, s3, K3, R30, Ks, bcC, nb, bt, show nI 0 = 0 from rfl, wants_now I (show i < bc by omega)]
      exact e1
    · have e : wW b u wo i = 0 := by unfold wW; rw [if_neg c]
      obtain ⟨h1, e1, R⟩ := fin 0 (fun j hj => by rw [e]; exact propext ⟨fun _ => by omega, fun _ => Int32.not_lt.mp (nI_pos (by omega))⟩)
      refine ⟨h1, ?_, R⟩
      rw [tX8_findSales_20]
      rw [show wo / 2 ^ i % 2 = 1 by omega] at bt
      simp only [oB_some, dR_some, cond_true, cond_false, if_true, if_false, Bool.true_and, Bool.and_true, Nat.beq_refl, s2, s3, K3, R30, Ks, bcC, nb, bt, show ¬ nI 1 = 0 from by decide]
      exact e1
/-- cuts for so many thirds -/
def cuT (v6 t : Nat) : Nat := (t - v6 + 2) / 3
theorem cuI : ∀ t, t < 46 → ∀ a, a < 181 → (if 0 < (((nI t - nI a) + 2) / 3) then (((nI t - nI a) + 2) / 3) else 0) = nI (cuT a t) := by decide +kernel
/-- the most, with the fewest cuts -/
def OPT (A : Ach) (v5 v6 m c : Nat) : Prop := (∃ B t, B + cuT v6 t ≤ v5 ∧ A B t m ∧ c = cuT v6 t) ∧ ∀ B t m', B + cuT v6 t ≤ v5 → A B t m' → m' < m ∨ (m' = m ∧ c ≤ cuT v6 t)
theorem opt_uniq {A : Ach} {v5 v6 m c m' c' : Nat} (P : OPT A v5 v6 m c) (Q : OPT A v5 v6 m' c') : m = m' ∧ c = c' := by
  obtain ⟨⟨B, t, p1, p2, p3⟩, p4⟩ := P
  obtain ⟨⟨B', t', q1, q2, q3⟩, q4⟩ := Q
  have := p4 B' t' m' q1 q2
  have := q4 B t m p1 p2
  omega
def OPV (A : Ach) (v5 v6 : Nat) (V : Nat → Nat → Prop) (m c : Nat) : Prop := (∃ B t, B + cuT v6 t ≤ v5 ∧ A B t m ∧ c = cuT v6 t) ∧ ∀ B t m', V B t → B + cuT v6 t ≤ v5 → A B t m' → m' < m ∨ (m' = m ∧ c ≤ cuT v6 t)
