/-! ===== PURE: market and ring by both ===== -/
theorem acI_bd {r d b u : Nat → Nat} (H : BH r d b) (wo : Nat) : ∀ i, i ≤ 5 → ∃ n, n ≤ 9 * i ∧ bdA (acI b u wo i) n := by
  intro i
  induction i with
  | zero => intro _; exact ⟨0, by omega, bd_0⟩
  | succ i ih =>
    intro hi
    obtain ⟨n, h1, h2⟩ := ih (by omega)
    have := wW_le (u := u) H wo (show i < 5 by omega)
    exact ⟨n + wW b u wo i, by omega, bd_it h2 (H.2.2.2.2.2.2.2.2.2.2.1 _) (H.2.2.2.2.2.2.2.2.2.2.1 _) _⟩
theorem mx45 {A : Ach} {n B t m : Nat} (bd : bdA A n) (hn : n ≤ 45) (P : mxA A (min 45 B) (min 45 t) m) : mxA A B t m := by
  obtain ⟨⟨B', t', h1, h2, h3⟩, U⟩ := P
  refine ⟨⟨B', t', by omega, by omega, h3⟩, fun B' t' m' k1 k2 k3 => U B' t' m' ?_ ?_ k3⟩
  · have := bd B' t' m' k3; omega
  · have := bd B' t' m' k3; omega
def MBI (A : Ach) (v5 v6 c m c0 : Nat) : Prop := c0 < c ∧ mxA A (v5 - c0) (v6 + 3 * c0) m ∧ (∀ c', c' < c → ∀ m', mxA A (v5 - c') (v6 + 3 * c') m' → m' ≤ m) ∧ ∀ c', c' < c0 → ∀ m', mxA A (v5 - c') (v6 + 3 * c') m' → m' < m
theorem mbi_opt {A : Ach} {v5 v6 m c0 : Nat} (E : ∀ c, c ≤ v5 → ∃ m', mxA A (v5 - c) (v6 + 3 * c) m') (P : MBI A v5 v6 (v5 + 1) m c0) : OPT A v5 v6 m c0 := by
  obtain ⟨p1, ⟨⟨B, t, k1, k2, k3⟩, _⟩, p3, p4⟩ := P
  have ct : cuT v6 t ≤ c0 := by unfold cuT; omega
  constructor
  · refine ⟨B, t, by omega, k3, ?_⟩
    by_cases e : cuT v6 t < c0
    · exfalso
      obtain ⟨m', hm'⟩ := E (cuT v6 t) (by omega)
      have a1 := p4 _ e m' hm'
      have a2 := hm'.2 B t m (by omega) (by unfold cuT; omega) k3
      omega
    · omega
  · intro B' t' m1 h1 h2
    obtain ⟨m', hm'⟩ := E (cuT v6 t') (by omega)
    have a2 := hm'.2 B' t' m1 (by omega) (by unfold cuT; omega) h2
    have a3 := p3 (cuT v6 t') (by omega) m' hm'
    by_cases e : cuT v6 t' < c0
    · have := p4 _ e m' hm'; omega
    · omega
theorem mb_at {v5 v6 c : Nat} (h5 : v5 ≤ 1000) (h6 : v6 ≤ 1000) (hc : c ≤ v5) : (if nI v5 - nI c < 45 then nI v5 - nI c else 45) = nI (min 45 (v5 - c)) ∧ (if nI v6 + 3 * nI c < 45 then nI v6 + 3 * nI c else 45) = nI (min 45 (v6 + 3 * c)) := by
  have aux : ∀ k, k ≤ 10000 → (if nI k < 45 then nI k else 45) = nI (min 45 k) := fun k hk => by
    have q : (nI k < 45) = (k < 45) := by rw [show (45 : Int32) = nI 45 from rfl, nI_nlt' (by omega) (by omega)]
    by_cases e : k < 45
    · rw [if_pos (by rw [q]; exact e), Nat.min_eq_right (by omega)]
    · rw [if_neg (by rw [q]; exact e), Nat.min_eq_left (by omega)]; rfl
  constructor
  · rw [nI_subL hc]; exact aux _ (by omega)
  · rw [show (3 : Int32) * nI c = nI (3 * c) from pk_mul 3 c, nI_add]; exact aux _ (by omega)
theorem mb9_loop {A : Ach} {T : Nat → Int32} {v5 v6 n : Nat} (H : TabM T A) (bd : bdA A n) (hn : n ≤ 45) (h5 : v5 ≤ 1000) (h6 : v6 ≤ 1000) : ∀ k c (h : Hp) m c0 (x2 : Int32) (o1 o4 : Option EV), c + k = v5 + 1 → T5 h → hR h 147 32 = some 160 → hK h 160 = 20 → hE h 160 = 381 → hI h 160 5 = nI v5 → hI h 160 6 = nI v6 → hI h 165 = T → ((c = 0 ∧ x2 = -1) ∨ (x2 = nI m ∧ m ≤ 3000 ∧ hI h 147 44 = nI c0 ∧ MBI A v5 v6 c m c0)) → ∃ h' m' c', Run kX12_marketBy 9 [some (vR (some 147)), o1, some (vI x2), some (vI (nI c)), o4] [] h = some (rI (nI m'), h') ∧ Mq h h' [165] [44] ∧ hI h' 147 44 = nI c' ∧ MBI A v5 v6 (v5 + 1) m' c' := by
  intro k
  induction k with
  | zero =>
    intro c h m c0 x2 o1 o4 hk F R32 K160 E160 e5 e6 eT P
    rcases P with P | ⟨P1, P2, P3, P4⟩
    · omega
    · have e : c = v5 + 1 := by omega
      subst e
      refine ⟨h, m, c0, ?_, mq_refl _ _ _, P3, P4⟩
      rw [tX12_marketBy_9, P1]
      have q : nI v5 < nI (v5 + 1) := by rw [nI_nlt' (by omega) (by omega)]; omega
      simp only [oB_some, dR_some, cond_true, cond_false, if_true, if_false, Bool.true_and, Bool.and_true, Nat.beq_refl, F.1, R32, K160, E160, iaK20, show inb 5 381 = true from by decide, show (5 : Int32).toNatClampNeg = 5 from by decide, e5, q]
  | succ k ih =>
    intro c h m c0 x2 o1 o4 hk F R32 K160 E160 e5 e6 eT P
    obtain ⟨a1, a2⟩ := mb_at h5 h6 (show c ≤ v5 by omega)
    obtain ⟨m1, t1, t2⟩ := H (min 45 (v5 - c)) (min 45 (v6 + 3 * c)) (by omega) (by omega)
    have mb : m1 ≤ 3000 := by
      obtain ⟨⟨B', t', _, _, k3⟩, _⟩ := t2
      have := bd B' t' m1 k3; omega
    have t3 := mx45 bd hn t2
    have qc : ¬ nI v5 < nI c := by rw [nI_nlt' (by omega) (by omega)]; omega
    have at1 := mk_at (B := min 45 (v5 - c)) (t := min 45 (v6 + 3 * c)) (by omega) (by omega)
    obtain ⟨_, at2, at3⟩ := cl_at (B := min 45 (v5 - c)) (t := min 45 (v6 + 3 * c)) (by omega) (by omega)
    have uq : ∀ m', mxA A (v5 - c) (v6 + 3 * c) m' → m' = m1 := fun m' z => by
      obtain ⟨⟨B1, t1', x1, x2, x3⟩, x4⟩ := z
      obtain ⟨⟨B2, t2', y1, y2, y3⟩, y4⟩ := t3
      have := x4 B2 t2' m1 y1 y2 y3
      have := y4 B1 t1' m' x1 x2 x3
      omega
    obtain ⟨g1, ⟨g2, g3, g4⟩, g5⟩ := F
    have F : T5 h := ⟨g1, ⟨g2, g3, g4⟩, g5⟩
    have e165 : hI h 165 (46 * min 45 (v5 - c) + min 45 (v6 + 3 * c)) = nI m1 := by rw [eT]; exact t1
    have Q : Mq h (sI h 147 44 (nI c)) [165] [44] := mq_sI _ _ _ (by simp)
    have new : MBI A v5 v6 (c + 1) m1 c → ∀ (o4' : Option EV), ∃ h' m' c', Run kX12_marketBy 9 [some (vR (some 147)), none, some (vI (nI m1)), some (vI (nI (c + 1))), o4'] [] (sI h 147 44 (nI c)) = some (rI (nI m'), h') ∧ Mq h h' [165] [44] ∧ hI h' 147 44 = nI c' ∧ MBI A v5 v6 (v5 + 1) m' c' := fun z o4' => by
      obtain ⟨h', m', c', r1, r2, r3⟩ := ih (c + 1) (sI h 147 44 (nI c)) m1 c (nI m1) none o4' (by omega) F R32 K160 E160 (by rw [hI_row _ _ _ _ (by decide)]; exact e5) (by rw [hI_row _ _ _ _ (by decide)]; exact e6) (by rw [hI_row _ _ _ _ (by decide)]; exact eT) (Or.inr ⟨rfl, mb, hI_same _ _ _ _, z⟩)
      exact ⟨h', m', c', r1, Q.trans r2, r3⟩
    rw [tX12_marketBy_9]
    simp only [oB_some, dR_some, cond_true, cond_false, if_true, if_false, Bool.true_and, Bool.and_true, Nat.beq_refl, g1, g2, g3, g4, R32, K160, E160, iaK20, show inb 5 381 = true from by decide, show inb 6 381 = true from by decide, show (5 : Int32).toNatClampNeg = 5 from by decide, show (6 : Int32).toNatClampNeg = 6 from by decide, e5, e6, qc, a1, a2, at1, at2, at3, e165, nI_1]
    rcases P with ⟨P1, P2⟩ | ⟨P1, P2, P3, p1, p2, p3, p4⟩
    · subst P1
      rw [P2, if_pos (lt_m1 (m := m1) (by omega))]
      exact new ⟨by omega, t3, fun c' hc' m' z => by have e : c' = 0 := by omega
                                                     subst e; exact Nat.le_of_eq (uq m' z), fun c' hc' => by omega⟩ _
    · rw [P1]
      have q : (nI m < nI m1) = (m < m1) := nI_nlt' (by omega) (by omega)
      by_cases g : m < m1
      · rw [if_pos (by rw [q]; exact g)]
        refine new ⟨by omega, t3, fun c' hc' m' z => ?_, fun c' hc' m' z => ?_⟩ _
        · by_cases e : c' = c
          · subst e; exact Nat.le_of_eq (uq m' z)
          · have := p3 c' (by omega) m' z; omega
        · have := p3 c' hc' m' z; omega
      · rw [if_neg (by rw [q]; exact g)]
        refine ih (c + 1) h m c0 (nI m) none _ (by omega) F R32 K160 E160 e5 e6 eT (Or.inr ⟨rfl, P2, P3, by omega, p2, fun c' hc' m' z => ?_, p4⟩)
        by_cases e : c' = c
        · subst e; have := uq m' z; omega
        · exact p3 c' (by omega) m' z
theorem marketBy_m {h : Hp} {s : Nat} {r d b : Nat → Nat} {dc bc : Nat} {lw : Option ((Nat → Int32) × Nat)} {v u w lg bk z : Nat → Nat} {A x : Nat} (I : AINV h s r d b dc bc lw v u w lg bk z A x) (F : T5 h) {wo : Nat} (hw : wo < 64) : ∃ h' m c, FX12_marketBy [vR (some 147), vI (nI wo)] h = some (rI (nI m), h') ∧ Mq h h' [165] [44] ∧ hI h' 147 44 = nI c ∧ OPT (acI b u wo bc) (v 5) (v 6) m c := by
  have b5 : bc ≤ 5 := I.2.1.2.2.2.1.2.2.2.2.1.2
  have Hb := I.2.1.2.2.2.2.2.1
  have Bv := I.2.2.1.2.1
  have vb : 3 * v 5 + v 6 ≤ 180 := by have := Bv.2.2.2.2.2.1; have := Bv.2.2.2.2.2.2.2.2.1; omega
  have k4 := I.2.2.1.2.2.2.1
  obtain ⟨n, hn, bd⟩ := acI_bd (u := u) Hb wo bc b5
  obtain ⟨h1, e1, O1, H1⟩ := lay_m I F hw
  have I1 := ainv_165 I O1
  obtain ⟨M147, R18, K152, E152, R20, K154, E154, R22, K156, E156, R32, K160, E160, dcM, bcM, Ew⟩ := mfa I1
  obtain ⟨h2, m, c, e2, Q2, s2, P2⟩ := mb9_loop (v5 := v 5) (v6 := v 6) H1 bd (by omega) (by omega) (by omega) (v 5 + 1) 0 h1 0 0 (-1) (some (vI (nI wo))) none (by omega) (t5_only F O1) R32 K160 E160 (by rw [Ew, k4.1 5 (by omega)]) (by rw [Ew, k4.1 6 (by omega)]) rfl (Or.inl ⟨rfl, rfl⟩)
  refine ⟨h2, m, c, ?_, (only_mq O1 (by decide) _).trans Q2, s2, mbi_opt (fun c hc => ?_) P2⟩
  · rw [tX12_marketBy]
    simp only [oB_some, dR_some, cond_true, cond_false, if_true, if_false, Bool.true_and, Bool.and_true, Nat.beq_refl, F.1, e1]
    exact e2
  · obtain ⟨m1, _, t2⟩ := H1 (min 45 (v 5 - c)) (min 45 (v 6 + 3 * c)) (by omega) (by omega)
    exact ⟨m1, mx45 bd (by omega) t2⟩
