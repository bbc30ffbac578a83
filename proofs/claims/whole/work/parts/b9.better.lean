/-! ===== PURE: sales by the reference: its table ===== -/
def vlB (TN : Nat → Nat) (p q B t one two : Nat) : Nat := TN (46 * (B - one) + (t - two)) + one * p + two * q
def BST (TN : Nat → Nat) (p q W B t : Nat) (V : Nat → Nat → Prop) (mb : Nat) : Prop := (∃ one two, one + two ≤ W ∧ one ≤ B ∧ two ≤ t ∧ mb = vlB TN p q B t one two) ∧ ∀ one two, V one two → one + two ≤ W → one ≤ B → two ≤ t → vlB TN p q B t one two ≤ mb
def sn (one two : Nat) : Nat → Nat → Prop := fun o t => o < one ∨ (o = one ∧ t < two)
theorem vlB_le {TN : Nat → Nat} {p q B t one two : Nat} (hT : ∀ k, k < 2116 → TN k ≤ 3000) (hp : p ≤ 60) (hq : q ≤ 60) (hB : B < 46) (ht : t < 46) (h1 : one ≤ B) (h2 : two ≤ t) : vlB TN p q B t one two ≤ 10000 := by
  have a1 := hT (46 * (B - one) + (t - two)) (by omega)
  have a2 : one * p ≤ 45 * 60 := Nat.mul_le_mul (by omega) hp
  have a3 : two * q ≤ 45 * 60 := Nat.mul_le_mul (by omega) hq
  unfold vlB; omega
theorem bst_le {TN : Nat → Nat} {p q W B t : Nat} {V : Nat → Nat → Prop} {mb : Nat} (hT : ∀ k, k < 2116 → TN k ≤ 3000) (hp : p ≤ 60) (hq : q ≤ 60) (hB : B < 46) (ht : t < 46) (P : BST TN p q W B t V mb) : mb ≤ 10000 := by
  obtain ⟨⟨o, w, _, h1, h2, e⟩, _⟩ := P
  rw [e]; exact vlB_le hT hp hq hB ht h1 h2
def T5 (h : Hp) : Prop := hK h 147 = 12 ∧ (hR h 147 43 = some 165 ∧ hK h 165 = 20 ∧ hE h 165 = 2116) ∧ (hR h 147 22 = some 156 ∧ hK h 156 = 20 ∧ hE h 156 = 15)
theorem nI_mulN (a b : Nat) : nI a * nI b = nI (a * b) := pk_mul a b
theorem be_at {B t one two : Nat} (hB : B < 46) (ht : t < 46) (h1 : one ≤ B) (h2 : two ≤ t) : (46 * (nI B - nI one) + nI t) - nI two = nI (46 * (B - one) + (t - two)) ∧ inb (nI (46 * (B - one) + (t - two))) 2116 = true ∧ (nI (46 * (B - one) + (t - two))).toNatClampNeg = 46 * (B - one) + (t - two) := by
  refine ⟨?_, inb_nI (by omega) (by omega), nI_clamp (by omega)⟩
  rw [nI_subL h1, show (46 : Int32) * nI (B - one) = nI (46 * (B - one)) from pk_mul 46 _, nI_add, nI_subL (by omega)]
  congr 1; omega
theorem be43_loop {h : Hp} {TN : Nat → Nat} {i p q W B t one : Nat} {x5 : Int32} (F : T5 h) (hi : i < 5) (f1 : hI h 156 (3 * i) = nI p) (f2 : hI h 156 (3 * i + 1) = nI q) (hR : ∀ k, k ≤ 46 * B + t → hI h 165 k = nI (TN k)) (hT : ∀ k, k < 2116 → TN k ≤ 3000) (hp : p ≤ 60) (hq : q ≤ 60) (hB : B < 46) (ht : t < 46) (h1 : one ≤ B) (hW : one ≤ W) (W60 : W ≤ 60) (hx : ∀ j, j ≤ 200 → (x5 < nI j) = (W < j)) : ∀ k two mb (o8 : Option EV), two + k = min (W - one) t + 1 → BST TN p q W B t (sn one two) mb → ∃ mb' y7, Run kX12_betters 43 [some (vR (some 147)), some (vI (nI i)), some (vI (nI B)), some (vI (nI t)), some (vI (nI mb)), some (vI x5), some (vI (nI one)), some (vI (nI two)), o8] [] h = Run kX12_betters 27 [some (vR (some 147)), some (vI (nI i)), some (vI (nI B)), some (vI (nI t)), some (vI (nI mb')), some (vI x5), some (vI (nI (one + 1))), y7, none] [] h ∧ BST TN p q W B t (sn (one + 1) 0) mb' := by
  intro k
  induction k with
  | zero =>
    intro two mb o8 hk P
    refine ⟨mb, some (vI (nI two)), ?_, P.1, fun o w s1 s2 s3 s4 => P.2 o w (by unfold sn at s1 ⊢; omega) s2 s3 s4⟩
    rw [tX12_betters_43, nI_add, nI_1]
    by_cases c : W < one + two
    · rw [if_pos (by rw [hx _ (by omega)]; exact c)]
    · rw [if_neg (by rw [hx _ (by omega)]; exact c), if_pos (by rw [nI_nlt' (by omega) (by omega)]; omega)]
  | succ k ih =>
    intro two mb o8 hk P
    obtain ⟨g1, ⟨g2, g3, g4⟩, g5, g6, g7⟩ := F
    obtain ⟨a1, a2, a3⟩ := be_at hB ht h1 (show two ≤ t by omega)
    obtain ⟨i30, i300, i31, i32, ia0, ia1, ia2, ic0, ic1, ic2⟩ := ix3 (i := i) (N := 15) (by omega) (by omega)
    have mbl := bst_le hT hp hq hB ht P
    have vl := vlB_le (one := one) (two := two) hT hp hq hB ht h1 (by omega)
    have ev : nI (TN (46 * (B - one) + (t - two))) + nI one * nI p + nI two * nI q = nI (vlB TN p q B t one two) := by
      rw [nI_mulN, nI_mulN, nI_add, nI_add]; rfl
    have ql : (nI mb < nI (vlB TN p q B t one two)) = (mb < vlB TN p q B t one two) := nI_nlt' (by omega) (by omega)
    have st : ∀ mb' (o8' : Option EV), BST TN p q W B t (sn one (two + 1)) mb' → ∃ mb2 y7, Run kX12_betters 43 [some (vR (some 147)), some (vI (nI i)), some (vI (nI B)), some (vI (nI t)), some (vI (nI mb')), some (vI x5), some (vI (nI one)), some (vI (nI (two + 1))), o8'] [] h = Run kX12_betters 27 [some (vR (some 147)), some (vI (nI i)), some (vI (nI B)), some (vI (nI t)), some (vI (nI mb2)), some (vI x5), some (vI (nI (one + 1))), y7, none] [] h ∧ BST TN p q W B t (sn (one + 1) 0) mb2 := fun mb' o8' z => ih (two + 1) mb' o8' (by omega) z
    have cs : ∀ o w, sn one (two + 1) o w → sn one two o w ∨ (o = one ∧ w = two) := fun o w z => by unfold sn at z ⊢; omega
    rw [tX12_betters_43, nI_add, if_neg (by rw [hx _ (by omega)]; omega), if_neg (by rw [nI_nlt' (by omega) (by omega)]; omega)]
    simp only [oB_some, dR_some, cond_true, cond_false, if_true, if_false, Bool.true_and, Bool.and_true, Nat.beq_refl, g1, g2, g3, g4, g5, g6, g7, iaK20, a1, a2, a3, i30, i300, i31, i32, ia0, ia1, ia2, ic0, ic1, ic2, f1, f2, hR _ (show 46 * (B - one) + (t - two) ≤ 46 * B + t by omega), ev, nI_1]
    by_cases c : mb < vlB TN p q B t one two
    · rw [if_pos (by rw [ql]; exact c)]
      refine st _ _ ⟨⟨one, two, by omega, h1, by omega, rfl⟩, fun o w s1 s2 s3 s4 => ?_⟩
      rcases cs o w s1 with y | ⟨rfl, rfl⟩
      · have := P.2 o w y s2 s3 s4; omega
      · exact Nat.le_refl _
    · rw [if_neg (by rw [ql]; exact c)]
      refine st _ _ ⟨P.1, fun o w s1 s2 s3 s4 => ?_⟩
      rcases cs o w s1 with y | ⟨rfl, rfl⟩
      · exact P.2 o w y s2 s3 s4
      · omega
theorem mk_at {B t : Nat} (hB : B < 46) (ht : t < 46) : 46 * nI B + nI t = nI (46 * B + t) := by
  rw [show (46 : Int32) * nI B = nI (46 * B) from pk_mul 46 B, nI_add]
theorem be27_loop {h : Hp} {TN : Nat → Nat} {i p q W B t : Nat} {x5 : Int32} (F : T5 h) (hi : i < 5) (f1 : hI h 156 (3 * i) = nI p) (f2 : hI h 156 (3 * i + 1) = nI q) (hR : ∀ k, k ≤ 46 * B + t → hI h 165 k = nI (TN k)) (hT : ∀ k, k < 2116 → TN k ≤ 3000) (hp : p ≤ 60) (hq : q ≤ 60) (hB : B < 46) (ht : t < 46) (W60 : W ≤ 60) (hx : ∀ j, j ≤ 200 → (x5 < nI j) = (W < j)) : ∀ k one mb (o7 o8 : Option EV), one + k = min W B + 1 → BST TN p q W B t (sn one 0) mb → ∃ mb', Run kX12_betters 27 [some (vR (some 147)), some (vI (nI i)), some (vI (nI B)), some (vI (nI t)), some (vI (nI mb)), some (vI x5), some (vI (nI one)), o7, o8] [] h = some (rV, sI h 165 (46 * B + t) (nI mb')) ∧ BST TN p q W B t (fun _ _ => True) mb' := by
  obtain ⟨g1, ⟨g2, g3, g4⟩, g5⟩ := F
  obtain ⟨_, a2, a3⟩ := cl_at hB ht
  have a1 := mk_at hB ht
  intro k
  induction k with
  | zero =>
    intro one mb o7 o8 hk P
    refine ⟨mb, ?_, P.1, fun o w s1 s2 s3 s4 => P.2 o w (by unfold sn; omega) s2 s3 s4⟩
    rw [tX12_betters_27]
    by_cases c : W < one
    · rw [if_pos (by rw [hx _ (by omega)]; exact c)]
      simp only [oB_some, dR_some, cond_true, cond_false, if_true, if_false, Bool.true_and, Bool.and_true, Nat.beq_refl, g1, g2, g3, g4, a1, a2, a3]
    · rw [if_neg (by rw [hx _ (by omega)]; exact c), if_pos (by rw [nI_nlt' (by omega) (by omega)]; omega)]
      simp only [oB_some, dR_some, cond_true, cond_false, if_true, if_false, Bool.true_and, Bool.and_true, Nat.beq_refl, g1, g2, g3, g4, a1, a2, a3]
  | succ k ih =>
    intro one mb o7 o8 hk P
    obtain ⟨mb1, y7, e1, P1⟩ := be43_loop ⟨g1, ⟨g2, g3, g4⟩, g5⟩ hi f1 f2 hR hT hp hq hB ht (show one ≤ B by omega) (show one ≤ W by omega) W60 hx (min (W - one) t + 1) 0 mb none (by omega) P
    obtain ⟨mb2, e2, P2⟩ := ih (one + 1) mb1 y7 none (by omega) P1
    refine ⟨mb2, ?_, P2⟩
    rw [tX12_betters_27, if_neg (by rw [hx _ (by omega)]; omega), if_neg (by rw [nI_nlt' (by omega) (by omega)]; omega)]
    exact e1.trans e2
theorem bst_0 (TN : Nat → Nat) (p q W B t : Nat) : BST TN p q W B t (sn 0 0) (TN (46 * B + t)) :=
  ⟨⟨0, 0, by omega, by omega, by omega, by unfold vlB; simp⟩, fun o w z => by unfold sn at z; omega⟩
theorem betters_m {h : Hp} {s : Nat} {r d b : Nat → Nat} {dc bc : Nat} {lw : Option ((Nat → Int32) × Nat)} {v u w lg bk z : Nat → Nat} {A x : Nat} (I : AINV h s r d b dc bc lw v u w lg bk z A x) (F : T5 h) {TN : Nat → Nat} {i B t : Nat} (hi : i < bc) (hB : B < 46) (ht : t < 46) (hR : ∀ k, k ≤ 46 * B + t → hI h 165 k = nI (TN k)) (hT : ∀ k, k < 2116 → TN k ≤ 3000) : ∃ mb, FX12_betters [vR (some 147), vI (nI i), vI (nI B), vI (nI t)] h = some (rV, sI h 165 (46 * B + t) (nI mb)) ∧ BST TN (b (3 * i)) (b (3 * i + 1)) (b (3 * i + 2) - u i) B t (fun _ _ => True) mb := by
  have b5 : bc ≤ 5 := I.2.1.2.2.2.1.2.2.2.2.1.2
  have Hb := I.2.1.2.2.2.2.2.1
  have Bv := I.2.2.1.2.1
  have ub : u i ≤ 60 := Bv.2.2.2.2.2.2.2.2.2.2.2 i (by omega)
  have bb : b (3 * i + 2) ≤ 60 := Hb.2.2.2.2.2.2.2.2.2.2.1 _
  have f1 : hI h 156 (3 * i) = nI (b (3 * i)) := I.2.1.2.2.2.1.2.2.2.2.2.2.2.2.1 _ (by omega)
  have f2 : hI h 156 (3 * i + 1) = nI (b (3 * i + 1)) := I.2.1.2.2.2.1.2.2.2.2.2.2.2.2.1 _ (by omega)
  obtain ⟨M147, R18, K152, E152, R20, K154, E154, R22, K156, E156, R32, K160, E160, dcM, bcM, Ew⟩ := mfa I
  obtain ⟨g1, ⟨g2, g3, g4⟩, g5⟩ := F
  obtain ⟨_, a2, a3⟩ := cl_at hB ht
  have a1 := mk_at hB ht
  have w := wants_nowM I hi
  by_cases c : u i ≤ b (3 * i + 2)
  · have hx : ∀ j, j ≤ 200 → (nI (b (3 * i + 2)) - nI (u i) < nI j) = (b (3 * i + 2) - u i < j) := fun j hj => by rw [nI_subL c, nI_nlt' (by omega) (by omega)]
    obtain ⟨mb, e, P⟩ := be27_loop ⟨g1, ⟨g2, g3, g4⟩, g5⟩ (show i < 5 by omega) f1 f2 hR hT (Hb.2.2.2.2.2.2.2.2.2.2.1 _) (Hb.2.2.2.2.2.2.2.2.2.2.1 _) hB ht (show b (3 * i + 2) - u i ≤ 60 by omega) hx (min (b (3 * i + 2) - u i) B + 1) 0 _ none none (by omega) (bst_0 _ _ _ _ _ _)
    refine ⟨mb, ?_, P⟩
    rw [tX12_betters]
    simp only [oB_some, dR_some, cond_true, cond_false, if_true, if_false, Bool.true_and, Bool.and_true, Nat.beq_refl, g1, g2, g3, g4, iaK20, a1, a2, a3, R32, w, hR _ (Nat.le_refl _)]
    exact e
  · refine ⟨TN (46 * B + t), ?_, (bst_0 TN (b (3 * i)) (b (3 * i + 1)) (b (3 * i + 2) - u i) B t).1, fun o w s1 s2 s3 s4 => ?_⟩
    · rw [tX12_betters]
      simp only [oB_some, dR_some, cond_true, cond_false, if_true, if_false, Bool.true_and, Bool.and_true, Nat.beq_refl, g1, g2, g3, g4, iaK20, a1, a2, a3, R32, w, hR _ (Nat.le_refl _)]
      rw [tX12_betters_27, if_pos (by rw [Int32.lt_iff_le_and_ne]; exact ⟨by rw [sub_le0 (by omega) (by omega)]; omega, fun z => by
        have := congrArg (fun y => y + nI (u i)) z
        simp only [Int32.sub_add_cancel, Int32.zero_add] at this
        rw [nI_neq' (by omega) (by omega)] at this; omega⟩)]
      simp only [oB_some, dR_some, cond_true, cond_false, if_true, if_false, Bool.true_and, Bool.and_true, Nat.beq_refl, g1, g2, g3, g4, a1, a2, a3]
    · have e1 : o = 0 := by omega
      have e2 : w = 0 := by omega
      subst e1 e2
      unfold vlB; simp
