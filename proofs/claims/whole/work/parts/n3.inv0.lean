/-! ===== the invariant at the start ===== -/
def okW (n : Nat) (o : Nat × Nat × Nat × Nat) : Bool := Nat.beq o.1 0 || Nat.blt o.2.1 n
def okL : List (Nat × Nat × Nat × Nat) → Nat → Bool
  | [], _ => true
  | o :: l, n => okW n o && okL l (bif Nat.beq o.1 0 then n + 1 else n)
theorem up_ap {h : Hp} {o : Nat × Nat × Nat × Nat} {n : Nat} (e : hN h = n) (k : okW n o = true) : hN (apW o h) = (bif Nat.beq o.1 0 then n + 1 else n) ∧ ∀ a, (bif Nat.beq o.1 0 then n + 1 else n) ≤ a → (apW o h).2.1 a = h.2.1 a ∧ (apW o h).2.2.1 a = h.2.2.1 a ∧ (apW o h).2.2.2.2 a = h.2.2.2.2 a := by
  obtain ⟨t, x, y, z⟩ := o
  unfold okW at k
  match t with
  | 0 =>
    refine ⟨by show hN h + 1 = n + 1; rw [e], fun a za => ?_⟩
    have za' : n + 1 ≤ a := za
    have q : a ≠ h.1.1 := by have : hN h = h.1.1 := rfl; omega
    show up1 _ _ _ a = _ ∧ up1 _ _ _ a = _ ∧ up1 _ _ _ a = _
    unfold up1
    simp [q]
  | 1 =>
    have k' : x + 1 ≤ n := by simpa [Nat.blt] using k
    refine ⟨e, fun a za => ?_⟩
    have za' : n ≤ a := za
    have q : a ≠ x := by omega
    refine ⟨rfl, ?_, rfl⟩
    show up2 _ _ _ _ a = _
    funext j; unfold up2; simp [q]
  | 2 =>
    have k' : x + 1 ≤ n := by simpa [Nat.blt] using k
    refine ⟨e, fun a za => ?_⟩
    have za' : n ≤ a := za
    have q : a ≠ x := by omega
    refine ⟨rfl, rfl, ?_⟩
    show up2 _ _ _ _ a = _
    funext j; unfold up2; simp [q]
  | t + 3 => exact ⟨e, fun a za => ⟨rfl, rfl, rfl⟩⟩
theorem up_apL : ∀ (l : List (Nat × Nat × Nat × Nat)) (n : Nat) (h : Hp), hN h = n → okL l n = true → n ≤ hN (apL l h) ∧ ∀ a, hN (apL l h) ≤ a → (apL l h).2.1 a = h.2.1 a ∧ (apL l h).2.2.1 a = h.2.2.1 a ∧ (apL l h).2.2.2.2 a = h.2.2.2.2 a := by
  intro l
  induction l with
  | nil => intro n h e _; exact ⟨by show n ≤ hN h; omega, fun a _ => ⟨rfl, rfl, rfl⟩⟩
  | cons o l ih =>
    intro n h e k
    have k' : (okW n o && okL l (bif Nat.beq o.1 0 then n + 1 else n)) = true := k
    rw [Bool.and_eq_true] at k'
    have u := up_ap e k'.1
    have i := ih _ (apW o h) u.1 k'.2
    have mn : n ≤ (bif Nat.beq o.1 0 then n + 1 else n) := by cases Nat.beq o.1 0 <;> simp
    refine ⟨Nat.le_trans mn i.1, fun a za => ?_⟩
    have i2 := i.2 a za
    have u2 := u.2 a (Nat.le_trans i.1 za)
    exact ⟨i2.1.trans u2.1, i2.2.1.trans u2.2.1, i2.2.2.trans u2.2.2⟩
/-- rows of numbers that nobody wrote -/
def noI (a : Nat) : List (Nat × Nat × Nat × Nat) → Bool
  | [] => true
  | o :: l => !(Nat.beq o.1 2 && Nat.beq o.2.1 a) && noI a l
theorem noI_ap {h : Hp} {o : Nat × Nat × Nat × Nat} {a : Nat} (z : hI h a = fun _ => 0) (k : (Nat.beq o.1 2 && Nat.beq o.2.1 a) = false) : hI (apW o h) a = fun _ => 0 := by
  obtain ⟨t, x, y, v⟩ := o
  match t with
  | 0 =>
    show up1 h.2.2.2.2 h.1.1 (fun _ => 0) a = fun _ => 0
    unfold up1
    by_cases q : a = h.1.1
    · simp [q]
    · simp only [q, if_false]; exact z
  | 1 => exact z
  | 2 =>
    have k' : Nat.beq x a = false := by simpa using k
    have q : a ≠ x := fun e => by rw [e, Nat.beq_refl] at k'; cases k'
    show up2 h.2.2.2.2 x y _ a = fun _ => 0
    rw [← z]
    funext j
    unfold up2; simp [q]; rfl
  | t + 3 => exact z
theorem noI_apL {a : Nat} : ∀ (l : List (Nat × Nat × Nat × Nat)) (h : Hp), hI h a = (fun _ => 0) → noI a l = true → hI (apL l h) a = fun _ => 0 := by
  intro l
  induction l with
  | nil => intro h z _; exact z
  | cons o l ih =>
    intro h z k
    have k' : (!(Nat.beq o.1 2 && Nat.beq o.2.1 a) && noI a l) = true := k
    rw [Bool.and_eq_true] at k'
    exact ih _ (noI_ap z (by have q := k'.1; revert q; cases (Nat.beq o.1 2 && Nat.beq o.2.1 a) <;> simp)) k'.2
abbrev ZF (h0 : Hp) : Hp := Zb h0 354
theorem zrow {h0 : Hp} (B : h0.1 = (0, 0)) {a : Nat} (e : a < hN (zz 354) ∧ noI a (lA.take 354) = true) : hI (ZF h0) a = fun _ => 0 := by
  have := ((z_agr B 354).2 a (zlt B e.1)).2.2.2
  exact this.trans (noI_apL _ hz rfl e.2)
theorem zup {h0 : Hp} (B : h0.1 = (0, 0)) {a : Nat} (z : 173 ≤ a) : (ZF h0).2.1 a = h0.2.1 a ∧ (ZF h0).2.2.2.2 a = h0.2.2.2.2 a := by
  have u := up_apL (lA.take 354) 0 h0 (congrArg Prod.fst B) (by decide +kernel)
  have e : hN (ZF h0) = 173 := zNn B (by decide +kernel)
  have := u.2 a (by show hN (ZF h0) ≤ a; omega)
  exact ⟨this.1, this.2.2⟩
def BASE (h0 : Hp) : Prop := h0.1 = (0, 0) ∧ (∀ a, a < PRE → hK h0 a = 99) ∧ SIt h0 ∧ MIt h0 ∧ PL h0 ∧ TEN h0 ∧ StL h0 (PRE + 10) 1 (bT [121]) ∧ StL h0 (PRE + 11) 6 (bT [119, 116, 107, 110, 121, 109]) ∧ StL h0 (PRE + 15) 4 (bT [119, 99, 115, 112])
theorem uK {h0 : Hp} (B : h0.1 = (0, 0)) (a : Nat) (z : PRE ≤ a) : hK (ZF h0) a = hK h0 a := congrArg Prod.fst (zup B (by have := PRE_big; omega)).1
theorem uE {h0 : Hp} (B : h0.1 = (0, 0)) (a : Nat) (z : PRE ≤ a) : hE (ZF h0) a = hE h0 a := congrArg Prod.snd (zup B (by have := PRE_big; omega)).1
theorem uI {h0 : Hp} (B : h0.1 = (0, 0)) (a : Nat) (z : PRE ≤ a) (k : Nat) : hI (ZF h0) a k = hI h0 a k := congrFun (zup B (by have := PRE_big; omega)).2 k
theorem stl_u {h0 : Hp} {s n : Nat} {b : Nat → Nat} (B : h0.1 = (0, 0)) (hs : PRE ≤ s) (S : StL h0 s n b) : StL (ZF h0) s n b := by
  obtain ⟨a1, a2, a3, a4, a5, a6⟩ := S
  refine ⟨(uK B _ hs).trans a1, (uK B _ (by omega)).trans a2, (uE B _ (by omega)).trans a3, a4, ?_, fun k hk => ⟨(a6 k hk).1, (uI B _ (by omega) k).trans (a6 k hk).2⟩⟩
  rw [uK B _ (by omega)]; exact a5
theorem pE (j : Nat) : PRE ≤ PRE + j := Nat.le_add_right _ _
theorem i0_CF {h0 : Hp} (B : h0.1 = (0, 0)) : CF (ZF h0) := ⟨zK B (by decide +kernel), zR B (by decide +kernel), zR B (by decide +kernel), zR B (by decide +kernel), zR B (by decide +kernel), zR B (by decide +kernel), zR B (by decide +kernel)⟩
theorem i0_TapeL {h0 : Hp} (B : h0.1 = (0, 0)) : TapeL (ZF h0) := ⟨zK B (by decide +kernel), zR B (by decide +kernel), zK B (by decide +kernel), zE B (by decide +kernel)⟩
theorem i0_UL {h0 : Hp} (B : h0.1 = (0, 0)) : UL (ZF h0) := ⟨zK B (by decide +kernel), zR B (by decide +kernel), zK B (by decide +kernel), zE B (by decide +kernel), zR B (by decide +kernel), zK B (by decide +kernel), zE B (by decide +kernel)⟩
theorem i0_ML {h0 : Hp} (B : h0.1 = (0, 0)) : ML (ZF h0) := ⟨zK B (by decide +kernel), zR B (by decide +kernel), zR B (by decide +kernel), zR B (by decide +kernel), ⟨zK B (by decide +kernel), zE B (by decide +kernel)⟩, ⟨zK B (by decide +kernel), zE B (by decide +kernel)⟩, ⟨zK B (by decide +kernel), zE B (by decide +kernel)⟩⟩
theorem i0_MR2 {h0 : Hp} (B : h0.1 = (0, 0)) : MR2 (ZF h0) := ⟨zK B (by decide +kernel), ⟨zR B (by decide +kernel), zK B (by decide +kernel), zE B (by decide +kernel)⟩, ⟨zR B (by decide +kernel), zK B (by decide +kernel), zE B (by decide +kernel)⟩, ⟨zR B (by decide +kernel), zK B (by decide +kernel), zE B (by decide +kernel)⟩, ⟨zR B (by decide +kernel), zK B (by decide +kernel), zE B (by decide +kernel)⟩, ⟨zR B (by decide +kernel), zK B (by decide +kernel), zE B (by decide +kernel)⟩, ⟨zR B (by decide +kernel), zK B (by decide +kernel), zE B (by decide +kernel)⟩, ⟨zR B (by decide +kernel), zK B (by decide +kernel), zE B (by decide +kernel)⟩⟩
theorem i0_LSd {h0 : Hp} (B : h0.1 = (0, 0)) : LSd (ZF h0) := ⟨zR B (by decide +kernel), ⟨zK B (by decide +kernel), zR B (by decide +kernel), zK B (by decide +kernel), zE B (by decide +kernel)⟩, zR B (by decide +kernel), ⟨zK B (by decide +kernel), zE B (by decide +kernel), (by decide), (by decide), (by decide), (by decide)⟩⟩
theorem i0_IMl {h0 : Hp} (B : h0.1 = (0, 0)) : IMl (ZF h0) := ⟨zR B (by decide +kernel), ⟨zK B (by decide +kernel), zR B (by decide +kernel), zK B (by decide +kernel), zE B (by decide +kernel)⟩, zR B (by decide +kernel), ⟨zK B (by decide +kernel), zR B (by decide +kernel), zR B (by decide +kernel), zK B (by decide +kernel), zE B (by decide +kernel), zK B (by decide +kernel), zE B (by decide +kernel)⟩, zR B (by decide +kernel), ⟨zK B (by decide +kernel), zE B (by decide +kernel), (by decide), (by decide), (by decide), (by decide)⟩⟩
theorem i0_PRl {h0 : Hp} (B : h0.1 = (0, 0)) : PRl (ZF h0) := ⟨⟨zR B (by decide +kernel), zK B (by decide +kernel), zR B (by decide +kernel), zK B (by decide +kernel), zE B (by decide +kernel)⟩, ⟨zR B (by decide +kernel), zK B (by decide +kernel), zE B (by decide +kernel)⟩, ⟨zR B (by decide +kernel), zK B (by decide +kernel), zE B (by decide +kernel)⟩, ⟨zR B (by decide +kernel), zK B (by decide +kernel), zE B (by decide +kernel)⟩, ⟨zR B (by decide +kernel), zK B (by decide +kernel), zE B (by decide +kernel)⟩, ⟨zR B (by decide +kernel), zK B (by decide +kernel), zE B (by decide +kernel)⟩⟩
theorem i0_T5 {h0 : Hp} (B : h0.1 = (0, 0)) : T5 (ZF h0) := ⟨zK B (by decide +kernel), ⟨zR B (by decide +kernel), zK B (by decide +kernel), zE B (by decide +kernel)⟩, ⟨zR B (by decide +kernel), zK B (by decide +kernel), zE B (by decide +kernel)⟩⟩
theorem i0_M6 {h0 : Hp} (B : h0.1 = (0, 0)) : M6 (ZF h0) := ⟨zK B (by decide +kernel), ⟨zR B (by decide +kernel), zK B (by decide +kernel), zE B (by decide +kernel)⟩, ⟨zR B (by decide +kernel), zK B (by decide +kernel), zE B (by decide +kernel)⟩⟩
theorem i0_LwL {h0 : Hp} (B : h0.1 = (0, 0)) : LwL (ZF h0) := ⟨zK B (by decide +kernel), zR B (by decide +kernel), zR B (by decide +kernel), zK B (by decide +kernel), zE B (by decide +kernel)⟩
theorem i0_LXa {h0 : Hp} (B : h0.1 = (0, 0)) : LXa (ZF h0) := ⟨zR B (by decide +kernel), zK B (by decide +kernel), ⟨zK B (by decide +kernel), zR B (by decide +kernel), zR B (by decide +kernel), zK B (by decide +kernel), zE B (by decide +kernel), zK B (by decide +kernel), zE B (by decide +kernel)⟩, ⟨zK B (by decide +kernel), zR B (by decide +kernel), zK B (by decide +kernel), zE B (by decide +kernel), ⟨(by decide), (by decide), (by decide), (by decide), (by decide), (by decide), (by decide), (by decide), (by decide), (by decide)⟩⟩, ⟨zK B (by decide +kernel), zR B (by decide +kernel), zK B (by decide +kernel), zE B (by decide +kernel), ⟨(by decide), (by decide), (by decide), (by decide), (by decide), (by decide), (by decide), (by decide), (by decide), (by decide)⟩⟩, ⟨zK B (by decide +kernel), zE B (by decide +kernel), (by decide), (by decide), (by decide), (by decide)⟩, ⟨zK B (by decide +kernel), zR B (by decide +kernel), zR B (by decide +kernel), zR B (by decide +kernel), ⟨zK B (by decide +kernel), zE B (by decide +kernel)⟩, ⟨zK B (by decide +kernel), zE B (by decide +kernel)⟩, ⟨zK B (by decide +kernel), zE B (by decide +kernel)⟩, (by decide), (by decide)⟩, ⟨zK B (by decide +kernel), zR B (by decide +kernel), zR B (by decide +kernel), zR B (by decide +kernel), ⟨zK B (by decide +kernel), zE B (by decide +kernel)⟩, ⟨zK B (by decide +kernel), zE B (by decide +kernel)⟩, ⟨zK B (by decide +kernel), zE B (by decide +kernel)⟩, (by decide), (by decide)⟩, ⟨zK B (by decide +kernel), zE B (by decide +kernel), zK B (by decide +kernel), zE B (by decide +kernel)⟩, ⟨zR B (by decide +kernel), zK B (by decide +kernel), zE B (by decide +kernel)⟩, zR B (by decide +kernel)⟩
theorem inv0_lay {h0 : Hp} (b : BASE h0) : LAYO (ZF h0) := by
  obtain ⟨B, _, s1, s2, s3, s4, s5, s6, s7⟩ := b
  have p41 : ∀ i, i < 41 → hR (zz 354) 15 i = some (16 + 2 * i) := by decide +kernel
  have p41b : ∀ i, i < 41 → hK (zz 354) (16 + 2 * i) = 4 := by decide +kernel
  have p41c : ∀ i, i < 41 → hR (zz 354) (16 + 2 * i) 8 = some (16 + 2 * i + 1) := by decide +kernel
  have p41d : ∀ i, i < 41 → hK (zz 354) (16 + 2 * i + 1) = 20 := by decide +kernel
  have p41e : ∀ i, i < 41 → hE (zz 354) (16 + 2 * i + 1) = 5 := by decide +kernel
  have q9 : ∀ i, i < 9 → hR (zz 354) 104 i = some (108 + 2 * i) := by decide +kernel
  have q9b : ∀ i, i < 9 → hK (zz 354) (108 + 2 * i) = 4 := by decide +kernel
  have q9c : ∀ i, i < 9 → hR (zz 354) (108 + 2 * i) 8 = some (108 + 2 * i + 1) := by decide +kernel
  have q9d : ∀ i, i < 9 → hK (zz 354) (108 + 2 * i + 1) = 20 := by decide +kernel
  have q9e : ∀ i, i < 9 → hE (zz 354) (108 + 2 * i + 1) = 5 := by decide +kernel
  have r4 : ∀ i, i < 4 → hR (zz 354) 138 i = some (139 + 2 * i) := by decide +kernel
  have r4b : ∀ i, i < 4 → hK (zz 354) (139 + 2 * i) = 6 := by decide +kernel
  have r4c : ∀ i, i < 4 → hR (zz 354) (139 + 2 * i) 0 = some (140 + 2 * i) := by decide +kernel
  have r4d : ∀ i, i < 4 → hK (zz 354) (140 + 2 * i) = 20 := by decide +kernel
  have r4e : ∀ i, i < 4 → hE (zz 354) (140 + 2 * i) = 48 := by decide +kernel
  have nk : ∀ i, i < 173 → hK (zz 354) i ≠ 1 := by decide +kernel
  have n : hN (zz 354) = 173 := by decide +kernel
  have PTl : PTL (ZF h0) := by
    refine ⟨?_, fun i hi => ⟨zR B ⟨by omega, p41 i hi⟩, zK B ⟨by omega, p41b i hi⟩, zR B ⟨by omega, p41c i hi⟩, zK B ⟨by omega, p41d i hi⟩, zE B ⟨by omega, p41e i hi⟩⟩, ?_⟩
    · exact ⟨zK B (by decide +kernel), zR B (by decide +kernel), zK B (by decide +kernel), zE B (by decide +kernel)⟩
    · exact ⟨zK B (by decide +kernel), zR B (by decide +kernel), zK B (by decide +kernel), zE B (by decide +kernel)⟩
  have SRL : SRl (ZF h0) := by
    refine ⟨?_, fun i hi => ⟨zR B ⟨by omega, q9 i hi⟩, zK B ⟨by omega, q9b i hi⟩, zR B ⟨by omega, q9c i hi⟩, zK B ⟨by omega, q9d i hi⟩, zE B ⟨by omega, q9e i hi⟩⟩, ?_⟩
    · exact ⟨zR B (by decide +kernel), zK B (by decide +kernel), zR B (by decide +kernel), zR B (by decide +kernel), zK B (by decide +kernel), zE B (by decide +kernel)⟩
    · exact ⟨zR B (by decide +kernel), zK B (by decide +kernel), zE B (by decide +kernel)⟩
  have PLL : PLl (ZF h0) := by
    refine ⟨?_, fun i hi => ⟨zR B ⟨by omega, r4 i hi⟩, zK B ⟨by omega, r4b i hi⟩, zR B ⟨by omega, r4c i hi⟩, zK B ⟨by omega, r4d i hi⟩, zE B ⟨by omega, r4e i hi⟩⟩, ?_, ?_⟩
    · exact ⟨zR B (by decide +kernel), zK B (by decide +kernel), zE B (by decide +kernel)⟩
    · exact ⟨zR B (by decide +kernel), zK B (by decide +kernel), zE B (by decide +kernel)⟩
    · exact ⟨zR B (by decide +kernel), zK B (by decide +kernel), zE B (by decide +kernel)⟩
  have Sit : SIt (ZF h0) := by
    obtain ⟨⟨a1, a2, a3⟩, ⟨a4, a5, a6⟩, ⟨a7, a8, a9⟩⟩ := s1
    exact ⟨⟨(uK B _ (pE _)).trans a1, (uE B _ (pE _)).trans a2, fun k hk => (uI B _ (pE _) k).trans (a3 k hk)⟩, ⟨(uK B _ (pE _)).trans a4, (uE B _ (pE _)).trans a5, fun k hk => (uI B _ (pE _) k).trans (a6 k hk)⟩, ⟨(uK B _ (pE _)).trans a7, (uE B _ (pE _)).trans a8, fun k hk => (uI B _ (pE _) k).trans (a9 k hk)⟩⟩
  have Pl : PL (ZF h0) := by
    obtain ⟨a1, a2, a3, a4, a5, a6, a7, a8⟩ := s3
    exact ⟨(uK B _ (pE _)).trans a1, (uE B _ (pE _)).trans a2, (uI B _ (pE _) _).trans a3, (uI B _ (pE _) _).trans a4, (uI B _ (pE _) _).trans a5, (uI B _ (pE _) _).trans a6, (uI B _ (pE _) _).trans a7, (uI B _ (pE _) _).trans a8⟩
  have Ten : TEN (ZF h0) := by
    obtain ⟨⟨a1, a2, a3, a4, a5⟩, ⟨b1, b2, b3, b4, b5⟩⟩ := s4
    exact ⟨⟨(uK B _ (pE _)).trans a1, (uE B _ (pE _)).trans a2, (uI B _ (pE _) _).trans a3, (uI B _ (pE _) _).trans a4, (uI B _ (pE _) _).trans a5⟩, ⟨(uK B _ (pE _)).trans b1, (uE B _ (pE _)).trans b2, (uI B _ (pE _) _).trans b3, (uI B _ (pE _) _).trans b4, (uI B _ (pE _) _).trans b5⟩⟩
  have Mit : MIt (ZF h0) := ⟨stl_u B (pE _) s2.1, stl_u B (pE _) s2.2.1, stl_u B (pE _) s2.2.2⟩
  exact ⟨i0_CF B, i0_TapeL B, PTl, i0_UL B, i0_ML B, i0_MR2 B, i0_LSd B, i0_IMl B, i0_PRl B, SRL, i0_T5 B, i0_M6 B, PLL, i0_LwL B, Sit, Mit, Pl, Ten, i0_LXa B, ⟨zR B (by decide +kernel), zK B (by decide +kernel), zE B (by decide +kernel)⟩, ⟨zR B (by decide +kernel), zK B (by decide +kernel), zE B (by decide +kernel)⟩, ⟨zR B (by decide +kernel), zK B (by decide +kernel), zE B (by decide +kernel)⟩, ⟨zR B (by decide +kernel), zK B (by decide +kernel), zE B (by decide +kernel)⟩, ⟨zK B (by decide +kernel), zE B (by decide +kernel), zK B (by decide +kernel), zE B (by decide +kernel)⟩, ⟨zK B (by decide +kernel), zE B (by decide +kernel)⟩, stl_u B (pE _) s5, stl_u B (pE _) s6, stl_u B (pE _) s7, fun a ha e => nk a ha ((zK B ⟨by omega, rfl⟩).symm.trans e)⟩
theorem nR0 : (fun _ => 0 : Nat → Int32) = nR (fun _ => 0) := rfl
theorem inv0 {h0 : Hp} (b : BASE h0) : INV (ZF h0) := by
  have Y := inv0_lay b
  obtain ⟨B, f, _⟩ := b
  have n : hN (ZF h0) = 173 := zNn B (by decide +kernel)
  have F : FRSH (ZF h0) := ⟨by omega, fun a z1 z2 => (congrArg Prod.fst (zup B (by omega)).1).trans (f a z2)⟩
  refine ⟨Y, F, ⟨4, ⟨Or.inl ⟨rfl, zR B (by decide +kernel)⟩, zR B (by decide +kernel)⟩, Or.inl ?_⟩, ?_⟩
  · refine ⟨zI B (by decide +kernel), zI B (by decide +kernel), zI B (by decide +kernel), zI B (by decide +kernel), zI B (by decide +kernel), zI B (by decide +kernel), zI B (by decide +kernel), ⟨none, zR B (by decide +kernel), zI B (by decide +kernel)⟩, fun _ => 0, fun _ => 0, fun _ => 0, fun _ => 0, fun _ => 0, fun _ => 0, 0, ⟨?_, ?_, ?_, ?_⟩, ?_, ?_, ?_, ?_, ?_, zI B (by decide +kernel), by decide⟩
    · exact (zrow B (by decide +kernel)).trans nR0
    · exact (zrow B (by decide +kernel)).trans nR0
    · exact (zrow B (by decide +kernel)).trans nR0
    · exact (zrow B (by decide +kernel)).trans nR0
    · exact (zrow B (by decide +kernel)).trans nR0
    · unfold BV; and_intros <;> first | exact Or.inr (by decide) | decide | (intro i _; decide)
    · unfold MR; and_intros <;> first | rfl | (intro i _; simp)
    · unfold LB; and_intros <;> first | rfl | (intro i z; exact absurd z (by simp))
    · exact (zrow B (by decide +kernel)).trans nR0
  · have e15 : hI (ZF h0) 0 15 = -1 := zI B (by decide +kernel)
    have e34 : hI (ZF h0) 147 34 = -1 := zI B (by decide +kernel)
    have e18 : hI (ZF h0) 0 18 = 2 := zI B (by decide +kernel)
    have e35 : hI (ZF h0) 147 35 = 2 := zI B (by decide +kernel)
    refine ⟨⟨0, ⟨(ly_LXa Y).2.2.2.2.2.2.2.2.2.1, zI B (by decide +kernel), zI B (by decide +kernel), by omega, e15.trans e34.symm, fun i z => absurd z (by omega)⟩, Or.inl e34⟩, ⟨0, fun _ => 0, by omega, zI B (by decide +kernel), zI B (by decide +kernel), fun p z => absurd z (by omega)⟩, ⟨0, fun _ => 0, fun _ => 0, by omega, zI B (by decide +kernel), zI B (by decide +kernel), zL B (by decide +kernel), zL B (by decide +kernel), fun p z => absurd z (by omega)⟩, ⟨0, fun _ => 0, fun _ => 0, fun _ => 0, by omega, zI B (by decide +kernel), zI B (by decide +kernel), fun p z => absurd z (by omega)⟩, Or.inl ⟨zI B (by decide +kernel), zI B (by decide +kernel)⟩, e18.trans e35.symm, ⟨105, 106, zR B (by decide +kernel), zR B (by decide +kernel), Or.inl ⟨rfl, rfl⟩, ⟨zK B (by decide +kernel), zE B (by decide +kernel)⟩, ⟨zK B (by decide +kernel), zE B (by decide +kernel)⟩⟩, ⟨0, by omega, zI B (by decide +kernel), zI B (by decide +kernel), fun i z => absurd z (by omega)⟩⟩
