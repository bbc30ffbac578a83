/-! ===== inside String ===== -/
def o_sval (nx : Nat) : Op := fun k ls st h => match st with
  | .inr (.inr r) :: st' => dR r (fun a => if hK h a = 40 then k nx ls (vR (some (a + 100)) :: st') h else none)
  | _ => none
def o_scod (nx : Nat) : Op := fun k ls st h => match st with
  | .inr (.inr r) :: st' => dR r (fun a => if hK h a = 40 then k nx ls (vI 0 :: st') h else none)
  | _ => none
def o_fmt (nx : Nat) : Op := fun k ls st h => bif Nat.beq (hK h (PRE + 60)) 50 then k nx ls (vR (some (PRE + 60)) :: st) h else (bif Nat.beq (hK h (PRE + 60)) 51 then k nx ls (vR none :: st) h else none)
def o_baldP (nx : Nat) : Op := fun k ls st h => match st with
  | .inl i :: .inr (.inr r) :: st' => dR r (fun a => bif Nat.beq (hK h a) 27 && inb i (hE h a) then k nx ls (vI (hI h a i.toNatClampNeg) :: st') h else none)
  | _ => none
def o_alenP (nx : Nat) : Op := fun k ls st h => match st with
  | .inr (.inr r) :: st' => dR r (fun a => bif Nat.beq (hK h a) 27 then k nx ls (vI (Int32.ofNat (hE h a)) :: st') h else none)
  | _ => none
def o_i2c (nx : Nat) : Op := fun k ls st h => match st with
  | .inl x :: st' => k nx ls (vI (x.toUInt32 % 65536).toInt32 :: st') h
  | _ => none
def isN (ty : FieldType) (x : Int32) : Bool := decide (narrow ty (.int x) = .int x)
def o_nret (ty : FieldType) : Op := fun _ _ st h => match st with
  | [.inl x] => bif isN ty x then some (rI x, h) else none
  | _ => none
theorem pr_sval (nx : Nat) : Pr (o_sval nx) := by
  intro k ls st h o ho
  unfold o_sval at ho
  split at ho
  · obtain ⟨a, rfl, hz⟩ := dR_out ho
    split at hz
    · rename_i hc
      refine Or.inr ⟨_, _, _, _, hz, ⟨Nat.le_refl _, Nat.le_refl _⟩, fun k' hk => ?_⟩
      show (if hK h a = 40 then _ else none) = some o
      rw [if_pos hc]
      exact hk
    · cases hz
  · cases ho
theorem pr_scod (nx : Nat) : Pr (o_scod nx) := by
  intro k ls st h o ho
  unfold o_scod at ho
  split at ho
  · obtain ⟨a, rfl, hz⟩ := dR_out ho
    split at hz
    · rename_i hc
      refine Or.inr ⟨_, _, _, _, hz, ⟨Nat.le_refl _, Nat.le_refl _⟩, fun k' hk => ?_⟩
      show (if hK h a = 40 then _ else none) = some o
      rw [if_pos hc]
      exact hk
    · cases hz
  · cases ho
theorem pr_fmt (nx : Nat) : Pr (o_fmt nx) := by
  intro k ls st h o ho
  unfold o_fmt at ho
  cases hx : Nat.beq (hK h (PRE + 60)) 50 with
  | true =>
    rw [hx] at ho
    refine Or.inr ⟨_, _, _, _, ho, ⟨Nat.le_refl _, Nat.le_refl _⟩, fun k' hk => ?_⟩
    unfold o_fmt
    rw [hx]
    exact hk
  | false =>
    rw [hx] at ho
    cases hy : Nat.beq (hK h (PRE + 60)) 51 with
    | false => rw [hy] at ho; cases ho
    | true =>
      rw [hy] at ho
      refine Or.inr ⟨_, _, _, _, ho, ⟨Nat.le_refl _, Nat.le_refl _⟩, fun k' hk => ?_⟩
      unfold o_fmt
      rw [hx, hy]
      exact hk
theorem pr_baldP (nx : Nat) : Pr (o_baldP nx) := by
  intro k ls st h o ho
  unfold o_baldP at ho
  split at ho
  · rename_i i r st'
    obtain ⟨a, rfl, hz⟩ := dR_out ho
    cases hx : (Nat.beq (hK h a) 27 && inb i (hE h a)) with
    | false => rw [hx] at hz; cases hz
    | true =>
      rw [hx] at hz
      refine Or.inr ⟨_, _, _, _, hz, ⟨Nat.le_refl _, Nat.le_refl _⟩, fun k' hk => ?_⟩
      show (bif (Nat.beq (hK h a) 27 && inb i (hE h a)) then _ else none) = some o
      rw [hx]
      exact hk
  · cases ho
theorem pr_alenP (nx : Nat) : Pr (o_alenP nx) := by
  intro k ls st h o ho
  unfold o_alenP at ho
  split at ho
  · rename_i r st'
    obtain ⟨a, rfl, hz⟩ := dR_out ho
    cases hx : Nat.beq (hK h a) 27 with
    | false => rw [hx] at hz; cases hz
    | true =>
      rw [hx] at hz
      refine Or.inr ⟨_, _, _, _, hz, ⟨Nat.le_refl _, Nat.le_refl _⟩, fun k' hk => ?_⟩
      show (bif Nat.beq (hK h a) 27 then _ else none) = some o
      rw [hx]
      exact hk
  · cases ho
theorem pr_i2c (nx : Nat) : Pr (o_i2c nx) := by
  intro k ls st h o ho
  unfold o_i2c at ho
  split at ho
  · exact Or.inr ⟨_, _, _, _, ho, ⟨Nat.le_refl _, Nat.le_refl _⟩, fun k' hk => hk⟩
  · cases ho
theorem pr_nret (ty : FieldType) : Pr (o_nret ty) := by
  intro k ls st h o ho
  refine Or.inl ⟨fun _ => ho, ?_⟩
  unfold o_nret at ho
  split at ho
  · rename_i x
    cases hx : isN ty x with
    | false => rw [hx] at ho; cases ho
    | true => rw [hx] at ho; cases ho; exact ⟨Nat.le_refl _, Nat.le_refl _⟩
  · cases ho
section
variable {bytes : ByteArray} {own : String} {nL : Nat} {ret : Option FieldType} {isI : Bool} {dF dL : Nat} {pc : Nat}
theorem adr_pre (b : Nat) (pre : Nat → Nat) {a : Nat} (h : PRE ≤ a) : adr b pre a = pre (a - PRE) := by unfold adr; rw [if_neg (by omega)]
theorem so_sval {idx : Nat} (hw : Cond.fieldLink own idx "java/lang/String" "value" "[B" ∈ bigW) (hdg : decode bytes pc = .ok (.getfield idx, 3)) : SoundOp bytes own nL ret isI dF dL pc (o_sval (pc + 3)) := by
  intro p l e R s m args below meth c0 b D cy pre n0 s0 out C hp k hk ls st h ho
  unfold o_sval at ho
  split at ho
  · rename_i r st'
    obtain ⟨a, rfl, hz⟩ := dR_out ho
    clear ho
    split at hz
    · rename_i hka
      obtain ⟨g1, g2, g3, g⟩ := hk _ _ _ _ hz
      refine ⟨g1, g2, g3, fun H locs cells slots lsM a1 a2 a3 a4 a5 a6 => ?_⟩
      have kk := g H locs cells slots lsM a1 a2 a3 a4 a5 a6
      obtain ⟨hge, -, ⟨cf, kf, fi, f, cell, h1, h2, h3, h4, h5, h6⟩, -⟩ := (a1.2.2 a).2.2.2.2.2.1 hka
      show W p l e R s m args below meth c0 H locs cells slots _ (F0 m pc lsM (.ref (adr b pre a) :: List.map (trV (adr b pre)) st'))
      rw [adr_pre b pre hge]
      refine W.getf C.1 C.2.1 C.2.2.2.1 (C.2.2.2.2.1 _ hw) h1 h2 h3 h4 h5 rfl rfl hdg ?_
      have e1 : adr b pre (a + 100) = pre (a - PRE + 100) := by
        have e2 : a + 100 - PRE = a - PRE + 100 := by omega
        rw [adr_pre b pre (by omega), e2]
      simpa [trV, va_rf, e1] using kk
    · cases hz
  · cases ho
theorem so_scod {idx : Nat} (hw : Cond.fieldLink own idx "java/lang/String" "coder" "B" ∈ bigW) (hdg : decode bytes pc = .ok (.getfield idx, 3)) : SoundOp bytes own nL ret isI dF dL pc (o_scod (pc + 3)) := by
  intro p l e R s m args below meth c0 b D cy pre n0 s0 out C hp k hk ls st h ho
  unfold o_scod at ho
  split at ho
  · rename_i r st'
    obtain ⟨a, rfl, hz⟩ := dR_out ho
    clear ho
    split at hz
    · rename_i hka
      obtain ⟨g1, g2, g3, g⟩ := hk _ _ _ _ hz
      refine ⟨g1, g2, g3, fun H locs cells slots lsM a1 a2 a3 a4 a5 a6 => ?_⟩
      have kk := g H locs cells slots lsM a1 a2 a3 a4 a5 a6
      obtain ⟨hge, -, -, ⟨cf, kf, fi, f, cell, h1, h2, h3, h4, h5, h6⟩⟩ := (a1.2.2 a).2.2.2.2.2.1 hka
      show W p l e R s m args below meth c0 H locs cells slots _ (F0 m pc lsM (.ref (adr b pre a) :: List.map (trV (adr b pre)) st'))
      rw [adr_pre b pre hge]
      exact W.getf C.1 C.2.1 C.2.2.2.1 (C.2.2.2.2.1 _ hw) h1 h2 h3 h4 h5 rfl rfl hdg kk
    · cases hz
  · cases ho
theorem so_gcomp {idx : Nat} (hw : Cond.fieldLink own idx "java/lang/String" "COMPACT_STRINGS" "Z" ∈ bigW) (hdg : decode bytes pc = .ok (.getstatic idx, 3)) : SoundOp bytes own nL ret isI dF dL pc (o_ic 1 (pc + 3)) := by
  intro p l e R s m args below meth c0 b D cy pre n0 s0 out C hp k hk ls st h ho
  unfold o_ic at ho
  obtain ⟨g1, g2, g3, g⟩ := hk _ _ _ _ ho
  refine ⟨g1, g2, g3, fun H locs cells slots lsM a1 a2 a3 a4 a5 a6 => ?_⟩
  obtain ⟨cf, kf, fi, f, a, cell, h1, h2, h3, h4, h5, h6, h7, h8⟩ := C.2.2.2.2.2.2.2.2.2.2.2.2.2.2.2.2.2.2
  have ha : H[a]? = some cell := by rw [a2 a (by omega)]; exact h5
  exact W.gets C.1 C.2.1 C.2.2.2.1 (C.2.2.2.2.1 _ hw) h1 h2 h3 h4 ha (fun e => by rw [e] at h6; cases h6) h7 rfl hdg (g H locs cells slots lsM a1 a2 a3 a4 a5 a6)
theorem so_fmt {idx : Nat} (hw : Cond.fieldLink own idx "jdk/internal/util/Preconditions" "SIOOBE_FORMATTER" "Ljava/util/function/BiFunction;" ∈ bigW) (hdg : decode bytes pc = .ok (.getstatic idx, 3)) : SoundOp bytes own nL ret isI dF dL pc (o_fmt (pc + 3)) := by
  intro p l e R s m args below meth c0 b D cy pre n0 s0 out C hp k hk ls st h ho
  unfold o_fmt at ho
  cases hx : Nat.beq (hK h (PRE + 60)) 50 with
  | true =>
    rw [hx] at ho
    obtain ⟨g1, g2, g3, g⟩ := hk _ _ _ _ ho
    refine ⟨g1, g2, g3, fun H locs cells slots lsM a1 a2 a3 a4 a5 a6 => ?_⟩
    obtain ⟨hge, cf, kf, fi, f, a, cell, h1, h2, h3, h4, h5, h6, h7, h8⟩ := (a1.2.2 (PRE + 60)).2.2.2.2.2.2.2.1 (Nat.eq_of_beq_eq_true hx)
    have kk := g H locs cells slots lsM a1 a2 a3 a4 a5 a6
    refine W.gets C.1 C.2.1 C.2.2.2.1 (C.2.2.2.2.1 _ hw) h1 h2 h3 h4 h5 (fun e => by rw [e] at h6; cases h6) h7 rfl hdg ?_
    simpa [trV, va_rf, adr_pre b pre hge] using kk
  | false =>
    rw [hx] at ho
    cases hy : Nat.beq (hK h (PRE + 60)) 51 with
    | false => rw [hy] at ho; cases ho
    | true =>
      rw [hy] at ho
      obtain ⟨g1, g2, g3, g⟩ := hk _ _ _ _ ho
      refine ⟨g1, g2, g3, fun H locs cells slots lsM a1 a2 a3 a4 a5 a6 => ?_⟩
      obtain ⟨cf, kf, fi, f, a, cell, h1, h2, h3, h4, h5, h6, h7, h8⟩ := (a1.2.2 (PRE + 60)).2.2.2.2.2.2.2.2 (Nat.eq_of_beq_eq_true hy)
      exact W.gets C.1 C.2.1 C.2.2.2.1 (C.2.2.2.2.1 _ hw) h1 h2 h3 h4 h5 (fun e => by rw [e] at h6; cases h6) h7 rfl hdg (g H locs cells slots lsM a1 a2 a3 a4 a5 a6)
theorem so_baldP (hdg : decode bytes pc = .ok (.baload, 1)) : SoundOp bytes own nL ret isI dF dL pc (o_baldP (pc + 1)) := by
  intro p l e R s m args below meth c0 b D cy pre n0 s0 out C hp k hk ls st h ho
  unfold o_baldP at ho
  split at ho
  · rename_i i r st'
    obtain ⟨a, rfl, hz⟩ := dR_out ho
    clear ho
    cases hb : (Nat.beq (hK h a) 27 && inb i (hE h a)) with
    | false => rw [hb] at hz; cases hz
    | true =>
      rw [hb] at hz
      obtain ⟨b1, b2⟩ := Bool.and_eq_true_iff.mp hb
      have hi := inb_in b2
      have z := Nat.eq_of_beq_eq_true b1
      obtain ⟨g1, g2, g3, g⟩ := hk _ _ _ _ hz
      refine ⟨g1, g2, g3, fun H locs cells slots lsM a1 a2 a3 a4 a5 a6 => ?_⟩
      have kk := g H locs cells slots lsM a1 a2 a3 a4 a5 a6
      show W p l e R s m args below meth c0 H locs cells slots _ (F0 m pc lsM (.int i :: .ref (adr b pre a) :: List.map (trV (adr b pre)) st'))
      obtain ⟨hge, cell, h1, h2, h3, h4, h5, h6, h7⟩ := (a1.2.2 a).2.2.2.2.2.2.1 z
      rw [adr_pre b pre hge]
      refine W.bald (v := .int (hI h a i.toNatClampNeg)) C.1 C.2.1 h1 h2 h3 ?_ (h6 _ (inb_lt hi)) rfl rfl hdg kk
      rintro (q | q)
      · exact hi (Or.inl q)
      · have := inb_lt hi; omega
  · cases ho
theorem so_alenP (hdg : decode bytes pc = .ok (.arraylength, 1)) : SoundOp bytes own nL ret isI dF dL pc (o_alenP (pc + 1)) := by
  intro p l e R s m args below meth c0 b D cy pre n0 s0 out C hp k hk ls st h ho
  unfold o_alenP at ho
  split at ho
  · rename_i r st'
    obtain ⟨a, rfl, hz⟩ := dR_out ho
    clear ho
    cases hb : Nat.beq (hK h a) 27 with
    | false => rw [hb] at hz; cases hz
    | true =>
      rw [hb] at hz
      have z := Nat.eq_of_beq_eq_true hb
      obtain ⟨g1, g2, g3, g⟩ := hk _ _ _ _ hz
      refine ⟨g1, g2, g3, fun H locs cells slots lsM a1 a2 a3 a4 a5 a6 => ?_⟩
      have kk := g H locs cells slots lsM a1 a2 a3 a4 a5 a6
      show W p l e R s m args below meth c0 H locs cells slots _ (F0 m pc lsM (.ref (adr b pre a) :: List.map (trV (adr b pre)) st'))
      obtain ⟨hge, cell, h1, h2, h3, h4, h5, h6, h7⟩ := (a1.2.2 a).2.2.2.2.2.2.1 z
      rw [adr_pre b pre hge]
      exact W.alen (n := Int32.ofNat (hE h a)) C.1 C.2.1 h1 h2 h5 rfl rfl hdg kk
  · cases ho
theorem so_i2c (hdg : decode bytes pc = .ok (.i2c, 1)) : SoundOp bytes own nL ret isI dF dL pc (o_i2c (pc + 1)) := by
  intro p l e R s m args below meth c b D cy pre n0 s0 out C hp k hk ls st h ho
  unfold o_i2c at ho
  split at ho
  · obtain ⟨g1, g2, g3, g⟩ := hk _ _ _ _ ho
    exact ⟨g1, g2, g3, fun H locs cells slots lsM a1 a2 a3 a4 a5 a6 => lv_i2c C.1 C.2.1 hdg rfl (g H locs cells slots lsM a1 a2 a3 a4 a5 a6)⟩
  · cases ho
theorem so_nret {ty : FieldType} (hty : ty = .char ∨ ty = .byte) (hdg : decode bytes pc = .ok (.ireturn, 1)) (hr : ret = some ty) : SoundOp bytes own nL ret isI dF dL pc (o_nret ty) := by
  subst hr
  intro p l e R s m args below meth c b D cy pre n0 s0 out C hp k hk ls st h ho
  unfold o_nret at ho
  split at ho
  · rename_i x
    cases hx : isN ty x with
    | false => rw [hx] at ho; cases ho
    | true =>
      rw [hx] at ho
      cases ho
      refine ⟨Nat.le_refl _, Nat.le_refl _, hp, fun H locs cells slots lsM a1 a2 a3 a4 a5 a6 => ?_⟩
      have e1 : hN h - n0 = cells := by omega
      have e2 : hS h - s0 = slots := by omega
      dsimp only
      rw [e1, e2]
      exact W.zret C.1 C.2.1 C.2.2.2.2.2.2.2.2.2.2.2.2.1 (of_decide_eq_true hx) (fun t ht hw => ⟨by rcases hty with rfl | rfl <;> rfl, by rw [ht]; exact a1.moved hw.alike, va_K.moved hw.alike C.2.2.2.2.2.2.1, fun q hq => by rw [ht]; exact a2 q hq⟩) a3 hdg C.2.2.2.2.2.1
  · cases ho
/-- a method of String -/
theorem so_invS {na idx nLY fr lo rk : Nat} {y : MethodName} {bytesY : ByteArray} {retY : Option FieldType} {F : List EV → Hp → Option (RV × Hp)} (hF : Con y bytesY nLY retY fr lo F) (hrk : rkOf retY = rk)
    (w1 : Cond.methodLink own idx y ∈ bigW) (w2 : Cond.instanceMethod y ∈ bigW) (w3 : Cond.selects "java/lang/String" y y ∈ bigW) (w4 : Cond.initialized "java/lang/String" ∈ bigW) (w5 : Cond.code y bytesY nLY retY ∈ bigW)
    (hd : y.cls = "java/lang/String" ∧ y.cls ≠ "java/lang/invoke/MethodHandle" ∧ y.cls ≠ "java/lang/invoke/VarHandle" ∧ (parseMethodDescriptor y.desc).map (fun d => d.parameters.length) = some na) (hR1 : fr + 1 ≤ dF) (hR2 : 8 + (nLY + 11) + lo ≤ dL)
    (hdg : decode bytes pc = .ok (.invokevirtual idx, 3)) : SoundOp bytes own nL ret isI dF dL pc (o_inv na 40 rk F (pc + 3)) := by
  subst hrk
  intro p l e R s m args below meth c0 b D cy pre n0 s0 out C hp k hk ls st h ho
  unfold o_inv at ho
  split at ho
  · rename_i r st' hst
    obtain ⟨a, rfl, hz⟩ := dR_out ho
    clear ho
    cases hb : (Nat.beq (hK h a) 40 && Nat.ble (catS st') 8) with
    | false => rw [hb] at hz; cases hz
    | true =>
      rw [hb] at hz
      obtain ⟨b1, b2⟩ := Bool.and_eq_true_iff.mp hb
      have z := Nat.eq_of_beq_eq_true b1
      have hcat := Nat.le_of_ble_eq_true b2
      obtain ⟨r1, h1, hF1, hk1⟩ := oB_out hz
      have g := hk _ _ _ _ hk1
      have hlt1 : hN h1 < PRE := Nat.lt_of_le_of_lt g.1 hp
      obtain ⟨f1, f2, hM⟩ := hF l b D cy pre _ h (r1, h1) hF1 hlt1
      dsimp only at f1 f2 hM
      refine ⟨Nat.le_trans f1 g.1, Nat.le_trans f2 g.2.1, hp, fun H locs cells slots lsM a1 a2 a3 a4 a5 a6 => ?_⟩
      have hts := C.2.2.2.2.1
      have hRc := C.2.2.2.2.2.2.2.2.1
      have hRs := C.2.2.2.2.2.2.2.2.2.1
      have hRf := C.2.2.2.2.2.2.2.2.2.2.1
      have hRl := C.2.2.2.2.2.2.2.2.2.2.2.1
      have hg1 := g.1
      have hg2 := g.2.1
      obtain ⟨hge, ⟨cell, q1, q2, q3, -⟩, -⟩ := (a1.2.2 a).2.2.2.2.2.1 z
      have hlen : (st.take na).length = na := by
        have : na < st.length := by
          rcases Nat.lt_or_ge na st.length with q | q
          · exact q
          · rw [List.drop_eq_nil_of_le q] at hst; cases hst
        rw [List.length_take]; omega
      have hsplit : st.map (trV (adr b pre)) = ((st.take na).reverse.map (trV (adr b pre))).reverse ++ .ref (adr b pre a) :: st'.map (trV (adr b pre)) := by
        conv => lhs; rw [← List.take_append_drop na st, hst]
        simp [trV, va_rf]
      refine w_back (out1 := (r1, h1)) (retY := retY) (h := h) (st' := st') C g ⟨f1, f2⟩ (va_runV (b := adr b pre a) (As := (st.take na).reverse.map (trV (adr b pre))) ⟨C.1, C.2.1, C.2.2.1, C.2.2.2.1, hts⟩ hM (cwV na hts (big_call' ?_) rfl rfl rfl hd ⟨by dsimp only; omega, by dsimp only; omega⟩) ⟨Pin.blind, ⟨cell, by rw [adr_pre b pre hge]; exact q1, q2, q3⟩, fun U hU hW => ⟨?_, by rw [hU]; exact a1.moved hW.alike, va_K.moved hW.alike C.2.2.2.2.2.2.1, C.2.2.2.2.2.2.2.2.2.2.2.2.2.2.moved hU hW a2⟩⟩ rfl ?_ a6.1 hsplit ?_ hdg ⟨by dsimp only; omega, by dsimp only; omega⟩) a2 a3 a4 a5 a6
      · intro w hw
        unfold wsV at hw
        rcases List.mem_append.mp hw with hw | hw
        · simp only [List.mem_cons, List.not_mem_nil, or_false] at hw
          rcases hw with rfl | rfl | rfl | rfl
          · exact w1
          · exact w2
          · exact w3
          · exact w4
        · rcases List.mem_cons.mp hw with rfl | hw
          · exact w5
          · exact hw
      · simp [trV, va_rf]
      · rw [List.length_map, List.length_reverse, hlen]
      · refine lv_room ?_
        rw [catS_sum]; exact hcat
  · cases ho
end
