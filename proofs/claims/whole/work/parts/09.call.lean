/-! ===== contracts of methods by functions, calls ===== -/
def Pin (b : Nat) (D : va_G) (cy : Nat → ClassId) (pre : Nat → Nat) (as : List EV) (h : Hp) : Array Value → State → Prop := fun v U =>
  v = (as.map (trV (adr b pre))).toArray ∧ Hold b D cy pre h U U.heap ∧ va_K D vwCl (tysL cy) U ∧ Ss b pre U
theorem Ss.moved {b : Nat} {pre : Nat → Nat} {s U : State} {H : Heap} (h : Ss b pre s) (hU : U.heap = H) (hW : s.WarmedH U.vm) (hq : ∀ q, q < b → H[q]? = s.heap[q]?) : Ss b pre U := by
  refine ⟨fun j hj => ?_, fun j hj => (h.2.1 j hj).warm hW, fun j hj => (h.2.2.1 j hj).warmM hW, fun c hc => (h.2.2.2.1 c hc).moved hW.alike, ?_⟩
  · have h1 := (h.1 j hj).moved hW.alike
    rw [hU]
    exact h1.kept (fun a _ ha => hq a (by omega))
  · have h1 := h.2.2.2.2.moved hW.alike
    rw [hU]
    exact h1.kept (fun a _ ha => hq a (by omega))
theorem Pin.blind {b : Nat} {D : va_G} {cy : Nat → ClassId} {pre : Nat → Nat} {as : List EV} {h : Hp} : FrameBlind (Pin b D cy pre as h) := by
  intro a U g mk q
  obtain ⟨q0, q1, q2, q3, q4, q5, q6, q7⟩ := q
  refine ⟨q0, ?_, va_K.moved (u := U) (U := U.calling g mk a) (Vm.Alike.refl U.vm) q2, fun j hj => ?_, fun j hj => (q4 j hj).same rfl, fun j hj => (q5 j hj).same rfl rfl, fun c hc => va_AO.moved (u := U) (U := U.calling g mk a) (Vm.Alike.refl U.vm) (q6 c hc), va_Z.moved (u := U) (U := U.calling g mk a) (Vm.Alike.refl U.vm) q7⟩
  · exact Hold.moved (u := U) (U := U.calling g mk a) (Vm.Alike.refl U.vm) q1
  · exact va_Z.moved (u := U) (U := U.calling g mk a) (Vm.Alike.refl U.vm) (q3 j hj)
/-- a method does what F says; with so many frames and locals below it -/
def Con (y : MethodName) (bytes : ByteArray) (nL : Nat) (ret : Option FieldType) (fr lo : Nat) (F : List EV → Hp → Option (RV × Hp)) : Prop :=
  ∀ (l : Launch) (b : Nat) (D : va_G) (cy : Nat → ClassId) (pre : Nat → Nat) (as : List EV) (h : Hp) (out : RV × Hp), F as h = some out → hN out.2 < PRE → hN h ≤ hN out.2 ∧ hS h ≤ hS out.2 ∧
    Met l y (Cond.code y bytes nL ret :: bigW) { frames := fr, cells := hN out.2 - hN h, slots := hS out.2 - hS h, locals := lo } (Pin b D cy pre as h) (Qh ret b D cy pre out) (hN out.2 - hN h) (hS out.2 - hS h) (fun q => b ≤ q)
def oB {α : Type} (o : Option (RV × Hp)) (f : RV → Hp → Option α) : Option α := match o with
  | none => none
  | some (r, h) => f r h
theorem oB_some {α : Type} (r : RV) (h : Hp) (f : RV → Hp → Option α) : oB (some (r, h)) f = f r h := rfl
theorem oB_out {α : Type} {o : Option (RV × Hp)} {f : RV → Hp → Option α} {x : α} (h : oB o f = some x) : ∃ r h1, o = some (r, h1) ∧ f r h1 = some x := by
  cases o with
  | none => cases h
  | some q => exact ⟨q.1, q.2, rfl, h⟩
def push (rk : Nat) (r : RV) (st : List EV) : List EV := match rk with
  | 0 => st
  | 1 => vI r.1 :: st
  | 2 => vL r.2.1 :: st
  | _ => vR r.2.2 :: st
def rkOf (ret : Option FieldType) : Nat := match ret with
  | none => 0
  | some .long => 2
  | some (.object _) => 3
  | some (.array _) => 3
  | some _ => 1
theorem push_ret (ret : Option FieldType) (ad : Nat → Nat) (r : RV) (st : List EV) : (retV ret ad r).toList ++ st.map (trV ad) = (push (rkOf ret) r st).map (trV ad) := by
  cases ret with
  | none => rfl
  | some ty => cases ty <;> rfl
def catS (st : List EV) : Nat := match st with
  | [] => 0
  | .inr (.inl _) :: r => catS r + 2
  | _ :: r => catS r + 1
theorem catS_sum (ad : Nat → Nat) : ∀ st : List EV, ((st.map (trV ad)).map fun v => v.category).sum = catS st
  | [] => rfl
  | .inl x :: r => by
    show 1 + ((r.map (trV ad)).map fun v => v.category).sum = catS r + 1
    rw [catS_sum ad r]; omega
  | .inr (.inl x) :: r => by
    show 2 + ((r.map (trV ad)).map fun v => v.category).sum = catS r + 2
    rw [catS_sum ad r]; omega
  | .inr (.inr x) :: r => by
    show (va_rf (x.map ad)).category + ((r.map (trV ad)).map fun v => v.category).sum = catS r + 1
    rw [catS_sum ad r, cat_rf]; omega
theorem big_call {x : Cond} {ws : List Cond} (h : ∀ w ∈ ws, w ∈ bigW) : GoodIn (x :: bigW) ws := fun w hw => ⟨List.mem_cons_of_mem _ (h w hw), big_good (h w hw)⟩
theorem big_call' {ws : List Cond} (h : ∀ w ∈ ws, w ∈ bigW) : GoodIn bigW ws := fun w hw => ⟨h w hw, big_good (h w hw)⟩
/-- behind a call: what Qh says goes on -/
theorem w_back {bytes : ByteArray} {own : String} {nL : Nat} {ret retY : Option FieldType} {isI : Bool} {dF dL : Nat} {p : Program} {l : Launch} {e : Env} {R : Room} {s : State} {m : MethodId} {args : Array Value} {below : List Frame} {meth : Method} {c0 : Code} {b : Nat} {D : va_G} {cy : Nat → ClassId} {pre : Nat → Nat} {n0 s0 : Nat} {out out1 : RV × Hp} {h : Hp} {H : Heap} {locs : List Loc} {cells slots pc : Nat} {lsM : Array Slot} {ls : List (Option EV)} {st0 : List Value} {st' : List EV} {av : Array Value}
    (C : Cx bytes own nL ret isI dF dL p R s m args meth c0 b D cy pre n0 s0 out)
    (g : Wg ret nL p l e R s m args below meth c0 b D cy pre n0 s0 out (pc + 3) ls (push (rkOf retY) out1.1 st') out1.2) (hle : hN h ≤ hN out1.2 ∧ hS h ≤ hS out1.2)
    (hr : va_Run p l e R s m args below meth c0 H locs cells slots (hN out1.2 - hN h) (hS out1.2 - hS h) (F0 m pc lsM st0) (st'.map (trV (adr b pre))) (Qh retY b D cy pre out1 av) (fun q => b ≤ q))
    (a2 : ∀ q, q < b → H[q]? = s.heap[q]?) (a3 : ∀ q ∈ locs, b ≤ q.base) (a4 : cells + n0 = hN h) (a5 : slots + s0 = hS h) (a6 : LvR (adr b pre) lsM nL ls) :
    W p l e R s m args below meth c0 H locs cells slots (MQ below (Qh ret b D cy pre out) args s (hN out.2 - n0) (hS out.2 - s0) (fun q => b ≤ q)) (F0 m pc lsM st0) := by
  obtain ⟨g1, g2, g3, g⟩ := g
  intro T hT X
  obtain ⟨v, st₀, t, T', L, h0, X', hL, e1, e2, ⟨hv, hH, hKt, hfr⟩, stp⟩ := hr T hT X
  cases hv
  have hal : s.vm.Alike t.vm := by rw [← e2]; exact X'.warmed.alike
  have := g T'.heap (locs ++ L) (cells + (hN out1.2 - hN h)) (slots + (hS out1.2 - hS h)) lsM (by rw [e1]; exact hH.moved hal.symm) (fun q hq => by rw [e1, hfr q hq, h0]; exact a2 q hq) (fun q hq => by
      rcases List.mem_append.mp hq with z | z
      · exact a3 q z
      · exact hL q z) (by omega) (by omega) a6 T' rfl X'
  obtain ⟨t2, u1, u2⟩ := this
  rw [← push_ret] at u1
  exact ⟨t2, stp t2 u1, u2⟩
section
variable {bytes : ByteArray} {own : String} {nL : Nat} {ret : Option FieldType} {isI : Bool} {dF dL : Nat} {pc : Nat}
def o_inv (na c rk : Nat) (F : List EV → Hp → Option (RV × Hp)) (nx : Nat) : Op := fun k ls st h => match st.drop na with
  | .inr (.inr r) :: st' => dR r (fun a => bif Nat.beq (hK h a) c && Nat.ble (catS st') 8 then oB (F (vR (some a) :: (st.take na).reverse) h) (fun r h1 => k nx ls (push rk r st') h1) else none)
  | _ => none
def o_ist (na rk : Nat) (F : List EV → Hp → Option (RV × Hp)) (nx : Nat) : Op := fun k ls st h =>
  bif Nat.ble na st.length && Nat.ble (catS (st.drop na)) 8 then oB (F ((st.take na).reverse) h) (fun r h1 => k nx ls (push rk r (st.drop na)) h1) else none
theorem so_inv {na c idx nLY fr lo rk : Nat} {y : MethodName} {bytesY : ByteArray} {retY : Option FieldType} {F : List EV → Hp → Option (RV × Hp)} (hF : Con y bytesY nLY retY fr lo F) (hc : c < 13) (hrk : rkOf retY = rk)
    (w1 : Cond.methodLink own idx y ∈ bigW) (w2 : Cond.instanceMethod y ∈ bigW) (w3 : Cond.selects (clR c) y y ∈ bigW) (w4 : Cond.initialized (clR c) ∈ bigW) (w5 : Cond.code y bytesY nLY retY ∈ bigW)
    (hd : y.cls = clR c ∧ y.cls ≠ "java/lang/invoke/MethodHandle" ∧ y.cls ≠ "java/lang/invoke/VarHandle" ∧ (parseMethodDescriptor y.desc).map (fun d => d.parameters.length) = some na) (hR1 : fr + 1 ≤ dF) (hR2 : 8 + (nLY + 11) + lo ≤ dL)
    (hdg : decode bytes pc = .ok (.invokevirtual idx, 3)) : SoundOp bytes own nL ret isI dF dL pc (o_inv na c rk F (pc + 3)) := by
  subst hrk
  intro p l e R s m args below meth c0 b D cy pre n0 s0 out C hp k hk ls st h ho
  unfold o_inv at ho
  split at ho
  · rename_i r st' hst
    obtain ⟨a, rfl, hz⟩ := dR_out ho
    clear ho
    cases hb : (Nat.beq (hK h a) c && Nat.ble (catS st') 8) with
    | false => rw [hb] at hz; cases hz
    | true =>
      rw [hb] at hz
      obtain ⟨b1, b2⟩ := Bool.and_eq_true_iff.mp hb
      have z := Nat.eq_of_beq_eq_true b1
      have hcat := Nat.le_of_ble_eq_true b2
      obtain ⟨r1, h1, hF1, hk1⟩ := oB_out hz
      have g := hk _ _ _ _ hk1
      have hlt1 : hN h1 < PRE := Nat.lt_of_le_of_lt g.1 hp
      obtain ⟨f1, f2, hM⟩ := hF l b D cy pre _ h (r1, h1) hF1 hlt1
      dsimp only at f1 f2 hM
      refine ⟨Nat.le_trans f1 g.1, Nat.le_trans f2 g.2.1, hp, fun H locs cells slots lsM a1 a2 a3 a4 a5 a6 => ?_⟩
      have hts := C.2.2.2.2.1
      have hRc := C.2.2.2.2.2.2.2.2.1
      have hRs := C.2.2.2.2.2.2.2.2.2.1
      have hRf := C.2.2.2.2.2.2.2.2.2.2.1
      have hRl := C.2.2.2.2.2.2.2.2.2.2.2.1
      have hg1 := g.1
      have hg2 := g.2.1
      obtain ⟨hlt, cell, q1, q2, q3, -⟩ := (a1.2.2 a).1 (by rw [z]; exact hc)
      rw [z] at q2
      have hcls := (C.2.2.2.2.2.2.1.1 c _ (vw_get c hc)).2
      have hlen : (st.take na).length = na := by
        have : na < st.length := by
          rcases Nat.lt_or_ge na st.length with q | q
          · exact q
          · rw [List.drop_eq_nil_of_le q] at hst; cases hst
        rw [List.length_take]; omega
      have hsplit : st.map (trV (adr b pre)) = ((st.take na).reverse.map (trV (adr b pre))).reverse ++ .ref (adr b pre a) :: st'.map (trV (adr b pre)) := by
        conv => lhs; rw [← List.take_append_drop na st, hst]
        simp [trV, va_rf]
      refine w_back (out1 := (r1, h1)) (retY := retY) (h := h) (st' := st') C g ⟨f1, f2⟩ (va_runV (b := adr b pre a) (As := (st.take na).reverse.map (trV (adr b pre))) ⟨C.1, C.2.1, C.2.2.1, C.2.2.2.1, hts⟩ hM (cwV na hts (big_call' ?_) rfl rfl rfl hd ⟨by dsimp only; omega, by dsimp only; omega⟩) ⟨Pin.blind, ⟨cell, by rw [adr_lo a1 hlt]; exact q1, by rw [q3]; rfl, by rw [q2]; exact hcls.1⟩, fun U hU hW => ⟨?_, by rw [hU]; exact a1.moved hW.alike, va_K.moved hW.alike C.2.2.2.2.2.2.1, C.2.2.2.2.2.2.2.2.2.2.2.2.2.2.moved hU hW a2⟩⟩ rfl ?_ a6.1 hsplit ?_ hdg ⟨by dsimp only; omega, by dsimp only; omega⟩) a2 a3 a4 a5 a6
      · intro w hw
        unfold wsV at hw
        rcases List.mem_append.mp hw with hw | hw
        · simp only [List.mem_cons, List.not_mem_nil, or_false] at hw
          rcases hw with rfl | rfl | rfl | rfl
          · exact w1
          · exact w2
          · exact w3
          · exact w4
        · rcases List.mem_cons.mp hw with rfl | hw
          · exact w5
          · exact hw
      · simp [trV, va_rf]
      · rw [List.length_map, List.length_reverse, hlen]
      · refine lv_room ?_
        rw [catS_sum]; exact hcat
  · cases ho
theorem so_ist {na idx nLY fr lo rk : Nat} {y : MethodName} {bytesY : ByteArray} {retY : Option FieldType} {F : List EV → Hp → Option (RV × Hp)} (hF : Con y bytesY nLY retY fr lo F) (hrk : rkOf retY = rk)
    (w1 : Cond.methodLink own idx y ∈ bigW) (w2 : Cond.static y ∈ bigW) (w4 : Cond.initialized y.cls ∈ bigW) (w5 : Cond.code y bytesY nLY retY ∈ bigW)
    (hd : y.cls ≠ "java/lang/invoke/MethodHandle" ∧ y.cls ≠ "java/lang/invoke/VarHandle" ∧ (parseMethodDescriptor y.desc).map (fun d => d.parameters.length) = some na) (hR1 : fr + 1 ≤ dF) (hR2 : 8 + (nLY + 11) + lo ≤ dL)
    (hdg : decode bytes pc = .ok (.invokestatic idx, 3)) : SoundOp bytes own nL ret isI dF dL pc (o_ist na rk F (pc + 3)) := by
  subst hrk
  intro p l e R s m args below meth c0 b D cy pre n0 s0 out C hp k hk ls st h ho
  unfold o_ist at ho
  cases hb : (Nat.ble na st.length && Nat.ble (catS (st.drop na)) 8) with
  | false => rw [hb] at ho; cases ho
  | true =>
    rw [hb] at ho
    obtain ⟨b1, b2⟩ := Bool.and_eq_true_iff.mp hb
    have hlen0 := Nat.le_of_ble_eq_true b1
    have hcat := Nat.le_of_ble_eq_true b2
    obtain ⟨r1, h1, hF1, hk1⟩ := oB_out ho
    have g := hk _ _ _ _ hk1
    have hlt1 : hN h1 < PRE := Nat.lt_of_le_of_lt g.1 hp
    obtain ⟨f1, f2, hM⟩ := hF l b D cy pre _ h (r1, h1) hF1 hlt1
    dsimp only at f1 f2 hM
    refine ⟨Nat.le_trans f1 g.1, Nat.le_trans f2 g.2.1, hp, fun H locs cells slots lsM a1 a2 a3 a4 a5 a6 => ?_⟩
    have hts := C.2.2.2.2.1
    have hRc := C.2.2.2.2.2.2.2.2.1
    have hRs := C.2.2.2.2.2.2.2.2.2.1
    have hRf := C.2.2.2.2.2.2.2.2.2.2.1
    have hRl := C.2.2.2.2.2.2.2.2.2.2.2.1
    have hg1 := g.1
    have hg2 := g.2.1
    have hlen : (st.take na).length = na := by rw [List.length_take]; omega
    have hsplit : st.map (trV (adr b pre)) = ((st.take na).reverse.map (trV (adr b pre))).reverse ++ (st.drop na).map (trV (adr b pre)) := by
      conv => lhs; rw [← List.take_append_drop na st]
      simp
    refine w_back (out1 := (r1, h1)) (retY := retY) (h := h) (st' := st.drop na) C g ⟨f1, f2⟩ (va_runS (As := (st.take na).reverse.map (trV (adr b pre))) ⟨C.1, C.2.1, C.2.2.1, C.2.2.2.1, hts⟩ hM (va_cwS na hts (big_call' ?_) rfl rfl rfl hd ⟨by dsimp only; omega, by dsimp only; omega⟩) ⟨Pin.blind, fun U hU hW => ⟨rfl, by rw [hU]; exact a1.moved hW.alike, va_K.moved hW.alike C.2.2.2.2.2.2.1, C.2.2.2.2.2.2.2.2.2.2.2.2.2.2.moved hU hW a2⟩⟩ rfl ?_ a6.1 hsplit ?_ hdg ⟨by dsimp only; omega, by dsimp only; omega⟩) a2 a3 a4 a5 a6
    · intro w hw
      unfold va_wsS at hw
      rcases List.mem_append.mp hw with hw | hw
      · simp only [List.mem_cons, List.not_mem_nil, or_false] at hw
        rcases hw with rfl | rfl | rfl
        · exact w1
        · exact w2
        · exact w4
      · rcases List.mem_cons.mp hw with rfl | hw
        · exact w5
        · exact hw
    · rw [List.length_map, List.length_reverse, hlen]
    · refine lv_room ?_
      rw [catS_sum]; exact hcat
/-- a constructor -/
theorem so_ini {na c idx nLY fr lo : Nat} {y : MethodName} {bytesY : ByteArray} {F : List EV → Hp → Option (RV × Hp)} (hF : Con y bytesY nLY none fr lo F) (hy : y.name = "<init>")
    (w1 : Cond.methodLink own idx y ∈ bigW) (w2 : Cond.instanceMethod y ∈ bigW) (w4 : Cond.initialized y.cls ∈ bigW) (w5 : Cond.code y bytesY nLY none ∈ bigW)
    (hd : y.cls ≠ "java/lang/invoke/MethodHandle" ∧ y.cls ≠ "java/lang/invoke/VarHandle" ∧ (parseMethodDescriptor y.desc).map (fun d => d.parameters.length) = some na) (hR1 : fr + 1 ≤ dF) (hR2 : 8 + (nLY + 11) + lo ≤ dL)
    (hdg : decode bytes pc = .ok (.invokespecial idx, 3)) : SoundOp bytes own nL ret isI dF dL pc (o_inv na c 0 F (pc + 3)) := by
  intro p l e R s m args below meth c0 b D cy pre n0 s0 out C hp k hk ls st h ho
  unfold o_inv at ho
  split at ho
  · rename_i r st' hst
    obtain ⟨a, rfl, hz⟩ := dR_out ho
    clear ho
    cases hb : (Nat.beq (hK h a) c && Nat.ble (catS st') 8) with
    | false => rw [hb] at hz; cases hz
    | true =>
      rw [hb] at hz
      obtain ⟨b1, b2⟩ := Bool.and_eq_true_iff.mp hb
      have z := Nat.eq_of_beq_eq_true b1
      have hcat := Nat.le_of_ble_eq_true b2
      obtain ⟨r1, h1, hF1, hk1⟩ := oB_out hz
      have g := hk _ _ _ _ hk1
      have hlt1 : hN h1 < PRE := Nat.lt_of_le_of_lt g.1 hp
      obtain ⟨f1, f2, hM⟩ := hF l b D cy pre _ h (r1, h1) hF1 hlt1
      dsimp only at f1 f2 hM
      refine ⟨Nat.le_trans f1 g.1, Nat.le_trans f2 g.2.1, hp, fun H locs cells slots lsM a1 a2 a3 a4 a5 a6 => ?_⟩
      have hts := C.2.2.2.2.1
      have hRc := C.2.2.2.2.2.2.2.2.1
      have hRs := C.2.2.2.2.2.2.2.2.2.1
      have hRf := C.2.2.2.2.2.2.2.2.2.2.1
      have hRl := C.2.2.2.2.2.2.2.2.2.2.2.1
      have hg1 := g.1
      have hg2 := g.2.1
      have hlen : (st.take na).length = na := by
        have : na < st.length := by
          rcases Nat.lt_or_ge na st.length with q | q
          · exact q
          · rw [List.drop_eq_nil_of_le q] at hst; cases hst
        rw [List.length_take]; omega
      have hsplit : st.map (trV (adr b pre)) = ((st.take na).reverse.map (trV (adr b pre))).reverse ++ .ref (adr b pre a) :: st'.map (trV (adr b pre)) := by
        conv => lhs; rw [← List.take_append_drop na st, hst]
        simp [trV, va_rf]
      refine w_back (out1 := (r1, h1)) (retY := none) (h := h) (st' := st') C g ⟨f1, f2⟩ (va_runI (b := adr b pre a) (As := (st.take na).reverse.map (trV (adr b pre))) ⟨C.1, C.2.1, C.2.2.1, C.2.2.2.1, hts⟩ hM ⟨callB_of na hts (big_call' ?_) rfl rfl rfl (hts _ w4) (hts _ w1) hd ⟨by dsimp only; omega, by dsimp only; omega⟩, hy, hts _ w2⟩ ⟨Pin.blind, fun U hU hW => ⟨?_, by rw [hU]; exact a1.moved hW.alike, va_K.moved hW.alike C.2.2.2.2.2.2.1, C.2.2.2.2.2.2.2.2.2.2.2.2.2.2.moved hU hW a2⟩⟩ rfl ?_ a6.1 hsplit ?_ hdg ⟨by dsimp only; omega, by dsimp only; omega⟩) a2 a3 a4 a5 a6
      · intro w hw
        rcases List.mem_cons.mp hw with rfl | hw
        · exact w5
        · exact hw
      · simp [trV, va_rf]
      · rw [List.length_map, List.length_reverse, hlen]
      · refine lv_room ?_
        rw [catS_sum]; exact hcat
  · cases ho
/-- a nest mate's private constructor -/
theorem so_iniN {na c idx nLY fr lo jn : Nat} {y : MethodName} {bytesY : ByteArray} {F : List EV → Hp → Option (RV × Hp)} (hF : Con y bytesY nLY none fr lo F) (hy : y.name = "<init>")
    (hj : jn < 11) (e1 : (nst jn).1 = own) (e2 : (nst jn).2.1 = idx) (e3 : (nst jn).2.2 = y) (w2 : Cond.instanceMethod y ∈ bigW) (w4 : Cond.initialized y.cls ∈ bigW) (w5 : Cond.code y bytesY nLY none ∈ bigW)
    (hd : y.cls ≠ "java/lang/invoke/MethodHandle" ∧ y.cls ≠ "java/lang/invoke/VarHandle" ∧ (parseMethodDescriptor y.desc).map (fun d => d.parameters.length) = some na) (hR1 : fr + 1 ≤ dF) (hR2 : 8 + (nLY + 11) + lo ≤ dL)
    (hdg : decode bytes pc = .ok (.invokespecial idx, 3)) : SoundOp bytes own nL ret isI dF dL pc (o_inv na c 0 F (pc + 3)) := by
  intro p l e R s m args below meth c0 b D cy pre n0 s0 out C hp k hk ls st h ho
  unfold o_inv at ho
  split at ho
  · rename_i r st' hst
    obtain ⟨a, rfl, hz⟩ := dR_out ho
    clear ho
    cases hb : (Nat.beq (hK h a) c && Nat.ble (catS st') 8) with
    | false => rw [hb] at hz; cases hz
    | true =>
      rw [hb] at hz
      obtain ⟨b1, b2⟩ := Bool.and_eq_true_iff.mp hb
      have z := Nat.eq_of_beq_eq_true b1
      have hcat := Nat.le_of_ble_eq_true b2
      obtain ⟨r1, h1, hF1, hk1⟩ := oB_out hz
      have g := hk _ _ _ _ hk1
      have hlt1 : hN h1 < PRE := Nat.lt_of_le_of_lt g.1 hp
      obtain ⟨f1, f2, hM⟩ := hF l b D cy pre _ h (r1, h1) hF1 hlt1
      dsimp only at f1 f2 hM
      refine ⟨Nat.le_trans f1 g.1, Nat.le_trans f2 g.2.1, hp, fun H locs cells slots lsM a1 a2 a3 a4 a5 a6 => ?_⟩
      have hts := C.2.2.2.2.1
      have hRc := C.2.2.2.2.2.2.2.2.1
      have hRs := C.2.2.2.2.2.2.2.2.2.1
      have hRf := C.2.2.2.2.2.2.2.2.2.2.1
      have hRl := C.2.2.2.2.2.2.2.2.2.2.2.1
      have hg1 := g.1
      have hg2 := g.2.1
      have hlen : (st.take na).length = na := by
        have : na < st.length := by
          rcases Nat.lt_or_ge na st.length with q | q
          · exact q
          · rw [List.drop_eq_nil_of_le q] at hst; cases hst
        rw [List.length_take]; omega
      have hsplit : st.map (trV (adr b pre)) = ((st.take na).reverse.map (trV (adr b pre))).reverse ++ .ref (adr b pre a) :: st'.map (trV (adr b pre)) := by
        conv => lhs; rw [← List.take_append_drop na st, hst]
        simp [trV, va_rf]
      refine w_back (out1 := (r1, h1)) (retY := none) (h := h) (st' := st') C g ⟨f1, f2⟩ (va_runIN (host := RX11) (b := adr b pre a) (As := (st.take na).reverse.map (trV (adr b pre))) ⟨C.1, C.2.1, C.2.2.1, C.2.2.2.1, hts⟩ hM ⟨va_cnB na hts (big_call' ?_) rfl rfl rfl (by have := C.2.2.2.2.2.2.2.2.2.2.2.2.2.2.2.2.1 jn hj; rw [e1, e2, e3] at this; exact this) (hts _ w4) hd ⟨by dsimp only; omega, by dsimp only; omega⟩, hy, hts _ w2⟩ ⟨Pin.blind, fun U hU hW => ⟨?_, by rw [hU]; exact a1.moved hW.alike, va_K.moved hW.alike C.2.2.2.2.2.2.1, C.2.2.2.2.2.2.2.2.2.2.2.2.2.2.moved hU hW a2⟩⟩ rfl ?_ a6.1 hsplit ?_ hdg ⟨by dsimp only; omega, by dsimp only; omega⟩) a2 a3 a4 a5 a6
      · intro w hw
        rcases List.mem_cons.mp hw with rfl | hw
        · exact w5
        · exact hw
      · simp [trV, va_rf]
      · rw [List.length_map, List.length_reverse, hlen]
      · refine lv_room ?_
        rw [catS_sum]; exact hcat
  · cases ho
theorem so_istN {na idx nLY fr lo rk jn : Nat} {y : MethodName} {bytesY : ByteArray} {retY : Option FieldType} {F : List EV → Hp → Option (RV × Hp)} (hF : Con y bytesY nLY retY fr lo F) (hrk : rkOf retY = rk)
    (hj : jn < 11) (e1 : (nst jn).1 = own) (e2 : (nst jn).2.1 = idx) (e3 : (nst jn).2.2 = y) (w2 : Cond.static y ∈ bigW) (w4 : Cond.initialized y.cls ∈ bigW) (w5 : Cond.code y bytesY nLY retY ∈ bigW)
    (hd : y.cls ≠ "java/lang/invoke/MethodHandle" ∧ y.cls ≠ "java/lang/invoke/VarHandle" ∧ (parseMethodDescriptor y.desc).map (fun d => d.parameters.length) = some na) (hR1 : fr + 1 ≤ dF) (hR2 : 8 + (nLY + 11) + lo ≤ dL)
    (hdg : decode bytes pc = .ok (.invokestatic idx, 3)) : SoundOp bytes own nL ret isI dF dL pc (o_ist na rk F (pc + 3)) := by
  subst hrk
  intro p l e R s m args below meth c0 b D cy pre n0 s0 out C hp k hk ls st h ho
  unfold o_ist at ho
  cases hb : (Nat.ble na st.length && Nat.ble (catS (st.drop na)) 8) with
  | false => rw [hb] at ho; cases ho
  | true =>
    rw [hb] at ho
    obtain ⟨b1, b2⟩ := Bool.and_eq_true_iff.mp hb
    have hlen0 := Nat.le_of_ble_eq_true b1
    have hcat := Nat.le_of_ble_eq_true b2
    obtain ⟨r1, h1, hF1, hk1⟩ := oB_out ho
    have g := hk _ _ _ _ hk1
    have hlt1 : hN h1 < PRE := Nat.lt_of_le_of_lt g.1 hp
    obtain ⟨f1, f2, hM⟩ := hF l b D cy pre _ h (r1, h1) hF1 hlt1
    dsimp only at f1 f2 hM
    refine ⟨Nat.le_trans f1 g.1, Nat.le_trans f2 g.2.1, hp, fun H locs cells slots lsM a1 a2 a3 a4 a5 a6 => ?_⟩
    have hts := C.2.2.2.2.1
    have hRc := C.2.2.2.2.2.2.2.2.1
    have hRs := C.2.2.2.2.2.2.2.2.2.1
    have hRf := C.2.2.2.2.2.2.2.2.2.2.1
    have hRl := C.2.2.2.2.2.2.2.2.2.2.2.1
    have hg1 := g.1
    have hg2 := g.2.1
    have hlen : (st.take na).length = na := by rw [List.length_take]; omega
    have hsplit : st.map (trV (adr b pre)) = ((st.take na).reverse.map (trV (adr b pre))).reverse ++ (st.drop na).map (trV (adr b pre)) := by
      conv => lhs; rw [← List.take_append_drop na st]
      simp
    refine w_back (out1 := (r1, h1)) (retY := retY) (h := h) (st' := st.drop na) C g ⟨f1, f2⟩ (va_runSN (host := RX11) (As := (st.take na).reverse.map (trV (adr b pre))) ⟨C.1, C.2.1, C.2.2.1, C.2.2.2.1, hts⟩ hM ⟨va_cnB na hts (big_call' ?_) rfl rfl rfl (by have := C.2.2.2.2.2.2.2.2.2.2.2.2.2.2.2.2.1 jn hj; rw [e1, e2, e3] at this; exact this) (hts _ w4) hd ⟨by dsimp only; omega, by dsimp only; omega⟩, hts _ w2, trivial⟩ ⟨Pin.blind, fun U hU hW => ⟨rfl, by rw [hU]; exact a1.moved hW.alike, va_K.moved hW.alike C.2.2.2.2.2.2.1, C.2.2.2.2.2.2.2.2.2.2.2.2.2.2.moved hU hW a2⟩⟩ rfl ?_ a6.1 hsplit ?_ hdg ⟨by dsimp only; omega, by dsimp only; omega⟩) a2 a3 a4 a5 a6
    · intro w hw
      rcases List.mem_cons.mp hw with rfl | hw
      · exact w5
      · exact hw
    · rw [List.length_map, List.length_reverse, hlen]
    · refine lv_room ?_
      rw [catS_sum]; exact hcat
def o_oini (nx : Nat) : Op := fun k ls st h => match st with
  | .inr (.inr r) :: st' => dR r (fun _ => bif Nat.ble (catS st') 8 then k nx ls st' h else none)
  | _ => none
theorem so_oini {idx : Nat} (w1 : Cond.methodLink own idx Lib.objectInit ∈ bigW) (w2 : Cond.instanceMethod Lib.objectInit ∈ bigW) (w3 : Cond.code Lib.objectInit ⟨#[0xb1]⟩ 1 none ∈ bigW) (hR1 : 1 ≤ dF) (hR2 : 20 ≤ dL) (hdg : decode bytes pc = .ok (.invokespecial idx, 3)) : SoundOp bytes own nL ret isI dF dL pc (o_oini (pc + 3)) := by
  intro p l e R s m args below meth c0 b D cy pre n0 s0 out C hp k hk ls st h ho
  unfold o_oini at ho
  split at ho
  · rename_i r st'
    obtain ⟨a, rfl, hz⟩ := dR_out ho
    clear ho
    cases hb : Nat.ble (catS st') 8 with
    | false => rw [hb] at hz; cases hz
    | true =>
      rw [hb] at hz
      have hcat := Nat.le_of_ble_eq_true hb
      obtain ⟨g1, g2, g3, g⟩ := hk _ _ _ _ hz
      refine ⟨g1, g2, g3, fun H locs cells slots lsM a1 a2 a3 a4 a5 a6 => ?_⟩
      have hts := C.2.2.2.2.1
      have hRf := C.2.2.2.2.2.2.2.2.2.2.1
      have hRl := C.2.2.2.2.2.2.2.2.2.2.2.1
      refine W.objInit C.1 C.2.1 C.2.2.2.1 (hts _ w1) (hts _ w2) (hts _ w3) (g := F0 m pc lsM (.ref (adr b pre a) :: st'.map (trV (adr b pre)))) rfl (by rw [C.2.2.1]; exact a6.1) rfl hdg (by omega) ?_ (g H locs cells slots lsM a1 a2 a3 a4 a5 a6)
      rw [catS_sum]
      show 2 * 0 + catS st' + 12 ≤ _
      omega
  · cases ho
/-! Math -/
def o_max (nx : Nat) : Op := fun k ls st h => match st with
  | .inl y :: .inl x :: st' => bif Nat.ble (catS st') 8 then k nx ls (vI (if x < y then y else x) :: st') h else none
  | _ => none
def o_min (nx : Nat) : Op := fun k ls st h => match st with
  | .inl y :: .inl x :: st' => bif Nat.ble (catS st') 8 then k nx ls (vI (if y < x then y else x) :: st') h else none
  | _ => none
def o_abs (nx : Nat) : Op := fun k ls st h => match st with
  | .inl x :: st' => bif Nat.ble (catS st') 8 then k nx ls (vI (if 0 ≤ x then x else 0 - x) :: st') h else none
  | _ => none
def o_maxL (nx : Nat) : Op := fun k ls st h => match st with
  | .inr (.inl y) :: .inr (.inl x) :: st' => bif Nat.ble (catS st') 8 then k nx ls (vL (if y < x then x else y) :: st') h else none
  | _ => none
def o_minL (nx : Nat) : Op := fun k ls st h => match st with
  | .inr (.inl y) :: .inr (.inl x) :: st' => bif Nat.ble (catS st') 8 then k nx ls (vL (if y < x then y else x) :: st') h else none
  | _ => none
theorem so_max {idx : Nat} (w1 : Cond.methodLink own idx Lib.Math.max.name ∈ bigW) (w2 : Cond.static Lib.Math.max.name ∈ bigW) (w3 : Cond.initialized "java/lang/Math" ∈ bigW) (w4 : Cond.code Lib.Math.max.name Lib.Math.max.code 2 (some .int) ∈ bigW) (hR1 : 1 ≤ dF) (hR2 : 23 ≤ dL) (hdg : decode bytes pc = .ok (.invokestatic idx, 3)) : SoundOp bytes own nL ret isI dF dL pc (o_max (pc + 3)) := by
  intro p l e R s m args below meth c0 b D cy pre n0 s0 out C hp k hk ls st h ho
  unfold o_max at ho
  split at ho
  · rename_i y x st'
    cases hb : Nat.ble (catS st') 8 with
    | false => rw [hb] at ho; cases ho
    | true =>
      rw [hb] at ho
      have hcat := Nat.le_of_ble_eq_true hb
      obtain ⟨g1, g2, g3, g⟩ := hk _ _ _ _ ho
      refine ⟨g1, g2, g3, fun H locs cells slots lsM a1 a2 a3 a4 a5 a6 => ?_⟩
      have hts := C.2.2.2.2.1
      have hRc := C.2.2.2.2.2.2.2.2.1
      have hRs := C.2.2.2.2.2.2.2.2.2.1
      have hRf := C.2.2.2.2.2.2.2.2.2.2.1
      have hRl := C.2.2.2.2.2.2.2.2.2.2.2.1
      exact va_mmax C.1 C.2.1 (by rw [C.2.2.1]; exact a6.1.symm) C.2.2.2.1 (hts _ w1) (hts _ w2) (hts _ w3) (hts _ w4) (by omega) (by rw [catS_sum]; omega) (by omega) (by omega) hdg (g H locs cells slots lsM a1 a2 a3 a4 a5 a6)
  · cases ho
theorem so_min {idx : Nat} (w1 : Cond.methodLink own idx Lib.Math.min.name ∈ bigW) (w2 : Cond.static Lib.Math.min.name ∈ bigW) (w3 : Cond.initialized "java/lang/Math" ∈ bigW) (w4 : Cond.code Lib.Math.min.name Lib.Math.min.code 2 (some .int) ∈ bigW) (hR1 : 1 ≤ dF) (hR2 : 23 ≤ dL) (hdg : decode bytes pc = .ok (.invokestatic idx, 3)) : SoundOp bytes own nL ret isI dF dL pc (o_min (pc + 3)) := by
  intro p l e R s m args below meth c0 b D cy pre n0 s0 out C hp k hk ls st h ho
  unfold o_min at ho
  split at ho
  · rename_i y x st'
    cases hb : Nat.ble (catS st') 8 with
    | false => rw [hb] at ho; cases ho
    | true =>
      rw [hb] at ho
      have hcat := Nat.le_of_ble_eq_true hb
      obtain ⟨g1, g2, g3, g⟩ := hk _ _ _ _ ho
      refine ⟨g1, g2, g3, fun H locs cells slots lsM a1 a2 a3 a4 a5 a6 => ?_⟩
      have hts := C.2.2.2.2.1
      have hRc := C.2.2.2.2.2.2.2.2.1
      have hRs := C.2.2.2.2.2.2.2.2.2.1
      have hRf := C.2.2.2.2.2.2.2.2.2.2.1
      have hRl := C.2.2.2.2.2.2.2.2.2.2.2.1
      exact va_mmin C.1 C.2.1 (by rw [C.2.2.1]; exact a6.1.symm) C.2.2.2.1 (hts _ w1) (hts _ w2) (hts _ w3) (hts _ w4) (by omega) (by rw [catS_sum]; omega) (by omega) (by omega) hdg (g H locs cells slots lsM a1 a2 a3 a4 a5 a6)
  · cases ho
theorem so_abs {idx : Nat} (w1 : Cond.methodLink own idx Lib.Math.abs.name ∈ bigW) (w2 : Cond.static Lib.Math.abs.name ∈ bigW) (w3 : Cond.initialized "java/lang/Math" ∈ bigW) (w4 : Cond.code Lib.Math.abs.name Lib.Math.abs.code 1 (some .int) ∈ bigW) (hR1 : 1 ≤ dF) (hR2 : 23 ≤ dL) (hdg : decode bytes pc = .ok (.invokestatic idx, 3)) : SoundOp bytes own nL ret isI dF dL pc (o_abs (pc + 3)) := by
  intro p l e R s m args below meth c0 b D cy pre n0 s0 out C hp k hk ls st h ho
  unfold o_abs at ho
  split at ho
  · rename_i x st'
    cases hb : Nat.ble (catS st') 8 with
    | false => rw [hb] at ho; cases ho
    | true =>
      rw [hb] at ho
      have hcat := Nat.le_of_ble_eq_true hb
      obtain ⟨g1, g2, g3, g⟩ := hk _ _ _ _ ho
      refine ⟨g1, g2, g3, fun H locs cells slots lsM a1 a2 a3 a4 a5 a6 => ?_⟩
      have hts := C.2.2.2.2.1
      have hRc := C.2.2.2.2.2.2.2.2.1
      have hRs := C.2.2.2.2.2.2.2.2.2.1
      have hRf := C.2.2.2.2.2.2.2.2.2.2.1
      have hRl := C.2.2.2.2.2.2.2.2.2.2.2.1
      exact va_mabs C.1 C.2.1 (by rw [C.2.2.1]; exact a6.1.symm) C.2.2.2.1 (hts _ w1) (hts _ w2) (hts _ w3) (hts _ w4) (by omega) (by rw [catS_sum]; omega) (by omega) (by omega) hdg (g H locs cells slots lsM a1 a2 a3 a4 a5 a6)
  · cases ho
theorem so_maxL {idx : Nat} (w1 : Cond.methodLink own idx Lib.MathLoose.max_long.x ∈ bigW) (w2 : Cond.static Lib.MathLoose.max_long.x ∈ bigW) (w3 : Cond.initialized "java/lang/Math" ∈ bigW) (w4 : Cond.code Lib.MathLoose.max_long.x Lib.MathLoose.max_long.code 4 (some .long) ∈ bigW) (hR1 : 1 ≤ dF) (hR2 : 23 ≤ dL) (hdg : decode bytes pc = .ok (.invokestatic idx, 3)) : SoundOp bytes own nL ret isI dF dL pc (o_maxL (pc + 3)) := by
  intro p l e R s m args below meth c0 b D cy pre n0 s0 out C hp k hk ls st h ho
  unfold o_maxL at ho
  split at ho
  · rename_i y x st'
    cases hb : Nat.ble (catS st') 8 with
    | false => rw [hb] at ho; cases ho
    | true =>
      rw [hb] at ho
      have hcat := Nat.le_of_ble_eq_true hb
      obtain ⟨g1, g2, g3, g⟩ := hk _ _ _ _ ho
      refine ⟨g1, g2, g3, fun H locs cells slots lsM a1 a2 a3 a4 a5 a6 => ?_⟩
      have hts := C.2.2.2.2.1
      have hRc := C.2.2.2.2.2.2.2.2.1
      have hRs := C.2.2.2.2.2.2.2.2.2.1
      have hRf := C.2.2.2.2.2.2.2.2.2.2.1
      have hRl := C.2.2.2.2.2.2.2.2.2.2.2.1
      exact va_mmax_long C.1 C.2.1 (by rw [C.2.2.1]; exact a6.1.symm) C.2.2.2.1 (hts _ w1) (hts _ w2) (hts _ w3) (hts _ w4) (by omega) (by rw [catS_sum]; omega) (by omega) (by omega) hdg (g H locs cells slots lsM a1 a2 a3 a4 a5 a6)
  · cases ho
theorem so_minL {idx : Nat} (w1 : Cond.methodLink own idx Lib.MathLoose.min_long.x ∈ bigW) (w2 : Cond.static Lib.MathLoose.min_long.x ∈ bigW) (w3 : Cond.initialized "java/lang/Math" ∈ bigW) (w4 : Cond.code Lib.MathLoose.min_long.x Lib.MathLoose.min_long.code 4 (some .long) ∈ bigW) (hR1 : 1 ≤ dF) (hR2 : 23 ≤ dL) (hdg : decode bytes pc = .ok (.invokestatic idx, 3)) : SoundOp bytes own nL ret isI dF dL pc (o_minL (pc + 3)) := by
  intro p l e R s m args below meth c0 b D cy pre n0 s0 out C hp k hk ls st h ho
  unfold o_minL at ho
  split at ho
  · rename_i y x st'
    cases hb : Nat.ble (catS st') 8 with
    | false => rw [hb] at ho; cases ho
    | true =>
      rw [hb] at ho
      have hcat := Nat.le_of_ble_eq_true hb
      obtain ⟨g1, g2, g3, g⟩ := hk _ _ _ _ ho
      refine ⟨g1, g2, g3, fun H locs cells slots lsM a1 a2 a3 a4 a5 a6 => ?_⟩
      have hts := C.2.2.2.2.1
      have hRc := C.2.2.2.2.2.2.2.2.1
      have hRs := C.2.2.2.2.2.2.2.2.2.1
      have hRf := C.2.2.2.2.2.2.2.2.2.2.1
      have hRl := C.2.2.2.2.2.2.2.2.2.2.2.1
      exact va_mmin_long C.1 C.2.1 (by rw [C.2.2.1]; exact a6.1.symm) C.2.2.2.1 (hts _ w1) (hts _ w2) (hts _ w3) (hts _ w4) (by omega) (by rw [catS_sum]; omega) (by omega) (by omega) hdg (g H locs cells slots lsM a1 a2 a3 a4 a5 a6)
  · cases ho
end
