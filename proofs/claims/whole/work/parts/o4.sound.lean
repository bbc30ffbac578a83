/-! ===== the law's method: its soundness ===== -/
def SoundY (bytes : ByteArray) (own : String) (nL : Nat) (ret : Option FieldType) (isI : Bool) (dF dL : Nat) (pc : Nat) (op : Op) : Prop :=
  ∀ (p : Program) (l : Launch) (e : Env) (R : Room) (s : State) (m : MethodId) (args : Array Value) (below : List Frame) (meth : Method) (c : Code) (b : Nat) (D : va_G) (cy : Nat → ClassId) (pre : Nat → Nat) (n0 s0 : Nat) (out : RV × Hp), l.stackTraces = false → Xs b s →
    Cx bytes own nL ret isI dF dL p R s m args meth c b D cy pre n0 s0 out → hN out.2 < PRE → ∀ (k : Kt), (∀ pc ls st h, k pc ls st h = some out → Wg ret nL p l e R s m args below meth c b D cy pre n0 s0 out pc ls st h) →
      ∀ ls st h, op k ls st h = some out → Wg ret nL p l e R s m args below meth c b D cy pre n0 s0 out pc ls st h
section
variable {bytes : ByteArray} {own : String} {nL : Nat} {ret : Option FieldType} {isI : Bool} {dF dL : Nat}
theorem sy_of {pc : Nat} {o : Op} (h : SoundOp bytes own nL ret isI dF dL pc o) : SoundY bytes own nL ret isI dF dL pc o := fun p l e R s m args below meth c b D cy pre n0 s0 out _ _ => h p l e R s m args below meth c b D cy pre n0 s0 out
theorem sy_fail (pc : Nat) : SoundY bytes own nL ret isI dF dL pc failO := sy_of (so_fail pc)
theorem sy_leaf {i : Nat} {o : Op} (h : SoundY bytes own nL ret isI dF dL i o) : ∀ pc, SoundY bytes own nL ret isI dF dL pc (leafC i o pc) := by
  intro pc
  unfold leafC
  by_cases e : pc = i
  · subst e
    rw [show Nat.beq pc pc = true from Nat.beq_refl pc]
    exact h
  · rw [show Nat.beq pc i = false from by cases q : Nat.beq pc i with | false => rfl | true => exact absurd (Nat.eq_of_beq_eq_true q) e]
    exact sy_fail pc
theorem sy_node {i : Nat} {A B : Nat → Op} (hA : ∀ pc, SoundY bytes own nL ret isI dF dL pc (A pc)) (hB : ∀ pc, SoundY bytes own nL ret isI dF dL pc (B pc)) : ∀ pc, SoundY bytes own nL ret isI dF dL pc (nodeC i A B pc) := by
  intro pc
  unfold nodeC
  cases Nat.ble pc i
  · exact hB pc
  · exact hA pc
theorem run_soundY {code : Nat → Op} (hc : ∀ pc, SoundY bytes own nL ret isI dF dL pc (code pc)) {p : Program} {l : Launch} {e : Env} {R : Room} {s : State} {m : MethodId} {args : Array Value} {below : List Frame} {meth : Method} {c : Code} {b : Nat} {D : va_G} {cy : Nat → ClassId} {pre : Nat → Nat} {n0 s0 : Nat} {out : RV × Hp}
    (hl : l.stackTraces = false) (hX : Xs b s) (C : Cx bytes own nL ret isI dF dL p R s m args meth c b D cy pre n0 s0 out) (hp : hN out.2 < PRE) : ∀ (n pc : Nat) (ls : List (Option EV)) (st : List EV) (h : Hp), run code n pc ls st h = some out → Wg ret nL p l e R s m args below meth c b D cy pre n0 s0 out pc ls st h := by
  intro n
  induction n with
  | zero => intro pc ls st h ho; cases ho
  | succ n ih => intro pc ls st h ho; exact hc pc p l e R s m args below meth c b D cy pre n0 s0 out hl hX C hp (run code n) ih ls st h ho
theorem sy_istX {na idx nLY fr lo rk pc : Nat} {y : MethodName} {bytesY : ByteArray} {retY : Option FieldType} {tb : List (Nat × Nat × Nat × Nat)} {F : List EV → Hp → Option (RV × Hp)} (hF : ConX y bytesY nLY retY tb fr lo F) (hrk : rkOf retY = rk)
    (w1 : Cond.methodLink own idx y ∈ bigW) (w2 : Cond.static y ∈ bigW) (w4 : Cond.initialized y.cls ∈ bigW) (w5 : Cond.codeWith y bytesY nLY retY tb ∈ bigW)
    (hd : y.cls ≠ "java/lang/invoke/MethodHandle" ∧ y.cls ≠ "java/lang/invoke/VarHandle" ∧ (parseMethodDescriptor y.desc).map (fun d => d.parameters.length) = some na) (hR1 : fr + 1 ≤ dF) (hR2 : 8 + (nLY + 11) + lo ≤ dL)
    (hdg : decode bytes pc = .ok (.invokestatic idx, 3)) : SoundY bytes own nL ret isI dF dL pc (o_ist na rk F (pc + 3)) := by
  subst hrk
  intro p l e R s m args below meth c0 b D cy pre n0 s0 out hl hX C hp k hk ls st h ho
  unfold o_ist at ho
  cases hb : (Nat.ble na st.length && Nat.ble (catS (st.drop na)) 8) with
  | false => rw [hb] at ho; cases ho
  | true =>
    rw [hb] at ho
    obtain ⟨b1, b2⟩ := Bool.and_eq_true_iff.mp hb
    have hlen0 := Nat.le_of_ble_eq_true b1
    have hcat := Nat.le_of_ble_eq_true b2
    obtain ⟨r1, h1, hF1, hk1⟩ := oB_out ho
    have g := hk _ _ _ _ hk1
    have hlt1 : hN h1 < PRE := Nat.lt_of_le_of_lt g.1 hp
    obtain ⟨f1, f2, hM⟩ := hF l b D cy pre _ h (r1, h1) hl hF1 hlt1
    dsimp only at f1 f2 hM
    refine ⟨Nat.le_trans f1 g.1, Nat.le_trans f2 g.2.1, hp, fun H locs cells slots lsM a1 a2 a3 a4 a5 a6 => ?_⟩
    have hts := C.2.2.2.2.1
    have hRc := C.2.2.2.2.2.2.2.2.1
    have hRs := C.2.2.2.2.2.2.2.2.2.1
    have hRf := C.2.2.2.2.2.2.2.2.2.2.1
    have hRl := C.2.2.2.2.2.2.2.2.2.2.2.1
    have hg1 := g.1
    have hg2 := g.2.1
    have hlen : (st.take na).length = na := by rw [List.length_take]; omega
    have hsplit : st.map (trV (adr b pre)) = ((st.take na).reverse.map (trV (adr b pre))).reverse ++ (st.drop na).map (trV (adr b pre)) := by
      conv => lhs; rw [← List.take_append_drop na st]
      simp
    refine w_back (out1 := (r1, h1)) (retY := retY) (h := h) (st' := st.drop na) C g ⟨f1, f2⟩ (vx_runSW (As := (st.take na).reverse.map (trV (adr b pre))) ⟨C.1, C.2.1, C.2.2.1, C.2.2.2.1, hts⟩ hM (vx_cwSW na hts (big_call' (wsS_big w1 w2 w4 w5)) rfl rfl rfl hd ⟨by dsimp only; omega, by dsimp only; omega⟩) ⟨PinX.blind, fun U hU hW => ⟨⟨rfl, by rw [hU]; exact a1.moved hW.alike, va_K.moved hW.alike C.2.2.2.2.2.2.1, C.2.2.2.2.2.2.2.2.2.2.2.2.2.2.moved hU hW a2⟩, hX.moved hU hW a2⟩⟩ rfl ?_ a6.1 hsplit ?_ hdg ⟨by dsimp only; omega, by dsimp only; omega⟩) a2 a3 a4 a5 a6
    · rw [List.length_map, List.length_reverse, hlen]
    · refine lv_room ?_
      rw [catS_sum]; exact hcat
end
theorem wm_RL_46 : Cond.methodLink RL 46 yL_buyer ∈ bigW := big_mem 1167 (by decide +kernel) (by decide +kernel)
theorem wst_L_buyer : Cond.static yL_buyer ∈ bigW := big_mem 1168 (by decide +kernel) (by decide +kernel)
theorem wny_L_buyer : Cond.initialized yL_buyer.cls ∈ bigW := big_mem 96 (by decide +kernel) (by decide +kernel)
theorem wc_L_buyer : Cond.codeWith yL_buyer cL_buyer 5 (some .int) [(0, 10, 13, 13)] ∈ bigW := big_mem 1169 (by decide +kernel) (by decide +kernel)
theorem sy_lbuyer : SoundY cL_law RL 7 (some .boolean) false 103 2708 464 (o_ist 4 1 FL_buyer 467) := sy_istX CL_buyer rfl wm_RL_46 wst_L_buyer wny_L_buyer wc_L_buyer (by decide +kernel) (by decide) (by decide) dL_law_464
