/-! ===== the law's buyer: what it does; and its soundness' form ===== -/
noncomputable def o_tryb : Op := fun k ls st h => match st with
  | .inl p1 :: .inl p0 :: .inr (.inr (some a)) :: st' => bif Nat.beq (hK h a) 11 && Nat.ble (catS st') 8 then
      oB (FX11_hasBuyer [vR (some a), vI p0] h) (fun r1 h1 => if r1.1 = 0 then k 15 (ls.set 4 none) [] (nw h1 60 0 6) else oB (FX11_within [vI p1, vI 0, vI 3] h1) (fun r2 h2 => if r2.1 = 0 then k 15 (ls.set 4 none) [] (nw h2 60 0 6) else oB (FX11_buyer [vR (some a), vI p0, vI p1] h) (fun r h3 => k 8 ls (vI r.1 :: st') h3))) else none
  | _ => none
theorem pr_tryb : Pr o_tryb := by
  intro k ls st h o ho
  unfold o_tryb at ho
  split at ho
  · rename_i p1 p0 a st'
    cases hx : (Nat.beq (hK h a) 11 && Nat.ble (catS st') 8) with
    | false => rw [hx] at ho; cases ho
    | true =>
      rw [hx] at ho
      obtain ⟨r1, h1, e1, z1⟩ := oB_out ho
      by_cases c1 : r1.1 = 0
      · rw [if_pos c1] at z1
        have g := GX11_hasBuyer _ _ _ _ e1
        refine Or.inr ⟨_, _, _, _, z1, ⟨Nat.le_trans g.1 (Nat.le_succ _), Nat.le_trans g.2 (Nat.le_add_right _ _)⟩, fun k' hk => ?_⟩
        show (bif (Nat.beq (hK h a) 11 && Nat.ble (catS st') 8) then _ else none) = some o
        rw [hx, e1]
        show (if r1.1 = 0 then _ else _) = some o
        rw [if_pos c1]
        exact hk
      · rw [if_neg c1] at z1
        obtain ⟨r2, h2, e2, z2⟩ := oB_out z1
        by_cases c2 : r2.1 = 0
        · rw [if_pos c2] at z2
          have g := GX11_hasBuyer _ _ _ _ e1
          have g' := GX11_within _ _ _ _ e2
          refine Or.inr ⟨_, _, _, _, z2, ⟨Nat.le_trans (Nat.le_trans g.1 g'.1) (Nat.le_succ _), Nat.le_trans (Nat.le_trans g.2 g'.2) (Nat.le_add_right _ _)⟩, fun k' hk => ?_⟩
          show (bif (Nat.beq (hK h a) 11 && Nat.ble (catS st') 8) then _ else none) = some o
          rw [hx, e1]
          show (if r1.1 = 0 then _ else _) = some o
          rw [if_neg c1, e2]
          show (if r2.1 = 0 then _ else _) = some o
          rw [if_pos c2]
          exact hk
        · rw [if_neg c2] at z2
          obtain ⟨r3, h3, e3, z3⟩ := oB_out z2
          have g := GX11_buyer _ _ _ _ e3
          refine Or.inr ⟨_, _, _, _, z3, g, fun k' hk => ?_⟩
          show (bif (Nat.beq (hK h a) 11 && Nat.ble (catS st') 8) then _ else none) = some o
          rw [hx, e1]
          show (if r1.1 = 0 then _ else _) = some o
          rw [if_neg c1, e2]
          show (if r2.1 = 0 then _ else _) = some o
          rw [if_neg c2, e3]
          exact hk
  · cases ho
noncomputable def kL_buyer : Nat → Op := nodeC 5 (nodeC 2 (nodeC 0 (leafC 0 (o_al 3 1)) (nodeC 1 (leafC 1 (o_ic 0 2)) (leafC 2 (o_al 0 3)))) (nodeC 3 (leafC 3 (o_il 1 4)) (nodeC 4 (leafC 4 (o_il 2 5)) (leafC 5 o_tryb)))) (nodeC 10 (nodeC 8 (leafC 8 (o_i2l 9)) (nodeC 9 (leafC 9 (o_last 10)) (leafC 10 (o_goto 17)))) (nodeC 16 (nodeC 15 (leafC 15 (o_ic 1 16)) (leafC 16 o_iret)) (nodeC 17 (leafC 17 (o_ic 0 18)) (leafC 18 o_iret))))
theorem pL_buyer : ∀ pc, Pr (kL_buyer pc) := pr_node (pr_node (pr_node (pr_leaf (pr_al _ _)) (pr_node (pr_leaf (pr_ic _ _)) (pr_leaf (pr_al _ _)))) (pr_node (pr_leaf (pr_il _ _)) (pr_node (pr_leaf (pr_il _ _)) (pr_leaf pr_tryb)))) (pr_node (pr_node (pr_leaf (pr_i2l _)) (pr_node (pr_leaf (pr_last _)) (pr_leaf (pr_goto _)))) (pr_node (pr_node (pr_leaf (pr_ic _ _)) (pr_leaf pr_iret)) (pr_node (pr_leaf (pr_ic _ _)) (pr_leaf pr_iret))))
noncomputable def FL_buyer : List EV → Hp → Option (RV × Hp) := Fm kL_buyer 5
theorem GL_buyer : Gr FL_buyer := Gr_Fm pL_buyer 5
set_option maxRecDepth 100000 in
theorem tL_buyer (a c : Nat) (x1 x2 : Int32) (h : Hp) : FL_buyer [vR (some a), vI x1, vI x2, vR (some c)] h = bif Nat.beq (hK h a) 11 && true then oB (FX11_hasBuyer [vR (some a), vI x1] h) (fun r1 h1 => if r1.1 = 0 then some (rI 1, nw h1 60 0 6) else oB (FX11_within [vI x2, vI 0, vI 3] h1) (fun r2 h2 => if r2.1 = 0 then some (rI 1, nw h2 60 0 6) else oB (FX11_buyer [vR (some a), vI x1, vI x2] h) (fun r h3 => bif Nat.beq (hK h3 c) 23 && inb 0 (hE h3 c) then some (rI 0, sL h3 c (Int32.toNatClampNeg 0) (Int32.toInt64 r.1)) else none))) else none := (show FL_buyer [vR (some a), vI x1, vI x2, vR (some c)] h = Run kL_buyer 0 [some (vR (some a)), some (vI x1), some (vI x2), some (vR (some c)), none] [] h from rfl).trans ((Run_it pL_buyer (fun pc => false) 12 0 [some (vR (some a)), some (vI x1), some (vI x2), some (vR (some c)), none] [] h).trans rfl)
/-! soundness for launches without stack traces -/
def SoundX (bytes : ByteArray) (own : String) (nL : Nat) (ret : Option FieldType) (isI : Bool) (dF dL : Nat) (pc : Nat) (op : Op) : Prop :=
  ∀ (p : Program) (l : Launch) (e : Env) (R : Room) (s : State) (m : MethodId) (args : Array Value) (below : List Frame) (meth : Method) (c : Code) (b : Nat) (D : va_G) (cy : Nat → ClassId) (pre : Nat → Nat) (n0 s0 : Nat) (out : RV × Hp), l.stackTraces = false →
    Cx bytes own nL ret isI dF dL p R s m args meth c b D cy pre n0 s0 out → hN out.2 < PRE → ∀ (k : Kt), (∀ pc ls st h, k pc ls st h = some out → Wg ret nL p l e R s m args below meth c b D cy pre n0 s0 out pc ls st h) →
      ∀ ls st h, op k ls st h = some out → Wg ret nL p l e R s m args below meth c b D cy pre n0 s0 out pc ls st h
section
variable {bytes : ByteArray} {own : String} {nL : Nat} {ret : Option FieldType} {isI : Bool} {dF dL : Nat}
theorem sx_of {pc : Nat} {o : Op} (h : SoundOp bytes own nL ret isI dF dL pc o) : SoundX bytes own nL ret isI dF dL pc o := fun p l e R s m args below meth c b D cy pre n0 s0 out _ => h p l e R s m args below meth c b D cy pre n0 s0 out
theorem sx_fail (pc : Nat) : SoundX bytes own nL ret isI dF dL pc failO := sx_of (so_fail pc)
theorem sx_leaf {i : Nat} {o : Op} (h : SoundX bytes own nL ret isI dF dL i o) : ∀ pc, SoundX bytes own nL ret isI dF dL pc (leafC i o pc) := by
  intro pc
  unfold leafC
  by_cases e : pc = i
  · subst e
    rw [show Nat.beq pc pc = true from Nat.beq_refl pc]
    exact h
  · rw [show Nat.beq pc i = false from by cases q : Nat.beq pc i with | false => rfl | true => exact absurd (Nat.eq_of_beq_eq_true q) e]
    exact sx_fail pc
theorem sx_node {i : Nat} {A B : Nat → Op} (hA : ∀ pc, SoundX bytes own nL ret isI dF dL pc (A pc)) (hB : ∀ pc, SoundX bytes own nL ret isI dF dL pc (B pc)) : ∀ pc, SoundX bytes own nL ret isI dF dL pc (nodeC i A B pc) := by
  intro pc
  unfold nodeC
  cases Nat.ble pc i
  · exact hB pc
  · exact hA pc
theorem run_soundX {code : Nat → Op} (hc : ∀ pc, SoundX bytes own nL ret isI dF dL pc (code pc)) {p : Program} {l : Launch} {e : Env} {R : Room} {s : State} {m : MethodId} {args : Array Value} {below : List Frame} {meth : Method} {c : Code} {b : Nat} {D : va_G} {cy : Nat → ClassId} {pre : Nat → Nat} {n0 s0 : Nat} {out : RV × Hp}
    (hl : l.stackTraces = false) (C : Cx bytes own nL ret isI dF dL p R s m args meth c b D cy pre n0 s0 out) (hp : hN out.2 < PRE) : ∀ (n pc : Nat) (ls : List (Option EV)) (st : List EV) (h : Hp), run code n pc ls st h = some out → Wg ret nL p l e R s m args below meth c b D cy pre n0 s0 out pc ls st h := by
  intro n
  induction n with
  | zero => intro pc ls st h ho; cases ho
  | succ n ih => intro pc ls st h ho; exact hc pc p l e R s m args below meth c b D cy pre n0 s0 out hl C hp (run code n) ih ls st h ho
end
