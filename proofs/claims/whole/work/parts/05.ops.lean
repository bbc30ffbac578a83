/-! ===== instructions as functions of the abstract state, and that the machine does them ===== -/
abbrev Kt : Type := Nat → List (Option EV) → List EV → Hp → Option (RV × Hp)
abbrev Op : Type := Kt → List (Option EV) → List EV → Hp → Option (RV × Hp)
def bigW : List Cond := lw_tbl.filter goodWord
theorem big_mem {w : Cond} (i : Nat) (h : lw_tbl[i]? = some w) (g : goodWord w = true) : w ∈ bigW := List.mem_filter.mpr ⟨List.mem_of_getElem? h, g⟩
theorem big_in {ws : List Cond} (h : ∀ w ∈ ws, w ∈ lw_tbl) (g : ws.all goodWord = true) : ∀ w ∈ ws, w ∈ bigW := fun w hw => List.mem_filter.mpr ⟨h w hw, List.all_eq_true.mp g w hw⟩
theorem big_good {w : Cond} (h : w ∈ bigW) : (w.onTables && w.keeps) = true ∨ ∃ ty, w = .arrayClass ty := good_of_word (List.mem_filter.mp h).2
def LvR (ad : Nat → Nat) (lsM : Array Slot) (nL : Nat) (ls : List (Option EV)) : Prop := lsM.size = nL ∧ lv_wf lsM ∧ ∀ (i : Nat) (v : EV), ls[i]? = some (some v) → lsM[i]? = some (.val (trV ad v))
def isLg (o : Option (Option EV)) : Bool := match o with
  | some (some (.inr (.inl _))) => true
  | _ => false
def kl (o : Option EV) : Option EV := match o with
  | some (.inr (.inl _)) => none
  | o => o
def clr : List (Option EV) → Nat → List (Option EV)
  | [], _ => []
  | a :: l, 0 => a :: l
  | a :: l, 1 => kl a :: l
  | a :: l, i + 2 => a :: clr l (i + 1)
def st1 (ls : List (Option EV)) (i : Nat) (v : EV) : List (Option EV) := (clr ls i).set i (some v)
def st2 (ls : List (Option EV)) (i : Nat) (v : EV) : List (Option EV) := ((clr ls i).set (i + 1) none).set i (some v)
def lvl (ad : Nat → Nat) (ls : List (Option EV)) : List (Nat × Value) := (List.range ls.length).filterMap (fun i => match ls[i]? with
  | some (some v) => some (i, trV ad v)
  | _ => none)
theorem lvl_mem {ad : Nat → Nat} {ls : List (Option EV)} {i : Nat} {v : EV} (h : ls[i]? = some (some v)) : (i, trV ad v) ∈ lvl ad ls := by
  refine List.mem_filterMap.mpr ⟨i, List.mem_range.mpr (List.getElem?_eq_some_iff.mp h).1, ?_⟩
  rw [h]
theorem LvR.has {ad : Nat → Nat} {lsM : Array Slot} {nL : Nat} {ls : List (Option EV)} (h : LvR ad lsM nL ls) : lv_has lsM nL (lvl ad ls) := by
  refine ⟨h.1, h.2.1, fun q hq => ?_⟩
  obtain ⟨i, -, hi⟩ := List.mem_filterMap.mp hq
  cases e : ls[i]? with
  | none => rw [e] at hi; cases hi
  | some o =>
    cases o with
    | none => rw [e] at hi; cases hi
    | some v =>
      rw [e] at hi
      cases hi
      exact h.2.2 i v e
theorem kl_some {a : Option EV} {v : EV} (h : kl a = some v) : a = some v ∧ isLg (some (some v)) = false := by
  rcases a with _ | x | x | x
  · cases h
  · cases h; exact ⟨rfl, rfl⟩
  · cases h
  · cases h; exact ⟨rfl, rfl⟩
theorem clr_get {ls : List (Option EV)} {i j : Nat} {v : EV} (h : (clr ls i)[j]? = some (some v)) : ls[j]? = some (some v) ∧ ¬ (j + 1 = i ∧ isLg (some (some v)) = true) := by
  induction ls generalizing i j with
  | nil => simp [clr] at h
  | cons a l ih =>
    match i, j with
    | 0, j =>
      simp only [clr] at h
      exact ⟨h, fun z => by omega⟩
    | 1, 0 =>
      simp only [clr, List.getElem?_cons_zero, Option.some.injEq] at h
      obtain ⟨h1, h2⟩ := kl_some h
      subst h1
      exact ⟨rfl, fun z => by rw [h2] at z; cases z.2⟩
    | 1, j + 1 =>
      simp only [clr, List.getElem?_cons_succ] at h ⊢
      exact ⟨h, fun z => by omega⟩
    | i + 2, 0 =>
      simp only [clr, List.getElem?_cons_zero] at h ⊢
      exact ⟨h, fun z => by omega⟩
    | i + 2, j + 1 =>
      simp only [clr, List.getElem?_cons_succ] at h ⊢
      obtain ⟨h1, h2⟩ := ih h
      exact ⟨h1, fun z => h2 ⟨by omega, z.2⟩⟩
theorem cat_lg (ad : Nat → Nat) (v : EV) : ((trV ad v).category == 2) = isLg (some (some v)) := by
  rcases v with x | x | r
  · rfl
  · rfl
  · cases r <;> rfl
theorem LvR.st1 {ad : Nat → Nat} {lsM' : Array Slot} {nL : Nat} {ls : List (Option EV)} {i : Nat} {v : EV} (h' : lv_has lsM' nL ((i, trV ad v) :: (lvl ad ls).filter (fun q => !(q.1 == i) && !(q.1 + 1 == i && q.2.category == 2)))) : LvR ad lsM' nL (st1 ls i v) := by
  refine ⟨h'.1, h'.2.1, fun j w hj => ?_⟩
  unfold Jvm.Pilot.CCraneClothLaw_law_r9183_b26f7d.st1 at hj
  by_cases e : i = j
  · subst e
    rw [List.getElem?_set] at hj
    split at hj
    · split at hj
      · cases hj
        exact h'.2.2 _ List.mem_cons_self
      · cases hj
    · rename_i z; exact absurd rfl z
  · rw [List.getElem?_set_ne e] at hj
    obtain ⟨h1, h2⟩ := clr_get hj
    refine h'.2.2 (j, trV ad w) (List.mem_cons_of_mem _ (List.mem_filter.mpr ⟨lvl_mem h1, ?_⟩))
    have n1 : (j == i) = false := by simpa using Ne.symm e
    dsimp only
    rw [n1, cat_lg]
    by_cases z : j + 1 = i
    · have : isLg (some (some w)) = false := by
        cases q : isLg (some (some w)) with
        | false => rfl
        | true => exact absurd ⟨z, q⟩ h2
      rw [this]; simp
    · have : (j + 1 == i) = false := by simpa using z
      rw [this]; rfl
theorem LvR.st2 {ad : Nat → Nat} {lsM' : Array Slot} {nL : Nat} {ls : List (Option EV)} {i : Nat} {v : EV} (h' : lv_has lsM' nL ((i, trV ad v) :: (lvl ad ls).filter (fun q => !(q.1 == i) && (!(q.1 == i + 1) && !(q.1 + 1 == i && q.2.category == 2))))) : LvR ad lsM' nL (st2 ls i v) := by
  refine ⟨h'.1, h'.2.1, fun j w hj => ?_⟩
  unfold Jvm.Pilot.CCraneClothLaw_law_r9183_b26f7d.st2 at hj
  by_cases e : i = j
  · subst e
    rw [List.getElem?_set] at hj
    split at hj
    · split at hj
      · cases hj
        exact h'.2.2 _ List.mem_cons_self
      · cases hj
    · rename_i z; exact absurd rfl z
  · rw [List.getElem?_set_ne e] at hj
    by_cases e2 : i + 1 = j
    · subst e2
      rw [List.getElem?_set] at hj
      simp at hj
    · rw [List.getElem?_set_ne e2] at hj
      obtain ⟨h1, h2⟩ := clr_get hj
      refine h'.2.2 (j, trV ad w) (List.mem_cons_of_mem _ (List.mem_filter.mpr ⟨lvl_mem h1, ?_⟩))
      have n1 : (j == i) = false := by simpa using Ne.symm e
      have n2 : (j == i + 1) = false := by simpa using Ne.symm e2
      dsimp only
      rw [n1, n2, cat_lg]
      by_cases z : j + 1 = i
      · have : isLg (some (some w)) = false := by
          cases q : isLg (some (some w)) with
          | false => rfl
          | true => exact absurd ⟨z, q⟩ h2
        rw [this]; simp
      · have : (j + 1 == i) = false := by simpa using z
        rw [this]; rfl
/-- what a method of a kind of answer gives back -/
def retV (ret : Option FieldType) (ad : Nat → Nat) (r : RV) : Option Value := match ret with
  | none => none
  | some .long => some (.long r.2.1)
  | some (.object _) => some (va_rf (r.2.2.map ad))
  | some (.array _) => some (va_rf (r.2.2.map ad))
  | some _ => some (.int r.1)
def Qh (ret : Option FieldType) (b : Nat) (D : va_G) (cy : Nat → ClassId) (pre : Nat → Nat) (out : RV × Hp) : Array Value → State → Outcome → State → Prop := fun _ st o t =>
  o = .returned (retV ret (adr b pre) out.1) ∧ Hold b D cy pre out.2 t t.heap ∧ va_K D vwCl (tysL cy) t ∧ ∀ q, q < b → t.heap[q]? = st.heap[q]?
/-- the static arrays and the String constants that are named -/
def stC (j : Nat) : String := match j with
  | 0 => RX1 | 1 => RX0 | 2 => RX0 | 3 => RX0 | _ => RX7
def stN (j : Nat) : String := match j with
  | 0 => "LETTERS" | 1 => "RULE_ITEMS" | 2 => "DEBT_ITEMS" | 3 => "BUYER_ITEMS" | 4 => "CRANE_TENTHS" | _ => "GOOSE_TENTHS"
def txC (j : Nat) : String × Nat × String := match j with
  | 0 => (RX12, 26, "y") | 1 => (RX12, 32, "wtknym") | 2 => (RX12, 259, "wmgtpkl") | 3 => (RX12, 265, "nvi") | 4 => (RX12, 267, "pqn") | 5 => (RX12, 272, "wcsp") | _ => (RX11, 214, "no such buyer, or nothing of the kind is known of it")
/-- private members of nest mates that are called: who, by which number, what -/
def nst (j : Nat) : String × Nat × MethodName := match j with
  | 0 => (RX11, 9, yX9_init) | 1 => (RX11, 18, yX10_init) | 2 => (RX10, 11, yX0_init) | 3 => (RX11, 25, yX4_init) | 4 => (RX5, 17, yX4_init) | 5 => (RX11, 42, yX3_init) | 6 => (RX11, 49, yX7_init) | 7 => (RX8, 32, yX4_init) | 8 => (RX11, 71, yX0_init) | 9 => (RX11, 104, yX6_init) | _ => (RX10, 96, yX11_within)
def Ss (b : Nat) (pre : Nat → Nat) (s : State) : Prop := (∀ j, j < 6 → va_Z (stC j) (stN j) "[I" (.ref (pre j)) (fun q => b ≤ q) s s.heap) ∧ (∀ j, j < 7 → vk_R (txC j).1 (txC j).2.1 (txC j).2.2 (pre (10 + j)) s) ∧ (∀ j, j < 11 → va_Nw (.methodLinkNest (nst j).1 (nst j).2.1 (nst j).2.2 RX11) s) ∧ (∀ c, c = 1 ∨ c = 4 ∨ c = 6 → va_AO (clR c) s) ∧ va_Z "java/lang/String" "COMPACT_STRINGS" "Z" (.int 1) (fun q => b ≤ q) s s.heap
/-- a method's body: where it stands -/
def Cx (bytes : ByteArray) (own : String) (nL : Nat) (ret : Option FieldType) (isI : Bool) (dF dL : Nat) (p : Program) (R : Room) (s : State) (m : MethodId) (args : Array Value) (meth : Method) (c : Code) (b : Nat) (D : va_G) (cy : Nat → ClassId) (pre : Nat → Nat) (n0 s0 : Nat) (out : RV × Hp) : Prop :=
  p.tables.exec = Jvm.exec ∧ c.code = bytes ∧ c.maxLocals = nL ∧ s.vm.findClass own = some m.cls ∧ (∀ w ∈ bigW, w.before args s = true) ∧ meth.locks = false ∧ va_K D vwCl (tysL cy) s ∧ b ≤ s.heap.size ∧ hN out.2 - n0 ≤ R.cells ∧ hS out.2 - s0 ≤ R.slots ∧ dF ≤ R.frames ∧ dL ≤ R.locals ∧ meth.sig.returnType = ret ∧ (isI = true → meth.name = "<init>") ∧ Ss b pre s
/-- from here the machine comes to the answer -/
def Wg (ret : Option FieldType) (nL : Nat) (p : Program) (l : Launch) (e : Env) (R : Room) (s : State) (m : MethodId) (args : Array Value) (below : List Frame) (meth : Method) (c : Code) (b : Nat) (D : va_G) (cy : Nat → ClassId) (pre : Nat → Nat) (n0 s0 : Nat) (out : RV × Hp) (pc : Nat) (ls : List (Option EV)) (st : List EV) (h : Hp) : Prop :=
  hN h ≤ hN out.2 ∧ hS h ≤ hS out.2 ∧ hN out.2 < PRE ∧
  ∀ (H : Heap) (locs : List Loc) (cells slots : Nat) (lsM : Array Slot), Hold b D cy pre h s H → (∀ q, q < b → H[q]? = s.heap[q]?) → (∀ q ∈ locs, b ≤ q.base) → cells + n0 = hN h → slots + s0 = hS h → LvR (adr b pre) lsM nL ls →
    W p l e R s m args below meth c H locs cells slots (MQ below (Qh ret b D cy pre out) args s (hN out.2 - n0) (hS out.2 - s0) (fun q => b ≤ q)) (F0 m pc lsM (st.map (trV (adr b pre))))
def SoundOp (bytes : ByteArray) (own : String) (nL : Nat) (ret : Option FieldType) (isI : Bool) (dF dL : Nat) (pc : Nat) (op : Op) : Prop :=
  ∀ (p : Program) (l : Launch) (e : Env) (R : Room) (s : State) (m : MethodId) (args : Array Value) (below : List Frame) (meth : Method) (c : Code) (b : Nat) (D : va_G) (cy : Nat → ClassId) (pre : Nat → Nat) (n0 s0 : Nat) (out : RV × Hp),
    Cx bytes own nL ret isI dF dL p R s m args meth c b D cy pre n0 s0 out → hN out.2 < PRE → ∀ (k : Kt), (∀ pc ls st h, k pc ls st h = some out → Wg ret nL p l e R s m args below meth c b D cy pre n0 s0 out pc ls st h) →
      ∀ ls st h, op k ls st h = some out → Wg ret nL p l e R s m args below meth c b D cy pre n0 s0 out pc ls st h
/-- code by its places -/
def failO : Op := fun _ _ _ _ => none
def leafC (i : Nat) (o : Op) : Nat → Op := fun pc => bif Nat.beq pc i then o else failO
def nodeC (i : Nat) (A B : Nat → Op) : Nat → Op := fun pc => bif Nat.ble pc i then A pc else B pc
section
variable {bytes : ByteArray} {own : String} {nL : Nat} {ret : Option FieldType} {isI : Bool} {dF dL : Nat}
theorem so_fail (pc : Nat) : SoundOp bytes own nL ret isI dF dL pc failO := by
  intro p l e R s m args below meth c b D cy pre n0 s0 out C hp k hk ls st h ho
  cases ho
theorem so_leaf {i : Nat} {o : Op} (h : SoundOp bytes own nL ret isI dF dL i o) : ∀ pc, SoundOp bytes own nL ret isI dF dL pc (leafC i o pc) := by
  intro pc
  unfold leafC
  by_cases e : pc = i
  · subst e
    rw [show Nat.beq pc pc = true from Nat.beq_refl pc]
    exact h
  · rw [show Nat.beq pc i = false from by cases q : Nat.beq pc i with | false => rfl | true => exact absurd (Nat.eq_of_beq_eq_true q) e]
    exact so_fail pc
theorem so_node {i : Nat} {A B : Nat → Op} (hA : ∀ pc, SoundOp bytes own nL ret isI dF dL pc (A pc)) (hB : ∀ pc, SoundOp bytes own nL ret isI dF dL pc (B pc)) : ∀ pc, SoundOp bytes own nL ret isI dF dL pc (nodeC i A B pc) := by
  intro pc
  unfold nodeC
  cases Nat.ble pc i
  · exact hB pc
  · exact hA pc
/-- the machine with fuel -/
def run (code : Nat → Op) : Nat → Kt
  | 0 => fun _ _ _ _ => none
  | n + 1 => fun pc ls st h => code pc (run code n) ls st h
theorem run_sound {code : Nat → Op} (hc : ∀ pc, SoundOp bytes own nL ret isI dF dL pc (code pc)) {p : Program} {l : Launch} {e : Env} {R : Room} {s : State} {m : MethodId} {args : Array Value} {below : List Frame} {meth : Method} {c : Code} {b : Nat} {D : va_G} {cy : Nat → ClassId} {pre : Nat → Nat} {n0 s0 : Nat} {out : RV × Hp}
    (C : Cx bytes own nL ret isI dF dL p R s m args meth c b D cy pre n0 s0 out) (hp : hN out.2 < PRE) : ∀ (n pc : Nat) (ls : List (Option EV)) (st : List EV) (h : Hp), run code n pc ls st h = some out → Wg ret nL p l e R s m args below meth c b D cy pre n0 s0 out pc ls st h := by
  intro n
  induction n with
  | zero => intro pc ls st h ho; cases ho
  | succ n ih => intro pc ls st h ho; exact hc pc p l e R s m args below meth c b D cy pre n0 s0 out C hp (run code n) ih ls st h ho
/-! constants, locals -/
def o_ic (x : Int32) (nx : Nat) : Op := fun k ls st h => k nx ls (vI x :: st) h
def o_lc (x : Int64) (nx : Nat) : Op := fun k ls st h => k nx ls (vL x :: st) h
def o_nul (nx : Nat) : Op := fun k ls st h => k nx ls (vR none :: st) h
def o_il (i nx : Nat) : Op := fun k ls st h => match ls[i]? with
  | some (some (.inl x)) => k nx ls (vI x :: st) h
  | _ => none
def o_ll (i nx : Nat) : Op := fun k ls st h => match ls[i]? with
  | some (some (.inr (.inl x))) => k nx ls (vL x :: st) h
  | _ => none
def o_al (i nx : Nat) : Op := fun k ls st h => match ls[i]? with
  | some (some (.inr (.inr r))) => k nx ls (vR r :: st) h
  | _ => none
def o_is (i nx : Nat) : Op := fun k ls st h => match st with
  | .inl x :: st' => k nx (st1 ls i (vI x)) st' h
  | _ => none
def o_ls (i nx : Nat) : Op := fun k ls st h => match st with
  | .inr (.inl x) :: st' => k nx (st2 ls i (vL x)) st' h
  | _ => none
def o_as (i nx : Nat) : Op := fun k ls st h => match st with
  | .inr (.inr r) :: st' => k nx (st1 ls i (vR r)) st' h
  | _ => none
def o_inc (i : Nat) (d : Int32) (nx : Nat) : Op := fun k ls st h => match ls[i]? with
  | some (some (.inl x)) => k nx (st1 ls i (vI (x + d))) st h
  | _ => none
theorem so_iconst {n : Int} {x : Int32} {pc : Nat} (hdg : decode bytes pc = .ok (.iconst n, 1)) (hv : Int32.ofInt n = x) : SoundOp bytes own nL ret isI dF dL pc (o_ic x (pc + 1)) := by
  intro p l e R s m args below meth c b D cy pre n0 s0 out C hp k hk ls st h ho
  obtain ⟨g1, g2, g3, g⟩ := hk _ _ _ _ ho
  exact ⟨g1, g2, g3, fun H locs cells slots lsM a1 a2 a3 a4 a5 a6 => lv_iconst C.1 C.2.1 hdg hv (g H locs cells slots lsM a1 a2 a3 a4 a5 a6)⟩
theorem so_bipush {n : Int} {x : Int32} {pc : Nat} (hdg : decode bytes pc = .ok (.bipush n, 2)) (hv : (Int8.ofInt n).toInt32 = x) : SoundOp bytes own nL ret isI dF dL pc (o_ic x (pc + 2)) := by
  intro p l e R s m args below meth c b D cy pre n0 s0 out C hp k hk ls st h ho
  obtain ⟨g1, g2, g3, g⟩ := hk _ _ _ _ ho
  exact ⟨g1, g2, g3, fun H locs cells slots lsM a1 a2 a3 a4 a5 a6 => lv_bipush C.1 C.2.1 hdg hv (g H locs cells slots lsM a1 a2 a3 a4 a5 a6)⟩
theorem so_sipush {n : Int} {x : Int32} {pc : Nat} (hdg : decode bytes pc = .ok (.sipush n, 3)) (hv : (Int16.ofInt n).toInt32 = x) : SoundOp bytes own nL ret isI dF dL pc (o_ic x (pc + 3)) := by
  intro p l e R s m args below meth c b D cy pre n0 s0 out C hp k hk ls st h ho
  obtain ⟨g1, g2, g3, g⟩ := hk _ _ _ _ ho
  exact ⟨g1, g2, g3, fun H locs cells slots lsM a1 a2 a3 a4 a5 a6 => lv_sipush C.1 C.2.1 hdg hv (g H locs cells slots lsM a1 a2 a3 a4 a5 a6)⟩
theorem so_ldc {i : Nat} {x : Int32} {pc : Nat} (hw : Cond.constant own i x ∈ bigW) (hdg : decode bytes pc = .ok (.ldc i, 2)) : SoundOp bytes own nL ret isI dF dL pc (o_ic x (pc + 2)) := by
  intro p l e R s m args below meth c b D cy pre n0 s0 out C hp k hk ls st h ho
  obtain ⟨g1, g2, g3, g⟩ := hk _ _ _ _ ho
  exact ⟨g1, g2, g3, fun H locs cells slots lsM a1 a2 a3 a4 a5 a6 => lv_ldc C.1 C.2.1 C.2.2.2.1 (C.2.2.2.2.1 _ hw) hdg (g H locs cells slots lsM a1 a2 a3 a4 a5 a6)⟩
theorem so_ldcw {i : Nat} {x : Int32} {pc : Nat} (hw : Cond.constant own i x ∈ bigW) (hdg : decode bytes pc = .ok (.ldc_w i, 3)) : SoundOp bytes own nL ret isI dF dL pc (o_ic x (pc + 3)) := by
  intro p l e R s m args below meth c b D cy pre n0 s0 out C hp k hk ls st h ho
  obtain ⟨g1, g2, g3, g⟩ := hk _ _ _ _ ho
  exact ⟨g1, g2, g3, fun H locs cells slots lsM a1 a2 a3 a4 a5 a6 => lv_ldcw C.1 C.2.1 C.2.2.2.1 (C.2.2.2.2.1 _ hw) hdg (g H locs cells slots lsM a1 a2 a3 a4 a5 a6)⟩
theorem so_ldc2 {i : Nat} {x : Int64} {pc : Nat} (hw : Cond.constantLong own i x ∈ bigW) (hdg : decode bytes pc = .ok (.ldc2_w i, 3)) : SoundOp bytes own nL ret isI dF dL pc (o_lc x (pc + 3)) := by
  intro p l e R s m args below meth c b D cy pre n0 s0 out C hp k hk ls st h ho
  obtain ⟨g1, g2, g3, g⟩ := hk _ _ _ _ ho
  exact ⟨g1, g2, g3, fun H locs cells slots lsM a1 a2 a3 a4 a5 a6 => lv_ldc2 C.1 C.2.1 C.2.2.2.1 (C.2.2.2.2.1 _ hw) hdg (g H locs cells slots lsM a1 a2 a3 a4 a5 a6)⟩
theorem so_lconst {n : Fin 2} {x : Int64} {pc : Nat} (hdg : decode bytes pc = .ok (.lconst n, 1)) (hv : Int64.ofNat (n : Nat) = x) : SoundOp bytes own nL ret isI dF dL pc (o_lc x (pc + 1)) := by
  intro p l e R s m args below meth c b D cy pre n0 s0 out C hp k hk ls st h ho
  obtain ⟨g1, g2, g3, g⟩ := hk _ _ _ _ ho
  exact ⟨g1, g2, g3, fun H locs cells slots lsM a1 a2 a3 a4 a5 a6 => lv_lconst C.1 C.2.1 hdg hv (g H locs cells slots lsM a1 a2 a3 a4 a5 a6)⟩
theorem so_null {pc : Nat} (hdg : decode bytes pc = .ok (.aconst_null, 1)) : SoundOp bytes own nL ret isI dF dL pc (o_nul (pc + 1)) := by
  intro p l e R s m args below meth c b D cy pre n0 s0 out C hp k hk ls st h ho
  obtain ⟨g1, g2, g3, g⟩ := hk _ _ _ _ ho
  exact ⟨g1, g2, g3, fun H locs cells slots lsM a1 a2 a3 a4 a5 a6 => lv_null C.1 C.2.1 hdg (g H locs cells slots lsM a1 a2 a3 a4 a5 a6)⟩
theorem so_iload_n {j : Fin 4} {i pc : Nat} (hdg : decode bytes pc = .ok (.iload_n j, 1)) (hi : (j : Nat) = i) : SoundOp bytes own nL ret isI dF dL pc (o_il i (pc + 1)) := by
  intro p l e R s m args below meth c b D cy pre n0 s0 out C hp k hk ls st h ho
  unfold o_il at ho
  split at ho
  · rename_i x hx
    obtain ⟨g1, g2, g3, g⟩ := hk _ _ _ _ ho
    exact ⟨g1, g2, g3, fun H locs cells slots lsM a1 a2 a3 a4 a5 a6 => lv_iload_n C.1 C.2.1 hdg hi (a6.2.2 i _ hx) (g H locs cells slots lsM a1 a2 a3 a4 a5 a6)⟩
  · cases ho
theorem so_iload {i pc : Nat} (hdg : decode bytes pc = .ok (.iload i, 2)) : SoundOp bytes own nL ret isI dF dL pc (o_il i (pc + 2)) := by
  intro p l e R s m args below meth c b D cy pre n0 s0 out C hp k hk ls st h ho
  unfold o_il at ho
  split at ho
  · rename_i x hx
    obtain ⟨g1, g2, g3, g⟩ := hk _ _ _ _ ho
    exact ⟨g1, g2, g3, fun H locs cells slots lsM a1 a2 a3 a4 a5 a6 => lv_iload C.1 C.2.1 hdg (a6.2.2 i _ hx) (g H locs cells slots lsM a1 a2 a3 a4 a5 a6)⟩
  · cases ho
theorem so_lload_n {j : Fin 4} {i pc : Nat} (hdg : decode bytes pc = .ok (.lload_n j, 1)) (hi : (j : Nat) = i) : SoundOp bytes own nL ret isI dF dL pc (o_ll i (pc + 1)) := by
  intro p l e R s m args below meth c b D cy pre n0 s0 out C hp k hk ls st h ho
  unfold o_ll at ho
  split at ho
  · rename_i x hx
    obtain ⟨g1, g2, g3, g⟩ := hk _ _ _ _ ho
    exact ⟨g1, g2, g3, fun H locs cells slots lsM a1 a2 a3 a4 a5 a6 => lv_lload_n C.1 C.2.1 hdg hi (a6.2.2 i _ hx) (g H locs cells slots lsM a1 a2 a3 a4 a5 a6)⟩
  · cases ho
theorem so_lload {i pc : Nat} (hdg : decode bytes pc = .ok (.lload i, 2)) : SoundOp bytes own nL ret isI dF dL pc (o_ll i (pc + 2)) := by
  intro p l e R s m args below meth c b D cy pre n0 s0 out C hp k hk ls st h ho
  unfold o_ll at ho
  split at ho
  · rename_i x hx
    obtain ⟨g1, g2, g3, g⟩ := hk _ _ _ _ ho
    exact ⟨g1, g2, g3, fun H locs cells slots lsM a1 a2 a3 a4 a5 a6 => lv_lload C.1 C.2.1 hdg (a6.2.2 i _ hx) (g H locs cells slots lsM a1 a2 a3 a4 a5 a6)⟩
  · cases ho
theorem so_aload_n {j : Fin 4} {i pc : Nat} (hdg : decode bytes pc = .ok (.aload_n j, 1)) (hi : (j : Nat) = i) : SoundOp bytes own nL ret isI dF dL pc (o_al i (pc + 1)) := by
  intro p l e R s m args below meth c b D cy pre n0 s0 out C hp k hk ls st h ho
  unfold o_al at ho
  split at ho
  · rename_i r hx
    obtain ⟨g1, g2, g3, g⟩ := hk _ _ _ _ ho
    refine ⟨g1, g2, g3, fun H locs cells slots lsM a1 a2 a3 a4 a5 a6 => ?_⟩
    have hv := a6.2.2 i _ hx
    have hg := g H locs cells slots lsM a1 a2 a3 a4 a5 a6
    cases r with
    | none => exact lv_aload_nN C.1 C.2.1 hdg hi hv hg
    | some x => exact lv_aload_n C.1 C.2.1 hdg hi hv hg
  · cases ho
theorem so_aload {i pc : Nat} (hdg : decode bytes pc = .ok (.aload i, 2)) : SoundOp bytes own nL ret isI dF dL pc (o_al i (pc + 2)) := by
  intro p l e R s m args below meth c b D cy pre n0 s0 out C hp k hk ls st h ho
  unfold o_al at ho
  split at ho
  · rename_i r hx
    obtain ⟨g1, g2, g3, g⟩ := hk _ _ _ _ ho
    refine ⟨g1, g2, g3, fun H locs cells slots lsM a1 a2 a3 a4 a5 a6 => ?_⟩
    have hv := a6.2.2 i _ hx
    have hg := g H locs cells slots lsM a1 a2 a3 a4 a5 a6
    cases r with
    | none => exact lv_aloadN C.1 C.2.1 hdg hv hg
    | some x => exact lv_aload C.1 C.2.1 hdg hv hg
  · cases ho
theorem so_istore_n {j : Fin 4} {i pc : Nat} (hdg : decode bytes pc = .ok (.istore_n j, 1)) (hi : (j : Nat) = i) (hn : i < nL) : SoundOp bytes own nL ret isI dF dL pc (o_is i (pc + 1)) := by
  intro p l e R s m args below meth c b D cy pre n0 s0 out C hp k hk ls st h ho
  unfold o_is at ho
  split at ho
  · obtain ⟨g1, g2, g3, g⟩ := hk _ _ _ _ ho
    exact ⟨g1, g2, g3, fun H locs cells slots lsM a1 a2 a3 a4 a5 a6 => lv_istore_n C.1 C.2.1 hdg hi a6.has hn rfl (fun ls' hl' => g H locs cells slots ls' a1 a2 a3 a4 a5 (LvR.st1 hl'))⟩
  · cases ho
theorem so_istore {i pc : Nat} (hdg : decode bytes pc = .ok (.istore i, 2)) (hn : i < nL) : SoundOp bytes own nL ret isI dF dL pc (o_is i (pc + 2)) := by
  intro p l e R s m args below meth c b D cy pre n0 s0 out C hp k hk ls st h ho
  unfold o_is at ho
  split at ho
  · obtain ⟨g1, g2, g3, g⟩ := hk _ _ _ _ ho
    exact ⟨g1, g2, g3, fun H locs cells slots lsM a1 a2 a3 a4 a5 a6 => lv_istore C.1 C.2.1 hdg a6.has hn rfl (fun ls' hl' => g H locs cells slots ls' a1 a2 a3 a4 a5 (LvR.st1 hl'))⟩
  · cases ho
theorem so_lstore_n {j : Fin 4} {i pc : Nat} (hdg : decode bytes pc = .ok (.lstore_n j, 1)) (hi : (j : Nat) = i) (hn : i + 1 < nL) : SoundOp bytes own nL ret isI dF dL pc (o_ls i (pc + 1)) := by
  intro p l e R s m args below meth c b D cy pre n0 s0 out C hp k hk ls st h ho
  unfold o_ls at ho
  split at ho
  · obtain ⟨g1, g2, g3, g⟩ := hk _ _ _ _ ho
    exact ⟨g1, g2, g3, fun H locs cells slots lsM a1 a2 a3 a4 a5 a6 => lv_lstore_n C.1 C.2.1 hdg hi a6.has hn rfl (fun ls' hl' => g H locs cells slots ls' a1 a2 a3 a4 a5 (LvR.st2 hl'))⟩
  · cases ho
theorem so_lstore {i pc : Nat} (hdg : decode bytes pc = .ok (.lstore i, 2)) (hn : i + 1 < nL) : SoundOp bytes own nL ret isI dF dL pc (o_ls i (pc + 2)) := by
  intro p l e R s m args below meth c b D cy pre n0 s0 out C hp k hk ls st h ho
  unfold o_ls at ho
  split at ho
  · obtain ⟨g1, g2, g3, g⟩ := hk _ _ _ _ ho
    exact ⟨g1, g2, g3, fun H locs cells slots lsM a1 a2 a3 a4 a5 a6 => lv_lstore C.1 C.2.1 hdg a6.has hn rfl (fun ls' hl' => g H locs cells slots ls' a1 a2 a3 a4 a5 (LvR.st2 hl'))⟩
  · cases ho
theorem so_astore_n {j : Fin 4} {i pc : Nat} (hdg : decode bytes pc = .ok (.astore_n j, 1)) (hi : (j : Nat) = i) (hn : i < nL) : SoundOp bytes own nL ret isI dF dL pc (o_as i (pc + 1)) := by
  intro p l e R s m args below meth c b D cy pre n0 s0 out C hp k hk ls st h ho
  unfold o_as at ho
  split at ho
  · rename_i r st'
    obtain ⟨g1, g2, g3, g⟩ := hk _ _ _ _ ho
    refine ⟨g1, g2, g3, fun H locs cells slots lsM a1 a2 a3 a4 a5 a6 => ?_⟩
    have hg := fun ls' hl' => g H locs cells slots ls' a1 a2 a3 a4 a5 (LvR.st1 hl')
    cases r with
    | none => exact lv_astore_nN C.1 C.2.1 hdg hi a6.has hn rfl hg
    | some x => exact lv_astore_n C.1 C.2.1 hdg hi a6.has hn rfl hg
  · cases ho
theorem so_astore {i pc : Nat} (hdg : decode bytes pc = .ok (.astore i, 2)) (hn : i < nL) : SoundOp bytes own nL ret isI dF dL pc (o_as i (pc + 2)) := by
  intro p l e R s m args below meth c b D cy pre n0 s0 out C hp k hk ls st h ho
  unfold o_as at ho
  split at ho
  · rename_i r st'
    obtain ⟨g1, g2, g3, g⟩ := hk _ _ _ _ ho
    refine ⟨g1, g2, g3, fun H locs cells slots lsM a1 a2 a3 a4 a5 a6 => ?_⟩
    have hg := fun ls' hl' => g H locs cells slots ls' a1 a2 a3 a4 a5 (LvR.st1 hl')
    cases r with
    | none => exact lv_astoreN C.1 C.2.1 hdg a6.has hn rfl hg
    | some x => exact lv_astore C.1 C.2.1 hdg a6.has hn rfl hg
  · cases ho
theorem so_iinc {i pc : Nat} {d : Int} {v : Int32} (hdg : decode bytes pc = .ok (.iinc i d, 3)) (hv : Int32.ofInt d = v) (hn : i < nL) : SoundOp bytes own nL ret isI dF dL pc (o_inc i v (pc + 3)) := by
  intro p l e R s m args below meth c b D cy pre n0 s0 out C hp k hk ls st h ho
  unfold o_inc at ho
  split at ho
  · rename_i x hx
    obtain ⟨g1, g2, g3, g⟩ := hk _ _ _ _ ho
    refine ⟨g1, g2, g3, fun H locs cells slots lsM a1 a2 a3 a4 a5 a6 => ?_⟩
    obtain ⟨j, hj⟩ := List.getElem?_of_mem (lvl_mem (ad := adr b pre) hx)
    exact lv_iinc C.1 C.2.1 hdg a6.has hj (by rw [hv]) hn rfl (fun ls' hl' => g H locs cells slots ls' a1 a2 a3 a4 a5 (LvR.st1 hl'))
  · cases ho
end
