/-! ===== fields and arrays ===== -/
def dR {α : Type} (r : Option Nat) (f : Nat → Option α) : Option α := match r with
  | none => none
  | some a => f a
theorem dR_some {α : Type} (a : Nat) (f : Nat → Option α) : dR (some a) f = f a := rfl
theorem dR_out {α : Type} {r : Option Nat} {f : Nat → Option α} {o : α} (h : dR r f = some o) : ∃ a, r = some a ∧ f a = some o := by
  cases r with
  | none => cases h
  | some a => exact ⟨a, rfl, h⟩
def inb (i : Int32) (n : Nat) : Bool := !(decide (i < 0) || decide (n ≤ i.toNatClampNeg))
theorem inb_in {i : Int32} {n : Nat} (h : inb i n = true) : vp_in i n := by
  unfold inb at h
  simpa [vp_in] using h
def iaK (c : Nat) : Bool := Nat.beq c 20 || Nat.beq c 25
section
variable {bytes : ByteArray} {own : String} {nL : Nat} {ret : Option FieldType} {isI : Bool} {dF dL : Nat}
variable {p : Program} {l : Launch} {e : Env} {R : Room} {s : State} {m : MethodId} {args : Array Value} {below : List Frame} {meth : Method} {c0 : Code} {b : Nat} {D : va_G} {cy : Nat → ClassId} {pre : Nat → Nat} {n0 s0 : Nat} {out : RV × Hp} {H : Heap} {locs : List Loc} {cells slots : Nat} {Q : State → Prop} {pc : Nat} {lsM : Array Slot} {rest : List Value} {h : Hp}
theorem adr_lo {a : Nat} (hH : Hold b D cy pre h s H) (ha : a < hN h) : adr b pre a = b + a := by
  have := hH.2.1
  unfold adr
  rw [if_pos (by omega)]
theorem w_get (C : Cx bytes own nL ret isI dF dL p R s m args meth c0 b D cy pre n0 s0 out) {c j a idx : Nat} (hc : c < 13) (hj : j < nF c) (hin : ∀ w ∈ u_ws (clR c) (clT c) (nF c), w ∈ bigW) (hw : Cond.fieldLink own idx (clT c j).1 (clT c j).2.1 (clT c j).2.2.1 ∈ bigW) (hH : Hold b D cy pre h s H) (hk : hK h a = c) (hdg : decode bytes pc = .ok (.getfield idx, 3))
    (kk : W p l e R s m args below meth c0 H locs cells slots Q (F0 m (pc + 3) lsM (fv (tyF c j) (hI h a j) (hL h a j) ((hR h a j).map (adr b pre)) :: rest))) : W p l e R s m args below meth c0 H locs cells slots Q (F0 m pc lsM (.ref (adr b pre a) :: rest)) := by
  subst hk
  obtain ⟨hlt, cell, q1, q2, q3, q4⟩ := (hH.2.2 a).1 hc
  rw [adr_lo hH hlt]
  obtain ⟨hS, hfc, kC, hkC, hkind⟩ := C.2.2.2.2.2.2.1.1 (hK h a) _ (vw_get _ hc)
  obtain ⟨cf, kf, fi, f, hi, hsl⟩ := hS j hj
  refine W.getf C.1 C.2.1 C.2.2.2.1 (C.2.2.2.2.1 _ hw) hi (u_facts hfc hkC (u_lays C.2.2.2.2.1 hin hj) hi).1 q1 (by rw [q3]; exact fun h => by cases h) (v := fv (tyF (hK h a) j) (hI h a j) (hL h a j) ((hR h a j).map (adr b pre))) ?_ rfl rfl hdg kk
  rw [hsl, q4 j hj]
theorem w_put (C : Cx bytes own nL ret isI dF dL p R s m args meth c0 b D cy pre n0 s0 out) {c j a idx : Nat} {v : Value} (hc : c < 13) (hj : j < nF c) (hin : ∀ w ∈ u_ws (clR c) (clT c) (nF c), w ∈ bigW) (hw : Cond.fieldLink own idx (clT c j).1 (clT c j).2.1 (clT c j).2.2.1 ∈ bigW) (hf : (clT c j).2.2.2 = false ∨ ((clT c j).2.2.2 = true ∧ isI = true ∧ (clT c j).1 = own)) (hn : narrow (tyF c j) v = v) (hfit : fits (tyF c j) v = true) (hH : Hold b D cy pre h s H) (hk : hK h a = c) (hdg : decode bytes pc = .ok (.putfield idx, 3))
    (kk : ∀ (H1 : Heap) (i : Nat), H1.size = H.size → (∀ q : Nat, q ≠ b + a → H1[q]? = H[q]?) → a < hN h → t_OB (b + a) (D.1 c) (nF c) (D.2 c) H1 (updV (fun j => fv (tyF c j) (hI h a j) (hL h a j) ((hR h a j).map (adr b pre))) j v) → W p l e R s m args below meth c0 H1 (locs ++ [⟨b + a, i⟩]) cells slots Q (F0 m (pc + 3) lsM rest)) : W p l e R s m args below meth c0 H locs cells slots Q (F0 m pc lsM (v :: .ref (adr b pre a) :: rest)) := by
  subst hk
  obtain ⟨hlt, cell, q1, q2, q3, q4⟩ := (hH.2.2 a).1 hc
  rw [adr_lo hH hlt]
  have hKk := C.2.2.2.2.2.2.1
  have hts := C.2.2.2.2.1
  have hvw := vw_get _ hc
  have hap := va_apart (own := own) hts hin (tyF (hK h a)) (ty_ok _ hc) (nm_ok _ hc) hKk hvw
  obtain ⟨hS, hfc, kC, hkC, hkind⟩ := hKk.1 (hK h a) _ hvw
  obtain ⟨cf, kf, fi, f, hi, hsl⟩ := hS j hj
  have hst := (u_facts hfc hkC (u_lays hts hin hj) hi).1
  have hlay := hts _ (hin _ (u_in_lay hj))
  unfold u_lay at hlay
  have fin : ∀ (H' : Heap), H'[b + a]? = some (cell.setSlot f.slot v) → t_OB (b + a) (D.1 (hK h a)) (nF (hK h a)) (D.2 (hK h a)) H' (updV (fun j => fv (tyF (hK h a) j) (hI h a j) (hL h a j) ((hR h a j).map (adr b pre))) j v) := by
    intro H' e1
    rw [hsl] at e1
    exact ⟨_, e1, q2, q3, t_set q4 hap hj v⟩
  rcases hf with hf | ⟨hf, hI1, hd1⟩
  · rw [if_neg (by rw [hf]; decide)] at hlay
    have h6 := u_store hfc hkC hkind hlay hi (ty_ok _ hc j hj) hn hfit
    exact W.putK C.1 C.2.1 (f := f) ⟨C.2.2.2.1, hts _ hw, ⟨_, _, _, hi⟩, hst⟩ (by rw [q2]; exact h6) q1 q3 (by rw [hsl]; exact k2_hasslot (q4 j hj)) rfl rfl hdg fun H' e1 e2 e3 => kk H' _ e2 e3 hlt (fin H' e1)
  · rw [if_pos hf] at hlay
    have hcf : m.cls = cf := by
      obtain ⟨_, _, c', _, _, _, -, -, hf', -, -, -, hown2, -⟩ := Cond.laysFinal_spec hlay
      have e1 : c' = cf := by have := hi.symm.trans hf'; simp at this; exact this.1.symm
      rw [hd1] at hown2
      rw [← e1]; exact Option.some.inj (C.2.2.2.1.symm.trans hown2)
    have h6 := u_fits hfc hkC hkind (Or.inr hlay) hi (ty_ok _ hc j hj) hn hfit
    exact W.putFinK C.1 C.2.1 C.2.2.2.1 (hts _ hw) hi hst hcf (C.2.2.2.2.2.2.2.2.2.2.2.2.2.1 hI1) (by rw [q2]; exact h6) q1 q3 (by rw [hsl]; exact k2_hasslot (q4 j hj)) rfl rfl hdg fun H' e1 e2 e3 => kk H' _ e2 e3 hlt (fin H' e1)
theorem locs_add {i a : Nat} (h : ∀ q ∈ locs, b ≤ q.base) : ∀ q ∈ locs ++ [(⟨b + a, i⟩ : Loc)], b ≤ q.base := by
  intro q hq
  rcases List.mem_append.mp hq with z | z
  · exact h q z
  · cases List.mem_singleton.mp z
    exact Nat.le_add_right b a
theorem below_set {H1 : Heap} {a : Nat} (h : ∀ q, q < b → H[q]? = s.heap[q]?) (ho : ∀ q : Nat, q ≠ b + a → H1[q]? = H[q]?) : ∀ q, q < b → H1[q]? = s.heap[q]? := fun q hq => (ho q (by omega)).trans (h q hq)
end
theorem hc_other {b : Nat} {D : va_G} {cy : Nat → ClassId} {pre : Nat → Nat} {h : Hp} {U : State} {H : Heap} {k : Nat} (h1 : hK h k < 13) (hc : k < hN h ∧ t_OB (b + k) (D.1 (hK h k)) (nF (hK h k)) (D.2 (hK h k)) H (fun j => fv (tyF (hK h k) j) (hI h k j) (hL h k j) ((hR h k j).map (adr b pre)))) : HC b D cy pre h U H k :=
  ⟨fun _ => hc, fun z => by omega, fun z => by omega, fun z => by omega, fun z => by omega, fun z => by omega, fun z => by omega, fun z => by omega, fun z => by omega⟩
section
variable {bytes : ByteArray} {own : String} {nL : Nat} {ret : Option FieldType} {isI : Bool} {dF dL : Nat} {pc : Nat}
def o_gI (c j nx : Nat) : Op := fun k ls st h => match st with
  | .inr (.inr r) :: st' => dR r (fun a => if hK h a = c then k nx ls (vI (hI h a j) :: st') h else none)
  | _ => none
def o_gL (c j nx : Nat) : Op := fun k ls st h => match st with
  | .inr (.inr r) :: st' => dR r (fun a => if hK h a = c then k nx ls (vL (hL h a j) :: st') h else none)
  | _ => none
def o_gR (c j nx : Nat) : Op := fun k ls st h => match st with
  | .inr (.inr r) :: st' => dR r (fun a => if hK h a = c then k nx ls (vR (hR h a j) :: st') h else none)
  | _ => none
def o_pI (c j nx : Nat) : Op := fun k ls st h => match st with
  | .inl x :: .inr (.inr r) :: st' => dR r (fun a => if hK h a = c then k nx ls st' (sI h a j x) else none)
  | _ => none
def o_pZ (c j nx : Nat) : Op := fun k ls st h => match st with
  | .inl x :: .inr (.inr r) :: st' => dR r (fun a => if hK h a = c then (bif isZ x then k nx ls st' (sI h a j x) else none) else none)
  | _ => none
def o_pL (c j nx : Nat) : Op := fun k ls st h => match st with
  | .inr (.inl x) :: .inr (.inr r) :: st' => dR r (fun a => if hK h a = c then k nx ls st' (sL h a j x) else none)
  | _ => none
def o_pR (c j nx : Nat) : Op := fun k ls st h => match st with
  | .inr (.inr x) :: .inr (.inr r) :: st' => dR r (fun a => if hK h a = c then k nx ls st' (sR h a j x) else none)
  | _ => none
theorem so_gI {c j idx : Nat} (hc : c < 13) (hj : j < nF c) (hin : ∀ w ∈ u_ws (clR c) (clT c) (nF c), w ∈ bigW) (hw : Cond.fieldLink own idx (clT c j).1 (clT c j).2.1 (clT c j).2.2.1 ∈ bigW) (ht : ∀ i l r, fv (tyF c j) i l r = .int i) (hdg : decode bytes pc = .ok (.getfield idx, 3)) : SoundOp bytes own nL ret isI dF dL pc (o_gI c j (pc + 3)) := by
  intro p l e R s m args below meth c0 b D cy pre n0 s0 out C hp k hk ls st h ho
  unfold o_gI at ho
  split at ho
  · obtain ⟨a, rfl, hz⟩ := dR_out ho
    clear ho
    have ho := hz
    clear hz
    split at ho
    · rename_i hka
      obtain ⟨g1, g2, g3, g⟩ := hk _ _ _ _ ho
      refine ⟨g1, g2, g3, fun H locs cells slots lsM a1 a2 a3 a4 a5 a6 => w_get C hc hj hin hw a1 hka hdg ?_⟩
      rw [ht]
      exact g H locs cells slots lsM a1 a2 a3 a4 a5 a6
    · cases ho
  · cases ho
theorem so_gL {c j idx : Nat} (hc : c < 13) (hj : j < nF c) (hin : ∀ w ∈ u_ws (clR c) (clT c) (nF c), w ∈ bigW) (hw : Cond.fieldLink own idx (clT c j).1 (clT c j).2.1 (clT c j).2.2.1 ∈ bigW) (ht : ∀ i l r, fv (tyF c j) i l r = .long l) (hdg : decode bytes pc = .ok (.getfield idx, 3)) : SoundOp bytes own nL ret isI dF dL pc (o_gL c j (pc + 3)) := by
  intro p l e R s m args below meth c0 b D cy pre n0 s0 out C hp k hk ls st h ho
  unfold o_gL at ho
  split at ho
  · obtain ⟨a, rfl, hz⟩ := dR_out ho
    clear ho
    have ho := hz
    clear hz
    split at ho
    · rename_i hka
      obtain ⟨g1, g2, g3, g⟩ := hk _ _ _ _ ho
      refine ⟨g1, g2, g3, fun H locs cells slots lsM a1 a2 a3 a4 a5 a6 => w_get C hc hj hin hw a1 hka hdg ?_⟩
      rw [ht]
      exact g H locs cells slots lsM a1 a2 a3 a4 a5 a6
    · cases ho
  · cases ho
theorem so_gR {c j idx : Nat} (hc : c < 13) (hj : j < nF c) (hin : ∀ w ∈ u_ws (clR c) (clT c) (nF c), w ∈ bigW) (hw : Cond.fieldLink own idx (clT c j).1 (clT c j).2.1 (clT c j).2.2.1 ∈ bigW) (ht : ∀ i l r, fv (tyF c j) i l r = va_rf r) (hdg : decode bytes pc = .ok (.getfield idx, 3)) : SoundOp bytes own nL ret isI dF dL pc (o_gR c j (pc + 3)) := by
  intro p l e R s m args below meth c0 b D cy pre n0 s0 out C hp k hk ls st h ho
  unfold o_gR at ho
  split at ho
  · obtain ⟨a, rfl, hz⟩ := dR_out ho
    clear ho
    have ho := hz
    clear hz
    split at ho
    · rename_i hka
      obtain ⟨g1, g2, g3, g⟩ := hk _ _ _ _ ho
      refine ⟨g1, g2, g3, fun H locs cells slots lsM a1 a2 a3 a4 a5 a6 => w_get C hc hj hin hw a1 hka hdg ?_⟩
      rw [ht]
      exact g H locs cells slots lsM a1 a2 a3 a4 a5 a6
    · cases ho
  · cases ho
theorem so_pI {c j idx : Nat} (hc : c < 13) (hj : j < nF c) (hin : ∀ w ∈ u_ws (clR c) (clT c) (nF c), w ∈ bigW) (hw : Cond.fieldLink own idx (clT c j).1 (clT c j).2.1 (clT c j).2.2.1 ∈ bigW) (hf : (clT c j).2.2.2 = false ∨ ((clT c j).2.2.2 = true ∧ isI = true ∧ (clT c j).1 = own)) (ht : tyF c j = .int) (hdg : decode bytes pc = .ok (.putfield idx, 3)) : SoundOp bytes own nL ret isI dF dL pc (o_pI c j (pc + 3)) := by
  intro p l e R s m args below meth c0 b D cy pre n0 s0 out C hp k hk ls st h ho
  unfold o_pI at ho
  split at ho
  · rename_i x r st'
    obtain ⟨a, rfl, hz⟩ := dR_out ho
    clear ho
    have ho := hz
    clear hz
    split at ho
    · rename_i hka
      obtain ⟨g1, g2, g3, g⟩ := hk _ _ _ _ ho
      refine ⟨g1, g2, g3, fun H locs cells slots lsM a1 a2 a3 a4 a5 a6 => w_put C hc hj hin hw hf (by rw [ht]; rfl) (by rw [ht]; rfl) a1 hka hdg fun H1 i z o1 hlt hob => ?_⟩
      refine g H1 _ cells slots lsM (a1.set z o1 rfl (fun _ => rfl) (fun _ => rfl) (fun _ _ _ => rfl) (fun _ _ _ => rfl) (fun x y hx => by rw [hI_sI, if_neg hx]) (hc_other (by rw [hK_sI, hka]; exact hc) ⟨hlt, ?_⟩)) (below_set a2 o1) (locs_add a3) a4 a5 a6
      rw [hK_sI, hka]
      refine hob.to fun q hq => ?_
      unfold updV
      rw [hI_sI, hL_sI, hR_sI, if_pos rfl]
      by_cases e : q = j
      · subst e
        rw [if_pos rfl, if_pos rfl, ht]; rfl
      · rw [if_neg e, if_neg e]
    · cases ho
  · cases ho
theorem so_pZ {c j idx : Nat} (hc : c < 13) (hj : j < nF c) (hin : ∀ w ∈ u_ws (clR c) (clT c) (nF c), w ∈ bigW) (hw : Cond.fieldLink own idx (clT c j).1 (clT c j).2.1 (clT c j).2.2.1 ∈ bigW) (hf : (clT c j).2.2.2 = false ∨ ((clT c j).2.2.2 = true ∧ isI = true ∧ (clT c j).1 = own)) (ht : tyF c j = .boolean) (hdg : decode bytes pc = .ok (.putfield idx, 3)) : SoundOp bytes own nL ret isI dF dL pc (o_pZ c j (pc + 3)) := by
  intro p l e R s m args below meth c0 b D cy pre n0 s0 out C hp k hk ls st h ho
  unfold o_pZ at ho
  split at ho
  · rename_i x r st'
    obtain ⟨a, rfl, hz⟩ := dR_out ho
    clear ho
    have ho := hz
    clear hz
    split at ho
    · rename_i hka
      cases hx : isZ x with
      | false => rw [hx] at ho; cases ho
      | true =>
        rw [hx] at ho
        obtain ⟨g1, g2, g3, g⟩ := hk _ _ _ _ ho
        refine ⟨g1, g2, g3, fun H locs cells slots lsM a1 a2 a3 a4 a5 a6 => w_put C hc hj hin hw hf (by rw [ht]; exact (isZ_nar hx).1) (by rw [ht]; exact (isZ_nar hx).2) a1 hka hdg fun H1 i z o1 hlt hob => ?_⟩
        refine g H1 _ cells slots lsM (a1.set z o1 rfl (fun _ => rfl) (fun _ => rfl) (fun _ _ _ => rfl) (fun _ _ _ => rfl) (fun x y hx => by rw [hI_sI, if_neg hx]) (hc_other (by rw [hK_sI, hka]; exact hc) ⟨hlt, ?_⟩)) (below_set a2 o1) (locs_add a3) a4 a5 a6
        rw [hK_sI, hka]
        refine hob.to fun q hq => ?_
        unfold updV
        rw [hI_sI, hL_sI, hR_sI, if_pos rfl]
        by_cases e : q = j
        · subst e
          rw [if_pos rfl, if_pos rfl, ht]; rfl
        · rw [if_neg e, if_neg e]
    · cases ho
  · cases ho
theorem so_pL {c j idx : Nat} (hc : c < 13) (hj : j < nF c) (hin : ∀ w ∈ u_ws (clR c) (clT c) (nF c), w ∈ bigW) (hw : Cond.fieldLink own idx (clT c j).1 (clT c j).2.1 (clT c j).2.2.1 ∈ bigW) (hf : (clT c j).2.2.2 = false ∨ ((clT c j).2.2.2 = true ∧ isI = true ∧ (clT c j).1 = own)) (ht : tyF c j = .long) (hdg : decode bytes pc = .ok (.putfield idx, 3)) : SoundOp bytes own nL ret isI dF dL pc (o_pL c j (pc + 3)) := by
  intro p l e R s m args below meth c0 b D cy pre n0 s0 out C hp k hk ls st h ho
  unfold o_pL at ho
  split at ho
  · rename_i x r st'
    obtain ⟨a, rfl, hz⟩ := dR_out ho
    clear ho
    have ho := hz
    clear hz
    split at ho
    · rename_i hka
      obtain ⟨g1, g2, g3, g⟩ := hk _ _ _ _ ho
      refine ⟨g1, g2, g3, fun H locs cells slots lsM a1 a2 a3 a4 a5 a6 => w_put C hc hj hin hw hf (by rw [ht]; rfl) (by rw [ht]; rfl) a1 hka hdg fun H1 i z o1 hlt hob => ?_⟩
      refine g H1 _ cells slots lsM (a1.set z o1 rfl (fun _ => rfl) (fun _ => rfl) (fun _ _ _ => rfl) (fun x y hx => by rw [hL_sL, if_neg hx]) (fun _ _ _ => rfl) (hc_other (by rw [hK_sL, hka]; exact hc) ⟨hlt, ?_⟩)) (below_set a2 o1) (locs_add a3) a4 a5 a6
      rw [hK_sL, hka]
      refine hob.to fun q hq => ?_
      unfold updV
      rw [hI_sL, hL_sL, hR_sL, if_pos rfl]
      by_cases e : q = j
      · subst e
        rw [if_pos rfl, if_pos rfl, ht]; rfl
      · rw [if_neg e, if_neg e]
    · cases ho
  · cases ho
theorem fit_rf {ty : FieldType} (ht : (∃ n, ty = .object n) ∨ ∃ t, ty = .array t) (r : Option Nat) : narrow ty (va_rf r) = va_rf r ∧ fits ty (va_rf r) = true ∧ ∀ i l q, fv ty i l q = va_rf q := by
  rcases ht with ⟨n, rfl⟩ | ⟨t, rfl⟩ <;> cases r <;> exact ⟨rfl, rfl, fun _ _ _ => rfl⟩
theorem so_pR {c j idx : Nat} (hc : c < 13) (hj : j < nF c) (hin : ∀ w ∈ u_ws (clR c) (clT c) (nF c), w ∈ bigW) (hw : Cond.fieldLink own idx (clT c j).1 (clT c j).2.1 (clT c j).2.2.1 ∈ bigW) (hf : (clT c j).2.2.2 = false ∨ ((clT c j).2.2.2 = true ∧ isI = true ∧ (clT c j).1 = own)) (ht : (∃ n, tyF c j = .object n) ∨ ∃ t, tyF c j = .array t) (hdg : decode bytes pc = .ok (.putfield idx, 3)) : SoundOp bytes own nL ret isI dF dL pc (o_pR c j (pc + 3)) := by
  intro p l e R s m args below meth c0 b D cy pre n0 s0 out C hp k hk ls st h ho
  unfold o_pR at ho
  split at ho
  · rename_i x r st'
    obtain ⟨a, rfl, hz⟩ := dR_out ho
    clear ho
    have ho := hz
    clear hz
    split at ho
    · rename_i hka
      obtain ⟨g1, g2, g3, g⟩ := hk _ _ _ _ ho
      obtain ⟨f1, f2, f3⟩ := fit_rf ht (x.map (adr b pre))
      refine ⟨g1, g2, g3, fun H locs cells slots lsM a1 a2 a3 a4 a5 a6 => w_put C hc hj hin hw hf f1 f2 a1 hka hdg fun H1 i z o1 hlt hob => ?_⟩
      refine g H1 _ cells slots lsM (a1.set z o1 rfl (fun _ => rfl) (fun _ => rfl) (fun x y hx => by rw [hR_sR, if_neg hx]) (fun _ _ _ => rfl) (fun _ _ _ => rfl) (hc_other (by rw [hK_sR, hka]; exact hc) ⟨hlt, ?_⟩)) (below_set a2 o1) (locs_add a3) a4 a5 a6
      rw [hK_sR, hka]
      refine hob.to fun q hq => ?_
      unfold updV
      rw [hI_sR, hL_sR, hR_sR, if_pos rfl]
      by_cases e : q = j
      · subst e
        rw [if_pos rfl, if_pos rfl, f3]; rfl
      · rw [if_neg e, if_neg e]
    · cases ho
  · cases ho
end
