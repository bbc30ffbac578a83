/-! ===== arrays, new cells, statics ===== -/
section
variable {bytes : ByteArray} {own : String} {nL : Nat} {ret : Option FieldType} {isI : Bool} {dF dL : Nat} {pc : Nat}
def o_iald (nx : Nat) : Op := fun k ls st h => match st with
  | .inl i :: .inr (.inr r) :: st' => dR r (fun a => bif iaK (hK h a) && inb i (hE h a) then k nx ls (vI (hI h a i.toNatClampNeg) :: st') h else none)
  | _ => none
def o_bald (nx : Nat) : Op := fun k ls st h => match st with
  | .inl i :: .inr (.inr r) :: st' => dR r (fun a => bif Nat.beq (hK h a) 21 && inb i (hE h a) then k nx ls (vI (hI h a i.toNatClampNeg) :: st') h else none)
  | _ => none
def o_zald (nx : Nat) : Op := fun k ls st h => match st with
  | .inl i :: .inr (.inr r) :: st' => dR r (fun a => bif Nat.beq (hK h a) 22 && inb i (hE h a) then k nx ls (vI (hI h a i.toNatClampNeg) :: st') h else none)
  | _ => none
def o_lald (nx : Nat) : Op := fun k ls st h => match st with
  | .inl i :: .inr (.inr r) :: st' => dR r (fun a => bif Nat.beq (hK h a) 23 && inb i (hE h a) then k nx ls (vL (hL h a i.toNatClampNeg) :: st') h else none)
  | _ => none
def o_aald (kc nx : Nat) : Op := fun k ls st h => match st with
  | .inl i :: .inr (.inr r) :: st' => dR r (fun a => bif Nat.beq (hK h a) kc && inb i (hE h a) then k nx ls (vR (hR h a i.toNatClampNeg) :: st') h else none)
  | _ => none
theorem inb_lt {i : Int32} {n : Nat} (h : vp_in i n) : i.toNatClampNeg < n := Nat.not_le.mp fun q => h (Or.inr q)
theorem in_arr {i : Int32} {n : Nat} {cI : ClassId} {f : Nat → Value} (h : vp_in i n) : ¬ (i < 0 ∨ (arrV cI n f).slots.size ≤ i.toNatClampNeg) := by
  rw [arrV_size]; exact h
theorem so_iald (hdg : decode bytes pc = .ok (.iaload, 1)) : SoundOp bytes own nL ret isI dF dL pc (o_iald (pc + 1)) := by
  intro p l e R s m args below meth c0 b D cy pre n0 s0 out C hp k hk ls st h ho
  unfold o_iald at ho
  split at ho
  · rename_i i r st'
    obtain ⟨a, rfl, hz⟩ := dR_out ho
    clear ho
    have ho := hz
    clear hz
    cases hb : (iaK (hK h a) && inb i (hE h a)) with
    | false => rw [hb] at ho; cases ho
    | true =>
      rw [hb] at ho
      obtain ⟨b1, b2⟩ := Bool.and_eq_true_iff.mp hb
      have hi := inb_in b2
      obtain ⟨g1, g2, g3, g⟩ := hk _ _ _ _ ho
      refine ⟨g1, g2, g3, fun H locs cells slots lsM a1 a2 a3 a4 a5 a6 => ?_⟩
      have kk := g H locs cells slots lsM a1 a2 a3 a4 a5 a6
      show W p l e R s m args below meth c0 H locs cells slots _ (F0 m pc lsM (.int i :: .ref (adr b pre a) :: List.map (trV (adr b pre)) st'))
      rcases Bool.or_eq_true_iff.mp b1 with z | z
      · have z := Nat.eq_of_beq_eq_true z
        obtain ⟨hlt, hcell⟩ := (a1.2.2 a).2.1 (Or.inl z)
        rw [z] at hcell
        rw [adr_lo a1 hlt]
        exact W.iald (v := .int (hI h a i.toNatClampNeg)) C.1 C.2.1 hcell ((C.2.2.2.2.2.2.1.2 0 _ rfl).1 _ _) (fun q => by cases q) (in_arr hi) (arrV_read _ _ (inb_lt hi)) rfl rfl hdg kk
      · have z := Nat.eq_of_beq_eq_true z
        obtain ⟨hge, cell, h1, h2, h3, h4, h5, h6, h7⟩ := (a1.2.2 a).2.2.2.2.1 z
        have ea : adr b pre a = pre (a - PRE) := by unfold adr; rw [if_neg (by omega)]
        rw [ea]
        refine W.iald (v := .int (hI h a i.toNatClampNeg)) C.1 C.2.1 h1 h2 h3 ?_ (h6 _ (inb_lt hi)) rfl rfl hdg kk
        rintro (q | q)
        · exact hi (Or.inl q)
        · have := inb_lt hi; omega
  · cases ho
theorem so_bald (hdg : decode bytes pc = .ok (.baload, 1)) : SoundOp bytes own nL ret isI dF dL pc (o_bald (pc + 1)) := by
  intro p l e R s m args below meth c0 b D cy pre n0 s0 out C hp k hk ls st h ho
  unfold o_bald at ho
  split at ho
  · rename_i i r st'
    obtain ⟨a, rfl, hz⟩ := dR_out ho
    clear ho
    have ho := hz
    clear hz
    cases hb : (Nat.beq (hK h a) 21 && inb i (hE h a)) with
    | false => rw [hb] at ho; cases ho
    | true =>
      rw [hb] at ho
      obtain ⟨b1, b2⟩ := Bool.and_eq_true_iff.mp hb
      have hi := inb_in b2
      have z := Nat.eq_of_beq_eq_true b1
      obtain ⟨g1, g2, g3, g⟩ := hk _ _ _ _ ho
      refine ⟨g1, g2, g3, fun H locs cells slots lsM a1 a2 a3 a4 a5 a6 => ?_⟩
      have kk := g H locs cells slots lsM a1 a2 a3 a4 a5 a6
      show W p l e R s m args below meth c0 H locs cells slots _ (F0 m pc lsM (.int i :: .ref (adr b pre a) :: List.map (trV (adr b pre)) st'))
      obtain ⟨hlt, hcell⟩ := (a1.2.2 a).2.1 (Or.inr (Or.inl z))
      try rw [z] at hcell
      rw [adr_lo a1 hlt]
      exact W.bald (v := .int (hI h a i.toNatClampNeg)) C.1 C.2.1 hcell ((C.2.2.2.2.2.2.1.2 1 _ rfl).1 _ _) (fun q => by cases q) (in_arr hi) (arrV_read _ _ (inb_lt hi)) rfl rfl hdg kk
  · cases ho
theorem so_zald (hdg : decode bytes pc = .ok (.baload, 1)) : SoundOp bytes own nL ret isI dF dL pc (o_zald (pc + 1)) := by
  intro p l e R s m args below meth c0 b D cy pre n0 s0 out C hp k hk ls st h ho
  unfold o_zald at ho
  split at ho
  · rename_i i r st'
    obtain ⟨a, rfl, hz⟩ := dR_out ho
    clear ho
    have ho := hz
    clear hz
    cases hb : (Nat.beq (hK h a) 22 && inb i (hE h a)) with
    | false => rw [hb] at ho; cases ho
    | true =>
      rw [hb] at ho
      obtain ⟨b1, b2⟩ := Bool.and_eq_true_iff.mp hb
      have hi := inb_in b2
      have z := Nat.eq_of_beq_eq_true b1
      obtain ⟨g1, g2, g3, g⟩ := hk _ _ _ _ ho
      refine ⟨g1, g2, g3, fun H locs cells slots lsM a1 a2 a3 a4 a5 a6 => ?_⟩
      have kk := g H locs cells slots lsM a1 a2 a3 a4 a5 a6
      show W p l e R s m args below meth c0 H locs cells slots _ (F0 m pc lsM (.int i :: .ref (adr b pre a) :: List.map (trV (adr b pre)) st'))
      obtain ⟨hlt, hcell⟩ := (a1.2.2 a).2.1 (Or.inr (Or.inr z))
      try rw [z] at hcell
      rw [adr_lo a1 hlt]
      exact W.zald (v := .int (hI h a i.toNatClampNeg)) C.1 C.2.1 hcell ((C.2.2.2.2.2.2.1.2 2 _ rfl).1 _ _) (fun q => by cases q) (in_arr hi) (arrV_read _ _ (inb_lt hi)) rfl rfl hdg kk
  · cases ho
theorem so_lald (hdg : decode bytes pc = .ok (.laload, 1)) : SoundOp bytes own nL ret isI dF dL pc (o_lald (pc + 1)) := by
  intro p l e R s m args below meth c0 b D cy pre n0 s0 out C hp k hk ls st h ho
  unfold o_lald at ho
  split at ho
  · rename_i i r st'
    obtain ⟨a, rfl, hz⟩ := dR_out ho
    clear ho
    have ho := hz
    clear hz
    cases hb : (Nat.beq (hK h a) 23 && inb i (hE h a)) with
    | false => rw [hb] at ho; cases ho
    | true =>
      rw [hb] at ho
      obtain ⟨b1, b2⟩ := Bool.and_eq_true_iff.mp hb
      have hi := inb_in b2
      have z := Nat.eq_of_beq_eq_true b1
      obtain ⟨g1, g2, g3, g⟩ := hk _ _ _ _ ho
      refine ⟨g1, g2, g3, fun H locs cells slots lsM a1 a2 a3 a4 a5 a6 => ?_⟩
      have kk := g H locs cells slots lsM a1 a2 a3 a4 a5 a6
      show W p l e R s m args below meth c0 H locs cells slots _ (F0 m pc lsM (.int i :: .ref (adr b pre a) :: List.map (trV (adr b pre)) st'))
      obtain ⟨hlt, hcell⟩ := (a1.2.2 a).2.2.1 (z)
      try rw [z] at hcell
      rw [adr_lo a1 hlt]
      exact W.lald (v := .long (hL h a i.toNatClampNeg)) C.1 C.2.1 hcell ((C.2.2.2.2.2.2.1.2 3 _ rfl).1 _ _) (fun q => by cases q) (in_arr hi) (arrV_read _ _ (inb_lt hi)) rfl rfl hdg kk
  · cases ho
theorem so_aald {kc t0 : Nat} {C' : String} (hkc : kc = 31 ∨ kc = 34 ∨ kc = 36) (ht : ∀ cy : Nat → ClassId, (tysL cy)[t0]? = some (cy kc, .object C')) (hdg : decode bytes pc = .ok (.aaload, 1)) : SoundOp bytes own nL ret isI dF dL pc (o_aald kc (pc + 1)) := by
  intro p l e R s m args below meth c0 b D cy pre n0 s0 out C hp k hk ls st h ho
  unfold o_aald at ho
  split at ho
  · rename_i i r st'
    obtain ⟨a, rfl, hz⟩ := dR_out ho
    clear ho
    have ho := hz
    clear hz
    cases hb : (Nat.beq (hK h a) kc && inb i (hE h a)) with
    | false => rw [hb] at ho; cases ho
    | true =>
      rw [hb] at ho
      obtain ⟨b1, b2⟩ := Bool.and_eq_true_iff.mp hb
      have hi := inb_in b2
      have z := Nat.eq_of_beq_eq_true b1
      obtain ⟨g1, g2, g3, g⟩ := hk _ _ _ _ ho
      refine ⟨g1, g2, g3, fun H locs cells slots lsM a1 a2 a3 a4 a5 a6 => ?_⟩
      have kk := g H locs cells slots lsM a1 a2 a3 a4 a5 a6
      show W p l e R s m args below meth c0 H locs cells slots _ (F0 m pc lsM (.int i :: .ref (adr b pre a) :: List.map (trV (adr b pre)) st'))
      obtain ⟨hlt, hcell⟩ := (a1.2.2 a).2.2.2.1 (by rw [z]; exact hkc)
      rw [z] at hcell
      rw [adr_lo a1 hlt]
      exact W.aald (v := va_rf ((hR h a i.toNatClampNeg).map (adr b pre))) (ty := .object C') C.1 C.2.1 hcell ((C.2.2.2.2.2.2.1.2 t0 _ (ht cy)).1 _ _) rfl (fun q => by cases q) (in_arr hi) (arrV_read (cy kc) (fun j => va_rf ((hR h a j).map (adr b pre))) (inb_lt hi)) rfl rfl hdg kk
  · cases ho
theorem hc_arrI {b : Nat} {D : va_G} {cy : Nat → ClassId} {pre : Nat → Nat} {h : Hp} {U : State} {H : Heap} {k : Nat} (h1 : hK h k = 20 ∨ hK h k = 21 ∨ hK h k = 22) (hc : k < hN h ∧ H[b + k]? = some (arrV (cy (hK h k)) (hE h k) (fun j => .int (hI h k j)))) : HC b D cy pre h U H k :=
  ⟨fun z => by omega, fun _ => hc, fun z => by omega, fun z => by omega, fun z => by omega, fun z => by omega, fun z => by omega, fun z => by omega, fun z => by omega⟩
theorem hc_arrL {b : Nat} {D : va_G} {cy : Nat → ClassId} {pre : Nat → Nat} {h : Hp} {U : State} {H : Heap} {k : Nat} (h1 : hK h k = 23) (hc : k < hN h ∧ H[b + k]? = some (arrV (cy 23) (hE h k) (fun j => .long (hL h k j)))) : HC b D cy pre h U H k :=
  ⟨fun z => by omega, fun z => by omega, fun _ => hc, fun z => by omega, fun z => by omega, fun z => by omega, fun z => by omega, fun z => by omega, fun z => by omega⟩
theorem hc_arrR {b : Nat} {D : va_G} {cy : Nat → ClassId} {pre : Nat → Nat} {h : Hp} {U : State} {H : Heap} {k : Nat} (h1 : hK h k = 31 ∨ hK h k = 34 ∨ hK h k = 36) (hc : k < hN h ∧ H[b + k]? = some (arrV (cy (hK h k)) (hE h k) (fun j => va_rf ((hR h k j).map (adr b pre))))) : HC b D cy pre h U H k :=
  ⟨fun z => by omega, fun z => by omega, fun z => by omega, fun _ => hc, fun z => by omega, fun z => by omega, fun z => by omega, fun z => by omega, fun z => by omega⟩
def o_iast (nx : Nat) : Op := fun k ls st h => match st with
  | .inl x :: .inl i :: .inr (.inr r) :: st' => dR r (fun a => bif Nat.beq (hK h a) 20 && inb i (hE h a) then k nx ls st' (sI h a i.toNatClampNeg x) else none)
  | _ => none
theorem so_iast (hdg : decode bytes pc = .ok (.iastore, 1)) : SoundOp bytes own nL ret isI dF dL pc (o_iast (pc + 1)) := by
  intro p l e R s m args below meth c0 b D cy pre n0 s0 out C hp k hk ls st h ho
  unfold o_iast at ho
  split at ho
  · rename_i x i r st'
    obtain ⟨a, rfl, hz⟩ := dR_out ho
    clear ho
    have ho := hz
    clear hz
    cases hb : (Nat.beq (hK h a) 20 && inb i (hE h a)) with
    | false => rw [hb] at ho; cases ho
    | true =>
      rw [hb] at ho
      obtain ⟨b1, b2⟩ := Bool.and_eq_true_iff.mp hb
      have hi := inb_in b2
      have z := Nat.eq_of_beq_eq_true b1
      obtain ⟨g1, g2, g3, g⟩ := hk _ _ _ _ ho
      refine ⟨g1, g2, g3, fun H locs cells slots lsM a1 a2 a3 a4 a5 a6 => ?_⟩
      show W p l e R s m args below meth c0 H locs cells slots _ (F0 m pc lsM (.int x :: .int i :: .ref (adr b pre a) :: List.map (trV (adr b pre)) st'))
      obtain ⟨hlt, hcell⟩ := (a1.2.2 a).2.1 (Or.inl z)
      try rw [z] at hcell
      rw [adr_lo a1 hlt]
      refine W.iast C.1 C.2.1 hcell ((C.2.2.2.2.2.2.1.2 0 _ rfl).1 _ _) (fun q => by cases q) (in_arr hi) rfl rfl hdg fun H1 e1 z1 o1 => ?_
      refine g H1 _ cells slots lsM (a1.set (a := a) z1 o1 rfl (fun _ => rfl) (fun _ => rfl) (fun _ _ _ => rfl) (fun _ _ _ => rfl) (fun x y hx => by rw [hI_sI, if_neg hx]) (hc_arrI (Or.inl z) ⟨hlt, ?_⟩)) (below_set a2 o1) (locs_add a3) a4 a5 a6
      rw [e1, arrV_store]
      rw [hK_sI, z]
      congr 2
      funext q
      unfold updV
      by_cases hq : q = i.toNatClampNeg
      · subst hq
        simp [hI_sI, hL_sL, vp_nar]
        try rfl
      · simp [hI_sI, hL_sL, hq]
  · cases ho
def o_bast (nx : Nat) : Op := fun k ls st h => match st with
  | .inl x :: .inl i :: .inr (.inr r) :: st' => dR r (fun a => bif Nat.beq (hK h a) 21 && inb i (hE h a) then k nx ls st' (sI h a i.toNatClampNeg (vp_nar .byte x)) else none)
  | _ => none
theorem so_bast (hdg : decode bytes pc = .ok (.bastore, 1)) : SoundOp bytes own nL ret isI dF dL pc (o_bast (pc + 1)) := by
  intro p l e R s m args below meth c0 b D cy pre n0 s0 out C hp k hk ls st h ho
  unfold o_bast at ho
  split at ho
  · rename_i x i r st'
    obtain ⟨a, rfl, hz⟩ := dR_out ho
    clear ho
    have ho := hz
    clear hz
    cases hb : (Nat.beq (hK h a) 21 && inb i (hE h a)) with
    | false => rw [hb] at ho; cases ho
    | true =>
      rw [hb] at ho
      obtain ⟨b1, b2⟩ := Bool.and_eq_true_iff.mp hb
      have hi := inb_in b2
      have z := Nat.eq_of_beq_eq_true b1
      obtain ⟨g1, g2, g3, g⟩ := hk _ _ _ _ ho
      refine ⟨g1, g2, g3, fun H locs cells slots lsM a1 a2 a3 a4 a5 a6 => ?_⟩
      show W p l e R s m args below meth c0 H locs cells slots _ (F0 m pc lsM (.int x :: .int i :: .ref (adr b pre a) :: List.map (trV (adr b pre)) st'))
      obtain ⟨hlt, hcell⟩ := (a1.2.2 a).2.1 (Or.inr (Or.inl z))
      try rw [z] at hcell
      rw [adr_lo a1 hlt]
      refine W.bast C.1 C.2.1 hcell ((C.2.2.2.2.2.2.1.2 1 _ rfl).1 _ _) (fun q => by cases q) (in_arr hi) rfl rfl hdg fun H1 e1 z1 o1 => ?_
      refine g H1 _ cells slots lsM (a1.set (a := a) z1 o1 rfl (fun _ => rfl) (fun _ => rfl) (fun _ _ _ => rfl) (fun _ _ _ => rfl) (fun x y hx => by rw [hI_sI, if_neg hx]) (hc_arrI (Or.inr (Or.inl z)) ⟨hlt, ?_⟩)) (below_set a2 o1) (locs_add a3) a4 a5 a6
      rw [e1, arrV_store]
      rw [hK_sI, z]
      congr 2
      funext q
      unfold updV
      by_cases hq : q = i.toNatClampNeg
      · subst hq
        simp [hI_sI, hL_sL, vp_nar]
        try rfl
      · simp [hI_sI, hL_sL, hq]
  · cases ho
def o_zast (nx : Nat) : Op := fun k ls st h => match st with
  | .inl x :: .inl i :: .inr (.inr r) :: st' => dR r (fun a => bif Nat.beq (hK h a) 22 && inb i (hE h a) then k nx ls st' (sI h a i.toNatClampNeg (vp_nar .boolean x)) else none)
  | _ => none
theorem so_zast (hdg : decode bytes pc = .ok (.bastore, 1)) : SoundOp bytes own nL ret isI dF dL pc (o_zast (pc + 1)) := by
  intro p l e R s m args below meth c0 b D cy pre n0 s0 out C hp k hk ls st h ho
  unfold o_zast at ho
  split at ho
  · rename_i x i r st'
    obtain ⟨a, rfl, hz⟩ := dR_out ho
    clear ho
    have ho := hz
    clear hz
    cases hb : (Nat.beq (hK h a) 22 && inb i (hE h a)) with
    | false => rw [hb] at ho; cases ho
    | true =>
      rw [hb] at ho
      obtain ⟨b1, b2⟩ := Bool.and_eq_true_iff.mp hb
      have hi := inb_in b2
      have z := Nat.eq_of_beq_eq_true b1
      obtain ⟨g1, g2, g3, g⟩ := hk _ _ _ _ ho
      refine ⟨g1, g2, g3, fun H locs cells slots lsM a1 a2 a3 a4 a5 a6 => ?_⟩
      show W p l e R s m args below meth c0 H locs cells slots _ (F0 m pc lsM (.int x :: .int i :: .ref (adr b pre a) :: List.map (trV (adr b pre)) st'))
      obtain ⟨hlt, hcell⟩ := (a1.2.2 a).2.1 (Or.inr (Or.inr z))
      try rw [z] at hcell
      rw [adr_lo a1 hlt]
      refine W.zast C.1 C.2.1 hcell ((C.2.2.2.2.2.2.1.2 2 _ rfl).1 _ _) (fun q => by cases q) (in_arr hi) rfl rfl hdg fun H1 e1 z1 o1 => ?_
      refine g H1 _ cells slots lsM (a1.set (a := a) z1 o1 rfl (fun _ => rfl) (fun _ => rfl) (fun _ _ _ => rfl) (fun _ _ _ => rfl) (fun x y hx => by rw [hI_sI, if_neg hx]) (hc_arrI (Or.inr (Or.inr z)) ⟨hlt, ?_⟩)) (below_set a2 o1) (locs_add a3) a4 a5 a6
      rw [e1, arrV_store]
      rw [hK_sI, z]
      congr 2
      funext q
      unfold updV
      by_cases hq : q = i.toNatClampNeg
      · subst hq
        simp [hI_sI, hL_sL, vp_nar]
        try rfl
      · simp [hI_sI, hL_sL, hq]
  · cases ho
def o_last (nx : Nat) : Op := fun k ls st h => match st with
  | .inr (.inl x) :: .inl i :: .inr (.inr r) :: st' => dR r (fun a => bif Nat.beq (hK h a) 23 && inb i (hE h a) then k nx ls st' (sL h a i.toNatClampNeg x) else none)
  | _ => none
theorem so_last (hdg : decode bytes pc = .ok (.lastore, 1)) : SoundOp bytes own nL ret isI dF dL pc (o_last (pc + 1)) := by
  intro p l e R s m args below meth c0 b D cy pre n0 s0 out C hp k hk ls st h ho
  unfold o_last at ho
  split at ho
  · rename_i x i r st'
    obtain ⟨a, rfl, hz⟩ := dR_out ho
    clear ho
    have ho := hz
    clear hz
    cases hb : (Nat.beq (hK h a) 23 && inb i (hE h a)) with
    | false => rw [hb] at ho; cases ho
    | true =>
      rw [hb] at ho
      obtain ⟨b1, b2⟩ := Bool.and_eq_true_iff.mp hb
      have hi := inb_in b2
      have z := Nat.eq_of_beq_eq_true b1
      obtain ⟨g1, g2, g3, g⟩ := hk _ _ _ _ ho
      refine ⟨g1, g2, g3, fun H locs cells slots lsM a1 a2 a3 a4 a5 a6 => ?_⟩
      show W p l e R s m args below meth c0 H locs cells slots _ (F0 m pc lsM (.long x :: .int i :: .ref (adr b pre a) :: List.map (trV (adr b pre)) st'))
      obtain ⟨hlt, hcell⟩ := (a1.2.2 a).2.2.1 (z)
      try rw [z] at hcell
      rw [adr_lo a1 hlt]
      refine W.last C.1 C.2.1 hcell ((C.2.2.2.2.2.2.1.2 3 _ rfl).1 _ _) (fun q => by cases q) (in_arr hi) rfl rfl hdg fun H1 e1 z1 o1 => ?_
      refine g H1 _ cells slots lsM (a1.set (a := a) z1 o1 rfl (fun _ => rfl) (fun _ => rfl) (fun _ _ _ => rfl) (fun x y hx => by rw [hL_sL, if_neg hx]) (fun _ _ _ => rfl) (hc_arrL z ⟨hlt, ?_⟩)) (below_set a2 o1) (locs_add a3) a4 a5 a6
      rw [e1, arrV_store]
      skip
      congr 2
      funext q
      unfold updV
      by_cases hq : q = i.toNatClampNeg
      · subst hq
        simp [hI_sI, hL_sL, vp_nar]
        try rfl
      · simp [hI_sI, hL_sL, hq]
  · cases ho
/-- storing an object of class c in an array of kind kc -/
def o_aast (kc c nx : Nat) : Op := fun k ls st h => match st with
  | .inr (.inr v) :: .inl i :: .inr (.inr r) :: st' => dR v (fun x => dR r (fun a => bif Nat.beq (hK h a) kc && inb i (hE h a) && Nat.beq (hK h x) c then k nx ls st' (sR h a i.toNatClampNeg (some x)) else none))
  | _ => none
theorem so_aast {kc c t0 : Nat} (hkc : kc = 31 ∨ kc = 34 ∨ kc = 36) (hc : c < 13) (ht : ∀ cy : Nat → ClassId, (tysL cy)[t0]? = some (cy kc, .object (clR c))) (hdg : decode bytes pc = .ok (.aastore, 1)) : SoundOp bytes own nL ret isI dF dL pc (o_aast kc c (pc + 1)) := by
  intro p l e R s m args below meth c0 b D cy pre n0 s0 out C hp k hk ls st h ho
  unfold o_aast at ho
  split at ho
  · rename_i v i r st'
    obtain ⟨x, rfl, hz⟩ := dR_out ho
    obtain ⟨a, rfl, hz2⟩ := dR_out hz
    clear ho hz
    have ho := hz2
    clear hz2
    cases hb : (Nat.beq (hK h a) kc && inb i (hE h a) && Nat.beq (hK h x) c) with
    | false => rw [hb] at ho; cases ho
    | true =>
      rw [hb] at ho
      obtain ⟨b0, b3⟩ := Bool.and_eq_true_iff.mp hb
      obtain ⟨b1, b2⟩ := Bool.and_eq_true_iff.mp b0
      have hi := inb_in b2
      have z := Nat.eq_of_beq_eq_true b1
      have z3 := Nat.eq_of_beq_eq_true b3
      obtain ⟨g1, g2, g3, g⟩ := hk _ _ _ _ ho
      refine ⟨g1, g2, g3, fun H locs cells slots lsM a1 a2 a3 a4 a5 a6 => ?_⟩
      show W p l e R s m args below meth c0 H locs cells slots _ (F0 m pc lsM (.ref (adr b pre x) :: .int i :: .ref (adr b pre a) :: List.map (trV (adr b pre)) st'))
      obtain ⟨hlt, hcell⟩ := (a1.2.2 a).2.2.2.1 (by rw [z]; exact hkc)
      obtain ⟨hltx, cellV, q1, q2, q3, -⟩ := (a1.2.2 x).1 (by rw [z3]; exact hc)
      rw [z3] at q2
      rw [z] at hcell
      rw [adr_lo a1 hlt, adr_lo a1 hltx]
      have hKk := C.2.2.2.2.2.2.1
      have hcls := (hKk.1 c _ (vw_get c hc)).2
      obtain ⟨kA, comp, k1, k2, k3, -⟩ := (hKk.2 t0 _ (ht cy)).2
      have hcomp : comp = D.1 c := Option.some.inj (k3.symm.trans hcls.1)
      subst hcomp
      obtain ⟨kC, hkC, -⟩ := hcls.2
      refine W.aast C.1 C.2.1 hcell (fun q h => by cases h) (fun h => by cases h) k1 k2 rfl hkC ⟨fun q => hi (Or.inl q), by show _ < (arrV _ _ _).slots.size; rw [arrV_size]; exact inb_lt hi⟩ q1 (fun q h => by rw [q3] at h; cases h) (by rw [q2]; exact hkC) (by rw [q2]; exact va_assign hcls) rfl rfl hdg fun H1 e1 z1 o1 => ?_
      refine g H1 _ cells slots lsM (a1.set (a := a) z1 o1 rfl (fun _ => rfl) (fun _ => rfl) (fun x y hx => by rw [hR_sR, if_neg hx]) (fun _ _ _ => rfl) (fun _ _ _ => rfl) (hc_arrR (by rw [hK_sR, z]; exact hkc) ⟨hlt, ?_⟩)) (below_set a2 o1) (locs_add a3) a4 a5 a6
      rw [e1, arrV_store, hK_sR, z]
      congr 2
      funext q
      unfold updV
      by_cases hq : q = i.toNatClampNeg
      · subst hq
        simp [hR_sR, va_rf, adr_lo a1 hltx]
      · simp [hR_sR, hq]
  · cases ho
def alK (c : Nat) : Bool := Nat.beq c 20 || Nat.beq c 21 || Nat.beq c 22 || Nat.beq c 23 || Nat.beq c 31 || Nat.beq c 34 || Nat.beq c 36 || Nat.beq c 25
def o_alen (nx : Nat) : Op := fun k ls st h => match st with
  | .inr (.inr r) :: st' => dR r (fun a => bif alK (hK h a) then k nx ls (vI (Int32.ofNat (hE h a)) :: st') h else none)
  | _ => none
theorem alK_cases {c : Nat} (h : alK c = true) : (c = 20 ∨ c = 21 ∨ c = 22) ∨ c = 23 ∨ (c = 31 ∨ c = 34 ∨ c = 36) ∨ c = 25 := by
  unfold alK at h
  simp only [Bool.or_eq_true] at h
  have e : ∀ n, Nat.beq c n = true → c = n := fun n z => Nat.eq_of_beq_eq_true z
  rcases h with ((((((h | h) | h) | h) | h) | h) | h) | h
  · exact Or.inl (Or.inl (e _ h))
  · exact Or.inl (Or.inr (Or.inl (e _ h)))
  · exact Or.inl (Or.inr (Or.inr (e _ h)))
  · exact Or.inr (Or.inl (e _ h))
  · exact Or.inr (Or.inr (Or.inl (Or.inl (e _ h))))
  · exact Or.inr (Or.inr (Or.inl (Or.inr (Or.inl (e _ h)))))
  · exact Or.inr (Or.inr (Or.inl (Or.inr (Or.inr (e _ h)))))
  · exact Or.inr (Or.inr (Or.inr (e _ h)))
theorem so_alen (hdg : decode bytes pc = .ok (.arraylength, 1)) : SoundOp bytes own nL ret isI dF dL pc (o_alen (pc + 1)) := by
  intro p l e R s m args below meth c0 b D cy pre n0 s0 out C hp k hk ls st h ho
  unfold o_alen at ho
  split at ho
  · rename_i r st'
    obtain ⟨a, rfl, hz⟩ := dR_out ho
    clear ho
    have ho := hz
    clear hz
    cases hb : alK (hK h a) with
    | false => rw [hb] at ho; cases ho
    | true =>
      rw [hb] at ho
      obtain ⟨g1, g2, g3, g⟩ := hk _ _ _ _ ho
      refine ⟨g1, g2, g3, fun H locs cells slots lsM a1 a2 a3 a4 a5 a6 => ?_⟩
      have kk := g H locs cells slots lsM a1 a2 a3 a4 a5 a6
      show W p l e R s m args below meth c0 H locs cells slots _ (F0 m pc lsM (.ref (adr b pre a) :: List.map (trV (adr b pre)) st'))
      have hKk := C.2.2.2.2.2.2.1
      rcases alK_cases hb with z | z | z | z
      · obtain ⟨hlt, hcell⟩ := (a1.2.2 a).2.1 z
        rw [adr_lo a1 hlt]
        rcases z with z | z | z <;> rw [z] at hcell
        · exact W.alen (n := Int32.ofNat (hE h a)) C.1 C.2.1 hcell ((hKk.2 0 _ rfl).1 _ _) (by rw [arrV_size]) rfl rfl hdg kk
        · exact W.alen (n := Int32.ofNat (hE h a)) C.1 C.2.1 hcell ((hKk.2 1 _ rfl).1 _ _) (by rw [arrV_size]) rfl rfl hdg kk
        · exact W.alen (n := Int32.ofNat (hE h a)) C.1 C.2.1 hcell ((hKk.2 2 _ rfl).1 _ _) (by rw [arrV_size]) rfl rfl hdg kk
      · obtain ⟨hlt, hcell⟩ := (a1.2.2 a).2.2.1 z
        rw [adr_lo a1 hlt]
        exact W.alen (n := Int32.ofNat (hE h a)) C.1 C.2.1 hcell ((hKk.2 3 _ rfl).1 _ _) (by rw [arrV_size]) rfl rfl hdg kk
      · obtain ⟨hlt, hcell⟩ := (a1.2.2 a).2.2.2.1 z
        rw [adr_lo a1 hlt]
        rcases z with z | z | z <;> rw [z] at hcell
        · exact W.alen (n := Int32.ofNat (hE h a)) C.1 C.2.1 hcell ((hKk.2 4 _ rfl).1 _ _) (by rw [arrV_size]) rfl rfl hdg kk
        · exact W.alen (n := Int32.ofNat (hE h a)) C.1 C.2.1 hcell ((hKk.2 5 _ rfl).1 _ _) (by rw [arrV_size]) rfl rfl hdg kk
        · exact W.alen (n := Int32.ofNat (hE h a)) C.1 C.2.1 hcell ((hKk.2 6 _ rfl).1 _ _) (by rw [arrV_size]) rfl rfl hdg kk
      · obtain ⟨hge, cell, h1, h2, h3, h4, h5, h6, h7⟩ := (a1.2.2 a).2.2.2.2.1 z
        have ea : adr b pre a = pre (a - PRE) := by unfold adr; rw [if_neg (by omega)]
        rw [ea]
        exact W.alen (n := Int32.ofNat (hE h a)) C.1 C.2.1 h1 h2 h5 rfl rfl hdg kk
  · cases ho
def o_new (c nx : Nat) : Op := fun k ls st h => k nx ls (vR (some (hN h)) :: st) (nw h c 0 (nF c))
theorem fv_def (ty : FieldType) (hty : ty ≠ .float ∧ ty ≠ .double) : defaultValue ty = fv ty 0 0 none := by
  cases ty <;> first | rfl | exact absurd rfl hty.1 | exact absurd rfl hty.2
theorem so_new {c idx : Nat} (hc : c < 13) (hfd : ∀ j, j < nF c → tyF c j ≠ .float ∧ tyF c j ≠ .double) (hin : ∀ w ∈ u_ws (clR c) (clT c) (nF c), w ∈ bigW) (hw1 : Cond.classLink own idx (clR c) ∈ bigW) (hw2 : Cond.instantiable (clR c) (nF c) ∈ bigW) (hw3 : Cond.initialized (clR c) ∈ bigW) (hdg : decode bytes pc = .ok (.new idx, 3)) : SoundOp bytes own nL ret isI dF dL pc (o_new c (pc + 3)) := by
  intro p l e R s m args below meth c0 b D cy pre n0 s0 out C hp k hk ls st h ho
  unfold o_new at ho
  obtain ⟨g1, g2, g3, g⟩ := hk _ _ _ _ ho
  rw [hN_nw] at g1
  rw [hS_nw] at g2
  refine ⟨by omega, by omega, g3, fun H locs cells slots lsM a1 a2 a3 a4 a5 a6 => ?_⟩
  have hts := C.2.2.2.2.1
  have hKn := C.2.2.2.2.2.2.1.1 c _ (vw_get c hc)
  have hRc := C.2.2.2.2.2.2.2.2.1
  have hRs := C.2.2.2.2.2.2.2.2.2.1
  refine W.newcK C.1 C.2.1 C.2.2.2.1 (hts _ hw1) (hts _ hw2) (hts _ hw3) rfl hdg (by omega) (by omega) hKn.2.1 rfl fun H1 kC hkC e1 z1 o1 => ?_
  have hpre : hN h + 1 < PRE := by omega
  have ek : hK (nw h c 0 (nF c)) (hN h) = c := by rw [hK_nw, if_pos rfl]
  have hH1 : Hold b D cy pre (nw h c 0 (nF c)) s H1 := by
    refine a1.new z1 o1 hpre (hc_other (by rw [ek]; exact hc) ⟨by rw [hN_nw]; omega, ?_⟩)
    rw [ek, ← a1.1]
    refine (u_born (tyF c) hts hin hKn hkC e1 (ty_ok c hc)).to fun j hj => ?_
    rw [hI_nw, hL_nw, hR_nw, if_pos rfl, if_pos rfl, if_pos rfl]
    exact fv_def _ (hfd j hj)
  have ea : adr b pre (hN h) = H.size := by unfold adr; rw [if_pos (by omega), a1.1]
  have := g H1 locs (cells + 1) (slots + nF c) lsM hH1 (fun q hq => (o1 q (by rw [a1.1]; omega)).trans (a2 q hq)) a3 (by rw [hN_nw]; omega) (by rw [hS_nw]; omega) a6
  simpa [trV, va_rf, ea] using this
/-- a new array of a small kind -/
def o_newa (kc nx : Nat) : Op := fun k ls st h => match st with
  | .inl n :: st' => bif decide (n < 0) || decide (1000000 < n.toNatClampNeg) then none else k nx ls (vR (some (hN h)) :: st') (nw h kc n.toNatClampNeg n.toNatClampNeg)
  | _ => none
theorem so_newa {kc t0 : Nat} {at' : ArrayType} (hkc : kc = 20 ∨ kc = 21 ∨ kc = 22) (ht : ∀ cy : Nat → ClassId, (tysL cy)[t0]? = some (cy kc, newarray.typeOf at')) (hra : ∀ (U : State) (cA : ClassId), va_RA U cA (newarray.typeOf at') → U.vm.findClass ("[" ++ (newarray.typeOf at').toString) = some cA) (hdv : defaultValue (newarray.typeOf at') = .int 0) (hcb : componentBytes (newarray.typeOf at') ≤ 8) (hw : Cond.arrayClass (newarray.typeOf at') ∈ bigW) (hdg : decode bytes pc = .ok (.newarray at', 2)) : SoundOp bytes own nL ret isI dF dL pc (o_newa kc (pc + 2)) := by
  intro p l e R s m args below meth c0 b D cy pre n0 s0 out C hp k hk ls st h ho
  unfold o_newa at ho
  split at ho
  · rename_i n st'
    cases hb : (decide (n < 0) || decide (1000000 < n.toNatClampNeg)) with
    | true => rw [hb] at ho; cases ho
    | false =>
      rw [hb] at ho
      obtain ⟨b1, b2⟩ := Bool.or_eq_false_iff.mp hb
      have b1 : ¬ n < 0 := by simpa using b1
      have b2 : ¬ 1000000 < n.toNatClampNeg := by simpa using b2
      obtain ⟨g1, g2, g3, g⟩ := hk _ _ _ _ ho
      rw [hN_nw] at g1
      rw [hS_nw] at g2
      refine ⟨by omega, by omega, g3, fun H locs cells slots lsM a1 a2 a3 a4 a5 a6 => ?_⟩
      have hts := C.2.2.2.2.1
      have hKk := C.2.2.2.2.2.2.1
      have hRc := C.2.2.2.2.2.2.2.2.1
      have hRs := C.2.2.2.2.2.2.2.2.2.1
      show W p l e R s m args below meth c0 H locs cells slots _ (F0 m pc lsM (.int n :: List.map (trV (adr b pre)) st'))
      have hby : n.toNatClampNeg * componentBytes (newarray.typeOf at') ≤ 536870912 := by
        have := Nat.mul_le_mul (show n.toNatClampNeg ≤ 1000000 by omega) hcb
        omega
      refine va_newaK C.1 C.2.1 (hts _ hw) rfl hdg rfl b1 rfl hby (by omega) (by omega) rfl fun H1 cA e1 z1 o1 hAr hNm => ?_
      have hcA : cA = cy kc := Option.some.inj (hNm.symm.trans (hra s _ (hKk.2 t0 _ (ht cy)).2))
      subst hcA
      have hpre : hN h + 1 < PRE := by omega
      have ek : hK (nw h kc n.toNatClampNeg n.toNatClampNeg) (hN h) = kc := by rw [hK_nw, if_pos rfl]
      have hH1 : Hold b D cy pre (nw h kc n.toNatClampNeg n.toNatClampNeg) s H1 := by
        refine a1.new z1 o1 hpre (hc_arrI (by rw [ek]; exact hkc) ⟨by rw [hN_nw]; omega, ?_⟩)
        rw [ek, ← a1.1, e1, hE_nw, if_pos rfl, hdv]
        congr 2
        funext j
        rw [hI_nw, if_pos rfl]
      have ea : adr b pre (hN h) = H.size := by unfold adr; rw [if_pos (by omega), a1.1]
      have := g H1 locs (cells + 1) (slots + n.toNatClampNeg) lsM hH1 (fun q hq => (o1 q (by rw [a1.1]; omega)).trans (a2 q hq)) a3 (by rw [hN_nw]; omega) (by rw [hS_nw]; omega) a6
      simpa [trV, va_rf, ea] using this
  · cases ho
theorem so_newaL {at' : ArrayType} (hty : newarray.typeOf at' = .long) (hw : Cond.arrayClass (newarray.typeOf at') ∈ bigW) (hdg : decode bytes pc = .ok (.newarray at', 2)) : SoundOp bytes own nL ret isI dF dL pc (o_newa 23 (pc + 2)) := by
  intro p l e R s m args below meth c0 b D cy pre n0 s0 out C hp k hk ls st h ho
  unfold o_newa at ho
  split at ho
  · rename_i n st'
    cases hb : (decide (n < 0) || decide (1000000 < n.toNatClampNeg)) with
    | true => rw [hb] at ho; cases ho
    | false =>
      rw [hb] at ho
      obtain ⟨b1, b2⟩ := Bool.or_eq_false_iff.mp hb
      have b1 : ¬ n < 0 := by simpa using b1
      have b2 : ¬ 1000000 < n.toNatClampNeg := by simpa using b2
      obtain ⟨g1, g2, g3, g⟩ := hk _ _ _ _ ho
      rw [hN_nw] at g1
      rw [hS_nw] at g2
      refine ⟨by omega, by omega, g3, fun H locs cells slots lsM a1 a2 a3 a4 a5 a6 => ?_⟩
      have hts := C.2.2.2.2.1
      have hKk := C.2.2.2.2.2.2.1
      have hRc := C.2.2.2.2.2.2.2.2.1
      have hRs := C.2.2.2.2.2.2.2.2.2.1
      show W p l e R s m args below meth c0 H locs cells slots _ (F0 m pc lsM (.int n :: List.map (trV (adr b pre)) st'))
      have hby : n.toNatClampNeg * componentBytes (newarray.typeOf at') ≤ 536870912 := by
        rw [hty]
        show n.toNatClampNeg * 8 ≤ _
        omega
      refine va_newaK C.1 C.2.1 (hts _ hw) rfl hdg rfl b1 rfl hby (by omega) (by omega) rfl fun H1 cA e1 z1 o1 hAr hNm => ?_
      rw [hty] at e1 hNm
      have hcA : cA = cy 23 := Option.some.inj (hNm.symm.trans (hKk.2 3 _ rfl).2)
      subst hcA
      have hpre : hN h + 1 < PRE := by omega
      have ek : hK (nw h 23 n.toNatClampNeg n.toNatClampNeg) (hN h) = 23 := by rw [hK_nw, if_pos rfl]
      have hH1 : Hold b D cy pre (nw h 23 n.toNatClampNeg n.toNatClampNeg) s H1 := by
        refine a1.new z1 o1 hpre (hc_arrL ek ⟨by rw [hN_nw]; omega, ?_⟩)
        rw [← a1.1, e1, hE_nw, if_pos rfl]
        congr 2
        funext j
        rw [hL_nw, if_pos rfl]; rfl
      have ea : adr b pre (hN h) = H.size := by unfold adr; rw [if_pos (by omega), a1.1]
      have := g H1 locs (cells + 1) (slots + n.toNatClampNeg) lsM hH1 (fun q hq => (o1 q (by rw [a1.1]; omega)).trans (a2 q hq)) a3 (by rw [hN_nw]; omega) (by rw [hS_nw]; omega) a6
      simpa [trV, va_rf, ea] using this
  · cases ho
theorem so_anew {kc c t0 idx : Nat} (hkc : kc = 31 ∨ kc = 34 ∨ kc = 36) (ht : ∀ cy : Nat → ClassId, (tysL cy)[t0]? = some (cy kc, .object (clR c))) (hw1 : Cond.classLink own idx (clR c) ∈ bigW) (hw : c = 1 ∨ c = 4 ∨ c = 6) (hdg : decode bytes pc = .ok (.anewarray idx, 3)) : SoundOp bytes own nL ret isI dF dL pc (o_newa kc (pc + 3)) := by
  intro p l e R s m args below meth c0 b D cy pre n0 s0 out C hp k hk ls st h ho
  unfold o_newa at ho
  split at ho
  · rename_i n st'
    cases hb : (decide (n < 0) || decide (1000000 < n.toNatClampNeg)) with
    | true => rw [hb] at ho; cases ho
    | false =>
      rw [hb] at ho
      obtain ⟨b1, b2⟩ := Bool.or_eq_false_iff.mp hb
      have b1 : ¬ n < 0 := by simpa using b1
      have b2 : ¬ 1000000 < n.toNatClampNeg := by simpa using b2
      obtain ⟨g1, g2, g3, g⟩ := hk _ _ _ _ ho
      rw [hN_nw] at g1
      rw [hS_nw] at g2
      refine ⟨by omega, by omega, g3, fun H locs cells slots lsM a1 a2 a3 a4 a5 a6 => ?_⟩
      have hts := C.2.2.2.2.1
      have hKk := C.2.2.2.2.2.2.1
      have hRc := C.2.2.2.2.2.2.2.2.1
      have hRs := C.2.2.2.2.2.2.2.2.2.1
      show W p l e R s m args below meth c0 H locs cells slots _ (F0 m pc lsM (.int n :: List.map (trV (adr b pre)) st'))
      refine W.anew C.1 C.2.1 C.2.2.2.1 (hts _ hw1) (va_AO.use (C.2.2.2.2.2.2.2.2.2.2.2.2.2.2.2.2.2.1 c hw)) rfl hdg rfl b1 (by omega) (by omega) (by omega) fun cA kA comp f1 f2 f3 f4 => ?_
      generalize hH1 : H.push ({ cls := cA, slots := Array.replicate n.toNatClampNeg .null, vm := .none } : Cell) = H1
      have z1 : H1.size = H.size + 1 := by rw [← hH1, Array.size_push]
      have e1 : H1[H.size]? = some (arrV cA n.toNatClampNeg (fun _ => .null)) := by rw [← hH1, Array.getElem?_push_size, ← arrV_new]
      have o1 : ∀ q : Nat, q < H.size → H1[q]? = H[q]? := fun q hq => by rw [← hH1, Array.getElem?_push, if_neg (Nat.ne_of_lt hq)]
      obtain ⟨_, _, _, _, _, r4⟩ := (hKk.2 t0 _ (ht cy)).2
      have hcA : cA = cy kc := Option.some.inj (f1.symm.trans r4)
      subst hcA
      have hpre : hN h + 1 < PRE := by omega
      have ek : hK (nw h kc n.toNatClampNeg n.toNatClampNeg) (hN h) = kc := by rw [hK_nw, if_pos rfl]
      have hH2 : Hold b D cy pre (nw h kc n.toNatClampNeg n.toNatClampNeg) s H1 := by
        refine a1.new z1 o1 hpre (hc_arrR (by rw [ek]; exact hkc) ⟨by rw [hN_nw]; omega, ?_⟩)
        rw [ek, ← a1.1, e1, hE_nw, if_pos rfl]
        congr 2
        funext j
        rw [hR_nw, if_pos rfl]; rfl
      have ea : adr b pre (hN h) = H.size := by unfold adr; rw [if_pos (by omega), a1.1]
      have := g H1 locs (cells + 1) (slots + n.toNatClampNeg) lsM hH2 (fun q hq => (o1 q (by rw [a1.1]; omega)).trans (a2 q hq)) a3 (by rw [hN_nw]; omega) (by rw [hS_nw]; omega) a6
      simpa [trV, va_rf, ea] using this
  · cases ho
/-- a static array, a String constant -/
def o_pre (j nx : Nat) : Op := fun k ls st h => k nx ls (vR (some (PRE + j)) :: st) h
theorem so_gets {j idx : Nat} (hj : j < 6) (hw : Cond.fieldLink own idx (stC j) (stN j) "[I" ∈ bigW) (hdg : decode bytes pc = .ok (.getstatic idx, 3)) : SoundOp bytes own nL ret isI dF dL pc (o_pre j (pc + 3)) := by
  intro p l e R s m args below meth c0 b D cy pre n0 s0 out C hp k hk ls st h ho
  unfold o_pre at ho
  obtain ⟨g1, g2, g3, g⟩ := hk _ _ _ _ ho
  refine ⟨g1, g2, g3, fun H locs cells slots lsM a1 a2 a3 a4 a5 a6 => ?_⟩
  have hZ := C.2.2.2.2.2.2.2.2.2.2.2.2.2.2.1 j hj
  obtain ⟨cf, kf, fi, f, a, cell, h1, h2, h3, h4, h5, h6, h7, h8⟩ := hZ
  have ha : H[a]? = some cell := by rw [a2 a (by omega)]; exact h5
  have kk := g H locs cells slots lsM a1 a2 a3 a4 a5 a6
  have ea : adr b pre (PRE + j) = pre j := by unfold adr; rw [if_neg (by omega), Nat.add_sub_cancel_left]
  refine W.gets C.1 C.2.1 C.2.2.2.1 (C.2.2.2.2.1 _ hw) h1 h2 h3 h4 ha (fun e => by rw [e] at h6; cases h6) h7 rfl hdg ?_
  simpa [trV, va_rf, ea] using kk
theorem so_ldcS {j idx : Nat} (hj : j < 7) (ho1 : own = (txC j).1) (hi : idx = (txC j).2.1) (hdg : decode bytes pc = .ok (.ldc idx, 2)) : SoundOp bytes own nL ret isI dF dL pc (o_pre (10 + j) (pc + 2)) := by
  intro p l e R s m args below meth c0 b D cy pre n0 s0 out C hp k hk ls st h ho
  unfold o_pre at ho
  obtain ⟨g1, g2, g3, g⟩ := hk _ _ _ _ ho
  refine ⟨g1, g2, g3, fun H locs cells slots lsM a1 a2 a3 a4 a5 a6 => ?_⟩
  have hZ := C.2.2.2.2.2.2.2.2.2.2.2.2.2.2.2.1 j hj
  have kk := g H locs cells slots lsM a1 a2 a3 a4 a5 a6
  have ea : adr b pre (PRE + (10 + j)) = pre (10 + j) := by unfold adr; rw [if_neg (by omega), Nat.add_sub_cancel_left]
  rw [← ho1, ← hi] at hZ
  refine va_ldcS C.1 C.2.1 C.2.2.2.1 hZ hdg ?_
  simpa [trV, va_rf, ea] using kk
end
