/-! ===== arithmetic, the stack, branches, returns ===== -/
section
variable {bytes : ByteArray} {own : String} {nL : Nat} {ret : Option FieldType} {isI : Bool} {dF dL : Nat}
def o_iadd (nx : Nat) : Op := fun k ls st h => match st with
  | .inl y :: .inl x :: st' => k nx ls (vI (x + y) :: st') h
  | _ => none
theorem so_iadd {pc : Nat} (hdg : decode bytes pc = .ok (.iadd, 1)) : SoundOp bytes own nL ret isI dF dL pc (o_iadd (pc + 1)) := by
  intro p l e R s m args below meth c b D cy pre n0 s0 out C hp k hk ls st h ho
  unfold o_iadd at ho
  split at ho
  · obtain ⟨g1, g2, g3, g⟩ := hk _ _ _ _ ho
    exact ⟨g1, g2, g3, fun H locs cells slots lsM a1 a2 a3 a4 a5 a6 => lv_iadd C.1 C.2.1 hdg  (g H locs cells slots lsM a1 a2 a3 a4 a5 a6)⟩
  · cases ho
def o_isub (nx : Nat) : Op := fun k ls st h => match st with
  | .inl y :: .inl x :: st' => k nx ls (vI (x - y) :: st') h
  | _ => none
theorem so_isub {pc : Nat} (hdg : decode bytes pc = .ok (.isub, 1)) : SoundOp bytes own nL ret isI dF dL pc (o_isub (pc + 1)) := by
  intro p l e R s m args below meth c b D cy pre n0 s0 out C hp k hk ls st h ho
  unfold o_isub at ho
  split at ho
  · obtain ⟨g1, g2, g3, g⟩ := hk _ _ _ _ ho
    exact ⟨g1, g2, g3, fun H locs cells slots lsM a1 a2 a3 a4 a5 a6 => lv_isub C.1 C.2.1 hdg  (g H locs cells slots lsM a1 a2 a3 a4 a5 a6)⟩
  · cases ho
def o_imul (nx : Nat) : Op := fun k ls st h => match st with
  | .inl y :: .inl x :: st' => k nx ls (vI (x * y) :: st') h
  | _ => none
theorem so_imul {pc : Nat} (hdg : decode bytes pc = .ok (.imul, 1)) : SoundOp bytes own nL ret isI dF dL pc (o_imul (pc + 1)) := by
  intro p l e R s m args below meth c b D cy pre n0 s0 out C hp k hk ls st h ho
  unfold o_imul at ho
  split at ho
  · obtain ⟨g1, g2, g3, g⟩ := hk _ _ _ _ ho
    exact ⟨g1, g2, g3, fun H locs cells slots lsM a1 a2 a3 a4 a5 a6 => lv_imul C.1 C.2.1 hdg  (g H locs cells slots lsM a1 a2 a3 a4 a5 a6)⟩
  · cases ho
def o_iand (nx : Nat) : Op := fun k ls st h => match st with
  | .inl y :: .inl x :: st' => k nx ls (vI (x &&& y) :: st') h
  | _ => none
theorem so_iand {pc : Nat} (hdg : decode bytes pc = .ok (.iand, 1)) : SoundOp bytes own nL ret isI dF dL pc (o_iand (pc + 1)) := by
  intro p l e R s m args below meth c b D cy pre n0 s0 out C hp k hk ls st h ho
  unfold o_iand at ho
  split at ho
  · obtain ⟨g1, g2, g3, g⟩ := hk _ _ _ _ ho
    exact ⟨g1, g2, g3, fun H locs cells slots lsM a1 a2 a3 a4 a5 a6 => lv_iand C.1 C.2.1 hdg  (g H locs cells slots lsM a1 a2 a3 a4 a5 a6)⟩
  · cases ho
def o_ior (nx : Nat) : Op := fun k ls st h => match st with
  | .inl y :: .inl x :: st' => k nx ls (vI (x ||| y) :: st') h
  | _ => none
theorem so_ior {pc : Nat} (hdg : decode bytes pc = .ok (.ior, 1)) : SoundOp bytes own nL ret isI dF dL pc (o_ior (pc + 1)) := by
  intro p l e R s m args below meth c b D cy pre n0 s0 out C hp k hk ls st h ho
  unfold o_ior at ho
  split at ho
  · obtain ⟨g1, g2, g3, g⟩ := hk _ _ _ _ ho
    exact ⟨g1, g2, g3, fun H locs cells slots lsM a1 a2 a3 a4 a5 a6 => lv_ior C.1 C.2.1 hdg  (g H locs cells slots lsM a1 a2 a3 a4 a5 a6)⟩
  · cases ho
def o_ixor (nx : Nat) : Op := fun k ls st h => match st with
  | .inl y :: .inl x :: st' => k nx ls (vI (x ^^^ y) :: st') h
  | _ => none
theorem so_ixor {pc : Nat} (hdg : decode bytes pc = .ok (.ixor, 1)) : SoundOp bytes own nL ret isI dF dL pc (o_ixor (pc + 1)) := by
  intro p l e R s m args below meth c b D cy pre n0 s0 out C hp k hk ls st h ho
  unfold o_ixor at ho
  split at ho
  · obtain ⟨g1, g2, g3, g⟩ := hk _ _ _ _ ho
    exact ⟨g1, g2, g3, fun H locs cells slots lsM a1 a2 a3 a4 a5 a6 => lv_ixor C.1 C.2.1 hdg  (g H locs cells slots lsM a1 a2 a3 a4 a5 a6)⟩
  · cases ho
def o_idiv (nx : Nat) : Op := fun k ls st h => match st with
  | .inl y :: .inl x :: st' => if y = 0 then none else k nx ls (vI (x / y) :: st') h
  | _ => none
theorem so_idiv {pc : Nat} (hdg : decode bytes pc = .ok (.idiv, 1)) : SoundOp bytes own nL ret isI dF dL pc (o_idiv (pc + 1)) := by
  intro p l e R s m args below meth c b D cy pre n0 s0 out C hp k hk ls st h ho
  unfold o_idiv at ho
  split at ho
  · split at ho
    · cases ho
    · rename_i hne
      obtain ⟨g1, g2, g3, g⟩ := hk _ _ _ _ ho
      exact ⟨g1, g2, g3, fun H locs cells slots lsM a1 a2 a3 a4 a5 a6 => lv_idiv C.1 C.2.1 hdg hne (g H locs cells slots lsM a1 a2 a3 a4 a5 a6)⟩
  · cases ho
def o_irem (nx : Nat) : Op := fun k ls st h => match st with
  | .inl y :: .inl x :: st' => if y = 0 then none else k nx ls (vI (x - x / y * y) :: st') h
  | _ => none
theorem so_irem {pc : Nat} (hdg : decode bytes pc = .ok (.irem, 1)) : SoundOp bytes own nL ret isI dF dL pc (o_irem (pc + 1)) := by
  intro p l e R s m args below meth c b D cy pre n0 s0 out C hp k hk ls st h ho
  unfold o_irem at ho
  split at ho
  · split at ho
    · cases ho
    · rename_i hne
      obtain ⟨g1, g2, g3, g⟩ := hk _ _ _ _ ho
      exact ⟨g1, g2, g3, fun H locs cells slots lsM a1 a2 a3 a4 a5 a6 => lv_irem C.1 C.2.1 hdg hne (g H locs cells slots lsM a1 a2 a3 a4 a5 a6)⟩
  · cases ho
def o_ladd (nx : Nat) : Op := fun k ls st h => match st with
  | .inr (.inl y) :: .inr (.inl x) :: st' => k nx ls (vL (x + y) :: st') h
  | _ => none
theorem so_ladd {pc : Nat} (hdg : decode bytes pc = .ok (.ladd, 1)) : SoundOp bytes own nL ret isI dF dL pc (o_ladd (pc + 1)) := by
  intro p l e R s m args below meth c b D cy pre n0 s0 out C hp k hk ls st h ho
  unfold o_ladd at ho
  split at ho
  · obtain ⟨g1, g2, g3, g⟩ := hk _ _ _ _ ho
    exact ⟨g1, g2, g3, fun H locs cells slots lsM a1 a2 a3 a4 a5 a6 => lv_ladd C.1 C.2.1 hdg  (g H locs cells slots lsM a1 a2 a3 a4 a5 a6)⟩
  · cases ho
def o_lsub (nx : Nat) : Op := fun k ls st h => match st with
  | .inr (.inl y) :: .inr (.inl x) :: st' => k nx ls (vL (x - y) :: st') h
  | _ => none
theorem so_lsub {pc : Nat} (hdg : decode bytes pc = .ok (.lsub, 1)) : SoundOp bytes own nL ret isI dF dL pc (o_lsub (pc + 1)) := by
  intro p l e R s m args below meth c b D cy pre n0 s0 out C hp k hk ls st h ho
  unfold o_lsub at ho
  split at ho
  · obtain ⟨g1, g2, g3, g⟩ := hk _ _ _ _ ho
    exact ⟨g1, g2, g3, fun H locs cells slots lsM a1 a2 a3 a4 a5 a6 => lv_lsub C.1 C.2.1 hdg  (g H locs cells slots lsM a1 a2 a3 a4 a5 a6)⟩
  · cases ho
def o_lmul (nx : Nat) : Op := fun k ls st h => match st with
  | .inr (.inl y) :: .inr (.inl x) :: st' => k nx ls (vL (x * y) :: st') h
  | _ => none
theorem so_lmul {pc : Nat} (hdg : decode bytes pc = .ok (.lmul, 1)) : SoundOp bytes own nL ret isI dF dL pc (o_lmul (pc + 1)) := by
  intro p l e R s m args below meth c b D cy pre n0 s0 out C hp k hk ls st h ho
  unfold o_lmul at ho
  split at ho
  · obtain ⟨g1, g2, g3, g⟩ := hk _ _ _ _ ho
    exact ⟨g1, g2, g3, fun H locs cells slots lsM a1 a2 a3 a4 a5 a6 => lv_lmul C.1 C.2.1 hdg  (g H locs cells slots lsM a1 a2 a3 a4 a5 a6)⟩
  · cases ho
def o_land (nx : Nat) : Op := fun k ls st h => match st with
  | .inr (.inl y) :: .inr (.inl x) :: st' => k nx ls (vL (x &&& y) :: st') h
  | _ => none
theorem so_land {pc : Nat} (hdg : decode bytes pc = .ok (.land, 1)) : SoundOp bytes own nL ret isI dF dL pc (o_land (pc + 1)) := by
  intro p l e R s m args below meth c b D cy pre n0 s0 out C hp k hk ls st h ho
  unfold o_land at ho
  split at ho
  · obtain ⟨g1, g2, g3, g⟩ := hk _ _ _ _ ho
    exact ⟨g1, g2, g3, fun H locs cells slots lsM a1 a2 a3 a4 a5 a6 => lv_land C.1 C.2.1 hdg  (g H locs cells slots lsM a1 a2 a3 a4 a5 a6)⟩
  · cases ho
def o_lor (nx : Nat) : Op := fun k ls st h => match st with
  | .inr (.inl y) :: .inr (.inl x) :: st' => k nx ls (vL (x ||| y) :: st') h
  | _ => none
theorem so_lor {pc : Nat} (hdg : decode bytes pc = .ok (.lor, 1)) : SoundOp bytes own nL ret isI dF dL pc (o_lor (pc + 1)) := by
  intro p l e R s m args below meth c b D cy pre n0 s0 out C hp k hk ls st h ho
  unfold o_lor at ho
  split at ho
  · obtain ⟨g1, g2, g3, g⟩ := hk _ _ _ _ ho
    exact ⟨g1, g2, g3, fun H locs cells slots lsM a1 a2 a3 a4 a5 a6 => lv_lor C.1 C.2.1 hdg  (g H locs cells slots lsM a1 a2 a3 a4 a5 a6)⟩
  · cases ho
def o_lxor (nx : Nat) : Op := fun k ls st h => match st with
  | .inr (.inl y) :: .inr (.inl x) :: st' => k nx ls (vL (x ^^^ y) :: st') h
  | _ => none
theorem so_lxor {pc : Nat} (hdg : decode bytes pc = .ok (.lxor, 1)) : SoundOp bytes own nL ret isI dF dL pc (o_lxor (pc + 1)) := by
  intro p l e R s m args below meth c b D cy pre n0 s0 out C hp k hk ls st h ho
  unfold o_lxor at ho
  split at ho
  · obtain ⟨g1, g2, g3, g⟩ := hk _ _ _ _ ho
    exact ⟨g1, g2, g3, fun H locs cells slots lsM a1 a2 a3 a4 a5 a6 => lv_lxor C.1 C.2.1 hdg  (g H locs cells slots lsM a1 a2 a3 a4 a5 a6)⟩
  · cases ho
def o_ldiv (nx : Nat) : Op := fun k ls st h => match st with
  | .inr (.inl y) :: .inr (.inl x) :: st' => if y = 0 then none else k nx ls (vL (x / y) :: st') h
  | _ => none
theorem so_ldiv {pc : Nat} (hdg : decode bytes pc = .ok (.ldiv, 1)) : SoundOp bytes own nL ret isI dF dL pc (o_ldiv (pc + 1)) := by
  intro p l e R s m args below meth c b D cy pre n0 s0 out C hp k hk ls st h ho
  unfold o_ldiv at ho
  split at ho
  · split at ho
    · cases ho
    · rename_i hne
      obtain ⟨g1, g2, g3, g⟩ := hk _ _ _ _ ho
      exact ⟨g1, g2, g3, fun H locs cells slots lsM a1 a2 a3 a4 a5 a6 => lv_ldiv C.1 C.2.1 hdg hne (g H locs cells slots lsM a1 a2 a3 a4 a5 a6)⟩
  · cases ho
def o_lrem (nx : Nat) : Op := fun k ls st h => match st with
  | .inr (.inl y) :: .inr (.inl x) :: st' => if y = 0 then none else k nx ls (vL (x - x / y * y) :: st') h
  | _ => none
theorem so_lrem {pc : Nat} (hdg : decode bytes pc = .ok (.lrem, 1)) : SoundOp bytes own nL ret isI dF dL pc (o_lrem (pc + 1)) := by
  intro p l e R s m args below meth c b D cy pre n0 s0 out C hp k hk ls st h ho
  unfold o_lrem at ho
  split at ho
  · split at ho
    · cases ho
    · rename_i hne
      obtain ⟨g1, g2, g3, g⟩ := hk _ _ _ _ ho
      exact ⟨g1, g2, g3, fun H locs cells slots lsM a1 a2 a3 a4 a5 a6 => lv_lrem C.1 C.2.1 hdg hne (g H locs cells slots lsM a1 a2 a3 a4 a5 a6)⟩
  · cases ho
def o_ishl (nx : Nat) : Op := fun k ls st h => match st with
  | .inl y :: .inl x :: st' => k nx ls (vI (x <<< (y &&& 31)) :: st') h
  | _ => none
theorem so_ishl {pc : Nat} (hdg : decode bytes pc = .ok (.ishl, 1)) : SoundOp bytes own nL ret isI dF dL pc (o_ishl (pc + 1)) := by
  intro p l e R s m args below meth c b D cy pre n0 s0 out C hp k hk ls st h ho
  unfold o_ishl at ho
  split at ho
  · obtain ⟨g1, g2, g3, g⟩ := hk _ _ _ _ ho
    exact ⟨g1, g2, g3, fun H locs cells slots lsM a1 a2 a3 a4 a5 a6 => lv_ishl C.1 C.2.1 hdg  (g H locs cells slots lsM a1 a2 a3 a4 a5 a6)⟩
  · cases ho
def o_ishr (nx : Nat) : Op := fun k ls st h => match st with
  | .inl y :: .inl x :: st' => k nx ls (vI (x >>> (y &&& 31)) :: st') h
  | _ => none
theorem so_ishr {pc : Nat} (hdg : decode bytes pc = .ok (.ishr, 1)) : SoundOp bytes own nL ret isI dF dL pc (o_ishr (pc + 1)) := by
  intro p l e R s m args below meth c b D cy pre n0 s0 out C hp k hk ls st h ho
  unfold o_ishr at ho
  split at ho
  · obtain ⟨g1, g2, g3, g⟩ := hk _ _ _ _ ho
    exact ⟨g1, g2, g3, fun H locs cells slots lsM a1 a2 a3 a4 a5 a6 => lv_ishr C.1 C.2.1 hdg  (g H locs cells slots lsM a1 a2 a3 a4 a5 a6)⟩
  · cases ho
def o_iushr (nx : Nat) : Op := fun k ls st h => match st with
  | .inl y :: .inl x :: st' => k nx ls (vI ((x.toUInt32 >>> (y.toUInt32 &&& Int32.toUInt32 31)).toInt32) :: st') h
  | _ => none
theorem so_iushr {pc : Nat} (hdg : decode bytes pc = .ok (.iushr, 1)) : SoundOp bytes own nL ret isI dF dL pc (o_iushr (pc + 1)) := by
  intro p l e R s m args below meth c b D cy pre n0 s0 out C hp k hk ls st h ho
  unfold o_iushr at ho
  split at ho
  · obtain ⟨g1, g2, g3, g⟩ := hk _ _ _ _ ho
    exact ⟨g1, g2, g3, fun H locs cells slots lsM a1 a2 a3 a4 a5 a6 => lv_iushr C.1 C.2.1 hdg rfl (g H locs cells slots lsM a1 a2 a3 a4 a5 a6)⟩
  · cases ho
def o_lushr (nx : Nat) : Op := fun k ls st h => match st with
  | .inl y :: .inr (.inl x) :: st' => k nx ls (vL ((x.toUInt64 >>> (y.toInt64.toUInt64 &&& Int64.toUInt64 63)).toInt64) :: st') h
  | _ => none
theorem so_lushr {pc : Nat} (hdg : decode bytes pc = .ok (.lushr, 1)) : SoundOp bytes own nL ret isI dF dL pc (o_lushr (pc + 1)) := by
  intro p l e R s m args below meth c b D cy pre n0 s0 out C hp k hk ls st h ho
  unfold o_lushr at ho
  split at ho
  · obtain ⟨g1, g2, g3, g⟩ := hk _ _ _ _ ho
    exact ⟨g1, g2, g3, fun H locs cells slots lsM a1 a2 a3 a4 a5 a6 => lv_lushr C.1 C.2.1 hdg rfl (g H locs cells slots lsM a1 a2 a3 a4 a5 a6)⟩
  · cases ho
def o_lshl (nx : Nat) : Op := fun k ls st h => match st with
  | .inl y :: .inr (.inl x) :: st' => k nx ls (vL (x <<< (y.toInt64 &&& 63)) :: st') h
  | _ => none
theorem so_lshl {pc : Nat} (hdg : decode bytes pc = .ok (.lshl, 1)) : SoundOp bytes own nL ret isI dF dL pc (o_lshl (pc + 1)) := by
  intro p l e R s m args below meth c b D cy pre n0 s0 out C hp k hk ls st h ho
  unfold o_lshl at ho
  split at ho
  · obtain ⟨g1, g2, g3, g⟩ := hk _ _ _ _ ho
    exact ⟨g1, g2, g3, fun H locs cells slots lsM a1 a2 a3 a4 a5 a6 => lv_lshl C.1 C.2.1 hdg rfl (g H locs cells slots lsM a1 a2 a3 a4 a5 a6)⟩
  · cases ho
def o_i2l (nx : Nat) : Op := fun k ls st h => match st with
  | .inl x :: st' => k nx ls (vL x.toInt64 :: st') h
  | _ => none
theorem so_i2l {pc : Nat} (hdg : decode bytes pc = .ok (.i2l, 1)) : SoundOp bytes own nL ret isI dF dL pc (o_i2l (pc + 1)) := by
  intro p l e R s m args below meth c b D cy pre n0 s0 out C hp k hk ls st h ho
  unfold o_i2l at ho
  split at ho
  · obtain ⟨g1, g2, g3, g⟩ := hk _ _ _ _ ho
    exact ⟨g1, g2, g3, fun H locs cells slots lsM a1 a2 a3 a4 a5 a6 => lv_i2l C.1 C.2.1 hdg rfl (g H locs cells slots lsM a1 a2 a3 a4 a5 a6)⟩
  · cases ho
def o_l2i (nx : Nat) : Op := fun k ls st h => match st with
  | .inr (.inl x) :: st' => k nx ls (vI x.toInt32 :: st') h
  | _ => none
theorem so_l2i {pc : Nat} (hdg : decode bytes pc = .ok (.l2i, 1)) : SoundOp bytes own nL ret isI dF dL pc (o_l2i (pc + 1)) := by
  intro p l e R s m args below meth c b D cy pre n0 s0 out C hp k hk ls st h ho
  unfold o_l2i at ho
  split at ho
  · obtain ⟨g1, g2, g3, g⟩ := hk _ _ _ _ ho
    exact ⟨g1, g2, g3, fun H locs cells slots lsM a1 a2 a3 a4 a5 a6 => lv_l2i C.1 C.2.1 hdg rfl (g H locs cells slots lsM a1 a2 a3 a4 a5 a6)⟩
  · cases ho
def o_i2b (nx : Nat) : Op := fun k ls st h => match st with
  | .inl x :: st' => k nx ls (vI x.toInt8.toInt32 :: st') h
  | _ => none
theorem so_i2b {pc : Nat} (hdg : decode bytes pc = .ok (.i2b, 1)) : SoundOp bytes own nL ret isI dF dL pc (o_i2b (pc + 1)) := by
  intro p l e R s m args below meth c b D cy pre n0 s0 out C hp k hk ls st h ho
  unfold o_i2b at ho
  split at ho
  · obtain ⟨g1, g2, g3, g⟩ := hk _ _ _ _ ho
    exact ⟨g1, g2, g3, fun H locs cells slots lsM a1 a2 a3 a4 a5 a6 => lv_i2b C.1 C.2.1 hdg rfl (g H locs cells slots lsM a1 a2 a3 a4 a5 a6)⟩
  · cases ho
def o_lcmp (nx : Nat) : Op := fun k ls st h => match st with
  | .inr (.inl y) :: .inr (.inl x) :: st' => k nx ls (vI (lg_cmp x y) :: st') h
  | _ => none
theorem so_lcmp {pc : Nat} (hdg : decode bytes pc = .ok (.lcmp, 1)) : SoundOp bytes own nL ret isI dF dL pc (o_lcmp (pc + 1)) := by
  intro p l e R s m args below meth c b D cy pre n0 s0 out C hp k hk ls st h ho
  unfold o_lcmp at ho
  split at ho
  · obtain ⟨g1, g2, g3, g⟩ := hk _ _ _ _ ho
    exact ⟨g1, g2, g3, fun H locs cells slots lsM a1 a2 a3 a4 a5 a6 => W.lcmp C.1 C.2.1 hdg  (g H locs cells slots lsM a1 a2 a3 a4 a5 a6)⟩
  · cases ho
def o_dupI (nx : Nat) : Op := fun k ls st h => match st with
  | .inl x :: st' => k nx ls (vI x :: vI x :: st') h
  | _ => none
theorem so_dupI {pc : Nat} (hdg : decode bytes pc = .ok (.dup, 1)) : SoundOp bytes own nL ret isI dF dL pc (o_dupI (pc + 1)) := by
  intro p l e R s m args below meth c b D cy pre n0 s0 out C hp k hk ls st h ho
  unfold o_dupI at ho
  split at ho
  · obtain ⟨g1, g2, g3, g⟩ := hk _ _ _ _ ho
    exact ⟨g1, g2, g3, fun H locs cells slots lsM a1 a2 a3 a4 a5 a6 => lv_dup C.1 C.2.1 hdg rfl (g H locs cells slots lsM a1 a2 a3 a4 a5 a6)⟩
  · cases ho
def o_popI (nx : Nat) : Op := fun k ls st h => match st with
  | .inl x :: st' => k nx ls (st') h
  | _ => none
theorem so_popI {pc : Nat} (hdg : decode bytes pc = .ok (.pop, 1)) : SoundOp bytes own nL ret isI dF dL pc (o_popI (pc + 1)) := by
  intro p l e R s m args below meth c b D cy pre n0 s0 out C hp k hk ls st h ho
  unfold o_popI at ho
  split at ho
  · obtain ⟨g1, g2, g3, g⟩ := hk _ _ _ _ ho
    exact ⟨g1, g2, g3, fun H locs cells slots lsM a1 a2 a3 a4 a5 a6 => lv_pop C.1 C.2.1 hdg rfl (g H locs cells slots lsM a1 a2 a3 a4 a5 a6)⟩
  · cases ho
def o_dup2LL (nx : Nat) : Op := fun k ls st h => match st with
  | .inr (.inl x) :: st' => k nx ls (vL x :: vL x :: st') h
  | _ => none
theorem so_dup2LL {pc : Nat} (hdg : decode bytes pc = .ok (.dup2, 1)) : SoundOp bytes own nL ret isI dF dL pc (o_dup2LL (pc + 1)) := by
  intro p l e R s m args below meth c b D cy pre n0 s0 out C hp k hk ls st h ho
  unfold o_dup2LL at ho
  split at ho
  · obtain ⟨g1, g2, g3, g⟩ := hk _ _ _ _ ho
    exact ⟨g1, g2, g3, fun H locs cells slots lsM a1 a2 a3 a4 a5 a6 => lv_dup2_2 C.1 C.2.1 hdg rfl (g H locs cells slots lsM a1 a2 a3 a4 a5 a6)⟩
  · cases ho
theorem cat_rf (r : Option Nat) : (va_rf r).category = 1 := by cases r <;> rfl
def o_dupR (nx : Nat) : Op := fun k ls st h => match st with
  | .inr (.inr r) :: st' => k nx ls (vR r :: vR r :: st') h
  | _ => none
theorem so_dupR {pc : Nat} (hdg : decode bytes pc = .ok (.dup, 1)) : SoundOp bytes own nL ret isI dF dL pc (o_dupR (pc + 1)) := by
  intro p l e R s m args below meth c b D cy pre n0 s0 out C hp k hk ls st h ho
  unfold o_dupR at ho
  split at ho
  · obtain ⟨g1, g2, g3, g⟩ := hk _ _ _ _ ho
    exact ⟨g1, g2, g3, fun H locs cells slots lsM a1 a2 a3 a4 a5 a6 => lv_dup C.1 C.2.1 hdg (cat_rf _) (g H locs cells slots lsM a1 a2 a3 a4 a5 a6)⟩
  · cases ho
def o_popR (nx : Nat) : Op := fun k ls st h => match st with
  | .inr (.inr _) :: st' => k nx ls st' h
  | _ => none
theorem so_popR {pc : Nat} (hdg : decode bytes pc = .ok (.pop, 1)) : SoundOp bytes own nL ret isI dF dL pc (o_popR (pc + 1)) := by
  intro p l e R s m args below meth c b D cy pre n0 s0 out C hp k hk ls st h ho
  unfold o_popR at ho
  split at ho
  · obtain ⟨g1, g2, g3, g⟩ := hk _ _ _ _ ho
    exact ⟨g1, g2, g3, fun H locs cells slots lsM a1 a2 a3 a4 a5 a6 => lv_pop C.1 C.2.1 hdg (cat_rf _) (g H locs cells slots lsM a1 a2 a3 a4 a5 a6)⟩
  · cases ho
/-- dup2 of an index above an array -/
def o_dup2A (nx : Nat) : Op := fun k ls st h => match st with
  | .inl x :: .inr (.inr r) :: st' => k nx ls (vI x :: vR r :: vI x :: vR r :: st') h
  | _ => none
theorem so_dup2A {pc : Nat} (hdg : decode bytes pc = .ok (.dup2, 1)) : SoundOp bytes own nL ret isI dF dL pc (o_dup2A (pc + 1)) := by
  intro p l e R s m args below meth c b D cy pre n0 s0 out C hp k hk ls st h ho
  unfold o_dup2A at ho
  split at ho
  · obtain ⟨g1, g2, g3, g⟩ := hk _ _ _ _ ho
    exact ⟨g1, g2, g3, fun H locs cells slots lsM a1 a2 a3 a4 a5 a6 => lv_dup2_11 C.1 C.2.1 hdg rfl (cat_rf _) (g H locs cells slots lsM a1 a2 a3 a4 a5 a6)⟩
  · cases ho
def o_dupx1 (nx : Nat) : Op := fun k ls st h => match st with
  | .inl x :: .inr (.inr r) :: st' => k nx ls (vI x :: vR r :: vI x :: st') h
  | _ => none
theorem so_dupx1 {pc : Nat} (hdg : decode bytes pc = .ok (.dup_x1, 1)) : SoundOp bytes own nL ret isI dF dL pc (o_dupx1 (pc + 1)) := by
  intro p l e R s m args below meth c b D cy pre n0 s0 out C hp k hk ls st h ho
  unfold o_dupx1 at ho
  split at ho
  · obtain ⟨g1, g2, g3, g⟩ := hk _ _ _ _ ho
    exact ⟨g1, g2, g3, fun H locs cells slots lsM a1 a2 a3 a4 a5 a6 => lv_dup_x1 C.1 C.2.1 hdg rfl (cat_rf _) (g H locs cells slots lsM a1 a2 a3 a4 a5 a6)⟩
  · cases ho
def o_goto (tgt : Nat) : Op := fun k ls st h => k tgt ls st h
theorem so_goto {pc tgt : Nat} {off : Int} (hdg : decode bytes pc = .ok (.goto off, 3)) (ht : (pc : Int) + off = (tgt : Int)) : SoundOp bytes own nL ret isI dF dL pc (o_goto tgt) := by
  intro p l e R s m args below meth c b D cy pre n0 s0 out C hp k hk ls st h ho
  obtain ⟨g1, g2, g3, g⟩ := hk _ _ _ _ ho
  exact ⟨g1, g2, g3, fun H locs cells slots lsM a1 a2 a3 a4 a5 a6 => lv_goto C.1 C.2.1 hdg ht (g H locs cells slots lsM a1 a2 a3 a4 a5 a6)⟩
def o_zeq (tgt nx : Nat) : Op := fun k ls st h => match st with
  | .inl x :: st' => if x = 0 then k tgt ls st' h else k nx ls st' h
  | _ => none
theorem so_zeq {pc tgt : Nat} {off : Int} (hdg : decode bytes pc = .ok (.ifCond .eq off, 3)) (ht : (pc : Int) + off = (tgt : Int)) : SoundOp bytes own nL ret isI dF dL pc (o_zeq tgt (pc + 3)) := by
  intro p l e R s m args below meth c b D cy pre n0 s0 out C hp k hk ls st h ho
  unfold o_zeq at ho
  split at ho
  · split at ho
    · rename_i hc
      obtain ⟨g1, g2, g3, g⟩ := hk _ _ _ _ ho
      exact ⟨g1, g2, g3, fun H locs cells slots lsM a1 a2 a3 a4 a5 a6 => lv_if_eq C.1 C.2.1 hdg ht (fun _ => g H locs cells slots lsM a1 a2 a3 a4 a5 a6) (fun z => absurd hc z)⟩
    · rename_i hc
      obtain ⟨g1, g2, g3, g⟩ := hk _ _ _ _ ho
      exact ⟨g1, g2, g3, fun H locs cells slots lsM a1 a2 a3 a4 a5 a6 => lv_if_eq C.1 C.2.1 hdg ht (fun z => absurd z hc) (fun _ => g H locs cells slots lsM a1 a2 a3 a4 a5 a6)⟩
  · cases ho
def o_ceq (tgt nx : Nat) : Op := fun k ls st h => match st with
  | .inl y :: .inl x :: st' => if x = y then k tgt ls st' h else k nx ls st' h
  | _ => none
theorem so_ceq {pc tgt : Nat} {off : Int} (hdg : decode bytes pc = .ok (.if_icmp .eq off, 3)) (ht : (pc : Int) + off = (tgt : Int)) : SoundOp bytes own nL ret isI dF dL pc (o_ceq tgt (pc + 3)) := by
  intro p l e R s m args below meth c b D cy pre n0 s0 out C hp k hk ls st h ho
  unfold o_ceq at ho
  split at ho
  · split at ho
    · rename_i hc
      obtain ⟨g1, g2, g3, g⟩ := hk _ _ _ _ ho
      exact ⟨g1, g2, g3, fun H locs cells slots lsM a1 a2 a3 a4 a5 a6 => lv_icmp_eq C.1 C.2.1 hdg ht (fun _ => g H locs cells slots lsM a1 a2 a3 a4 a5 a6) (fun z => absurd hc z)⟩
    · rename_i hc
      obtain ⟨g1, g2, g3, g⟩ := hk _ _ _ _ ho
      exact ⟨g1, g2, g3, fun H locs cells slots lsM a1 a2 a3 a4 a5 a6 => lv_icmp_eq C.1 C.2.1 hdg ht (fun z => absurd z hc) (fun _ => g H locs cells slots lsM a1 a2 a3 a4 a5 a6)⟩
  · cases ho
def o_zne (tgt nx : Nat) : Op := fun k ls st h => match st with
  | .inl x :: st' => if x = 0 then k nx ls st' h else k tgt ls st' h
  | _ => none
theorem so_zne {pc tgt : Nat} {off : Int} (hdg : decode bytes pc = .ok (.ifCond .ne off, 3)) (ht : (pc : Int) + off = (tgt : Int)) : SoundOp bytes own nL ret isI dF dL pc (o_zne tgt (pc + 3)) := by
  intro p l e R s m args below meth c b D cy pre n0 s0 out C hp k hk ls st h ho
  unfold o_zne at ho
  split at ho
  · split at ho
    · rename_i hc
      obtain ⟨g1, g2, g3, g⟩ := hk _ _ _ _ ho
      exact ⟨g1, g2, g3, fun H locs cells slots lsM a1 a2 a3 a4 a5 a6 => lv_if_ne C.1 C.2.1 hdg ht (fun z => absurd hc z) (fun _ => g H locs cells slots lsM a1 a2 a3 a4 a5 a6)⟩
    · rename_i hc
      obtain ⟨g1, g2, g3, g⟩ := hk _ _ _ _ ho
      exact ⟨g1, g2, g3, fun H locs cells slots lsM a1 a2 a3 a4 a5 a6 => lv_if_ne C.1 C.2.1 hdg ht (fun _ => g H locs cells slots lsM a1 a2 a3 a4 a5 a6) (fun z => absurd z hc)⟩
  · cases ho
def o_cne (tgt nx : Nat) : Op := fun k ls st h => match st with
  | .inl y :: .inl x :: st' => if x = y then k nx ls st' h else k tgt ls st' h
  | _ => none
theorem so_cne {pc tgt : Nat} {off : Int} (hdg : decode bytes pc = .ok (.if_icmp .ne off, 3)) (ht : (pc : Int) + off = (tgt : Int)) : SoundOp bytes own nL ret isI dF dL pc (o_cne tgt (pc + 3)) := by
  intro p l e R s m args below meth c b D cy pre n0 s0 out C hp k hk ls st h ho
  unfold o_cne at ho
  split at ho
  · split at ho
    · rename_i hc
      obtain ⟨g1, g2, g3, g⟩ := hk _ _ _ _ ho
      exact ⟨g1, g2, g3, fun H locs cells slots lsM a1 a2 a3 a4 a5 a6 => lv_icmp_ne C.1 C.2.1 hdg ht (fun z => absurd hc z) (fun _ => g H locs cells slots lsM a1 a2 a3 a4 a5 a6)⟩
    · rename_i hc
      obtain ⟨g1, g2, g3, g⟩ := hk _ _ _ _ ho
      exact ⟨g1, g2, g3, fun H locs cells slots lsM a1 a2 a3 a4 a5 a6 => lv_icmp_ne C.1 C.2.1 hdg ht (fun _ => g H locs cells slots lsM a1 a2 a3 a4 a5 a6) (fun z => absurd z hc)⟩
  · cases ho
def o_zlt (tgt nx : Nat) : Op := fun k ls st h => match st with
  | .inl x :: st' => if x < 0 then k tgt ls st' h else k nx ls st' h
  | _ => none
theorem so_zlt {pc tgt : Nat} {off : Int} (hdg : decode bytes pc = .ok (.ifCond .lt off, 3)) (ht : (pc : Int) + off = (tgt : Int)) : SoundOp bytes own nL ret isI dF dL pc (o_zlt tgt (pc + 3)) := by
  intro p l e R s m args below meth c b D cy pre n0 s0 out C hp k hk ls st h ho
  unfold o_zlt at ho
  split at ho
  · split at ho
    · rename_i hc
      obtain ⟨g1, g2, g3, g⟩ := hk _ _ _ _ ho
      exact ⟨g1, g2, g3, fun H locs cells slots lsM a1 a2 a3 a4 a5 a6 => lv_if_lt C.1 C.2.1 hdg ht (fun _ => g H locs cells slots lsM a1 a2 a3 a4 a5 a6) (fun z => absurd hc z)⟩
    · rename_i hc
      obtain ⟨g1, g2, g3, g⟩ := hk _ _ _ _ ho
      exact ⟨g1, g2, g3, fun H locs cells slots lsM a1 a2 a3 a4 a5 a6 => lv_if_lt C.1 C.2.1 hdg ht (fun z => absurd z hc) (fun _ => g H locs cells slots lsM a1 a2 a3 a4 a5 a6)⟩
  · cases ho
def o_clt (tgt nx : Nat) : Op := fun k ls st h => match st with
  | .inl y :: .inl x :: st' => if x < y then k tgt ls st' h else k nx ls st' h
  | _ => none
theorem so_clt {pc tgt : Nat} {off : Int} (hdg : decode bytes pc = .ok (.if_icmp .lt off, 3)) (ht : (pc : Int) + off = (tgt : Int)) : SoundOp bytes own nL ret isI dF dL pc (o_clt tgt (pc + 3)) := by
  intro p l e R s m args below meth c b D cy pre n0 s0 out C hp k hk ls st h ho
  unfold o_clt at ho
  split at ho
  · split at ho
    · rename_i hc
      obtain ⟨g1, g2, g3, g⟩ := hk _ _ _ _ ho
      exact ⟨g1, g2, g3, fun H locs cells slots lsM a1 a2 a3 a4 a5 a6 => lv_icmp_lt C.1 C.2.1 hdg ht (fun _ => g H locs cells slots lsM a1 a2 a3 a4 a5 a6) (fun z => absurd hc z)⟩
    · rename_i hc
      obtain ⟨g1, g2, g3, g⟩ := hk _ _ _ _ ho
      exact ⟨g1, g2, g3, fun H locs cells slots lsM a1 a2 a3 a4 a5 a6 => lv_icmp_lt C.1 C.2.1 hdg ht (fun z => absurd z hc) (fun _ => g H locs cells slots lsM a1 a2 a3 a4 a5 a6)⟩
  · cases ho
def o_zge (tgt nx : Nat) : Op := fun k ls st h => match st with
  | .inl x :: st' => if 0 ≤ x then k tgt ls st' h else k nx ls st' h
  | _ => none
theorem so_zge {pc tgt : Nat} {off : Int} (hdg : decode bytes pc = .ok (.ifCond .ge off, 3)) (ht : (pc : Int) + off = (tgt : Int)) : SoundOp bytes own nL ret isI dF dL pc (o_zge tgt (pc + 3)) := by
  intro p l e R s m args below meth c b D cy pre n0 s0 out C hp k hk ls st h ho
  unfold o_zge at ho
  split at ho
  · split at ho
    · rename_i hc
      obtain ⟨g1, g2, g3, g⟩ := hk _ _ _ _ ho
      exact ⟨g1, g2, g3, fun H locs cells slots lsM a1 a2 a3 a4 a5 a6 => lv_if_ge C.1 C.2.1 hdg ht (fun _ => g H locs cells slots lsM a1 a2 a3 a4 a5 a6) (fun z => absurd hc z)⟩
    · rename_i hc
      obtain ⟨g1, g2, g3, g⟩ := hk _ _ _ _ ho
      exact ⟨g1, g2, g3, fun H locs cells slots lsM a1 a2 a3 a4 a5 a6 => lv_if_ge C.1 C.2.1 hdg ht (fun z => absurd z hc) (fun _ => g H locs cells slots lsM a1 a2 a3 a4 a5 a6)⟩
  · cases ho
def o_cge (tgt nx : Nat) : Op := fun k ls st h => match st with
  | .inl y :: .inl x :: st' => if y ≤ x then k tgt ls st' h else k nx ls st' h
  | _ => none
theorem so_cge {pc tgt : Nat} {off : Int} (hdg : decode bytes pc = .ok (.if_icmp .ge off, 3)) (ht : (pc : Int) + off = (tgt : Int)) : SoundOp bytes own nL ret isI dF dL pc (o_cge tgt (pc + 3)) := by
  intro p l e R s m args below meth c b D cy pre n0 s0 out C hp k hk ls st h ho
  unfold o_cge at ho
  split at ho
  · split at ho
    · rename_i hc
      obtain ⟨g1, g2, g3, g⟩ := hk _ _ _ _ ho
      exact ⟨g1, g2, g3, fun H locs cells slots lsM a1 a2 a3 a4 a5 a6 => lv_icmp_ge C.1 C.2.1 hdg ht (fun _ => g H locs cells slots lsM a1 a2 a3 a4 a5 a6) (fun z => absurd hc z)⟩
    · rename_i hc
      obtain ⟨g1, g2, g3, g⟩ := hk _ _ _ _ ho
      exact ⟨g1, g2, g3, fun H locs cells slots lsM a1 a2 a3 a4 a5 a6 => lv_icmp_ge C.1 C.2.1 hdg ht (fun z => absurd z hc) (fun _ => g H locs cells slots lsM a1 a2 a3 a4 a5 a6)⟩
  · cases ho
def o_zgt (tgt nx : Nat) : Op := fun k ls st h => match st with
  | .inl x :: st' => if 0 < x then k tgt ls st' h else k nx ls st' h
  | _ => none
theorem so_zgt {pc tgt : Nat} {off : Int} (hdg : decode bytes pc = .ok (.ifCond .gt off, 3)) (ht : (pc : Int) + off = (tgt : Int)) : SoundOp bytes own nL ret isI dF dL pc (o_zgt tgt (pc + 3)) := by
  intro p l e R s m args below meth c b D cy pre n0 s0 out C hp k hk ls st h ho
  unfold o_zgt at ho
  split at ho
  · split at ho
    · rename_i hc
      obtain ⟨g1, g2, g3, g⟩ := hk _ _ _ _ ho
      exact ⟨g1, g2, g3, fun H locs cells slots lsM a1 a2 a3 a4 a5 a6 => lv_if_gt C.1 C.2.1 hdg ht (fun _ => g H locs cells slots lsM a1 a2 a3 a4 a5 a6) (fun z => absurd hc z)⟩
    · rename_i hc
      obtain ⟨g1, g2, g3, g⟩ := hk _ _ _ _ ho
      exact ⟨g1, g2, g3, fun H locs cells slots lsM a1 a2 a3 a4 a5 a6 => lv_if_gt C.1 C.2.1 hdg ht (fun z => absurd z hc) (fun _ => g H locs cells slots lsM a1 a2 a3 a4 a5 a6)⟩
  · cases ho
def o_cgt (tgt nx : Nat) : Op := fun k ls st h => match st with
  | .inl y :: .inl x :: st' => if y < x then k tgt ls st' h else k nx ls st' h
  | _ => none
theorem so_cgt {pc tgt : Nat} {off : Int} (hdg : decode bytes pc = .ok (.if_icmp .gt off, 3)) (ht : (pc : Int) + off = (tgt : Int)) : SoundOp bytes own nL ret isI dF dL pc (o_cgt tgt (pc + 3)) := by
  intro p l e R s m args below meth c b D cy pre n0 s0 out C hp k hk ls st h ho
  unfold o_cgt at ho
  split at ho
  · split at ho
    · rename_i hc
      obtain ⟨g1, g2, g3, g⟩ := hk _ _ _ _ ho
      exact ⟨g1, g2, g3, fun H locs cells slots lsM a1 a2 a3 a4 a5 a6 => lv_icmp_gt C.1 C.2.1 hdg ht (fun _ => g H locs cells slots lsM a1 a2 a3 a4 a5 a6) (fun z => absurd hc z)⟩
    · rename_i hc
      obtain ⟨g1, g2, g3, g⟩ := hk _ _ _ _ ho
      exact ⟨g1, g2, g3, fun H locs cells slots lsM a1 a2 a3 a4 a5 a6 => lv_icmp_gt C.1 C.2.1 hdg ht (fun z => absurd z hc) (fun _ => g H locs cells slots lsM a1 a2 a3 a4 a5 a6)⟩
  · cases ho
def o_zle (tgt nx : Nat) : Op := fun k ls st h => match st with
  | .inl x :: st' => if x ≤ 0 then k tgt ls st' h else k nx ls st' h
  | _ => none
theorem so_zle {pc tgt : Nat} {off : Int} (hdg : decode bytes pc = .ok (.ifCond .le off, 3)) (ht : (pc : Int) + off = (tgt : Int)) : SoundOp bytes own nL ret isI dF dL pc (o_zle tgt (pc + 3)) := by
  intro p l e R s m args below meth c b D cy pre n0 s0 out C hp k hk ls st h ho
  unfold o_zle at ho
  split at ho
  · split at ho
    · rename_i hc
      obtain ⟨g1, g2, g3, g⟩ := hk _ _ _ _ ho
      exact ⟨g1, g2, g3, fun H locs cells slots lsM a1 a2 a3 a4 a5 a6 => lv_if_le C.1 C.2.1 hdg ht (fun _ => g H locs cells slots lsM a1 a2 a3 a4 a5 a6) (fun z => absurd hc z)⟩
    · rename_i hc
      obtain ⟨g1, g2, g3, g⟩ := hk _ _ _ _ ho
      exact ⟨g1, g2, g3, fun H locs cells slots lsM a1 a2 a3 a4 a5 a6 => lv_if_le C.1 C.2.1 hdg ht (fun z => absurd z hc) (fun _ => g H locs cells slots lsM a1 a2 a3 a4 a5 a6)⟩
  · cases ho
def o_cle (tgt nx : Nat) : Op := fun k ls st h => match st with
  | .inl y :: .inl x :: st' => if x ≤ y then k tgt ls st' h else k nx ls st' h
  | _ => none
theorem so_cle {pc tgt : Nat} {off : Int} (hdg : decode bytes pc = .ok (.if_icmp .le off, 3)) (ht : (pc : Int) + off = (tgt : Int)) : SoundOp bytes own nL ret isI dF dL pc (o_cle tgt (pc + 3)) := by
  intro p l e R s m args below meth c b D cy pre n0 s0 out C hp k hk ls st h ho
  unfold o_cle at ho
  split at ho
  · split at ho
    · rename_i hc
      obtain ⟨g1, g2, g3, g⟩ := hk _ _ _ _ ho
      exact ⟨g1, g2, g3, fun H locs cells slots lsM a1 a2 a3 a4 a5 a6 => lv_icmp_le C.1 C.2.1 hdg ht (fun _ => g H locs cells slots lsM a1 a2 a3 a4 a5 a6) (fun z => absurd hc z)⟩
    · rename_i hc
      obtain ⟨g1, g2, g3, g⟩ := hk _ _ _ _ ho
      exact ⟨g1, g2, g3, fun H locs cells slots lsM a1 a2 a3 a4 a5 a6 => lv_icmp_le C.1 C.2.1 hdg ht (fun z => absurd z hc) (fun _ => g H locs cells slots lsM a1 a2 a3 a4 a5 a6)⟩
  · cases ho
def nl {α : Type} (r : Option Nat) (A B : Option α) : Option α := match r with
  | none => A
  | some _ => B
def o_ifnull (tgt nx : Nat) : Op := fun k ls st h => match st with
  | .inr (.inr r) :: st' => nl r (k tgt ls st' h) (k nx ls st' h)
  | _ => none
theorem so_ifnull {pc tgt : Nat} {off : Int} (hdg : decode bytes pc = .ok (.ifnull off, 3)) (ht : (pc : Int) + off = (tgt : Int)) : SoundOp bytes own nL ret isI dF dL pc (o_ifnull tgt (pc + 3)) := by
  intro p l e R s m args below meth c b D cy pre n0 s0 out C hp k hk ls st h ho
  unfold o_ifnull at ho
  split at ho
  · rename_i r st'
    cases r with
    | none =>
      obtain ⟨g1, g2, g3, g⟩ := hk _ _ _ _ ho
      exact ⟨g1, g2, g3, fun H locs cells slots lsM a1 a2 a3 a4 a5 a6 => lv_ifnullN C.1 C.2.1 hdg ht (g H locs cells slots lsM a1 a2 a3 a4 a5 a6)⟩
    | some x =>
      obtain ⟨g1, g2, g3, g⟩ := hk _ _ _ _ ho
      exact ⟨g1, g2, g3, fun H locs cells slots lsM a1 a2 a3 a4 a5 a6 => lv_ifnull C.1 C.2.1 hdg (g H locs cells slots lsM a1 a2 a3 a4 a5 a6)⟩
  · cases ho
def o_ifnn (tgt nx : Nat) : Op := fun k ls st h => match st with
  | .inr (.inr r) :: st' => nl r (k nx ls st' h) (k tgt ls st' h)
  | _ => none
theorem so_ifnn {pc tgt : Nat} {off : Int} (hdg : decode bytes pc = .ok (.ifnonnull off, 3)) (ht : (pc : Int) + off = (tgt : Int)) : SoundOp bytes own nL ret isI dF dL pc (o_ifnn tgt (pc + 3)) := by
  intro p l e R s m args below meth c b D cy pre n0 s0 out C hp k hk ls st h ho
  unfold o_ifnn at ho
  split at ho
  · rename_i r st'
    cases r with
    | none =>
      obtain ⟨g1, g2, g3, g⟩ := hk _ _ _ _ ho
      exact ⟨g1, g2, g3, fun H locs cells slots lsM a1 a2 a3 a4 a5 a6 => lv_ifnonnullN C.1 C.2.1 hdg (g H locs cells slots lsM a1 a2 a3 a4 a5 a6)⟩
    | some x =>
      obtain ⟨g1, g2, g3, g⟩ := hk _ _ _ _ ho
      exact ⟨g1, g2, g3, fun H locs cells slots lsM a1 a2 a3 a4 a5 a6 => lv_ifnonnull C.1 C.2.1 hdg ht (g H locs cells slots lsM a1 a2 a3 a4 a5 a6)⟩
  · cases ho
/-- switches: the keys and their places -/
def sw (ts : List (Int32 × Nat)) (d : Nat) (x : Int32) : Nat := match ts with
  | [] => d
  | (a, t) :: r => if x = a then t else sw r d x
def swO {α : Type} (ts : List (Int32 × Nat)) (d : Nat) (x : Int32) (f : Nat → Option α) : Option α := match ts with
  | [] => f d
  | (a, t) :: r => if x = a then f t else swO r d x f
theorem swO_eq {α : Type} (d : Nat) (x : Int32) (f : Nat → Option α) : ∀ ts : List (Int32 × Nat), swO ts d x f = f (sw ts d x)
  | [] => rfl
  | (a, t) :: r => by
    unfold swO sw
    by_cases e : x = a
    · rw [if_pos e, if_pos e]
    · rw [if_neg e, if_neg e]; exact swO_eq d x f r
def o_sw (ts : List (Int32 × Nat)) (d : Nat) : Op := fun k ls st h => match st with
  | .inl x :: st' => swO ts d x (fun q => k q ls st' h)
  | _ => none
theorem sw_lookup (pc : Nat) (d : Int) (dt : Nat) (hd : (pc : Int) + d = (dt : Int)) (x : Int32) : ∀ (ps : List (Int × Int)) (ts : List (Int32 × Nat)), ps.length = ts.length → (∀ (j : Nat) (q : Int × Int) (r : Int32 × Nat), ps[j]? = some q → ts[j]? = some r → r.1.toInt = q.1 ∧ (pc : Int) + q.2 = (r.2 : Int)) → (pc : Int) + Op.lookupswitch.offset ps d x.toInt = (sw ts dt x : Int)
  | [], [], _, _ => by simpa [sw, Op.lookupswitch.offset] using hd
  | [], r :: ts, h, _ => by simp at h
  | q :: ps, [], h, _ => by simp at h
  | q :: ps, r :: ts, hl, h => by
    obtain ⟨h1, h2⟩ := h 0 q r rfl rfl
    obtain ⟨q1, q2⟩ := q
    obtain ⟨r1, r2⟩ := r
    dsimp only at h1 h2
    unfold sw
    by_cases e : x = r1
    · subst e
      rw [if_pos rfl, Op.lookupswitch.offset_cons, if_pos h1.symm]
      exact h2
    · rw [if_neg e, lv_osw e h1]
      exact sw_lookup pc d dt hd x ps ts (by simpa using hl) (fun j a b ha hb => h (j + 1) a b ha hb)
theorem so_lookup {pc : Nat} {d : Int} {ps : Array (Int × Int)} {len dt : Nat} {ts : List (Int32 × Nat)} (hdg : decode bytes pc = .ok (.lookupswitch d ps, len)) (hsrt : (ps.toList.zip (ps.toList.drop 1)).all (fun (a, next) => a.1 < next.1) = true) (hd : (pc : Int) + d = (dt : Int)) (hl : ps.toList.length = ts.length) (hz : (ps.toList.zip ts).all (fun q => decide (q.2.1.toInt = q.1.1) && decide ((pc : Int) + q.1.2 = (q.2.2 : Int))) = true) : SoundOp bytes own nL ret isI dF dL pc (o_sw ts dt) := by
  intro p l e R s m args below meth c b D cy pre n0 s0 out C hp k hk ls st h ho
  unfold o_sw at ho
  split at ho
  · rename_i x st'
    rw [swO_eq] at ho
    obtain ⟨g1, g2, g3, g⟩ := hk _ _ _ _ ho
    refine ⟨g1, g2, g3, fun H locs cells slots lsM a1 a2 a3 a4 a5 a6 => lv_lookup C.1 C.2.1 hdg hsrt rfl (sw_lookup pc d dt hd x ps.toList ts hl ?_) (g H locs cells slots lsM a1 a2 a3 a4 a5 a6)⟩
    intro j q r hq hr
    have hm : (q, r) ∈ ps.toList.zip ts := List.mem_of_getElem? (i := j) (by rw [List.getElem?_zip_eq_some]; exact ⟨hq, hr⟩)
    have := List.all_eq_true.mp hz _ hm
    simpa using this
  · cases ho

theorem tbl_key (x : Int32) (lo : Int) (n : Nat) (h1 : ¬ x.toInt < lo) (h2 : ¬ lo + n - 1 < x.toInt) : (x.toInt - lo).toNat < n := by omega
theorem sw_none (x : Int32) (d : Nat) : ∀ (ts : List (Int32 × Nat)), (∀ r ∈ ts, x ≠ r.1) → sw ts d x = d
  | [], _ => rfl
  | r :: ts, h => by
    unfold sw
    rw [if_neg (h r List.mem_cons_self)]
    exact sw_none x d ts (fun q hq => h q (List.mem_cons_of_mem _ hq))
theorem sw_some (x : Int32) (d : Nat) : ∀ (ts : List (Int32 × Nat)) (j : Nat) (r : Int32 × Nat), ts[j]? = some r → x = r.1 → (∀ (i : Nat) (q : Int32 × Nat), i < j → ts[i]? = some q → q.1 ≠ r.1) → sw ts d x = r.2
  | [], j, r, h, _, _ => by simp at h
  | q :: ts, 0, r, h, hx, _ => by
    simp at h
    subst h
    unfold sw
    rw [if_pos hx]
  | q :: ts, j + 1, r, h, hx, hn => by
    unfold sw
    rw [if_neg (by rw [hx]; exact Ne.symm (hn 0 q (by omega) rfl))]
    exact sw_some x d ts j r h hx (fun i a hi ha => hn (i + 1) a (by omega) ha)
theorem so_table {pc : Nat} {d lo hi : Int} {offs : Array Int} {len dt : Nat} {ts : List (Int32 × Nat)} (hdg : decode bytes pc = .ok (.tableswitch d lo hi offs, len)) (hd : (pc : Int) + d = (dt : Int)) (hl : offs.toList.length = ts.length) (hh : hi = lo + ts.length - 1) (hz : (List.range ts.length).all (fun j => decide (((ts.getD j (0, 0)).1).toInt = lo + j) && decide ((pc : Int) + offs.toList.getD j 0 = ((ts.getD j (0, 0)).2 : Int))) = true) : SoundOp bytes own nL ret isI dF dL pc (o_sw ts dt) := by
  intro p l e R s m args below meth c b D cy pre n0 s0 out C hp k hk ls st h ho
  unfold o_sw at ho
  have hz' : ∀ j, j < ts.length → ((ts.getD j (0, 0)).1).toInt = lo + j ∧ (pc : Int) + offs.toList.getD j 0 = ((ts.getD j (0, 0)).2 : Int) := fun j hj => by
    have := List.all_eq_true.mp hz j (List.mem_range.mpr hj)
    simpa using this
  split at ho
  · rename_i x st'
    rw [swO_eq] at ho
    obtain ⟨g1, g2, g3, g⟩ := hk _ _ _ _ ho
    refine ⟨g1, g2, g3, fun H locs cells slots lsM a1 a2 a3 a4 a5 a6 => ?_⟩
    by_cases hout : x.toInt < lo ∨ hi < x.toInt
    · refine lv_tableOut C.1 C.2.1 hdg hout (tgt := sw ts dt x) ?_ (g H locs cells slots lsM a1 a2 a3 a4 a5 a6)
      rw [sw_none x dt ts]
      · exact hd
      · intro r hr e
        obtain ⟨j, hj⟩ := List.getElem?_of_mem hr
        have hjl := (List.getElem?_eq_some_iff.mp hj).1
        have h1 := (hz' j hjl).1
        rw [show ts.getD j (0, 0) = r by simp [List.getD, hj]] at h1
        rw [e, h1] at hout
        omega
    · have n1 : ¬ x.toInt < lo := fun z => hout (Or.inl z)
      have n2 : ¬ hi < x.toInt := fun z => hout (Or.inr z)
      have hj : (x.toInt - lo).toNat < ts.length := tbl_key x lo ts.length n1 (by omega)
      obtain ⟨h1, h2⟩ := hz' _ hj
      have hr : ts[(x.toInt - lo).toNat]? = some ts[(x.toInt - lo).toNat] := List.getElem?_eq_getElem hj
      have hg : ts.getD (x.toInt - lo).toNat (0, 0) = ts[(x.toInt - lo).toNat] := by simp [List.getD, hr]
      rw [hg] at h1 h2
      have hx : x = (ts[(x.toInt - lo).toNat]).1 := Int32.toInt_inj.mp (by rw [h1]; omega)
      have ho1 : offs[(x.toInt - lo).toNat]? = some (offs.toList.getD (x.toInt - lo).toNat 0) := by
        have : offs.toList[(x.toInt - lo).toNat]? = some (offs.toList[(x.toInt - lo).toNat]'(by omega)) := List.getElem?_eq_getElem (by omega)
        rw [← Array.getElem?_toList, List.getD, this]; rfl
      refine lv_tableIn C.1 C.2.1 hdg n1 n2 ho1 (tgt := sw ts dt x) ?_ (g H locs cells slots lsM a1 a2 a3 a4 a5 a6)
      rw [sw_some x dt ts _ _ hr hx ?_]
      · exact h2
      · intro i q hi' hq e
        have hil := (List.getElem?_eq_some_iff.mp hq).1
        have h3 := (hz' i hil).1
        rw [show ts.getD i (0, 0) = q by simp [List.getD, hq]] at h3
        rw [e, h1] at h3
        omega
  · cases ho
def isZ (x : Int32) : Bool := decide (x = 0) || decide (x = 1)
theorem isZ_nar {x : Int32} (h : isZ x = true) : narrow .boolean (.int x) = .int x ∧ fits .boolean (.int x) = true := by
  unfold isZ at h
  rcases Bool.or_eq_true_iff.mp h with z | z
  · have : x = 0 := by simpa using z
    subst this; exact ⟨rfl, rfl⟩
  · have : x = 1 := by simpa using z
    subst this; exact ⟨rfl, rfl⟩
def o_iret : Op := fun _ _ st h => match st with
  | [.inl x] => some (rI x, h)
  | _ => none
def o_zret : Op := fun _ _ st h => match st with
  | [.inl x] => bif isZ x then some (rI x, h) else none
  | _ => none
def o_lret : Op := fun _ _ st h => match st with
  | [.inr (.inl x)] => some (rL x, h)
  | _ => none
def o_aret : Op := fun _ _ st h => match st with
  | [.inr (.inr x)] => some (rR x, h)
  | _ => none
def o_vret : Op := fun _ _ st h => match st with
  | [] => some (rV, h)
  | _ => none
theorem so_iret {pc : Nat} (hdg : decode bytes pc = .ok (.ireturn, 1)) (hr : ret = some .int) : SoundOp bytes own nL ret isI dF dL pc o_iret := by
  subst hr
  intro p l e R s m args below meth c b D cy pre n0 s0 out C hp k hk ls st h ho
  unfold o_iret at ho
  split at ho
  · cases ho
    refine ⟨Nat.le_refl _, Nat.le_refl _, hp, fun H locs cells slots lsM a1 a2 a3 a4 a5 a6 => ?_⟩
    have e1 : hN h - n0 = cells := by omega
    have e2 : hS h - s0 = slots := by omega
    dsimp only
    rw [e1, e2]
    exact W.iret C.1 C.2.1 C.2.2.2.2.2.2.2.2.2.2.2.2.1 (fun t ht hw => ⟨rfl, by rw [ht]; exact a1.moved hw.alike, va_K.moved hw.alike C.2.2.2.2.2.2.1, fun q hq => by rw [ht]; exact a2 q hq⟩) a3 hdg C.2.2.2.2.2.1
  · cases ho
theorem so_lret {pc : Nat} (hdg : decode bytes pc = .ok (.lreturn, 1)) (hr : ret = some .long) : SoundOp bytes own nL ret isI dF dL pc o_lret := by
  subst hr
  intro p l e R s m args below meth c b D cy pre n0 s0 out C hp k hk ls st h ho
  unfold o_lret at ho
  split at ho
  · cases ho
    refine ⟨Nat.le_refl _, Nat.le_refl _, hp, fun H locs cells slots lsM a1 a2 a3 a4 a5 a6 => ?_⟩
    have e1 : hN h - n0 = cells := by omega
    have e2 : hS h - s0 = slots := by omega
    dsimp only
    rw [e1, e2]
    exact W.lret C.1 C.2.1 C.2.2.2.2.2.2.2.2.2.2.2.2.1 (fun t ht hw => ⟨rfl, by rw [ht]; exact a1.moved hw.alike, va_K.moved hw.alike C.2.2.2.2.2.2.1, fun q hq => by rw [ht]; exact a2 q hq⟩) a3 hdg C.2.2.2.2.2.1
  · cases ho
theorem so_vret {pc : Nat} (hdg : decode bytes pc = .ok (.return_, 1)) (hr : ret = none) : SoundOp bytes own nL ret isI dF dL pc o_vret := by
  subst hr
  intro p l e R s m args below meth c b D cy pre n0 s0 out C hp k hk ls st h ho
  unfold o_vret at ho
  split at ho
  · cases ho
    refine ⟨Nat.le_refl _, Nat.le_refl _, hp, fun H locs cells slots lsM a1 a2 a3 a4 a5 a6 => ?_⟩
    have e1 : hN h - n0 = cells := by omega
    have e2 : hS h - s0 = slots := by omega
    dsimp only
    rw [e1, e2]
    exact W.vret C.1 C.2.1 C.2.2.2.2.2.2.2.2.2.2.2.2.1 (fun t ht hw => ⟨rfl, by rw [ht]; exact a1.moved hw.alike, va_K.moved hw.alike C.2.2.2.2.2.2.1, fun q hq => by rw [ht]; exact a2 q hq⟩) a3 hdg C.2.2.2.2.2.1
  · cases ho
theorem so_zret {pc : Nat} (hdg : decode bytes pc = .ok (.ireturn, 1)) (hr : ret = some .boolean) : SoundOp bytes own nL ret isI dF dL pc o_zret := by
  subst hr
  intro p l e R s m args below meth c b D cy pre n0 s0 out C hp k hk ls st h ho
  unfold o_zret at ho
  split at ho
  · rename_i x
    cases hx : isZ x with
    | false => rw [hx] at ho; cases ho
    | true =>
      rw [hx] at ho
      cases ho
      refine ⟨Nat.le_refl _, Nat.le_refl _, hp, fun H locs cells slots lsM a1 a2 a3 a4 a5 a6 => ?_⟩
      have e1 : hN h - n0 = cells := by omega
      have e2 : hS h - s0 = slots := by omega
      dsimp only
      rw [e1, e2]
      exact W.zret C.1 C.2.1 C.2.2.2.2.2.2.2.2.2.2.2.2.1 (isZ_nar hx).1 (fun t ht hw => ⟨rfl, by rw [ht]; exact a1.moved hw.alike, va_K.moved hw.alike C.2.2.2.2.2.2.1, fun q hq => by rw [ht]; exact a2 q hq⟩) a3 hdg C.2.2.2.2.2.1
  · cases ho
theorem so_aret {pc : Nat} {C' : String} (hdg : decode bytes pc = .ok (.areturn, 1)) (hr : ret = some (.object C')) : SoundOp bytes own nL ret isI dF dL pc o_aret := by
  subst hr
  intro p l e R s m args below meth c b D cy pre n0 s0 out C hp k hk ls st h ho
  unfold o_aret at ho
  split at ho
  · rename_i r
    cases ho
    refine ⟨Nat.le_refl _, Nat.le_refl _, hp, fun H locs cells slots lsM a1 a2 a3 a4 a5 a6 => ?_⟩
    have e1 : hN h - n0 = cells := by omega
    have e2 : hS h - s0 = slots := by omega
    dsimp only
    rw [e1, e2]
    exact W.aret C.1 C.2.1 C.2.2.2.2.2.2.2.2.2.2.2.2.1 (Or.inl ⟨_, rfl⟩) (by cases r with
      | none => exact Or.inl rfl
      | some a => exact Or.inr ⟨_, rfl⟩) (fun t ht hw => ⟨rfl, by rw [ht]; exact a1.moved hw.alike, va_K.moved hw.alike C.2.2.2.2.2.2.1, fun q hq => by rw [ht]; exact a2 q hq⟩) a3 hdg C.2.2.2.2.2.1
  · cases ho
theorem so_aretA {pc : Nat} {ty : FieldType} (hdg : decode bytes pc = .ok (.areturn, 1)) (hr : ret = some (.array ty)) : SoundOp bytes own nL ret isI dF dL pc o_aret := by
  subst hr
  intro p l e R s m args below meth c b D cy pre n0 s0 out C hp k hk ls st h ho
  unfold o_aret at ho
  split at ho
  · rename_i r
    cases ho
    refine ⟨Nat.le_refl _, Nat.le_refl _, hp, fun H locs cells slots lsM a1 a2 a3 a4 a5 a6 => ?_⟩
    have e1 : hN h - n0 = cells := by omega
    have e2 : hS h - s0 = slots := by omega
    dsimp only
    rw [e1, e2]
    exact W.aret C.1 C.2.1 C.2.2.2.2.2.2.2.2.2.2.2.2.1 (Or.inr ⟨_, rfl⟩) (by cases r with
      | none => exact Or.inl rfl
      | some a => exact Or.inr ⟨_, rfl⟩) (fun t ht hw => ⟨rfl, by rw [ht]; exact a1.moved hw.alike, va_K.moved hw.alike C.2.2.2.2.2.2.1, fun q hq => by rw [ht]; exact a2 q hq⟩) a3 hdg C.2.2.2.2.2.1
  · cases ho
end
