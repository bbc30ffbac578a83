/-! ===== a method's contract out of its code ===== -/
theorem ent_args (ad : Nat → Nat) : ∀ (as : List EV) (off i : Nat) (v : EV), (entL as)[i]? = some (some v) → (off + i, trV ad v) ∈ lv_args off (as.map (trV ad))
  | [], off, i, v, h => by simp [entL] at h
  | .inl x :: r, off, i, v, h => by
    show _ ∈ (off, Value.int x) :: lv_args (off + 1) (r.map (trV ad))
    cases i with
    | zero =>
      simp [entL] at h
      subst h
      exact List.mem_cons_self
    | succ i =>
      have := ent_args ad r (off + 1) i v (by simpa [entL] using h)
      rw [show off + 1 + i = off + (i + 1) by omega] at this
      exact List.mem_cons_of_mem _ this
  | .inr (.inl x) :: r, off, i, v, h => by
    show _ ∈ (off, Value.long x) :: lv_args (off + 2) (r.map (trV ad))
    match i, h with
    | 0, h =>
      simp [entL] at h
      subst h
      exact List.mem_cons_self
    | 1, h => simp [entL] at h
    | i + 2, h =>
      have := ent_args ad r (off + 2) i v (by simpa [entL] using h)
      rw [show off + 2 + i = off + (i + 2) by omega] at this
      exact List.mem_cons_of_mem _ this
  | .inr (.inr x) :: r, off, i, v, h => by
    have e : lv_args off ((Sum.inr (Sum.inr x) :: r : List EV).map (trV ad)) = (off, va_rf (x.map ad)) :: lv_args (off + 1) (r.map (trV ad)) := by
      show lv_args off (va_rf (x.map ad) :: r.map (trV ad)) = _
      cases x <;> rfl
    rw [e]
    cases i with
    | zero =>
      simp [entL] at h
      subst h
      exact List.mem_cons_self
    | succ i =>
      have := ent_args ad r (off + 1) i v (by simpa [entL] using h)
      rw [show off + 1 + i = off + (i + 1) by omega] at this
      exact List.mem_cons_of_mem _ this
theorem ent_len (ad : Nat → Nat) : ∀ as : List EV, (lg_sl (as.map (trV ad))).length = (entL as).length
  | [] => rfl
  | .inl x :: r => by
    have := ent_len ad r
    show (lg_sl (r.map (trV ad))).length + 1 = (entL r).length + 1
    rw [this]
  | .inr (.inl x) :: r => by
    have := ent_len ad r
    show (lg_sl (r.map (trV ad))).length + 1 + 1 = (entL r).length + 1 + 1
    rw [this]
  | .inr (.inr x) :: r => by
    have := ent_len ad r
    have e : lg_sl ((Sum.inr (Sum.inr x) :: r : List EV).map (trV ad)) = .val (va_rf (x.map ad)) :: lg_sl (r.map (trV ad)) := by
      show lg_sl (va_rf (x.map ad) :: r.map (trV ad)) = _
      cases x <;> rfl
    rw [e]
    show (lg_sl (r.map (trV ad))).length + 1 = (entL r).length + 1
    rw [this]
theorem con_of {y : MethodName} {own : String} {bytes : ByteArray} {nL : Nat} {ret : Option FieldType} {isI : Bool} {dF dL : Nat} {code : Nat → Op} (ho : y.cls = own) (hy : plainName own = true) (hc : ∀ pc, SoundOp bytes own nL ret isI dF dL pc (code pc)) (hpr : ∀ pc, Pr (code pc)) (hI : isI = true → y.name = "<init>") : Con y bytes nL ret dF dL (Fm code nL) := by
  subst ho
  intro l b D cy pre as h out hF hp
  unfold Fm at hF
  cases hle : Nat.ble (entL as).length nL with
  | false => rw [hle] at hF; cases hF
  | true =>
    rw [hle] at hF
    have hle := Nat.le_of_ble_eq_true hle
    obtain ⟨n, hn⟩ := (Run_iff hpr).mp hF
    have hlt := run_gr hpr _ _ _ _ _ _ hn
    refine ⟨hlt.1, hlt.2, Met.ofW (cc := bytes) (maxL := nL) (ret := ret) hy rfl ?_⟩
    intro p e s m args below meth c s₁ B hml hv
    obtain ⟨hv, hH, hK, hSs⟩ := hv
    subst hv
    have hts := atoms_spec (ws := Cond.code y bytes nL ret :: bigW) B.pre
    have C : Cx bytes y.cls nL ret isI dF dL p (headSpec (Cond.code y bytes nL ret :: bigW) { frames := dF, cells := hN out.2 - hN h, slots := hS out.2 - hS h, locals := dL }).room s m (as.map (trV (adr b pre))).toArray meth c b D cy pre (hN h) (hS h) out :=
      ⟨B.exec, B.bytes, hml, findClass_of_methodNamed B.named, fun w hw => hts w (List.mem_cons_of_mem _ hw), B.notSynchronized, hK, by rw [hH.1]; omega, Nat.le_refl _, Nat.le_refl _, Nat.le_refl _, Nat.le_refl _, B.returns, fun z => (name_of_methodNamed B.named B.method).1.trans (hI z), hSs⟩
    obtain ⟨-, -, -, g⟩ := run_sound hc (l := l) (e := e) (below := below) (pre := pre) C hp n 0 (entN nL as) [] h hn
    have hl := lv_entry (as.map (trV (adr b pre))) (n := nL) (by rw [ent_len]; exact hle)
    rw [lg_entry_eq]
    refine g s.heap [] 0 0 _ hH (fun _ _ => rfl) (fun q hq => by cases hq) (by omega) (by omega) ⟨hl.1, hl.2.1, fun i v hi => ?_⟩
    refine hl.2.2 (i, trV (adr b pre) v) ?_
    have hi' : (entL as)[i]? = some (some v) := by
      unfold entN at hi
      by_cases z : i < (entL as).length
      · rw [List.getElem?_append_left z] at hi; exact hi
      · rw [List.getElem?_append_right (by omega), List.getElem?_replicate] at hi
        split at hi <;> cases hi
    have := ent_args (adr b pre) as 0 i v hi'
    rwa [Nat.zero_add] at this
theorem con_ofF {y : MethodName} {own : String} {bytes : ByteArray} {nL : Nat} {ret : Option FieldType} {isI : Bool} {dF dL : Nat} {code : Nat → Op} (ho : y.cls = own) (hy : plainFor y = true) (hc : ∀ pc, SoundOp bytes own nL ret isI dF dL pc (code pc)) (hpr : ∀ pc, Pr (code pc)) (hI : isI = true → y.name = "<init>") : Con y bytes nL ret dF dL (Fm code nL) := by
  subst ho
  intro l b D cy pre as h out hF hp
  unfold Fm at hF
  cases hle : Nat.ble (entL as).length nL with
  | false => rw [hle] at hF; cases hF
  | true =>
    rw [hle] at hF
    have hle := Nat.le_of_ble_eq_true hle
    obtain ⟨n, hn⟩ := (Run_iff hpr).mp hF
    have hlt := run_gr hpr _ _ _ _ _ _ hn
    refine ⟨hlt.1, hlt.2, va_MetF (cc := bytes) (maxL := nL) (ret := ret) hy rfl ?_⟩
    intro p e s m args below meth c s₁ B hml hv
    obtain ⟨hv, hH, hK, hSs⟩ := hv
    subst hv
    have hts := atoms_spec (ws := Cond.code y bytes nL ret :: bigW) B.pre
    have C : Cx bytes y.cls nL ret isI dF dL p (headSpec (Cond.code y bytes nL ret :: bigW) { frames := dF, cells := hN out.2 - hN h, slots := hS out.2 - hS h, locals := dL }).room s m (as.map (trV (adr b pre))).toArray meth c b D cy pre (hN h) (hS h) out :=
      ⟨B.exec, B.bytes, hml, findClass_of_methodNamed B.named, fun w hw => hts w (List.mem_cons_of_mem _ hw), B.notSynchronized, hK, by rw [hH.1]; omega, Nat.le_refl _, Nat.le_refl _, Nat.le_refl _, Nat.le_refl _, B.returns, fun z => (name_of_methodNamed B.named B.method).1.trans (hI z), hSs⟩
    obtain ⟨-, -, -, g⟩ := run_sound hc (l := l) (e := e) (below := below) (pre := pre) C hp n 0 (entN nL as) [] h hn
    have hl := lv_entry (as.map (trV (adr b pre))) (n := nL) (by rw [ent_len]; exact hle)
    rw [lg_entry_eq]
    refine g s.heap [] 0 0 _ hH (fun _ _ => rfl) (fun q hq => by cases hq) (by omega) (by omega) ⟨hl.1, hl.2.1, fun i v hi => ?_⟩
    refine hl.2.2 (i, trV (adr b pre) v) ?_
    have hi' : (entL as)[i]? = some (some v) := by
      unfold entN at hi
      by_cases z : i < (entL as).length
      · rw [List.getElem?_append_left z] at hi; exact hi
      · rw [List.getElem?_append_right (by omega), List.getElem?_replicate] at hi
        split at hi <;> cases hi
    have := ent_args (adr b pre) as 0 i v hi'
    rwa [Nat.zero_add] at this
