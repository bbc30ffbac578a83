/-! ===== arraycopy of ints; a String constant by ldc_w ===== -/
def cpI (h : Hp) (a0 a sp dp n : Nat) : Hp := (h.1, h.2.1, h.2.2.1, h.2.2.2.1, up1 h.2.2.2.2 a (va_cpy (h.2.2.2.2 a0) (h.2.2.2.2 a) sp dp n))
theorem hN_cpI (h : Hp) (a0 a sp dp n : Nat) : hN (cpI h a0 a sp dp n) = hN h := rfl
theorem hS_cpI (h : Hp) (a0 a sp dp n : Nat) : hS (cpI h a0 a sp dp n) = hS h := rfl
theorem hK_cpI (h : Hp) (a0 a sp dp n x : Nat) : hK (cpI h a0 a sp dp n) x = hK h x := rfl
theorem hE_cpI (h : Hp) (a0 a sp dp n x : Nat) : hE (cpI h a0 a sp dp n) x = hE h x := rfl
theorem hR_cpI (h : Hp) (a0 a sp dp n x y : Nat) : hR (cpI h a0 a sp dp n) x y = hR h x y := rfl
theorem hL_cpI (h : Hp) (a0 a sp dp n x y : Nat) : hL (cpI h a0 a sp dp n) x y = hL h x y := rfl
theorem hI_cpI (h : Hp) (a0 a sp dp n x y : Nat) : hI (cpI h a0 a sp dp n) x y = if x = a then (if dp ≤ y ∧ y < dp + n then hI h a0 (sp + (y - dp)) else hI h a y) else hI h x y := by
  unfold hI cpI up1 va_cpy
  by_cases e : x = a <;> simp [e]
def cpOK (sp dp n : Int32) (l0 l1 : Nat) : Bool := !decide (sp < 0) && !decide (dp < 0) && !decide (n < 0) && decide (sp.toNatClampNeg + n.toNatClampNeg ≤ l0) && decide (dp.toNatClampNeg + n.toNatClampNeg ≤ l1)
theorem cpOK_out {sp dp n : Int32} {l0 l1 : Nat} (h : cpOK sp dp n l0 l1 = true) : ¬ sp < 0 ∧ ¬ dp < 0 ∧ ¬ n < 0 ∧ sp.toNatClampNeg + n.toNatClampNeg ≤ l0 ∧ dp.toNatClampNeg + n.toNatClampNeg ≤ l1 := by
  unfold cpOK at h
  simp only [Bool.and_eq_true, Bool.not_eq_true', decide_eq_true_eq, decide_eq_false_iff_not] at h
  exact ⟨h.1.1.1.1, h.1.1.1.2, h.1.1.2, h.1.2, h.2⟩
def o_acopy (nx : Nat) : Op := fun k ls st h => match st with
  | .inl n :: .inl dp :: .inr (.inr d) :: .inl sp :: .inr (.inr s) :: st' => dR s (fun a0 => dR d (fun a => bif Nat.beq (hK h a0) 20 && Nat.beq (hK h a) 20 && cpOK sp dp n (hE h a0) (hE h a) && Nat.ble (catS st') 8 then k nx ls st' (cpI h a0 a sp.toNatClampNeg dp.toNatClampNeg n.toNatClampNeg) else none))
  | _ => none
theorem pr_acopy (nx : Nat) : Pr (o_acopy nx) := by
  intro k ls st h o ho
  unfold o_acopy at ho
  split at ho
  · rename_i n dp d sp s st'
    obtain ⟨a0, rfl, hy⟩ := dR_out ho
    obtain ⟨a, rfl, hz⟩ := dR_out hy
    cases hx : (Nat.beq (hK h a0) 20 && Nat.beq (hK h a) 20 && cpOK sp dp n (hE h a0) (hE h a) && Nat.ble (catS st') 8) with
    | false => rw [hx] at hz; cases hz
    | true =>
      rw [hx] at hz
      refine Or.inr ⟨_, _, _, _, hz, ⟨Nat.le_refl _, Nat.le_refl _⟩, fun k' hk => ?_⟩
      show (bif (Nat.beq (hK h a0) 20 && Nat.beq (hK h a) 20 && cpOK sp dp n (hE h a0) (hE h a) && Nat.ble (catS st') 8) then _ else none) = some o
      rw [hx]
      exact hk
  · cases ho
section
variable {bytes : ByteArray} {own : String} {nL : Nat} {ret : Option FieldType} {isI : Bool} {dF dL : Nat} {pc : Nat}
theorem so_acopy {idx : Nat} (w1 : Cond.methodLink own idx arraycopyName ∈ bigW) (w2 : Cond.native arraycopyName ∈ bigW) (w3 : Cond.static arraycopyName ∈ bigW) (w4 : Cond.initialized "java/lang/System" ∈ bigW) (hR1 : 1 ≤ dF) (hR2 : 8 + (nativeFrameWords "java/lang/System" "arraycopy" 5 + 11) ≤ dL) (hdg : decode bytes pc = .ok (.invokestatic idx, 3)) : SoundOp bytes own nL ret isI dF dL pc (o_acopy (pc + 3)) := by
  intro p l e R s m args below meth c0 b D cy pre n0 s0 out C hp k hk ls st h ho
  unfold o_acopy at ho
  split at ho
  · rename_i n dp d sp sr st'
    obtain ⟨a0, rfl, hy⟩ := dR_out ho
    obtain ⟨a, rfl, hz⟩ := dR_out hy
    cases hx : (Nat.beq (hK h a0) 20 && Nat.beq (hK h a) 20 && cpOK sp dp n (hE h a0) (hE h a) && Nat.ble (catS st') 8) with
    | false => rw [hx] at hz; cases hz
    | true =>
      rw [hx] at hz
      simp only [Bool.and_eq_true] at hx
      obtain ⟨⟨⟨b1, b2⟩, b3⟩, b4⟩ := hx
      have k0 := Nat.eq_of_beq_eq_true b1
      have k1 := Nat.eq_of_beq_eq_true b2
      have hcat := Nat.le_of_ble_eq_true b4
      obtain ⟨h1, h2, h3, h4, h5⟩ := cpOK_out b3
      obtain ⟨g1, g2, g3, g⟩ := hk _ _ _ _ hz
      refine ⟨g1, g2, g3, fun H locs cells slots lsM a1 a2 a3 a4 a5 a6 => ?_⟩
      show W p l e R s m args below meth c0 H locs cells slots _ (F0 m pc lsM (.int n :: .int dp :: .ref (adr b pre a) :: .int sp :: .ref (adr b pre a0) :: List.map (trV (adr b pre)) st'))
      have hts := C.2.2.2.2.1
      have hKk := C.2.2.2.2.2.2.1
      have hRf := C.2.2.2.2.2.2.2.2.2.2.1
      have hRl := C.2.2.2.2.2.2.2.2.2.2.2.1
      obtain ⟨hlt0, hc0⟩ := (a1.2.2 a0).2.1 (Or.inl k0)
      obtain ⟨hlt1, hc1⟩ := (a1.2.2 a).2.1 (Or.inl k1)
      rw [k0] at hc0
      rw [k1] at hc1
      rw [adr_lo a1 hlt0, adr_lo a1 hlt1]
      have nn : ∀ z : Int32, ¬ z < 0 → z.toInt = (z.toNatClampNeg : Int) := by
        intro z hz
        have hz0 : (0 : Int) ≤ z.toInt := by
          have := Int32.not_lt.mp hz
          simpa using Int32.le_iff_toInt_le.mp this
        show z.toInt = ((z.toInt.toNat : Nat) : Int)
        omega
      intro T hT X
      obtain ⟨-, kk0, hk0, cm0, hkk0⟩ := (hKk.2 0 _ rfl).1 (hE h a0) (fun j => .int (hI h a0 j))
      obtain ⟨-, kk1, hk1, cm1, hkk1⟩ := (hKk.2 0 _ rfl).1 (hE h a) (fun j => .int (hI h a j))
      obtain ⟨vm', X', step⟩ := X.arraycopy C.1 C.2.2.2.1 (hts _ w1) (hts _ w2) (hts _ w3) (hts _ w4) (src := b + a0) (dst := b + a) (cs := arrV (cy 20) (hE h a0) (fun j => .int (hI h a0 j))) (cd := arrV (cy 20) (hE h a) (fun j => .int (hI h a j))) (srcPos := sp) (destPos := dp) (n := n) (by rw [hT]; exact hc0) (by rw [hT]; exact hc1)
        (fun _ h => by cases h) (fun _ h => by cases h) (fun h => by cases h) (fun h => by cases h) hk0 hk1 hkk0 hkk1 (by simp [refKind]) h1 h2 h3
        (by rw [nn sp h1, nn n h3, arrV_size]; omega)
        (by rw [nn dp h2, nn n h3, arrV_size]; omega)
        (fun vm₁ _ i hi => by
          have e : (arrV (cy 20) (hE h a0) (fun j => .int (hI h a0 j))).slots.getD (sp.toNatClampNeg + i) .null = .int (hI h a0 (sp.toNatClampNeg + i)) := by
            rw [Array.getD_eq_getD_getElem?, arrV_read _ _ (by omega)]
            rfl
          refine ⟨?_, ?_⟩
          · rw [e]; rfl
          · rw [e]; exact trivial)
        (g := F0 m pc lsM (.int n :: .int dp :: .ref (b + a) :: .int sp :: .ref (b + a0) :: List.map (trV (adr b pre)) st')) rfl (by rw [C.2.2.1]; exact a6.1) (rest := List.map (trV (adr b pre)) st') rfl (by rw [C.2.1]; exact hdg) (by omega) (by rw [catS_sum]; show 2 * 0 + _ + _ ≤ _; omega)
      have e1 : copied (arrV (cy 20) (hE h a0) (fun j => .int (hI h a0 j))) (arrV (cy 20) (hE h a) (fun j => .int (hI h a j))) sp dp n = arrV (cy 20) (hE h a) (fun j => .int (va_cpy (hI h a0) (hI h a) sp.toNatClampNeg dp.toNatClampNeg n.toNatClampNeg j)) := va_copied (fun z => .int z) (cy 20) (cy 20) (hI h a0) (hI h a) h4
      rw [e1] at X' step
      have hl : b + a < H.size := (Array.getElem?_eq_some_iff.mp hc1).1
      generalize hv : arrV (cy 20) (hE h a) (fun j => .int (va_cpy (hI h a0) (hI h a) sp.toNatClampNeg dp.toNatClampNeg n.toNatClampNeg j)) = vc at X' step
      have hheap : ((T.setVm vm').setCell (b + a) vc).heap = H.setIfInBounds (b + a) vc := by rw [← hT]; rfl
      have oq : ∀ q : Nat, q ≠ b + a → (H.setIfInBounds (b + a) vc)[q]? = H[q]? := fun q hq => by simp [Array.getElem?_setIfInBounds, Ne.symm hq]
      have hz1 : (H.setIfInBounds (b + a) vc).size = H.size := by simp
      have hH1 : Hold b D cy pre (cpI h a0 a sp.toNatClampNeg dp.toNatClampNeg n.toNatClampNeg) s (H.setIfInBounds (b + a) vc) := by
        refine a1.set (a := a) hz1 oq rfl (fun _ => rfl) (fun _ => rfl) (fun _ _ _ => rfl) (fun _ _ _ => rfl) (fun x y hx => by rw [hI_cpI, if_neg hx]) (hc_arrI (Or.inl k1) ⟨hlt1, ?_⟩)
        rw [hK_cpI, k1, hE_cpI]
        have : (H.setIfInBounds (b + a) vc)[b + a]? = some vc := by simp [Array.getElem?_setIfInBounds, hl]
        rw [this, ← hv]
        congr 2
        funext j
        rw [hI_cpI, if_pos rfl]
        unfold va_cpy
        rfl
      obtain ⟨t, u1, u2⟩ := g _ _ cells slots lsM hH1 (below_set a2 oq) (fun q hq => by
          rcases List.mem_append.mp hq with z | z
          · exact a3 q z
          · obtain ⟨w, -, hw⟩ := List.mem_map.mp z
            rw [← hw]
            exact Nat.le_add_right b a) a4 a5 a6 _ hheap X'
      exact ⟨t, step t u1, u2⟩
  · cases ho
theorem va_ldcwS {p : Program} {l : Launch} {e : Env} {R : Room} {s : State} {m : MethodId} {args : Array Value} {below : List Frame} {meth : Method} {c : Code} {T : State} {locs : List Loc} {cells slots : Nat}
    (X : Stand p l e R s m args below meth c T locs cells slots) (hexec : p.tables.exec = Jvm.exec) {own text : String} {index : Nat} {a : Addr} (hown : s.vm.findClass own = some m.cls)
    (hconst : (Cond.stringRef own index text).before args s = true) (hev : (Term.string own index).eval args s none [] s = some (.ref a)) {g : JFrame} (hg : g.method = m) (hdg : decode c.code g.pc = .ok (.ldc_w index, 3)) :
    ∀ target, Steps p.tables e below (T.setTop { g with pc := g.pc + 3, stack := .ref a :: g.stack }) target → Steps p.tables e below (T.setTop g) target := by
  obtain ⟨k, cf, i, a', hk, hcf, hcp, -, hr, hev'⟩ := Cond.stringRef_spec hown hconst
  cases hev.symm.trans hev'
  obtain ⟨k', hk', he⟩ := X.warmed.alike.2.2 _ _ hk
  have hr' : k'.resolved[index]? = some (some (.string a)) := by
    rcases X.warmed.entry hk hk' index with h | ⟨h, -⟩
    · rw [h]; exact hr
    · rw [hr] at h; cases h
  intro target hrest
  subst hg
  jvm_step X.here [hexec, hdg, ldc_w.wp_string (e := e) (s := T) (f := g) X.here.top hk' (by rw [he]; exact hcf) hcp hr']
  exact hrest
theorem so_ldcSw {j idx : Nat} (hj : j < 7) (ho1 : own = (txC j).1) (hi : idx = (txC j).2.1) (hdg : decode bytes pc = .ok (.ldc_w idx, 3)) : SoundOp bytes own nL ret isI dF dL pc (o_pre (10 + j) (pc + 3)) := by
  intro p l e R s m args below meth c0 b D cy pre n0 s0 out C hp k hk ls st h ho
  unfold o_pre at ho
  obtain ⟨g1, g2, g3, g⟩ := hk _ _ _ _ ho
  refine ⟨g1, g2, g3, fun H locs cells slots lsM a1 a2 a3 a4 a5 a6 => ?_⟩
  have hZ := C.2.2.2.2.2.2.2.2.2.2.2.2.2.2.2.1 j hj
  have kk := g H locs cells slots lsM a1 a2 a3 a4 a5 a6
  have ea : adr b pre (PRE + (10 + j)) = pre (10 + j) := by unfold adr; rw [if_neg (by omega), Nat.add_sub_cancel_left]
  rw [← ho1, ← hi] at hZ
  intro T hT X
  obtain ⟨t, u1, u2⟩ := kk T hT X
  refine ⟨t, va_ldcwS X C.1 C.2.2.2.1 hZ.1 hZ.2 (g := F0 m pc lsM (st.map (trV (adr b pre)))) rfl (by rw [C.2.1]; exact hdg) t ?_, u2⟩
  simpa [trV, va_rf, ea] using u1
end
