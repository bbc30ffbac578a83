/-! ===== the law's buyer: its contract ===== -/
theorem wm_RL_7 : Cond.methodLink RL 7 yX11_buyer ∈ bigW := big_mem 1171 (by decide +kernel) (by decide +kernel)
theorem win_X11_buyer : Cond.instanceMethod yX11_buyer ∈ bigW := big_mem 1172 (by decide +kernel) (by decide +kernel)
theorem wse_X11_buyer : Cond.selects (clR 11) yX11_buyer yX11_buyer ∈ bigW := big_mem 1173 (by decide +kernel) (by decide +kernel)
theorem wc_X11_buyer : Cond.code yX11_buyer cX11_buyer 3 (some .int) ∈ bigW := big_mem 1174 (by decide +kernel) (by decide +kernel)
theorem wl_RL_13 : Cond.classLink RL 13 nseN ∈ bigW := big_mem 1170 (by decide +kernel) (by decide +kernel)
theorem dLb_0 : decode cL_buyer 0 = .ok (.aload_n 3, 1) := by decide +kernel
theorem dLb_1 : decode cL_buyer 1 = .ok (.iconst 0, 1) := by decide +kernel
theorem dLb_2 : decode cL_buyer 2 = .ok (.aload_n 0, 1) := by decide +kernel
theorem dLb_3 : decode cL_buyer 3 = .ok (.iload_n 1, 1) := by decide +kernel
theorem dLb_4 : decode cL_buyer 4 = .ok (.iload_n 2, 1) := by decide +kernel
theorem dLb_5 : decode cL_buyer 5 = .ok (.invokevirtual 7, 3) := by decide +kernel
theorem dLb_8 : decode cL_buyer 8 = .ok (.i2l, 1) := by decide +kernel
theorem dLb_9 : decode cL_buyer 9 = .ok (.lastore, 1) := by decide +kernel
theorem dLb_10 : decode cL_buyer 10 = .ok (.goto 7, 3) := by decide +kernel
theorem dLb_13 : decode cL_buyer 13 = .ok (.astore 4, 2) := by decide +kernel
theorem dLb_15 : decode cL_buyer 15 = .ok (.iconst 1, 1) := by decide +kernel
theorem dLb_16 : decode cL_buyer 16 = .ok (.ireturn, 1) := by decide +kernel
theorem dLb_17 : decode cL_buyer 17 = .ok (.iconst 0, 1) := by decide +kernel
theorem dLb_18 : decode cL_buyer 18 = .ok (.ireturn, 1) := by decide +kernel
noncomputable def kL_b3 : Nat → Op := nodeC 10 (nodeC 8 (leafC 8 (o_i2l 9)) (nodeC 9 (leafC 9 (o_last 10)) (leafC 10 (o_goto 17)))) (nodeC 16 (nodeC 15 (leafC 15 (o_ic 1 16)) (leafC 16 o_iret)) (nodeC 17 (leafC 17 (o_ic 0 18)) (leafC 18 o_iret)))
theorem pL_b3 : ∀ pc, Pr (kL_b3 pc) := pr_node (pr_node (pr_leaf (pr_i2l _)) (pr_node (pr_leaf (pr_last _)) (pr_leaf (pr_goto _)))) (pr_node (pr_node (pr_leaf (pr_ic _ _)) (pr_leaf pr_iret)) (pr_node (pr_leaf (pr_ic _ _)) (pr_leaf pr_iret)))
theorem sL_b3 : ∀ pc, SoundOp cL_buyer RL 5 (some .int) false 7 120 pc (kL_b3 pc) := so_node (so_node (so_leaf (so_i2l dLb_8)) (so_node (so_leaf (so_last dLb_9)) (so_leaf (so_goto dLb_10 (by decide))))) (so_node (so_node (so_leaf (so_iconst dLb_15 (by decide))) (so_leaf (so_iret dLb_16 rfl))) (so_node (so_leaf (so_iconst dLb_17 (by decide))) (so_leaf (so_iret dLb_18 rfl))))
theorem so_next {bytes : ByteArray} {own : String} {nL : Nat} {ret : Option FieldType} {isI : Bool} {dF dL pc : Nat} {op : Op} (hs : SoundOp bytes own nL ret isI dF dL pc op) {p : Program} {l : Launch} {e : Env} {R : Room} {s : State} {m : MethodId} {args : Array Value} {below : List Frame} {meth : Method} {c : Code} {b : Nat} {D : va_G} {cy : Nat → ClassId} {pre : Nat → Nat} {n0 s0 : Nat} {out : RV × Hp}
    (C : Cx bytes own nL ret isI dF dL p R s m args meth c b D cy pre n0 s0 out) (hp : hN out.2 < PRE) {ls ls' : List (Option EV)} {st st' : List EV} {h h' : Hp} {pc' : Nat} (w : Wg ret nL p l e R s m args below meth c b D cy pre n0 s0 out pc' ls' st' h') (hop : ∀ k : Kt, op k ls st h = k pc' ls' st' h') : Wg ret nL p l e R s m args below meth c b D cy pre n0 s0 out pc ls st h := by
  refine hs p l e R s m args below meth c b D cy pre n0 s0 out C hp (fun pc ls st h => @ite _ (Wg ret nL p l e R s m args below meth c b D cy pre n0 s0 out pc ls st h) (Classical.propDecidable _) (some out) none) (fun pc ls st h z => ?_) ls st h ?_
  · split at z
    · rename_i q; exact q
    · cases z
  · rw [hop]
    exact @if_pos _ (Classical.propDecidable _) w _ _ _
section
variable {p : Program} {l : Launch} {e : Env} {R : Room} {s : State} {m : MethodId} {args : Array Value} {below : List Frame} {meth : Method} {c : Code} {b : Nat} {D : va_G} {cy : Nat → ClassId} {pre : Nat → Nat} {n0 s0 : Nat} {out : RV × Hp} {ls : List (Option EV)} {h : Hp}
theorem lb_15 (ls : List (Option EV)) (h : Hp) : Run kL_buyer 15 ls [] h = some (rI 1, h) := (Run_it pL_buyer (fun _ => false) 3 15 ls [] h).trans rfl
theorem lb3_15 (ls : List (Option EV)) (h : Hp) : Run kL_b3 15 ls [] h = some (rI 1, h) := (Run_it pL_b3 (fun _ => false) 3 15 ls [] h).trans rfl
theorem lb_8 (ls : List (Option EV)) (x y : Int32) (r : Option Nat) (h : Hp) : Run kL_buyer 8 ls [vI x, vI y, vR r] h = Run kL_b3 8 ls [vI x, vI y, vR r] h := by
  rw [Run_it pL_buyer (fun _ => false) 6 8, Run_it pL_b3 (fun _ => false) 6 8]
  cases r with
  | none => rfl
  | some a => rfl
theorem lb_caught {a h2} {p0 p1 : Int32} {r3 : Option Nat} (hl : l.stackTraces = false) (hX : Xs b s) (htab : c.exceptionTable.toList = tableOf [(0, 10, 13, 13)]) (C : Cx cL_buyer RL 5 (some .int) false 7 120 p R s m args meth c b D cy pre n0 s0 out) (hp : hN out.2 < PRE)
    (hB : Bad a p0 p1 h h2) (hk : hK h a = 11) (z : Run kL_buyer 15 (ls.set 4 none) [] (nw h2 60 0 6) = some out) : Wg (some .int) 5 p l e R s m args below meth c b D cy pre n0 s0 out 5 ls [vI p1, vI p0, vR (some a), vI 0, vR r3] h := by
  rw [lb_15] at z
  have ho := Option.some.inj z
  subst ho
  obtain ⟨n, hn⟩ := (Run_iff pL_b3).mp (lb3_15 [] (nw h2 60 0 6))
  obtain ⟨-, -, -, w15⟩ := run_sound sL_b3 (l := l) (e := e) (below := below) (pre := pre) C hp n 15 [] [] (nw h2 60 0 6) hn
  have hgr := hB.gr
  have hp2 : hN h2 + 1 < PRE := hp
  have hts := C.2.2.2.2.1
  have hRc : hN h2 + 1 - n0 ≤ R.cells := C.2.2.2.2.2.2.2.2.1
  have hRs : hS h2 + 6 - s0 ≤ R.slots := C.2.2.2.2.2.2.2.2.2.1
  have hRf := C.2.2.2.2.2.2.2.2.2.2.1
  have hRl := C.2.2.2.2.2.2.2.2.2.2.2.1
  refine ⟨by show hN h ≤ hN h2 + 1; omega, by show hS h ≤ hS h2 + 6; omega, hp, fun H locs cells slots lsM a1 a2 a3 a4 a5 a6 => ?_⟩
  obtain ⟨hlt, cell, q1, q2, q3, -⟩ := (a1.2.2 a).1 (by rw [hk]; decide)
  rw [hk] at q2
  have hcls := (C.2.2.2.2.2.2.1.1 11 _ (vw_get 11 (by decide))).2
  have hr := vx_runV (p := p) (e := e) (below := below) (meth := meth) (locs := locs) (cells := cells) (slots := slots) (g := F0 m 5 lsM ([vI p1, vI p0, vR (some a), vI 0, vR r3].map (trV (adr b pre)))) (rest := [vI 0, vR r3].map (trV (adr b pre))) (b := adr b pre a) (As := [.int p0, .int p1]) ⟨C.1, C.2.1, C.2.2.1, C.2.2.2.1, hts⟩ (bx_throw (b := b) (D := D) (cy := cy) (pre := pre) hl hB hk hp2) (cwV 2 hts (big_call' (wsV_big wm_RL_7 win_X11_buyer wse_X11_buyer wn_11 wc_X11_buyer)) rfl rfl rfl (by decide +kernel) ⟨by show 6 + 1 ≤ R.frames; omega, by show 8 + (3 + 11) + 90 ≤ R.locals; omega⟩) ⟨PinX.blind, ⟨cell, by rw [adr_lo a1 hlt]; exact q1, by rw [q3]; rfl, by rw [q2]; exact hcls.1⟩, fun U hU hW => ⟨⟨rfl, by rw [hU]; exact a1.moved hW.alike, va_K.moved hW.alike C.2.2.2.2.2.2.1, C.2.2.2.2.2.2.2.2.2.2.2.2.2.2.moved hU hW a2⟩, hX.moved hU hW a2⟩⟩ rfl rfl a6.1 rfl (lv_room (by rw [catS_sum]; show 2 ≤ 8; decide)) dLb_5 ⟨by omega, by omega⟩
  intro T hT X
  rcases hr T hT X with ⟨v, st₀, t, T', L, h0, X', hL, e1, e2, hq, stp⟩ | ⟨q, st₀, t, T', L, E, ce, h0, X', hL, e1, e2, hq, hce, hcv, hcl, stp⟩
  · exact hq.elim
  · obtain ⟨hE, hH', hK', hfr⟩ := hq
    subst hE
    have hal : s.vm.Alike t.vm := by rw [← e2]; exact X'.warmed.alike
    have kk : W p l e R s m args below meth c T'.heap (locs ++ L) (cells + (hN h2 + 1 - hN h)) (slots + (hS h2 + 6 - hS h)) (MQ below (Qh (some .int) b D cy pre (rI 1, nw h2 60 0 6)) args s (hN (rI 1, nw h2 60 0 6).2 - n0) (hS (rI 1, nw h2 60 0 6).2 - s0) (fun q => b ≤ q)) (F0 m 13 lsM [.ref q]) := by
      refine lv_astore C.1 C.2.1 dLb_13 a6.has (by decide) rfl (fun ls' hl' => ?_)
      refine w15 T'.heap (locs ++ L) _ _ ls' (by rw [e1]; exact hH'.moved hal.symm) (fun q hq => by rw [e1, hfr q hq, h0]; exact a2 q hq) (fun q hq => ?_) ?_ ?_ ⟨hl'.1, hl'.2.1, fun i v hi => by simp at hi⟩
      · rcases List.mem_append.mp hq with z | z
        · exact a3 q z
        · exact hL q z
      · show _ = hN h2 + 1
        omega
      · show _ = hS h2 + 6
        omega
    obtain ⟨t2, u1, u2⟩ := vx_catch (pc := 5) (rest := [vI 0, vR r3].map (trV (adr b pre))) (ls := lsM) (own := RL) (name := nseN) (E := nseN) (q := q) C.2.2.2.1 [] ⟨0, 10, 13, 13⟩ [] htab (fun z hz => by cases hz) (by decide) (by decide) (hts _ wl_RL_13) (va_Nw.use rfl hX.2.2.1) (by rw [e1]; exact hce) hcv hcl kk T' rfl X'
    exact ⟨t2, stp.trans u1, u2⟩
theorem lb_try {p0 p1 : Int32} {r0 r3 : Option Nat} (hl : l.stackTraces = false) (hX : Xs b s) (htab : c.exceptionTable.toList = tableOf [(0, 10, 13, 13)]) (C : Cx cL_buyer RL 5 (some .int) false 7 120 p R s m args meth c b D cy pre n0 s0 out) (hp : hN out.2 < PRE)
    (hr : o_tryb (Run kL_buyer) ls [vI p1, vI p0, vR r0, vI 0, vR r3] h = some out) : Wg (some .int) 5 p l e R s m args below meth c b D cy pre n0 s0 out 5 ls [vI p1, vI p0, vR r0, vI 0, vR r3] h := by
  cases r0 with
  | none => cases hr
  | some a =>
    have hr : (bif Nat.beq (hK h a) 11 && Nat.ble (catS [vI 0, vR r3]) 8 then oB (FX11_hasBuyer [vR (some a), vI p0] h) (fun r1 h1 => if r1.1 = 0 then Run kL_buyer 15 (ls.set 4 none) [] (nw h1 60 0 6) else oB (FX11_within [vI p1, vI 0, vI 3] h1) (fun r2 h2 => if r2.1 = 0 then Run kL_buyer 15 (ls.set 4 none) [] (nw h2 60 0 6) else oB (FX11_buyer [vR (some a), vI p0, vI p1] h) (fun r h3 => Run kL_buyer 8 ls (vI r.1 :: [vI 0, vR r3]) h3))) else none) = some out := hr
    cases hb : (Nat.beq (hK h a) 11 && Nat.ble (catS [vI 0, vR r3]) 8) with
    | false => rw [hb] at hr; cases hr
    | true =>
      rw [hb] at hr
      have hk : hK h a = 11 := Nat.eq_of_beq_eq_true (Bool.and_eq_true_iff.mp hb).1
      obtain ⟨r1, h1, e1, z1⟩ := oB_out hr
      by_cases c1 : r1.1 = 0
      · rw [if_pos c1] at z1
        exact lb_caught hl hX htab C hp ⟨r1, h1, e1, Or.inl ⟨c1, rfl⟩⟩ hk z1
      · rw [if_neg c1] at z1
        obtain ⟨r2, h2, e2, z2⟩ := oB_out z1
        by_cases c2 : r2.1 = 0
        · rw [if_pos c2] at z2
          exact lb_caught hl hX htab C hp ⟨r1, h1, e1, Or.inr ⟨c1, r2, e2, c2⟩⟩ hk z2
        · rw [if_neg c2] at z2
          obtain ⟨r, h3, e3, z3⟩ := oB_out z2
          rw [lb_8] at z3
          obtain ⟨n, hn⟩ := (Run_iff pL_b3).mp z3
          have w8 := run_sound sL_b3 (l := l) (e := e) (below := below) (pre := pre) C hp n 8 ls [vI r.1, vI 0, vR r3] h3 hn
          refine so_next (so_inv (na := 2) (c := 11) (rk := 1) CX11_buyer (by decide) rfl wm_RL_7 win_X11_buyer wse_X11_buyer wn_11 wc_X11_buyer (by decide +kernel) (by decide) (by decide) dLb_5) C hp w8 (fun k => ?_)
          show (bif Nat.beq (hK h a) 11 && Nat.ble (catS [vI 0, vR r3]) 8 then oB (FX11_buyer [vR (some a), vI p0, vI p1] h) (fun r h1 => k 8 ls (vI r.1 :: [vI 0, vR r3]) h1) else none) = _
          rw [hb, e3]
          rfl
theorem lb_key (hl : l.stackTraces = false) (hX : Xs b s) (htab : c.exceptionTable.toList = tableOf [(0, 10, 13, 13)]) (C : Cx cL_buyer RL 5 (some .int) false 7 120 p R s m args meth c b D cy pre n0 s0 out) (hp : hN out.2 < PRE)
    (hr : Run kL_buyer 0 ls [] h = some out) : Wg (some .int) 5 p l e R s m args below meth c b D cy pre n0 s0 out 0 ls [] h := by
  rw [Run_eq pL_buyer] at hr
  have hr : o_al 3 1 (Run kL_buyer) ls [] h = some out := hr
  unfold o_al at hr
  split at hr
  · rename_i r3 e3
    rw [Run_eq pL_buyer] at hr
    have hr : Run kL_buyer 2 ls [vI 0, vR r3] h = some out := hr
    rw [Run_eq pL_buyer] at hr
    have hr : o_al 0 3 (Run kL_buyer) ls [vI 0, vR r3] h = some out := hr
    unfold o_al at hr
    split at hr
    · rename_i r0 e0
      rw [Run_eq pL_buyer] at hr
      have hr : o_il 1 4 (Run kL_buyer) ls [vR r0, vI 0, vR r3] h = some out := hr
      unfold o_il at hr
      split at hr
      · rename_i p0 e1
        rw [Run_eq pL_buyer] at hr
        have hr : o_il 2 5 (Run kL_buyer) ls [vI p0, vR r0, vI 0, vR r3] h = some out := hr
        unfold o_il at hr
        split at hr
        · rename_i p1 e2
          rw [Run_eq pL_buyer] at hr
          have w5 := lb_try (e := e) (below := below) hl hX htab C hp (show o_tryb (Run kL_buyer) ls [vI p1, vI p0, vR r0, vI 0, vR r3] h = some out from hr)
          have w4 := so_next (so_iload_n (i := 2) dLb_4 rfl) C hp (ls := ls) (st := [vI p0, vR r0, vI 0, vR r3]) (h := h) w5 (fun k => by (unfold o_il; rw [e2]) <;> rfl)
          have w3 := so_next (so_iload_n (i := 1) dLb_3 rfl) C hp (ls := ls) (st := [vR r0, vI 0, vR r3]) (h := h) w4 (fun k => by (unfold o_il; rw [e1]) <;> rfl)
          have w2 := so_next (so_aload_n (i := 0) dLb_2 rfl) C hp (ls := ls) (st := [vI 0, vR r3]) (h := h) w3 (fun k => by (unfold o_al; rw [e0]) <;> rfl)
          have w1 := so_next (so_iconst dLb_1 (by decide)) C hp (ls := ls) (st := [vR r3]) (h := h) w2 (fun k => rfl)
          exact so_next (so_aload_n (i := 3) dLb_0 rfl) C hp (ls := ls) (st := []) (h := h) w1 (fun k => by (unfold o_al; rw [e3]) <;> rfl)
        · cases hr
      · cases hr
    · cases hr
  · cases hr
end
/-- a method with a table of handlers, in launches without stack traces -/
def ConX (y : MethodName) (bytes : ByteArray) (nL : Nat) (ret : Option FieldType) (tb : List (Nat × Nat × Nat × Nat)) (fr lo : Nat) (F : List EV → Hp → Option (RV × Hp)) : Prop :=
  ∀ (l : Launch) (b : Nat) (D : va_G) (cy : Nat → ClassId) (pre : Nat → Nat) (as : List EV) (h : Hp) (out : RV × Hp), l.stackTraces = false → F as h = some out → hN out.2 < PRE → hN h ≤ hN out.2 ∧ hS h ≤ hS out.2 ∧
    Met l y (Cond.codeWith y bytes nL ret tb :: bigW) { frames := fr, cells := hN out.2 - hN h, slots := hS out.2 - hS h, locals := lo } (PinX b D cy pre as h) (Qh ret b D cy pre out) (hN out.2 - hN h) (hS out.2 - hS h) (fun q => b ≤ q)
theorem CL_buyer : ConX yL_buyer cL_buyer 5 (some .int) [(0, 10, 13, 13)] 7 120 FL_buyer := by
  intro l b D cy pre as h out hl hF hp
  have hgr := GL_buyer as h out.1 out.2 hF
  unfold FL_buyer Fm at hF
  cases hle : Nat.ble (entL as).length 5 with
  | false => rw [hle] at hF; cases hF
  | true =>
    rw [hle] at hF
    have hle := Nat.le_of_ble_eq_true hle
    refine ⟨hgr.1, hgr.2, va_MetW (cc := cL_buyer) (maxL := 5) (ret := some .int) (by decide +kernel) rfl ?_⟩
    intro p e s m args below meth c s₁ B hml hv
    obtain ⟨⟨hv, hH, hK, hSs⟩, hX⟩ := hv
    subst hv
    have hts := atoms_spec (ws := Cond.codeWith yL_buyer cL_buyer 5 (some .int) [(0, 10, 13, 13)] :: bigW) B.pre
    have htab : c.exceptionTable.toList = tableOf [(0, 10, 13, 13)] := vx_table (x := yL_buyer) B (hts _ List.mem_cons_self)
    have C : Cx cL_buyer RL 5 (some .int) false 7 120 p (headSpec (Cond.codeWith yL_buyer cL_buyer 5 (some .int) [(0, 10, 13, 13)] :: bigW) { frames := 7, cells := hN out.2 - hN h, slots := hS out.2 - hS h, locals := 120 }).room s m (as.map (trV (adr b pre))).toArray meth c b D cy pre (hN h) (hS h) out :=
      ⟨B.exec, B.bytes, hml, findClass_of_methodNamed B.named, fun w hw => hts w (List.mem_cons_of_mem _ hw), B.notSynchronized, hK, by rw [hH.1]; omega, Nat.le_refl _, Nat.le_refl _, Nat.le_refl _, Nat.le_refl _, B.returns, fun z => (by cases z), hSs⟩
    obtain ⟨-, -, -, g⟩ := lb_key (l := l) (e := e) (below := below) hl hX htab C hp hF
    have hl := lv_entry (as.map (trV (adr b pre))) (n := 5) (by rw [ent_len]; exact hle)
    rw [lg_entry_eq]
    refine g s.heap [] 0 0 _ hH (fun _ _ => rfl) (fun q hq => by cases hq) (by omega) (by omega) ⟨hl.1, hl.2.1, fun i v hi => ?_⟩
    refine hl.2.2 (i, trV (adr b pre) v) ?_
    have hi' : (entL as)[i]? = some (some v) := by
      unfold entN at hi
      by_cases z : i < (entL as).length
      · rw [List.getElem?_append_left z] at hi; exact hi
      · rw [List.getElem?_append_right (by omega), List.getElem?_replicate] at hi
        split at hi <;> cases hi
    have := ent_args (adr b pre) as 0 i v hi'
    rwa [Nat.zero_add] at this
