/-! ===== the class's buyer: its contract where it throws ===== -/
theorem wsV_big {own C : String} {idx nLY : Nat} {y : MethodName} {bytesY : ByteArray} {retY : Option FieldType} (w1 : Cond.methodLink own idx y ∈ bigW) (w2 : Cond.instanceMethod y ∈ bigW) (w3 : Cond.selects C y y ∈ bigW) (w4 : Cond.initialized C ∈ bigW) (w5 : Cond.code y bytesY nLY retY ∈ bigW) : ∀ w ∈ wsV own idx C y (Cond.code y bytesY nLY retY :: bigW), w ∈ bigW := by
  intro w hw
  unfold wsV at hw
  rcases List.mem_append.mp hw with hw | hw
  · simp only [List.mem_cons, List.not_mem_nil, or_false] at hw
    rcases hw with rfl | rfl | rfl | rfl
    · exact w1
    · exact w2
    · exact w3
    · exact w4
  · rcases List.mem_cons.mp hw with rfl | hw
    · exact w5
    · exact hw
theorem wsS_big {own : String} {idx : Nat} {y : MethodName} {wc : Cond} (w1 : Cond.methodLink own idx y ∈ bigW) (w2 : Cond.static y ∈ bigW) (w4 : Cond.initialized y.cls ∈ bigW) (w5 : wc ∈ bigW) : ∀ w ∈ va_wsS own idx y (wc :: bigW), w ∈ bigW := by
  intro w hw
  unfold va_wsS at hw
  rcases List.mem_append.mp hw with hw | hw
  · simp only [List.mem_cons, List.not_mem_nil, or_false] at hw
    rcases hw with rfl | rfl | rfl
    · exact w1
    · exact w2
    · exact w4
  · rcases List.mem_cons.mp hw with rfl | hw
    · exact w5
    · exact hw
def Bad (a : Nat) (x1 x2 : Int32) (h h2 : Hp) : Prop := ∃ r1 h1, FX11_hasBuyer [vR (some a), vI x1] h = some (r1, h1) ∧ ((r1.1 = 0 ∧ h2 = h1) ∨ (r1.1 ≠ 0 ∧ ∃ r2, FX11_within [vI x2, vI 0, vI 3] h1 = some (r2, h2) ∧ r2.1 = 0))
theorem Bad.gr {a : Nat} {x1 x2 : Int32} {h h2 : Hp} (hB : Bad a x1 x2 h h2) : hN h ≤ hN h2 ∧ hS h ≤ hS h2 := by
  obtain ⟨r1, h1, e1, hB⟩ := hB
  have g1 := GX11_hasBuyer _ _ _ _ e1
  rcases hB with ⟨-, rfl⟩ | ⟨-, r2, e2, -⟩
  · exact g1
  · have g2 := GX11_within _ _ _ _ e2
    exact ⟨Nat.le_trans g1.1 g2.1, Nat.le_trans g1.2 g2.2⟩
theorem bx_body {p : Program} {l : Launch} {e : Env} {R : Room} {s : State} {m : MethodId} {args : Array Value} {below : List Frame} {meth : Method} {c : Code} {b : Nat} {D : va_G} {cy : Nat → ClassId} {pre : Nat → Nat} {a : Nat} {x1 x2 : Int32} {h h2 : Hp} {lsM : Array Slot}
    (hl : l.stackTraces = false) (hB : Bad a x1 x2 h h2) (hk : hK h a = 11) (hp : hN h2 + 1 < PRE)
    (hx : p.tables.exec = Jvm.exec) (hb : c.code = cX11_buyer) (hml : c.maxLocals = 3) (hown : s.vm.findClass RX11 = some m.cls) (hts : ∀ w ∈ bigW, w.before args s = true) (hlk : meth.locks = false) (hK : va_K D vwCl (tysL cy) s) (hSs : Ss b pre s) (hX : Xs b s) (htab : ∀ x ∈ c.exceptionTable.toList, False)
    (hRf : 6 ≤ R.frames) (hRl : 90 ≤ R.locals) (hRc : hN h2 + 1 - hN h ≤ R.cells) (hRs : hS h2 + 6 - hS h ≤ R.slots) (hH : Hold b D cy pre h s s.heap) (hv : lv_has lsM 3 [(0, .ref (adr b pre a)), (1, .int x1), (2, .int x2)]) :
    W p l e R s m args below meth c s.heap [] 0 0 (vx_MQ below (fun _ _ _ _ => False) (XQ b D cy pre (nw h2 60 0 6)) args s (hN h2 + 1 - hN h) (hS h2 + 6 - hS h) (fun q => b ≤ q)) (F0 m 0 lsM []) := by
  have hgr := hB.gr
  obtain ⟨r1, h1, e1, hB⟩ := hB
  have g1 := GX11_hasBuyer _ _ _ _ e1
  have g2 : hN h1 ≤ hN h2 ∧ hS h1 ≤ hS h2 := by
    rcases hB with ⟨-, rfl⟩ | ⟨-, r2, e2, -⟩
    · exact ⟨Nat.le_refl _, Nat.le_refl _⟩
    · exact GX11_within _ _ _ _ e2
  have S : CallFix p m c cX11_buyer 3 s args bigW RX11 := ⟨hx, hb, hml, hown, hts⟩
  have hbs : b ≤ s.heap.size := by rw [hH.1]; omega
  refine lv_aload_n hx hb dX11_buyer_0 rfl (lv_at hv 0 rfl) ?_
  refine lv_iload_n hx hb dX11_buyer_1 rfl (lv_at hv 1 rfl) ?_
  obtain ⟨f1, f2, hM⟩ := CX11_hasBuyer l b D cy pre _ h (r1, h1) e1 (by show hN h1 < PRE; have := g2.1; omega)
  dsimp only at f1 f2 hM
  obtain ⟨hlt, cell, q1, q2, q3, -⟩ := (hH.2.2 a).1 (by rw [hk]; decide)
  rw [hk] at q2
  have hcls := (hK.1 11 _ (vw_get 11 (by decide))).2
  refine w_backQ (retY := some .boolean) (out1 := (r1, h1)) (h := h) (st' := []) (n0 := hN h) (s0 := hS h) ?_ ⟨f1, f2⟩ (va_runV (b := adr b pre a) (As := [.int x1]) S hM (cwV 1 hts (big_call' (wsV_big wm_RX11_209 win_X11_hasBuyer wse_X11_hasBuyer wn_11 wc_X11_hasBuyer)) rfl rfl rfl (by decide +kernel) ⟨by dsimp only; omega, by dsimp only; omega⟩) ⟨Pin.blind, ⟨cell, by rw [adr_lo hH hlt]; exact q1, by rw [q3]; rfl, by rw [q2]; exact hcls.1⟩, fun U hU hW => ⟨rfl, by rw [hU]; exact hH.moved hW.alike, va_K.moved hW.alike hK, hSs.moved hU hW (fun _ _ => rfl)⟩⟩ rfl rfl hv.1 rfl (lv_room (Nat.zero_le 8)) dX11_buyer_2 ⟨by dsimp only; omega, by dsimp only; omega⟩) (fun _ _ => rfl) (fun q hq => by cases hq) (by omega) (by omega)
  intro H1 locs1 cells1 slots1 b1 b2 b3 b4 b5
  dsimp only at b1 b4 b5
  have hz1 : s.heap.size ≤ H1.size := by rw [b1.1, hH.1]; omega
  show W p l e R s m args below meth c H1 locs1 cells1 slots1 _ (F0 m 5 lsM [.int r1.1])
  refine lv_if_eq hx hb dX11_buyer_5 (tgt := 17) (by decide) (fun z => ?_) (fun z => ?_)
  · rcases hB with ⟨-, rfl⟩ | ⟨z', -⟩
    · exact bx_17 hl hx hb hml hown hts hlk hK hbs hSs hX htab hRf hRl hRc hRs hp b1 b2 b3 hz1 (by omega) (by omega) hv.1
    · exact absurd z z'
  · rcases hB with ⟨z', -⟩ | ⟨-, r2, e2, hr2⟩
    · exact absurd z' z
    · refine lv_iload_n hx hb dX11_buyer_8 rfl (lv_at hv 2 rfl) ?_
      refine lv_iconst (v := 0) hx hb dX11_buyer_9 (by decide) ?_
      refine lv_iconst (v := 3) hx hb dX11_buyer_10 (by decide) ?_
      obtain ⟨f3, f4, hM2⟩ := CX11_within l b D cy pre _ h1 (r2, h2) e2 (by dsimp only; omega)
      dsimp only at f3 f4 hM2
      refine w_backQ (retY := some .boolean) (out1 := (r2, h2)) (h := h1) (st' := []) (n0 := hN h) (s0 := hS h) ?_ ⟨f3, f4⟩ (va_runS (As := [.int x2, .int 0, .int 3]) S hM2 (va_cwS 3 hts (big_call' (wsS_big wm_RX11_171 wst_X11_within wny_X11_within wc_X11_within)) rfl rfl rfl (by decide +kernel) ⟨by dsimp only; omega, by dsimp only; omega⟩) ⟨Pin.blind, fun U hU hW => ⟨rfl, by rw [hU]; exact b1.moved hW.alike, va_K.moved hW.alike hK, hSs.moved hU hW b2⟩⟩ rfl rfl hv.1 rfl (lv_room (Nat.zero_le 8)) dX11_buyer_11 ⟨by dsimp only; omega, by dsimp only; omega⟩) b2 b3 b4 b5
      intro H2 locs2 cells2 slots2 c1 c2 c3 c4 c5
      dsimp only at c1 c4 c5
      have hz2 : s.heap.size ≤ H2.size := by rw [c1.1, hH.1]; omega
      show W p l e R s m args below meth c H2 locs2 cells2 slots2 _ (F0 m 14 lsM [.int r2.1])
      refine lv_if_ne hx hb dX11_buyer_14 (tgt := 27) (by decide) (fun z => absurd hr2 z) (fun _ => ?_)
      exact bx_17 hl hx hb hml hown hts hlk hK hbs hSs hX htab hRf hRl hRc hRs hp c1 c2 c3 hz2 (by omega) (by omega) hv.1
theorem bx_throw {l : Launch} {b : Nat} {D : va_G} {cy : Nat → ClassId} {pre : Nat → Nat} {a : Nat} {x1 x2 : Int32} {h h2 : Hp} (hl : l.stackTraces = false) (hB : Bad a x1 x2 h h2) (hk : hK h a = 11) (hp : hN h2 + 1 < PRE) :
    vx_Met l yX11_buyer (Cond.code yX11_buyer cX11_buyer 3 (some .int) :: bigW) { frames := 6, cells := hN h2 + 1 - hN h, slots := hS h2 + 6 - hS h, locals := 90 } (PinX b D cy pre [vR (some a), vI x1, vI x2] h) (fun _ _ _ _ => False) (XQ b D cy pre (nw h2 60 0 6)) (hN h2 + 1 - hN h) (hS h2 + 6 - hS h) (fun q => b ≤ q) := by
  refine vx_ofW (cc := cX11_buyer) (maxL := 3) (ret := some .int) (by decide +kernel) rfl ?_
  intro p e s m args below meth c s₁ B hml htab hv
  obtain ⟨⟨hv, hH, hK, hSs⟩, hX⟩ := hv
  subst hv
  have hts0 := atoms_spec (ws := Cond.code yX11_buyer cX11_buyer 3 (some .int) :: bigW) B.pre
  rw [lg_entry_eq]
  have hlv : lv_has _ 3 [(0, .ref (adr b pre a)), (1, .int x1), (2, .int x2)] := lv_entry ([vR (some a), vI x1, vI x2].map (trV (adr b pre))) (n := 3) (Nat.le_refl 3)
  exact bx_body hl hB hk hp B.exec B.bytes hml (findClass_of_methodNamed B.named) (fun w hw => hts0 w (List.mem_cons_of_mem _ hw)) B.notSynchronized hK hSs hX htab (Nat.le_refl _) (Nat.le_refl _) (Nat.le_refl _) (Nat.le_refl _) hH hlv
