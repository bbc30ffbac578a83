/-! ===== the class's buyer where it throws ===== -/
def nseN : String := "java/util/NoSuchElementException"
def nseU : List String := ["java/lang/RuntimeException", "java/lang/Exception"]
def sIni (c : String) : MethodName := ⟨c, "<init>", "(Ljava/lang/String;)V"⟩
/-- what a throw reads that stood before -/
def Xs (b : Nat) (s : State) : Prop := vx_Zq Bundle.tN "UNASSIGNED_STACK" Bundle.steD (fun q => b ≤ q) s s.heap ∧ vx_Zq Bundle.tN "SUPPRESSED_SENTINEL" Bundle.listD (fun q => b ≤ q) s s.heap ∧
  va_Nw (.castable nseN nseN) s ∧ va_Nw (.declares (sIni "java/lang/RuntimeException")) s ∧ va_Nw (.declares (sIni "java/lang/Exception")) s ∧ va_Nw (.declares (sIni "java/lang/Throwable")) s
theorem Xs.moved {b : Nat} {s U : State} {H : Heap} (h : Xs b s) (hU : U.heap = H) (hW : s.WarmedH U.vm) (hq : ∀ q, q < b → H[q]? = s.heap[q]?) : Xs b U := by
  obtain ⟨h1, h2, h3, h4, h5, h6⟩ := h
  have hk : ∀ a : Nat, a < s.heap.size → ¬ b ≤ a → U.heap[a]? = s.heap[a]? := fun a _ ha => by rw [hU]; exact hq a (by omega)
  exact ⟨vx_Zq.moved hW.alike (vx_Zq.kept h1 hk), vx_Zq.moved hW.alike (vx_Zq.kept h2 hk), va_Nw.warmC hW h3, va_Nw.warmD hW h4, va_Nw.warmD hW h5, va_Nw.warmD hW h6⟩
def PinX (b : Nat) (D : va_G) (cy : Nat → ClassId) (pre : Nat → Nat) (as : List EV) (h : Hp) : Array Value → State → Prop := fun v U => Pin b D cy pre as h v U ∧ Xs b U
theorem PinX.blind {b : Nat} {D : va_G} {cy : Nat → ClassId} {pre : Nat → Nat} {as : List EV} {h : Hp} : FrameBlind (PinX b D cy pre as h) := by
  intro a U g mk q
  exact ⟨Pin.blind a U g mk q.1, Xs.moved (s := U) (U := U.calling g mk a) (H := U.heap) q.2 rfl (State.WarmedH.refl U) (fun _ _ => rfl)⟩
def XQ (b : Nat) (D : va_G) (cy : Nat → ClassId) (pre : Nat → Nat) (hh : Hp) : String → State → State → Prop := fun E st t => E = nseN ∧ Hold b D cy pre hh t t.heap ∧ va_K D vwCl (tysL cy) t ∧ ∀ q, q < b → t.heap[q]? = st.heap[q]?
theorem HC60 {b : Nat} {D : va_G} {cy : Nat → ClassId} {pre : Nat → Nat} {h : Hp} {U : State} {H : Heap} : HC b D cy pre (nw h 60 0 6) U H (hN h) := by
  have k : hK (nw h 60 0 6) (hN h) = 60 := by rw [hK_nw, if_pos rfl]
  unfold HC
  rw [k]
  refine ⟨fun z => absurd z (by decide), fun z => absurd z (by decide), fun z => absurd z (by decide), fun z => absurd z (by decide), fun z => absurd z (by decide), fun z => absurd z (by decide), fun z => absurd z (by decide), fun z => absurd z (by decide), fun z => absurd z (by decide)⟩
/-- behind a call, whatever is owed at the end -/
theorem w_backQ {retY : Option FieldType} {p : Program} {l : Launch} {e : Env} {R : Room} {s : State} {m : MethodId} {args : Array Value} {below : List Frame} {meth : Method} {c0 : Code} {b : Nat} {D : va_G} {cy : Nat → ClassId} {pre : Nat → Nat} {n0 s0 : Nat} {out1 : RV × Hp} {h : Hp} {H : Heap} {locs : List Loc} {cells slots pc : Nat} {lsM : Array Slot} {st0 : List Value} {st' : List EV} {av : Array Value} {Q : State → Prop}
    (g : ∀ (H : Heap) (locs : List Loc) (cells slots : Nat), Hold b D cy pre out1.2 s H → (∀ q, q < b → H[q]? = s.heap[q]?) → (∀ q ∈ locs, b ≤ q.base) → cells + n0 = hN out1.2 → slots + s0 = hS out1.2 → W p l e R s m args below meth c0 H locs cells slots Q (F0 m (pc + 3) lsM ((push (rkOf retY) out1.1 st').map (trV (adr b pre)))))
    (hle : hN h ≤ hN out1.2 ∧ hS h ≤ hS out1.2)
    (hr : va_Run p l e R s m args below meth c0 H locs cells slots (hN out1.2 - hN h) (hS out1.2 - hS h) (F0 m pc lsM st0) (st'.map (trV (adr b pre))) (Qh retY b D cy pre out1 av) (fun q => b ≤ q))
    (a2 : ∀ q, q < b → H[q]? = s.heap[q]?) (a3 : ∀ q ∈ locs, b ≤ q.base) (a4 : cells + n0 = hN h) (a5 : slots + s0 = hS h) :
    W p l e R s m args below meth c0 H locs cells slots Q (F0 m pc lsM st0) := by
  intro T hT X
  obtain ⟨v, st₀, t, T', L, h0, X', hL, e1, e2, ⟨hv, hH, hKt, hfr⟩, stp⟩ := hr T hT X
  cases hv
  have hal : s.vm.Alike t.vm := by rw [← e2]; exact X'.warmed.alike
  have := g T'.heap (locs ++ L) (cells + (hN out1.2 - hN h)) (slots + (hS out1.2 - hS h)) (by rw [e1]; exact hH.moved hal.symm) (fun q hq => by rw [e1, hfr q hq, h0]; exact a2 q hq) (fun q hq => by
      rcases List.mem_append.mp hq with z | z
      · exact a3 q z
      · exact hL q z) (by omega) (by omega) T' rfl X'
  obtain ⟨t2, u1, u2⟩ := this
  rw [← push_ret] at u1
  exact ⟨t2, stp t2 u1, u2⟩
theorem wkX_212 : Cond.classLink RX11 212 nseN ∈ bigW := big_mem 1179 (by decide +kernel) (by decide +kernel)
theorem wnX_nse : Cond.initialized nseN ∈ bigW := big_mem 120 (by decide +kernel) (by decide +kernel)
set_option maxRecDepth 20000 in
theorem at_in : ∀ w ∈ (vx_atX RX11 216 nseN 13 prog_30_method_4_code nseU).filter goodWord, w ∈ lw_tbl := by decide +kernel
theorem at_good : ∀ w ∈ (vx_atX RX11 216 nseN 13 prog_30_method_4_code nseU).filter goodWord, w ∈ bigW := fun w hw => List.mem_filter.mpr ⟨at_in w hw, (List.mem_filter.mp hw).2⟩
def exU : List Cond := [.castable nseN nseN, .declares (sIni "java/lang/RuntimeException"), .declares (sIni "java/lang/Exception"), .declares (sIni "java/lang/Throwable")]
theorem at_bad : ∀ w ∈ (vx_atX RX11 216 nseN 13 prog_30_method_4_code nseU).filter (fun w => !goodWord w), w ∈ exU := by decide +kernel
theorem at_ot : ∀ w ∈ Cond.classLink RX11 212 nseN :: Cond.initialized nseN :: vx_atX RX11 216 nseN 13 prog_30_method_4_code nseU, vx_ot w = true := by decide +kernel
theorem rx_0 : decode prog_30_method_4_code 0 = .ok (.aload_n 0, 1) := by decide +kernel
theorem rx_1 : decode prog_30_method_4_code 1 = .ok (.aload_n 1, 1) := by decide +kernel
theorem rx_2 : decode prog_30_method_4_code 2 = .ok (.invokespecial 13, 3) := by decide +kernel
theorem rx_5 : decode prog_30_method_4_code 5 = .ok (.return_, 1) := by decide +kernel
theorem fit_nse : Bundle.fit nseN = true := by decide +kernel
theorem fit_nseU : ∀ n ∈ nseU, Bundle.fit n = true := by decide +kernel
theorem bx_17 {p : Program} {l : Launch} {e : Env} {R : Room} {s : State} {m : MethodId} {args : Array Value} {below : List Frame} {meth : Method} {c : Code} {b : Nat} {D : va_G} {cy : Nat → ClassId} {pre : Nat → Nat} {h2 : Hp} {H : Heap} {locs : List Loc} {cells slots mc ms : Nat} {lsM : Array Slot}
    (hl : l.stackTraces = false) (hx : p.tables.exec = Jvm.exec) (hb : c.code = cX11_buyer) (hml : c.maxLocals = 3) (hown : s.vm.findClass RX11 = some m.cls) (hts : ∀ w ∈ bigW, w.before args s = true) (hlk : meth.locks = false) (hK : va_K D vwCl (tysL cy) s) (hbs : b ≤ s.heap.size) (hSs : Ss b pre s) (hX : Xs b s) (htab : ∀ x ∈ c.exceptionTable.toList, False)
    (hRf : 6 ≤ R.frames) (hRl : 90 ≤ R.locals) (hRc : mc ≤ R.cells) (hRs : ms ≤ R.slots) (hp : hN h2 + 1 < PRE)
    (a1 : Hold b D cy pre h2 s H) (a2 : ∀ q, q < b → H[q]? = s.heap[q]?) (a3 : ∀ q ∈ locs, b ≤ q.base) (hz : s.heap.size ≤ H.size) (a4 : cells + 1 = mc) (a5 : slots + 6 = ms) (a6 : lsM.size = 3) :
    W p l e R s m args below meth c H locs cells slots (vx_MQ below (fun _ _ _ _ => False) (XQ b D cy pre (nw h2 60 0 6)) args s mc ms (fun q => b ≤ q)) (F0 m 17 lsM []) := by
  obtain ⟨x1, x2, x3, x4, x5, x6⟩ := hX
  refine vx_throwS (cc := cX11_buyer) (pc := 17) (own := RX11) (cls := nseN) (text := "no such buyer, or nothing of the kind is known of it") (names := nseU) (ik := 212) (is := 214) (ic := 216) (sa := pre 16) (A := fun q => b ≤ q) (ix := 13) (rx := prog_30_method_4_code) hx hb hl hown rx_0 rx_1 rx_2 rx_5 fit_nse fit_nseU (hts _ wkX_212) (hts _ wnX_nse) (hSs.2.1 6 (by decide))
    (vx_hat (B := exU) (fun w hw => hts w (at_good w hw)) at_bad (vx_c (va_Nw.use rfl x3) (vx_c (va_Nw.use rfl x4) (vx_c (va_Nw.use rfl x5) (vx_c (va_Nw.use rfl x6) vx_n))))) at_ot x1 x2 ⟨hz, fun q _ hq => a2 q (by omega), a3⟩ (a6.trans hml.symm) dX11_buyer_17 dX11_buyer_20 dX11_buyer_21 dX11_buyer_23 dX11_buyer_26 (fun x hx => (htab x hx).elim) ?_ ?_ ?_ ?_ hlk ?_ a3 (by omega) (by omega)
  · show 2 + 3 < R.frames
    omega
  · show 0 + (13 * (2 + 1) + 43) ≤ R.locals
    omega
  · omega
  · omega
  · intro t hal hsz hq
    refine ⟨rfl, ?_, va_K.moved hal hK, fun q hq' => ?_⟩
    · exact Hold.moved hal (Hold.new a1 hsz hq hp HC60)
    · rw [hq q (by rw [a1.1]; omega)]
      exact a2 q hq'
