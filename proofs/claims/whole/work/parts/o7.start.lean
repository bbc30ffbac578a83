/-! ===== the start: out of the statement ===== -/
def fl1 : List Cond := flatC (Jvm.Cond.and given_1 narrow_1)
def tS (j : Nat) : Term := .static (stC j) (stN j) "[I"
def tT (j : Nat) : Term := .string (txC j).1 (txC j).2.1
def tV (j : Nat) : Term := .field (tT j) "java/lang/String" "value" "[B"
set_option maxRecDepth 100000 in
theorem sa_ar : ∀ j, j < 6 → Cond.arrayOf (tS j) .int ∈ fl1 := by decide +kernel
set_option maxRecDepth 100000 in
theorem sa_ln : ∀ j, j < 6 → Cond.eq (.length (tS j)) (.int (Int32.ofNat (sLen j))) ∈ fl1 := by decide +kernel
set_option maxRecDepth 100000 in
theorem sa_el : ∀ j, j < 6 → ∀ i, i < sLen j → Cond.eq (.elem (tS j) (.int (Int32.ofNat i))) (.int (nI (bT (sTb j) i))) ∈ fl1 := by decide +kernel
set_option maxRecDepth 100000 in
theorem sa_ly : ∀ j, j < 6 → Cond.laysStatic (stC j) (stN j) "[I" ∈ lw_tbl := by decide +kernel
set_option maxRecDepth 100000 in
theorem sa_in : ∀ j, j < 6 → Cond.initialized (stC j) ∈ lw_tbl := by decide +kernel
set_option maxRecDepth 100000 in
theorem st_ex : ∀ j, j < 7 → Cond.exactly (tT j) "java/lang/String" ∈ fl1 := by decide +kernel
set_option maxRecDepth 100000 in
theorem st_co : ∀ j, j < 6 → Cond.eq (.field (tT j) "java/lang/String" "coder" "B") (.int 0) ∈ fl1 := by decide +kernel
set_option maxRecDepth 100000 in
theorem st_ar : ∀ j, j < 6 → Cond.arrayOf (tV j) .byte ∈ fl1 := by decide +kernel
set_option maxRecDepth 100000 in
theorem st_ln : ∀ j, j < 6 → Cond.eq (.length (tV j)) (.int (Int32.ofNat (bLn j))) ∈ fl1 := by decide +kernel
set_option maxRecDepth 100000 in
theorem st_el : ∀ j, j < 6 → ∀ i, i < bLn j → Cond.eq (.elem (tV j) (.int (Int32.ofNat i))) (.int (nI (bT (bTb j) i))) ∈ fl1 := by decide +kernel
set_option maxRecDepth 100000 in
theorem st_rf : ∀ j, j < 7 → Cond.stringRef (txC j).1 (txC j).2.1 (txC j).2.2 ∈ lw_tbl := by decide +kernel
set_option maxRecDepth 100000 in
theorem ns_in : ∀ j, j < 11 → Cond.methodLinkNest (nst j).1 (nst j).2.1 (nst j).2.2 RX11 ∈ lw_tbl := by decide +kernel
theorem fx_lay : Cond.laysStatic "jdk/internal/util/Preconditions" "SIOOBE_FORMATTER" "Ljava/util/function/BiFunction;" ∈ lw_tbl := by decide +kernel
theorem fx_ini : Cond.initialized "jdk/internal/util/Preconditions" ∈ lw_tbl := by decide +kernel
theorem fx_ref : Cond.isRef (.static "jdk/internal/util/Preconditions" "SIOOBE_FORMATTER" "Ljava/util/function/BiFunction;") ∈ fl1 := by decide +kernel
theorem cs_lay : Cond.laysStatic "java/lang/String" "COMPACT_STRINGS" "Z" ∈ lw_tbl := by decide +kernel
theorem cs_ini : Cond.initialized "java/lang/String" ∈ lw_tbl := by decide +kernel
theorem cs_val : Cond.eq (.static "java/lang/String" "COMPACT_STRINGS" "Z") (.int 1) ∈ fl1 := by decide +kernel
theorem tw_l1 : Cond.laysStatic Bundle.tN "UNASSIGNED_STACK" Bundle.steD ∈ lw_tbl := by decide +kernel
theorem tw_l2 : Cond.laysStatic Bundle.tN "SUPPRESSED_SENTINEL" Bundle.listD ∈ lw_tbl := by decide +kernel
theorem tw_in : Cond.initialized Bundle.tN ∈ lw_tbl := by decide +kernel
theorem tw_r1 : Cond.isRef (.static Bundle.tN "UNASSIGNED_STACK" Bundle.steD) ∈ fl1 := by decide +kernel
theorem tw_r2 : Cond.isRef (.static Bundle.tN "SUPPRESSED_SENTINEL" Bundle.listD) ∈ fl1 := by decide +kernel
theorem ex_in : ∀ w ∈ exU, w ∈ lw_tbl := by decide +kernel
theorem ar_in : ∀ w ∈ ([.arrayClass .int, .arrayClass .byte, .arrayClass .boolean, .arrayClass .long, .arrayOver (.object RX1), .arrayOver (.object RX4), .arrayOver (.object RX6)] : List Cond), w ∈ lw_tbl := by decide +kernel
theorem ar_prim {args : Array Value} {s : State} {ty : FieldType} (h : (Cond.arrayClass ty).before args s = true) : ∃ cA, ArrOfT s cA ty ∧ s.vm.findClass ("[" ++ ty.toString) = some cA := by
  obtain ⟨cA, kA, comp, h1, h2, h3⟩ := Cond.arrayClass_spec h
  exact ⟨cA, fun n z => ⟨fun k h => (by cases h), kA, h2, comp, h3⟩, h1⟩
theorem ar_obj {args : Array Value} {s : State} {C : String} (h : (Cond.arrayOver (.object C)).before args s = true) : ∃ cA, ArrOfT s cA (.object C) ∧ va_RA s cA (.object C) := by
  obtain ⟨comp, c, k, h1, h2, h3, h4, h5⟩ := Cond.arrayOver_spec h
  exact ⟨c, fun n z => ⟨fun k h => (by cases h), k, h3, comp, h4⟩, k, comp, h3, h4, h1, h5⟩
theorem start_K {args : Array Value} {s : State} (hts : ∀ w ∈ lw_tbl, w.before args s = true) : ∃ (D : va_G) (cy : Nat → ClassId), va_K D vwCl (tysL cy) s := by
  have hbig : ∀ w ∈ bigW, w.before args s = true := fun w hw => hts w (List.mem_filter.mp hw).1
  have k13 : ∀ c, c < 13 → ∃ (cC : ClassId) (iS : Nat → Nat), u_Kn s (clR c) (clT c) (nF c) cC iS := by13 (P := fun c => ∃ (cC : ClassId) (iS : Nat → Nat), u_Kn s (clR c) (clT c) (nF c) cC iS)
    (u_known hbig wC0 (hbig _ wi_0)) (u_known hbig wC1 (hbig _ wi_1)) (u_known hbig wC2 (hbig _ wi_2)) (u_known hbig wC3 (hbig _ wi_3)) (u_known hbig wC4 (hbig _ wi_4)) (u_known hbig wC5 (hbig _ wi_5)) (u_known hbig wC6 (hbig _ wi_6)) (u_known hbig wC7 (hbig _ wi_7)) (u_known hbig wC8 (hbig _ wi_8)) (u_known hbig wC9 (hbig _ wi_9)) (u_known hbig wC10 (hbig _ wi_10)) (u_known hbig wC11 (hbig _ wi_11)) (u_known hbig wC12 (hbig _ wi_12))
  have hk : ∀ c, ∃ q : ClassId × (Nat → Nat), c < 13 → u_Kn s (clR c) (clT c) (nF c) q.1 q.2 := by
    intro c
    by_cases hc : c < 13
    · obtain ⟨cC, iS, h⟩ := k13 c hc
      exact ⟨(cC, iS), fun _ => h⟩
    · obtain ⟨cC, iS, h⟩ := k13 0 (by decide)
      exact ⟨(cC, iS), fun h => absurd h hc⟩
  obtain ⟨f, hf⟩ := Classical.axiomOfChoice hk
  obtain ⟨c20, p20, n20⟩ := ar_prim (hts _ (ar_in (.arrayClass .int) (by simp)))
  obtain ⟨c21, p21, n21⟩ := ar_prim (hts _ (ar_in (.arrayClass .byte) (by simp)))
  obtain ⟨c22, p22, n22⟩ := ar_prim (hts _ (ar_in (.arrayClass .boolean) (by simp)))
  obtain ⟨c23, p23, n23⟩ := ar_prim (hts _ (ar_in (.arrayClass .long) (by simp)))
  obtain ⟨c31, p31, n31⟩ := ar_obj (hts _ (ar_in (.arrayOver (.object RX1)) (by simp)))
  obtain ⟨c34, p34, n34⟩ := ar_obj (hts _ (ar_in (.arrayOver (.object RX4)) (by simp)))
  obtain ⟨c36, p36, n36⟩ := ar_obj (hts _ (ar_in (.arrayOver (.object RX6)) (by simp)))
  refine ⟨(fun c => (f c).1, fun c => (f c).2), fun k => match k with
    | 20 => c20 | 21 => c21 | 22 => c22 | 23 => c23 | 31 => c31 | 34 => c34 | _ => c36, fun c q h => ?_, fun k q h => ?_⟩
  · have hc : c < 13 := (List.getElem?_eq_some_iff.mp h).1
    rw [vw_get c hc] at h
    cases h
    exact hf c hc
  · match k, h with
    | 0, h => cases h; exact ⟨p20, n20⟩
    | 1, h => cases h; exact ⟨p21, n21⟩
    | 2, h => cases h; exact ⟨p22, n22⟩
    | 3, h => cases h; exact ⟨p23, n23⟩
    | 4, h => cases h; exact ⟨p31, n31⟩
    | 5, h => cases h; exact ⟨p34, n34⟩
    | 6, h => cases h; exact ⟨p36, n36⟩
    | k + 7, h => cases h
theorem start_sa {args : Array Value} {s : State} (hts : ∀ w ∈ lw_tbl, w.before args s = true) (hg : ∀ w ∈ fl1, w.before args s = true) {j : Nat} (hj : j < 6) : ∃ t : Nat, va_T .int t (sLen j) (fun i => .int (nI (bT (sTb j) i))) (fun q => s.heap.size ≤ q) s s.heap ∧ va_Z (stC j) (stN j) "[I" (.ref t) (fun q => s.heap.size ≤ q) s s.heap := by
  have hA : ∀ a : Nat, a < s.heap.size → ¬ s.heap.size ≤ a := fun a h => by omega
  obtain ⟨t, ht, hT⟩ := va_Tof (f := fun i => .int (nI (bT (sTb j) i))) (A := fun q => s.heap.size ≤ q) ((show ∀ j, j < 6 → sLen j < 2 ^ 31 by decide) j hj) (hg _ (sa_ar j hj)) (va_eqt (hg _ (sa_ln j hj))) (fun i hi => va_eqt (hg _ (sa_el j hj i hi))) hA
  exact ⟨t, hT, va_Zof (hts _ (sa_ly j hj)) (hts _ (sa_in j hj)) ht hA⟩
theorem start_tx {args : Array Value} {s : State} (hg : ∀ w ∈ fl1, w.before args s = true) {j : Nat} (hj : j < 7) : ∃ a : Nat, (tT j).eval args s none [] s = some (.ref a) := by
  obtain ⟨a, c, cA, kA, q1, -⟩ := Cond.exactly_spec (args := args) (first := s) (o := none) (s := s) (idx := []) (t := tT j) (cls := "java/lang/String") (hg _ (st_ex j hj))
  exact ⟨a, q1⟩
theorem start_st {args : Array Value} {s : State} (hg : ∀ w ∈ fl1, w.before args s = true) {j : Nat} (hj : j < 6) : ∃ q : Nat × Nat, (tT j).eval args s none [] s = some (.ref q.1) ∧ StrAt q.1 q.2 s.heap.size s s.heap ∧ va_T .byte q.2 (bLn j) (fun i => .int (nI (bT (bTb j) i))) (fun q => s.heap.size ≤ q) s s.heap := by
  have hA : ∀ a : Nat, a < s.heap.size → ¬ s.heap.size ≤ a := fun a h => by omega
  obtain ⟨a, q1⟩ := start_tx hg (show j < 7 by omega)
  obtain ⟨t, ht, hT⟩ := va_Tof (f := fun i => .int (nI (bT (bTb j) i))) (A := fun q => s.heap.size ≤ q) ((show ∀ j, j < 6 → bLn j < 2 ^ 31 by decide) j hj) (hg _ (st_ar j hj)) (va_eqt (hg _ (st_ln j hj))) (fun i hi => va_eqt (hg _ (st_el j hj i hi))) hA
  exact ⟨(a, t), q1, ⟨va_Oof (hg _ (st_ex j (by omega))) q1 hA, vk_OFof q1 ht hA, vk_OFof q1 (va_eqt (hg _ (st_co j hj))) hA⟩, hT⟩
theorem start_X {args : Array Value} {s : State} (hts : ∀ w ∈ lw_tbl, w.before args s = true) (hg : ∀ w ∈ fl1, w.before args s = true) : Xs s.heap.size s := by
  have hA : ∀ a : Nat, a < s.heap.size → ¬ s.heap.size ≤ a := fun a h => by omega
  exact ⟨vx_Zqof (hts _ tw_l1) (hts _ tw_in) (hg _ tw_r1) hA, vx_Zqof (hts _ tw_l2) (hts _ tw_in) (hg _ tw_r2) hA, va_Nw.of rfl (hts _ (ex_in _ (by simp [exU]))), va_Nw.of rfl (hts _ (ex_in _ (by simp [exU]))), va_Nw.of rfl (hts _ (ex_in _ (by simp [exU]))), va_Nw.of rfl (hts _ (ex_in _ (by simp [exU])))⟩
theorem start_all {args : Array Value} {s : State} {b0 L : Nat} {xs : Nat → Int32} (hts : ∀ w ∈ lw_tbl, w.before args s = true) (hg : ∀ w ∈ fl1, w.before args s = true) (hX : va_X b0 L xs s s.heap) (hb0 : b0 < s.heap.size) :
    ∃ (D : va_G) (cy : Nat → ClassId) (pre : Nat → Nat) (ft : Nat), (ft = 50 ∨ ft = 51) ∧ pre 30 = b0 ∧ Hold s.heap.size D cy pre (hs0 ft L xs) s s.heap ∧ va_K D vwCl (tysL cy) s ∧ Ss s.heap.size pre s := by
  have hA : ∀ a : Nat, a < s.heap.size → ¬ s.heap.size ≤ a := fun a h => by omega
  obtain ⟨D, cy, hK⟩ := start_K hts
  have z1 : ∀ j, ∃ t : Nat, j < 6 → va_T .int t (sLen j) (fun i => .int (nI (bT (sTb j) i))) (fun q => s.heap.size ≤ q) s s.heap ∧ va_Z (stC j) (stN j) "[I" (.ref t) (fun q => s.heap.size ≤ q) s s.heap := by
    intro j
    by_cases hj : j < 6
    · obtain ⟨t, h⟩ := start_sa hts hg hj
      exact ⟨t, fun _ => h⟩
    · exact ⟨0, fun h => absurd h hj⟩
  have z2 : ∀ j, ∃ q : Nat × Nat, j < 6 → (tT j).eval args s none [] s = some (.ref q.1) ∧ StrAt q.1 q.2 s.heap.size s s.heap ∧ va_T .byte q.2 (bLn j) (fun i => .int (nI (bT (bTb j) i))) (fun q => s.heap.size ≤ q) s s.heap := by
    intro j
    by_cases hj : j < 6
    · obtain ⟨t, h⟩ := start_st hg hj
      exact ⟨t, fun _ => h⟩
    · exact ⟨(0, 0), fun h => absurd h hj⟩
  obtain ⟨sa, hsa⟩ := Classical.axiomOfChoice z1
  obtain ⟨sq, hsq⟩ := Classical.axiomOfChoice z2
  obtain ⟨am, ham⟩ := start_tx hg (show 6 < 7 by decide)
  have F4 : va_T .int b0 L (fun i => .int (xs i)) (fun q => s.heap.size ≤ q) s s.heap := by
    obtain ⟨scr, h1, h2, h3, h4, h5⟩ := hX
    exact ⟨scr, h1, h2, h3, by omega, by rw [h4], h5, hA b0 hb0⟩
  have hfm : ∃ ft fm : Nat, (ft = 50 ∧ va_Z "jdk/internal/util/Preconditions" "SIOOBE_FORMATTER" "Ljava/util/function/BiFunction;" (.ref fm) (fun q => s.heap.size ≤ q) s s.heap) ∨ (ft = 51 ∧ va_Z "jdk/internal/util/Preconditions" "SIOOBE_FORMATTER" "Ljava/util/function/BiFunction;" .null (fun q => s.heap.size ≤ q) s s.heap) := by
    rcases va_Zqof (A := fun q => s.heap.size ≤ q) (hts _ fx_lay) (hts _ fx_ini) (hg _ fx_ref) hA with h | ⟨t, h⟩
    · exact ⟨51, 0, Or.inr ⟨rfl, h⟩⟩
    · exact ⟨50, t, Or.inl ⟨rfl, h⟩⟩
  obtain ⟨ft, fm, F5⟩ := hfm
  have P : ∃ pre : Nat → Nat, (∀ j, j < 6 → pre j = sa j) ∧ (∀ j, j < 6 → pre (10 + j) = (sq j).1) ∧ pre 16 = am ∧ pre 30 = b0 ∧ pre 60 = fm ∧ ∀ j, j < 6 → pre (110 + j) = (sq j).2 := by
    refine ⟨fun j => if j < 6 then sa j else if j < 16 then (sq (j - 10)).1 else if j = 16 then am else if j = 30 then b0 else if j = 60 then fm else (sq (j - 110)).2, fun j hj => if_pos hj, fun j hj => ?_, rfl, rfl, rfl, fun j hj => ?_⟩
    · dsimp only
      rw [if_neg (by omega), if_pos (by omega), Nat.add_sub_cancel_left]
    · dsimp only
      rw [if_neg (by omega), if_neg (by omega), if_neg (by omega), if_neg (by omega), if_neg (by omega), Nat.add_sub_cancel_left]
  obtain ⟨pre, p1, p2, p3, p4, p5, p6⟩ := P
  refine ⟨D, cy, pre, ft, ?_, p4, ⟨rfl, by show 0 < PRE; decide, hc_start (fun j hj => ?_) (fun j hj => ?_) (fun j hj => ?_) ?_ ?_⟩, hK, fun j hj => ?_, fun j hj => ?_, fun j hj => va_Nw.of rfl (hts _ (ns_in j hj)), fun c hc => ?_, va_Zof (hts _ cs_lay) (hts _ cs_ini) (va_eqt (hg _ cs_val)) hA⟩
  · rcases F5 with h | h
    · exact Or.inl h.1
    · exact Or.inr h.1
  · rw [p1 j hj]; exact (hsa j hj).1
  · rw [p2 j hj, p6 j hj]; exact (hsq j hj).2.1
  · rw [p6 j hj]; exact (hsq j hj).2.2
  · rw [p4]; exact F4
  · rw [p5]; exact F5
  · rw [p1 j hj]; exact (hsa j hj).2
  · by_cases c : j < 6
    · rw [p2 j c]
      exact vk_R.of (hts _ (st_rf j hj)) (hsq j c).1
    · have e : j = 6 := by omega
      subst e
      rw [p3]
      exact vk_R.of (hts _ (st_rf 6 hj)) ham
  · rcases hc with rfl | rfl | rfl
    · exact va_AO.of (hts _ (ar_in (.arrayOver (.object RX1)) (by simp)))
    · exact va_AO.of (hts _ (ar_in (.arrayOver (.object RX4)) (by simp)))
    · exact va_AO.of (hts _ (ar_in (.arrayOver (.object RX6)) (by simp)))
theorem ent_has {ad : Nat → Nat} {as : List EV} {nL : Nat} (hle : (entL as).length ≤ nL) : LvR ad ((lg_sl (as.map (trV ad)) ++ List.replicate (nL - (lg_sl (as.map (trV ad))).length) Slot.unset).toArray) nL (entN nL as) := by
  have hl := lv_entry (as.map (trV ad)) (n := nL) (by rw [ent_len]; exact hle)
  refine ⟨hl.1, hl.2.1, fun i v hi => ?_⟩
  refine hl.2.2 (i, trV ad v) ?_
  have hi' : (entL as)[i]? = some (some v) := by
    unfold entN at hi
    by_cases z : i < (entL as).length
    · rw [List.getElem?_append_left z] at hi; exact hi
    · rw [List.getElem?_append_right (by omega), List.getElem?_replicate] at hi
      split at hi <;> cases hi
  have := ent_args ad as 0 i v hi'
  rwa [Nat.zero_add] at this
theorem sbn_forget {s s' : State} {L : List Loc} {k n k' n' : Nat} (h : s.sameButNew s' L k n) (hL : ∀ q ∈ L, s.heap.size ≤ q.base) (hk : k ≤ k') (hn : n ≤ n') : s.sameButNew s' [] k' n' := by
  obtain ⟨h1, h2, h3, h4, h5, h6⟩ := h
  refine ⟨h1, h2, by omega, h4, Nat.le_trans h5 hn, fun a c ha => ?_⟩
  obtain ⟨c1, e1, e2, e3, e4⟩ := h6 a c ha
  refine ⟨c1, e1, e2, e3, fun i _ => e4 i (fun hm => ?_)⟩
  have q1 := hL _ hm
  have q2 := (Array.getElem?_eq_some_iff.mp ha).1
  dsimp only at q1
  omega
