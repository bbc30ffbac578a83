/-! ===== text of a house keeps the invariant ===== -/
theorem text_0 {h : Hp} {n s s' : Nat} {v u lg bk : Nat → Nat} (Y : LAYO h) (W : HW h s) (e11 : hR h 0 11 = some s') (H : HT h n) (M : HSm h n (hI h 2)) (L : HL h s') (N : NowC h v u lg bk) :
    (∃ h1 h2, FX11_text [vR (some 0), vI 0] h = some (rI (-1), h1) ∧ FX12_text [vR (some 147), vI 0] h1 = some (rI (-1), h2) ∧ FR (hsP s') h h2 ∧ ∀ a k, (a ≠ 147 ∨ k ≠ 5) → hR h2 a k = hR h a k) ∨
    (∃ res h1 h2 r d b dc bc, FX11_text [vR (some 0), vI 0] h = some (rI res, h1) ∧ FX12_text [vR (some 147), vI 0] h1 = some (rI res, h2) ∧ FN t0R (t0P s') h h2 ∧ (hR h2 3 0 = some s' ∧ hR h2 0 11 = some s) ∧ (dc ≤ 6 ∧ bc ≤ 5 ∧ 0 < bc ∧ (∀ k, r k ≤ 60) ∧ BH r d b) ∧ (hI h2 s' 0 = 1 ∧ hI h2 s' 5 = nI dc ∧ hI h2 s' 6 = nI bc ∧ (∀ k, k < 7 → hI h2 (s' + 1) k = nI (r k)) ∧ (∀ k, k < 3 * dc → hI h2 (s' + 2) k = nI (d k)) ∧ (∀ k, k < 3 * bc → hI h2 (s' + 3) k = nI (b k))) ∧ (hI h2 147 26 = nI dc ∧ hI h2 147 27 = nI bc ∧ (∀ k, k < 7 → hI h2 152 k = nI (r k)) ∧ (∀ k, k < 3 * dc → hI h2 154 k = nI (d k)) ∧ (∀ k, k < 3 * bc → hI h2 156 k = nI (b k))) ∧ (hI h2 10 = nR (bgV v (r 0) (r 5)) ∧ hI h2 11 = nR (zr 5 0 u) ∧ hI h2 160 = up1 (up1 (fil (fun _ => 0) 0 381 0 (hI h 160)) 0 (nI (r 0))) 2 (nI (r 5))) ∧ (hI h2 14 2 = 0 ∧ hI h2 147 37 = 0 ∧ hI h2 147 50 = 0 ∧ hI h2 147 51 = 0 ∧ hI h2 147 53 = 0 ∧ hI h2 147 6 = 0 ∧ hI h2 101 0 = 0 ∧ hI h2 101 3 = 0 ∧ hL h2 101 1 = 1 ∧ hL h2 101 2 = 1 ∧ hI h2 0 10 = 0 ∧ hI h2 1 1 = 0)) := by
  have PB := PRE_big
  have sp := hw_sp W e11
  have hs' : s' = 4 ∨ s' = 131 := by omega
  have C := ly_CF Y
  have Xa := ly_LXa Y
  have K0 := C.1
  have k147 : hK h 147 = 12 := (ly_UL Y).1
  have S := ly_SIt Y
  obtain ⟨w, h1, p', e, Cl⟩ := house_cls H L S M
  have O := Cl.1
  have F1 := hcl_fr Cl H.2.1
  have o1 : ∀ a, a ≠ 1 → (a < s' ∨ s' + 3 < a) → hI h1 a = hI h a := fun a z1 z2 => O.I (by unfold hsL; simp only [List.mem_cons, List.not_mem_nil, or_false]; omega)
  by_cases cw : w = -1
  · right
    subst cw
    obtain ⟨_, _, _, x3⟩ := house_two H L S M e
    obtain ⟨ru0, dc0, bc0, HF0, _⟩ := x3 rfl
    have rr := (hs_nums HF0.2.2.2.2 HF0.2.2.1.2.1 HF0.2.2.1.2.2).1
    have tc := text_c0 (s := s) (v := v) (u := u) (r0 := rwN (hI h1 (s' + 1)) 7 0) (r5 := rwN (hI h1 (s' + 1)) 7 5) sp O.K O.E O.R C Xa.1 (ly_TapeL Y).1 Xa.2.1 W.2 e11 L (ly_PTL Y).2.2 (ly_PTL Y).1.1 (ly_PRl Y).1.1 (ly_PRl Y).1.2.1 e ((o1 10 (by omega) (by omega)).trans N.1) ((o1 11 (by omega) (by omega)).trans N.2.1) (rr 0 (by omega)) (rr 5 (by omega))
    obtain ⟨v1, v2, v3, v4, v5, v6, v7, v8, v9, v10⟩ := TH_v (h1 := h1) (s := s) (s' := s') (v' := bgV v (rwN (hI h1 (s' + 1)) 7 0) (rwN (hI h1 (s' + 1)) 7 5)) (u' := zr 5 0 u) hs'
    have gI : ∀ {a k : Nat}, (a ≠ 0 ∨ k ≠ 10) → (a ≠ 1 ∨ k ≠ 1) → (a ≠ s' ∨ k ≠ 0) → a ≠ 10 → a ≠ 11 → (a ≠ 14 ∨ k ≠ 2) → (a ≠ 101 ∨ (k ≠ 0 ∧ k ≠ 3)) → hI (TH h1 s s' (bgV v (rwN (hI h1 (s' + 1)) 7 0) (rwN (hI h1 (s' + 1)) 7 5)) (zr 5 0 u)) a k = hI h1 a k := fun z0 z1 z2 z3 z4 z5 z6 => TH_I z0 z1 z2 z3 z4 z5 z6
    have gR : ∀ {a k : Nat}, (a ≠ 3 ∨ k ≠ 0) → (a ≠ 0 ∨ k ≠ 11) → hR (TH h1 s s' (bgV v (rwN (hI h1 (s' + 1)) 7 0) (rwN (hI h1 (s' + 1)) 7 5)) (zr 5 0 u)) a k = hR h1 a k := fun z1 z2 => TH_R z1 z2
    have gR3 : hR (TH h1 s s' (bgV v (rwN (hI h1 (s' + 1)) 7 0) (rwN (hI h1 (s' + 1)) 7 5)) (zr 5 0 u)) 3 0 = some s' := rfl
    have gR0 : hR (TH h1 s s' (bgV v (rwN (hI h1 (s' + 1)) 7 0) (rwN (hI h1 (s' + 1)) 7 5)) (zr 5 0 u)) 0 11 = some s := rfl
    have gK : hK (TH h1 s s' (bgV v (rwN (hI h1 (s' + 1)) 7 0) (rwN (hI h1 (s' + 1)) 7 5)) (zr 5 0 u)) = hK h := O.K
    have gE : hE (TH h1 s s' (bgV v (rwN (hI h1 (s' + 1)) 7 0) (rwN (hI h1 (s' + 1)) 7 5)) (zr 5 0 u)) = hE h := O.E
    have gN : hN (TH h1 s s' (bgV v (rwN (hI h1 (s' + 1)) 7 0) (rwN (hI h1 (s' + 1)) 7 5)) (zr 5 0 u)) = hN h := O.N
    have gS : hS (TH h1 s s' (bgV v (rwN (hI h1 (s' + 1)) 7 0) (rwN (hI h1 (s' + 1)) 7 5)) (zr 5 0 u)) = hS h := O.S
    have gL : ∀ k, 3 < k → hL (TH h1 s s' (bgV v (rwN (hI h1 (s' + 1)) 7 0) (rwN (hI h1 (s' + 1)) 7 5)) (zr 5 0 u)) 101 k = hL h1 101 k := fun k z => by
      unfold TH
      rw [hL_sI, hL_sI, hL_sI, hL_sL, if_pos rfl, if_neg (by omega), hL_sL, if_pos rfl, if_neg (by omega)]
      rfl
    generalize TH h1 s s' (bgV v (rwN (hI h1 (s' + 1)) 7 0) (rwN (hI h1 (s' + 1)) 7 5)) (zr 5 0 u) = G at *
    have M1 : HSm (sI G 147 0 0) n (hI h 2) := hsm_fr M gK gE (fun k _ => by rw [hR_sI, gR (by omega) (by omega), O.R]) (by rw [hI_slot _ _ _ _ (by decide), gI (by omega) (by omega) (by omega) (by omega) (by omega) (by omega) (by omega), o1 147 (by omega) (by omega)]) (by rw [hI_row _ _ _ _ (by decide)]; exact funext fun k => (gI (by omega) (by omega) (by omega) (by omega) (by omega) (by omega) (by omega)).trans (by rw [o1 148 (by omega) (by omega)])) (fun k => by rw [hI_row _ _ _ _ (by omega)]; exact funext fun j => (gI (by omega) (by omega) (by omega) (by omega) (by omega) (by omega) (by omega)).trans (by rw [o1 _ (by omega) (by omega)]))
    obtain ⟨h5, e5, RC, x5⟩ := house_two H L S M1 e
    obtain ⟨ru, dc, bc, HF1, bc0', _⟩ := x5 rfl
    obtain ⟨⟨_, _, q5, q6⟩, ⟨q28, q29, _⟩, ⟨_, hd, hb⟩, ⟨E1, E2, E3⟩, RG⟩ := HF1
    obtain ⟨u1, u2, u3, u4, u5⟩ := hs_nums RG hd hb
    have O5 := RC.1
    have K5 : hK h5 = hK h := by rw [O5.K]; exact gK
    have E5 : hE h5 = hE h := by rw [O5.E]; exact gE
    have R5 : ∀ a k, (a ≠ 147 ∨ k ≠ 5) → hR h5 a k = hR G a k := fun a k z => by rw [O5.R, mS_R _ _ _ _ z, hR_sI]
    have kG : hK G 147 = 12 := by rw [gK]; exact k147
    have k5 : hK h5 147 = 12 := by rw [K5]; exact k147
    have f1 := fault_m0 (g := sI G 147 0 0) kG k5 (by rw [sI_sI]; exact e5)
    rw [RC.2.2] at f1
    have ym := text_m0 kG k5 f1
    rw [if_pos rfl] at ym
    have X5 := ly_MR2 Y
    have rX : ∀ k, k ≠ 5 → hR h5 147 k = hR h 147 k := fun k z => by rw [R5 _ _ (by omega), gR (by omega) (by omega), O.R]
    have MM : MR2 h5 := by
      unfold MR2
      rw [K5, E5, rX _ (by decide), rX _ (by decide), rX _ (by decide), rX _ (by decide), rX _ (by decide), rX _ (by decide), rX _ (by decide)]
      exact X5
    obtain ⟨h2, yr, O2, i147, ⟨j6, j26, j27, j50, j51, j37, j53⟩, k152, k154, k156, k160⟩ := text_m0r MM (some (vI 0)) (some (vI (hI h5 147 6)))
    have row5 : ∀ a, a ≠ 147 → a ≠ 153 → a ≠ 155 → a ≠ 157 → hI h5 a = hI G a := fun a z1 z2 z3 z4 => by
      rw [O5.I (by simp only [List.mem_cons, List.not_mem_nil, or_false]; omega), mS_o _ _ _ _ z1, hI_row _ _ _ _ z1]
    have row2 : ∀ a, a ≠ 147 → (a < 152 ∨ 157 < a) → a ≠ 160 → hI h2 a = hI G a := fun a z1 z2 z3 => by
      rw [O2.I (by simp only [List.mem_cons, List.not_mem_nil, or_false]; omega)]
      exact row5 a z1 (by omega) (by omega) (by omega)
    have R2 : ∀ a k, (a ≠ 147 ∨ k ≠ 5) → hR h2 a k = hR G a k := fun a k z => by rw [O2.R]; exact R5 a k z
    have L5 : hL h5 = hL G := O5.L
    have yf := ym.trans yr
    rw [q29] at yf
    rw [q6] at tc
    refine ⟨nI bc, G, h2, rwN (hI h1 (s' + 1)) 7, rwN (hI h1 (s' + 2)) (3 * dc), rwN (hI h1 (s' + 3)) (3 * bc), dc, bc, tc, yf, ⟨⟨?_, ?_, ?_⟩, ?_, ?_, ?_, ?_, ?_⟩, ⟨?_, ?_⟩, ⟨hd, hb, bc0', u4, u5⟩, ⟨?_, ?_, ?_, ?_, ?_, ?_⟩, ⟨j26.trans q28, j27.trans q29, ?_, ?_, ?_⟩, ⟨?_, ?_, ?_⟩, ⟨?_, j37, j50, j51, j53, j6, ?_, ?_, ?_, ?_, ?_, ?_⟩⟩
    · rw [O2.N, O5.N]; show hN h ≤ hN G; omega
    · rw [O2.N, O5.N]; show hN G ≤ hN h + 2; omega
    · rw [O2.S, O5.S]; show hS G ≤ hS h + 300; omega
    · intro a _; exact ⟨by rw [O2.K, K5], by rw [O2.E, E5]⟩
    · intro a k _ p
      unfold t0R at p
      rw [R2 _ _ (by omega), gR (by omega) (by omega), O.R]
    · intro a k _ p
      unfold t0P at p
      by_cases c : a = 147
      · subst c
        rw [i147 k (by omega) (by omega) (by omega) (by omega) (by omega) (by omega) (by omega), RC.2.1 k (by omega) (by omega) (by omega) (by omega) (by omega), mS_s _ _ _ _ (by omega) (by omega), hI_slot _ _ _ _ (by omega), gI (by omega) (by omega) (by omega) (by omega) (by omega) (by omega) (by omega), o1 _ (by omega) (by omega)]
      · rw [row2 a c (by omega) (by omega), gI (by omega) (by omega) (by omega) (by omega) (by omega) (by omega) (by omega), o1 _ (by omega) (by omega)]
    · intro k p
      unfold t0P at p
      rw [O2.L, L5, gL k (by omega), O.L]
    · intro a _ _; rw [O2.K, K5]
    · rw [R2 _ _ (by omega)]; exact gR3
    · rw [R2 _ _ (by omega)]; exact gR0
    · rw [row2 _ (by omega) (by omega) (by omega)]; exact v3
    · rw [row2 _ (by omega) (by omega) (by omega), gI (by omega) (by omega) (by omega) (by omega) (by omega) (by omega) (by omega)]; exact q5
    · rw [row2 _ (by omega) (by omega) (by omega), gI (by omega) (by omega) (by omega) (by omega) (by omega) (by omega) (by omega)]; exact q6
    · intro k hk; rw [row2 _ (by omega) (by omega) (by omega), gI (by omega) (by omega) (by omega) (by omega) (by omega) (by omega) (by omega)]; exact u1 k hk
    · intro k hk; rw [row2 _ (by omega) (by omega) (by omega), gI (by omega) (by omega) (by omega) (by omega) (by omega) (by omega) (by omega)]; exact u2 k hk
    · intro k hk; rw [row2 _ (by omega) (by omega) (by omega), gI (by omega) (by omega) (by omega) (by omega) (by omega) (by omega) (by omega)]; exact u3 k hk
    · intro k hk; rw [k152 k hk, ← E1 k hk]; exact u1 k hk
    · intro k hk; rw [k154 k (by omega), ← E2 k hk]; exact u2 k hk
    · intro k hk; rw [k156 k (by omega), ← E3 k hk]; exact u3 k hk
    · rw [row2 _ (by omega) (by omega) (by omega)]; exact v1
    · rw [row2 _ (by omega) (by omega) (by omega)]; exact v2
    · rw [k160, ← E1 0 (by omega), ← E1 5 (by omega), u1 0 (by omega), u1 5 (by omega), row5 160 (by omega) (by omega) (by omega) (by omega), show hI G 160 = hI h 160 from funext fun k => (gI (by omega) (by omega) (by omega) (by omega) (by omega) (by omega) (by omega)).trans (by rw [o1 _ (by omega) (by omega)])]
    · rw [row2 _ (by omega) (by omega) (by omega)]; exact v4
    · rw [row2 _ (by omega) (by omega) (by omega)]; exact v5
    · rw [row2 _ (by omega) (by omega) (by omega)]; exact v6
    · rw [O2.L, L5]; exact v9
    · rw [O2.L, L5]; exact v10
    · rw [row2 _ (by omega) (by omega) (by omega)]; exact v7
    · rw [row2 _ (by omega) (by omega) (by omega)]; exact v8
  · left
    have tc := text_c0f K0 Xa.1 e11 L.1 cw e
    have M1 : HSm (sI h1 147 0 0) n (hI h 2) := hsm_fr M O.K O.E (fun k _ => by rw [hR_sI, O.R]) (by rw [hI_slot _ _ _ _ (by decide), o1 147 (by omega) (by omega)]) (by rw [hI_row _ _ _ _ (by decide), o1 148 (by omega) (by omega)]) (fun k => by rw [hI_row _ _ _ _ (by omega), o1 _ (by omega) (by omega)])
    obtain ⟨h5, e5, RC, _⟩ := house_two H L S M1 e
    have F2 : FR (hsP s') h1 h5 := ((fr_sI h1 147 0 0 (by unfold hsP; omega)).trans (ms_fr _ s' n)).trans (rcl_fr RC)
    have kG : hK h1 147 = 12 := by rw [O.K]; exact k147
    have k5 : hK h5 147 = 12 := by rw [F2.2.2.1]; exact kG
    have f1 := fault_m0 (g := sI h1 147 0 0) kG k5 (by rw [sI_sI]; exact e5)
    rw [RC.2.2] at f1
    have ym := text_m0 kG k5 f1
    rw [if_neg cw] at ym
    exact ⟨h1, h5, tc, ym, F1.trans F2, fun a k z => by rw [RC.1.R, mS_R _ _ _ _ z, hR_sI, O.R]⟩
