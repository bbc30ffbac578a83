/-! ===== PURE: before a house was told: cut, pay, sell ===== -/
theorem hos_hom {h : Hp} {s : Nat} (S : HOS h s) (k0 : hK h 0 = 11) : FX11_homeless [vR (some 0)] h = some (rI 1, h) := by
  obtain ⟨s1, s2, s3, s4, s5, s6⟩ := S
  rw [tX11_homeless]
  simp only [oB_some, dR_some, cond_true, cond_false, if_true, if_false, Bool.true_and, Bool.and_true, Nat.beq_refl, k0, s1, s2, s3, s4, s5, isZ1]
theorem hos_only {h h' : Hp} {s : Nat} {l : List Nat} (S : HOS h s) (O : Only h h' l) (h1 : s ∉ l) (h2 : 147 ∉ l) : HOS h' s := by
  unfold HOS; rw [O.R, O.K, O.I h1, O.I h2]; exact S
/-- a call that writes only the place where the past would be -/
def MRK (h : Hp) (x : Nat) (X Y : Hp → Option (RV × Hp)) : Prop := ∃ res h1 h2, X h = some (rI res, h1) ∧ Y h1 = some (rI res, h2) ∧ Only h h1 [16 + 2 * x, 16 + 2 * x + 1] ∧ Mq h1 h2 scrM scrS
theorem cut_hom {h h1 : Hp} {s x : Nat} (S : HOS h s) (k0 : hK h 0 = 11) (k1 : hK h 147 = 12) (k2 : hI h 147 27 = 0) (r4 : hR h 0 4 = some 14) (k14 : hK h 14 = 5) (r2 : hR h 0 2 = some 10) (hs : s = 4 ∨ s = 131) (hx : x < 41) (mk : FX5_mark [vR (some 14), vR (some 10)] h = some (rV, h1)) (O : Only h h1 [16 + 2 * x, 16 + 2 * x + 1]) : MRK h x (FX11_cut [vR (some 0)]) (FX12_cut [vR (some 147)]) := by
  have S1 := hos_only S O (by simp; omega) (by simp; omega)
  have k0' : hK h1 0 = 11 := by rw [O.K]; exact k0
  have hm := hos_hom S1 k0'
  have k1' : hK h1 147 = 12 := by rw [O.K]; exact k1
  have e : hI (sI h1 147 0 0) 147 27 = 0 := by rw [hI_slot _ _ _ _ (by decide), O.I (by simp; omega)]; exact k2
  refine ⟨-1, h1, sI h1 147 0 0, ?_, ?_, O, mq_t h1⟩
  · rw [tX11_cut]; simp only [oB_some, dR_some, cond_true, cond_false, if_true, if_false, Bool.true_and, Bool.and_true, Nat.beq_refl, k0, r4, k14, r2, mk, k0', hm, ne10]
  · rw [tX12_cut]; simp only [oB_some, dR_some, cond_true, cond_false, if_true, if_false, Bool.true_and, Bool.and_true, Nat.beq_refl, k1', hK_sI, e]
theorem pay_hom {h h1 : Hp} {s x : Nat} (S : HOS h s) (k0 : hK h 0 = 11) (k1 : hK h 147 = 12) (r4 : hR h 0 4 = some 14) (k14 : hK h 14 = 5) (r2 : hR h 0 2 = some 10) (hs : s = 4 ∨ s = 131) (hx : x < 41) (mk : FX5_mark [vR (some 14), vR (some 10)] h = some (rV, h1)) (O : Only h h1 [16 + 2 * x, 16 + 2 * x + 1]) (y : Int32) : MRK h x (FX11_pay [vR (some 0), vI y]) (FX12_pay [vR (some 147), vI y]) := by
  have S1 := hos_only S O (by simp; omega) (by simp; omega)
  have k0' : hK h1 0 = 11 := by rw [O.K]; exact k0
  have hm := hos_hom S1 k0'
  have k1' : hK h1 147 = 12 := by rw [O.K]; exact k1
  have e : hI (sI h1 147 0 0) 147 26 = 0 := by rw [hI_slot _ _ _ _ (by decide)]; exact S1.2.2.2.2.2
  have dd : FX12_isDebt [vR (some 147), vI y] (sI h1 147 0 0) = some (rI 0, sI h1 147 0 0) := by
    rw [tX12_isDebt]
    by_cases c : y < 0
    · rw [if_pos c]; rfl
    · rw [if_neg c]
      simp only [oB_some, dR_some, cond_true, cond_false, if_true, if_false, Bool.true_and, Bool.and_true, Nat.beq_refl, hK_sI, k1', e, Int32.not_lt.mp c, isZ0]
  have cp : ∀ q, FX12_canPay [vR (some 147), vR q, vI y] (sI h1 147 0 0) = some (rI 0, sI h1 147 0 0) := fun q => by
    rw [tX12_canPay]; simp only [oB_some, dR_some, cond_true, cond_false, if_true, if_false, Bool.true_and, Bool.and_true, Nat.beq_refl, hK_sI, k1', dd, isZ0]
  refine ⟨-1, h1, sI h1 147 0 0, ?_, ?_, O, mq_t h1⟩
  · rw [tX11_pay]; simp only [oB_some, dR_some, cond_true, cond_false, if_true, if_false, Bool.true_and, Bool.and_true, Nat.beq_refl, k0, r4, k14, r2, mk, k0', hm, ne10]
  · rw [tX12_pay]; simp only [oB_some, dR_some, cond_true, cond_false, if_true, if_false, Bool.true_and, Bool.and_true, Nat.beq_refl, k1', hK_sI, cp]
theorem sell_hom {h h1 : Hp} {s x : Nat} (S : HOS h s) (k0 : hK h 0 = 11) (k1 : hK h 147 = 12) (k2 : hI h 147 27 = 0) (r4 : hR h 0 4 = some 14) (k14 : hK h 14 = 5) (r2 : hR h 0 2 = some 10) (hs : s = 4 ∨ s = 131) (hx : x < 41) (mk : FX5_mark [vR (some 14), vR (some 10)] h = some (rV, h1)) (O : Only h h1 [16 + 2 * x, 16 + 2 * x + 1]) (y y2 : Int32) : MRK h x (FX11_sell [vR (some 0), vI y, vI y2]) (FX12_sell [vR (some 147), vI y, vI y2]) := by
  have S1 := hos_only S O (by simp; omega) (by simp; omega)
  have k0' : hK h1 0 = 11 := by rw [O.K]; exact k0
  have hm := hos_hom S1 k0'
  have k1' : hK h1 147 = 12 := by rw [O.K]; exact k1
  have e : hI (sI h1 147 0 0) 147 27 = 0 := by rw [hI_slot _ _ _ _ (by decide), O.I (by simp; omega)]; exact k2
  have dd : FX12_isBuyer [vR (some 147), vI y] (sI h1 147 0 0) = some (rI 0, sI h1 147 0 0) := by
    rw [tX12_isBuyer]
    by_cases c : y < 0
    · rw [if_pos c]; rfl
    · rw [if_neg c]
      simp only [oB_some, dR_some, cond_true, cond_false, if_true, if_false, Bool.true_and, Bool.and_true, Nat.beq_refl, hK_sI, k1', e, Int32.not_lt.mp c, isZ0]
  have cp : ∀ q, FX12_canSell [vR (some 147), vR q, vI y, vI y2] (sI h1 147 0 0) = some (rI 0, sI h1 147 0 0) := fun q => by
    rw [tX12_canSell]; simp only [oB_some, dR_some, cond_true, cond_false, if_true, if_false, Bool.true_and, Bool.and_true, Nat.beq_refl, hK_sI, k1', dd, isZ0]
  refine ⟨-1, h1, sI h1 147 0 0, ?_, ?_, O, mq_t h1⟩
  · rw [tX11_sell]; simp only [oB_some, dR_some, cond_true, cond_false, if_true, if_false, Bool.true_and, Bool.and_true, Nat.beq_refl, k0, r4, k14, r2, mk, k0', hm, ne10]
  · rw [tX12_sell]; simp only [oB_some, dR_some, cond_true, cond_false, if_true, if_false, Bool.true_and, Bool.and_true, Nat.beq_refl, k1', hK_sI, cp]
