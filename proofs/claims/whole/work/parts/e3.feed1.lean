/-! ===== PURE: feed and end, the calls in one heap ===== -/
theorem feed_one {h : Hp} {n : Nat} {x1 x2 x3 x4 x5 : Int32} (F : FdC h) (G : FdM h) (hn : n ≤ 240) (e1 : hI h 1 1 = nI n) (e2 : hI h 147 6 = nI n) (B : TB (hI h 2) (hI h 148) n) : ∃ res h1 h2, FX11_feed [vR (some 0), vI x1, vI x2, vI x3, vI x4, vI x5] h = some (rI res, h1) ∧ FX12_feed [vR (some 147), vI x1, vI x2, vI x3, vI x4, vI x5] h1 = some (rI res, h2) ∧ ((h1 = h ∧ h2 = sI h 147 0 0) ∨ ∃ n' t' u', n' ≤ 240 ∧ h1 = TS h t' n' ∧ h2 = TM (sI h1 147 0 0) u' n' ∧ TB t' u' n') := by
  rcases feed_both (x1 := x1) (x2 := x2) (x3 := x3) (x4 := x4) (x5 := x5) F G hn e1 e2 B with ⟨_, y1, y2⟩ | ⟨y0, t', u', y1, y2, y3⟩
  · exact ⟨-1, h, _, y1, y2, Or.inl ⟨rfl, rfl⟩⟩
  · have G1 : FdM (TS h t' (n + fedN x1 x2 x3 x4 x5)) := G
    have r147 : hI (TS h t' (n + fedN x1 x2 x3 x4 x5)) 147 = hI h 147 := by unfold TS; rw [hI_row _ _ _ _ (by decide), wA_O _ _ (by decide)]
    have r148 : hI (TS h t' (n + fedN x1 x2 x3 x4 x5)) 148 = hI h 148 := by unfold TS; rw [hI_row _ _ _ _ (by decide), wA_O _ _ (by decide)]
    rcases feed_both (x1 := x1) (x2 := x2) (x3 := x3) (x4 := x4) (x5 := x5) F G1 hn e1 (by rw [r147]; exact e2) (by rw [r148]; exact B) with ⟨z0, _⟩ | ⟨z0, t2, u2, z1, z2, z3⟩
    · omega
    · have eq : TS h t2 (n + fedN x1 x2 x3 x4 x5) = TS h t' (n + fedN x1 x2 x3 x4 x5) := by
        have := z1.symm.trans y1
        injection this with this
        injection this
      exact ⟨_, _, _, y1, z2, Or.inr ⟨_, t2, u2, z0, eq.symm, rfl, z3⟩⟩
theorem end_one {h : Hp} {n : Nat} {x : Int32} (F : FdC h) (G : FdM h) (hn : n ≤ 240) (e1 : hI h 1 1 = nI n) (e2 : hI h 147 6 = nI n) : ∃ res h1 h2, FX11_end [vR (some 0), vI x] h = some (rI res, h1) ∧ FX12_end [vR (some 147), vI x] h1 = some (rI res, h2) ∧ ((h1 = h ∧ h2 = sI h 147 0 0) ∨ ∃ m, m ≤ n ∧ h1 = sI h 1 1 (nI m) ∧ h2 = sI (sI h1 147 0 0) 147 6 (nI m)) := by
  rcases end_both (x := x) F G hn e1 e2 with ⟨y1, y2⟩ | ⟨m, y0, y1, y2⟩
  · exact ⟨0, h, _, y1, y2, Or.inl ⟨rfl, rfl⟩⟩
  · have G1 : FdM (sI h 1 1 (nI m)) := G
    rcases end_both (x := x) F G1 hn e1 (by rw [hI_row _ _ _ _ (by decide)]; exact e2) with ⟨z1, _⟩ | ⟨m2, z0, z1, z2⟩
    · exfalso
      have := z1.symm.trans y1
      injection this with this
      injection this with this _
      exact absurd this (by decide)
    · have eq : sI h 1 1 (nI m2) = sI h 1 1 (nI m) := by
        have := z1.symm.trans y1
        injection this with this
        injection this
      exact ⟨_, _, _, y1, z2, Or.inr ⟨m2, z0, eq.symm, rfl⟩⟩
