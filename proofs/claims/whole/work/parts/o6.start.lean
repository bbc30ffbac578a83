/-! ===== the start: what stood before ===== -/
def sTb (j : Nat) : List Nat := match j with
  | 0 => [119, 116, 107, 110, 121, 109] | 1 => RIt | 2 => DIt | 3 => BIt | 4 => [9, 8, 6] | _ => [2, 3, 5]
def sLen (j : Nat) : Nat := match j with
  | 0 => 6 | 1 => 28 | 2 => 12 | 3 => 12 | 4 => 3 | _ => 3
def bTb (j : Nat) : List Nat := match j with
  | 0 => [121] | 1 => [119, 116, 107, 110, 121, 109] | 2 => [119, 109, 103, 116, 112, 107, 108] | 3 => [110, 118, 105] | 4 => [112, 113, 110] | _ => [119, 99, 115, 112]
def bLn (j : Nat) : Nat := match j with
  | 0 => 1 | 1 => 6 | 2 => 7 | 3 => 3 | 4 => 3 | _ => 4
def kd (ft L j : Nat) : Nat × Nat := if j < 6 then (25, sLen j) else if 10 ≤ j ∧ j < 16 then (40, 0) else if j = 30 then (25, L) else if j = 60 then (ft, 0) else if 110 ≤ j ∧ j < 116 then (27, bLn (j - 110)) else (99, 0)
def vd (xs : Nat → Int32) (j : Nat) : Nat → Int32 := if j < 6 then (fun i => nI (bT (sTb j) i)) else if j = 30 then xs else (fun i => nI (bT (bTb (j - 110)) i))
def hs0 (ft L : Nat) (xs : Nat → Int32) : Hp := ((0, 0), (fun a => if a < PRE then (99, 0) else kd ft L (a - PRE)), (fun _ _ => none), (fun _ _ => 0), (fun a => if a < PRE then (fun _ => 0) else vd xs (a - PRE)))
theorem hs0_lo {ft L : Nat} {xs : Nat → Int32} {a : Nat} (h : a < PRE) : hK (hs0 ft L xs) a = 99 := by
  show (if a < PRE then ((99, 0) : Nat × Nat) else kd ft L (a - PRE)).1 = 99
  rw [if_pos h]
theorem hs0_K (ft L : Nat) (xs : Nat → Int32) (j : Nat) : hK (hs0 ft L xs) (PRE + j) = (kd ft L j).1 := by
  show (if PRE + j < PRE then ((99, 0) : Nat × Nat) else kd ft L (PRE + j - PRE)).1 = _
  rw [if_neg (by omega), Nat.add_sub_cancel_left]
theorem hs0_E (ft L : Nat) (xs : Nat → Int32) (j : Nat) : hE (hs0 ft L xs) (PRE + j) = (kd ft L j).2 := by
  show (if PRE + j < PRE then ((99, 0) : Nat × Nat) else kd ft L (PRE + j - PRE)).2 = _
  rw [if_neg (by omega), Nat.add_sub_cancel_left]
theorem hs0_I (ft L : Nat) (xs : Nat → Int32) (j : Nat) : hI (hs0 ft L xs) (PRE + j) = vd xs j := by
  show (if PRE + j < PRE then (fun _ => 0) else vd xs (PRE + j - PRE)) = _
  rw [if_neg (by omega), Nat.add_sub_cancel_left]
theorem hc_start {b : Nat} {D : va_G} {cy : Nat → ClassId} {pre : Nat → Nat} {ft L : Nat} {xs : Nat → Int32} {U : State} {H : Heap}
    (F1 : ∀ j, j < 6 → va_T .int (pre j) (sLen j) (fun i => .int (nI (bT (sTb j) i))) (fun q => b ≤ q) U H)
    (F2 : ∀ j, j < 6 → StrAt (pre (10 + j)) (pre (110 + j)) b U H)
    (F3 : ∀ j, j < 6 → va_T .byte (pre (110 + j)) (bLn j) (fun i => .int (nI (bT (bTb j) i))) (fun q => b ≤ q) U H)
    (F4 : va_T .int (pre 30) L (fun i => .int (xs i)) (fun q => b ≤ q) U H)
    (F5 : (ft = 50 ∧ va_Z "jdk/internal/util/Preconditions" "SIOOBE_FORMATTER" "Ljava/util/function/BiFunction;" (.ref (pre 60)) (fun q => b ≤ q) U H) ∨ (ft = 51 ∧ va_Z "jdk/internal/util/Preconditions" "SIOOBE_FORMATTER" "Ljava/util/function/BiFunction;" .null (fun q => b ≤ q) U H)) :
    ∀ k, HC b D cy pre (hs0 ft L xs) U H k := by
  intro k
  by_cases hk : k < PRE
  · unfold HC
    rw [hs0_lo hk]
    refine ⟨fun z => absurd z (by decide), fun z => absurd z (by decide), fun z => absurd z (by decide), fun z => absurd z (by decide), fun z => absurd z (by decide), fun z => absurd z (by decide), fun z => absurd z (by decide), fun z => absurd z (by decide), fun z => absurd z (by decide)⟩
  · obtain ⟨j, rfl⟩ : ∃ j, k = PRE + j := ⟨k - PRE, by omega⟩
    unfold HC
    rw [hs0_K, hs0_E, hs0_I, Nat.add_sub_cancel_left]
    by_cases c1 : j < 6
    · have e1 : kd ft L j = (25, sLen j) := by unfold kd; rw [if_pos c1]
      have e2 : vd xs j = fun i => nI (bT (sTb j) i) := by unfold vd; rw [if_pos c1]
      rw [e1, e2]
      dsimp only
      refine ⟨fun z => absurd z (by decide), fun z => absurd z (by decide), fun z => absurd z (by decide), fun z => absurd z (by decide), fun _ => ⟨by omega, F1 j c1⟩, fun z => absurd z (by decide), fun z => absurd z (by decide), fun z => absurd z (by decide), fun z => absurd z (by decide)⟩
    · by_cases c2 : 10 ≤ j ∧ j < 16
      · have e1 : kd ft L j = (40, 0) := by unfold kd; rw [if_neg c1, if_pos c2]
        rw [e1]
        dsimp only
        refine ⟨fun z => absurd z (by decide), fun z => absurd z (by decide), fun z => absurd z (by decide), fun z => absurd z (by decide), fun z => absurd z (by decide), fun _ => ⟨by omega, ?_⟩, fun z => absurd z (by decide), fun z => absurd z (by decide), fun z => absurd z (by decide)⟩
        have := F2 (j - 10) (by omega)
        rw [show 10 + (j - 10) = j by omega, show 110 + (j - 10) = j + 100 by omega] at this
        exact this
      · by_cases c3 : j = 30
        · subst c3
          have e1 : kd ft L 30 = (25, L) := rfl
          have e2 : vd xs 30 = xs := rfl
          rw [e1, e2]
          dsimp only
          refine ⟨fun z => absurd z (by decide), fun z => absurd z (by decide), fun z => absurd z (by decide), fun z => absurd z (by decide), fun _ => ⟨by omega, F4⟩, fun z => absurd z (by decide), fun z => absurd z (by decide), fun z => absurd z (by decide), fun z => absurd z (by decide)⟩
        · by_cases c4 : j = 60
          · subst c4
            have e1 : kd ft L 60 = (ft, 0) := rfl
            rw [e1]
            dsimp only
            rcases F5 with ⟨rfl, F5⟩ | ⟨rfl, F5⟩
            · refine ⟨fun z => absurd z (by decide), fun z => absurd z (by decide), fun z => absurd z (by decide), fun z => absurd z (by decide), fun z => absurd z (by decide), fun z => absurd z (by decide), fun z => absurd z (by decide), fun _ => ⟨by omega, F5⟩, fun z => absurd z (by decide)⟩
            · refine ⟨fun z => absurd z (by decide), fun z => absurd z (by decide), fun z => absurd z (by decide), fun z => absurd z (by decide), fun z => absurd z (by decide), fun z => absurd z (by decide), fun z => absurd z (by decide), fun z => absurd z (by decide), fun _ => F5⟩
          · by_cases c5 : 110 ≤ j ∧ j < 116
            · have e1 : kd ft L j = (27, bLn (j - 110)) := by unfold kd; rw [if_neg c1, if_neg c2, if_neg c3, if_neg c4, if_pos c5]
              have e2 : vd xs j = fun i => nI (bT (bTb (j - 110)) i) := by unfold vd; rw [if_neg c1, if_neg c3]
              rw [e1, e2]
              dsimp only
              refine ⟨fun z => absurd z (by decide), fun z => absurd z (by decide), fun z => absurd z (by decide), fun z => absurd z (by decide), fun z => absurd z (by decide), fun z => absurd z (by decide), fun _ => ⟨by omega, ?_⟩, fun z => absurd z (by decide), fun z => absurd z (by decide)⟩
              have := F3 (j - 110) (by omega)
              rw [show 110 + (j - 110) = j by omega] at this
              exact this
            · have e1 : kd ft L j = (99, 0) := by unfold kd; rw [if_neg c1, if_neg c2, if_neg c3, if_neg c4, if_neg c5]
              rw [e1]
              dsimp only
              refine ⟨fun z => absurd z (by decide), fun z => absurd z (by decide), fun z => absurd z (by decide), fun z => absurd z (by decide), fun z => absurd z (by decide), fun z => absurd z (by decide), fun z => absurd z (by decide), fun z => absurd z (by decide), fun z => absurd z (by decide)⟩
theorem st_of {ft L : Nat} {xs : Nat → Int32} (hft : ft = 50 ∨ ft = 51) {j : Nat} (hj : j < 6) {n : Nat} (hn : bLn j = n) (hb : ∀ i, i < n → bT (bTb j) i < 128) (h1 : n < 100) : StL (hs0 ft L xs) (PRE + (10 + j)) n (bT (bTb j)) := by
  subst hn
  have a : PRE + (10 + j) + 100 = PRE + (110 + j) := by omega
  refine ⟨?_, ?_, ?_, h1, ?_, fun i hi => ⟨hb i hi, ?_⟩⟩
  · rw [hs0_K]; unfold kd; rw [if_neg (by omega), if_pos (by omega)]
  · rw [a, hs0_K]; unfold kd; rw [if_neg (by omega), if_neg (by omega), if_neg (by omega), if_neg (by omega), if_pos (by omega)]
  · rw [a, hs0_E]; unfold kd; rw [if_neg (by omega), if_neg (by omega), if_neg (by omega), if_neg (by omega), if_pos (by omega), show 110 + j - 110 = j by omega]
  · rw [hs0_K]; exact hft
  · rw [a, hs0_I]; unfold vd; rw [if_neg (by omega), if_neg (by omega), show 110 + j - 110 = j by omega]
theorem base0 {ft L : Nat} {xs : Nat → Int32} (hft : ft = 50 ∨ ft = 51) : BASE (hs0 ft L xs) := by
  have K := hs0_K ft L xs
  have E := hs0_E ft L xs
  have I := hs0_I ft L xs
  refine ⟨rfl, fun a h => hs0_lo h, ⟨⟨(K 1).trans rfl, (E 1).trans rfl, fun k _ => congrFun (I 1) k⟩, ⟨(K 2).trans rfl, (E 2).trans rfl, fun k _ => congrFun (I 2) k⟩, ⟨(K 3).trans rfl, (E 3).trans rfl, fun k _ => congrFun (I 3) k⟩⟩, ⟨?_, ?_, ?_⟩, ⟨(K 0).trans rfl, (E 0).trans rfl, (congrFun (I 0) 0).trans rfl, (congrFun (I 0) 1).trans rfl, (congrFun (I 0) 2).trans rfl, (congrFun (I 0) 3).trans rfl, (congrFun (I 0) 4).trans rfl, (congrFun (I 0) 5).trans rfl⟩, ⟨⟨(K 4).trans rfl, (E 4).trans rfl, (congrFun (I 4) 0).trans rfl, (congrFun (I 4) 1).trans rfl, (congrFun (I 4) 2).trans rfl⟩, ⟨(K 5).trans rfl, (E 5).trans rfl, (congrFun (I 5) 0).trans rfl, (congrFun (I 5) 1).trans rfl, (congrFun (I 5) 2).trans rfl⟩⟩, ?_, ?_, ?_⟩
  · exact st_of (j := 2) hft (by decide) rfl (by decide) (by decide)
  · exact st_of (j := 3) hft (by decide) rfl (by decide) (by decide)
  · exact st_of (j := 4) hft (by decide) rfl (by decide) (by decide)
  · exact st_of (j := 0) hft (by decide) rfl (by decide) (by decide)
  · exact st_of (j := 1) hft (by decide) rfl (by decide) (by decide)
  · exact st_of (j := 5) hft (by decide) rfl (by decide) (by decide)
theorem scr0 {ft L : Nat} {xs : Nat → Int32} : SCR (hs0 ft L xs) L := ⟨(hs0_K ft L xs 30).trans rfl, (hs0_E ft L xs 30).trans rfl⟩
