/-! ===== words by their places; the classes have no floats ===== -/
theorem big_at {ws : List Cond} (ps : List Nat) (h : ws = ps.filterMap (fun i => lw_tbl[i]?)) (g : ws.all goodWord = true) : ∀ w ∈ ws, w ∈ bigW := by
  refine big_in (fun w hw => ?_) g
  rw [h] at hw
  obtain ⟨i, -, hi⟩ := List.mem_filterMap.mp hw
  exact List.mem_of_getElem? hi
theorem fd0 : ∀ j, j < nF 0 → tyF 0 j ≠ .float ∧ tyF 0 j ≠ .double := by decide +kernel
theorem fd1 : ∀ j, j < nF 1 → tyF 1 j ≠ .float ∧ tyF 1 j ≠ .double := by decide +kernel
theorem fd2 : ∀ j, j < nF 2 → tyF 2 j ≠ .float ∧ tyF 2 j ≠ .double := by decide +kernel
theorem fd3 : ∀ j, j < nF 3 → tyF 3 j ≠ .float ∧ tyF 3 j ≠ .double := by decide +kernel
theorem fd4 : ∀ j, j < nF 4 → tyF 4 j ≠ .float ∧ tyF 4 j ≠ .double := by decide +kernel
theorem fd5 : ∀ j, j < nF 5 → tyF 5 j ≠ .float ∧ tyF 5 j ≠ .double := by decide +kernel
theorem fd6 : ∀ j, j < nF 6 → tyF 6 j ≠ .float ∧ tyF 6 j ≠ .double := by decide +kernel
theorem fd7 : ∀ j, j < nF 7 → tyF 7 j ≠ .float ∧ tyF 7 j ≠ .double := by decide +kernel
theorem fd8 : ∀ j, j < nF 8 → tyF 8 j ≠ .float ∧ tyF 8 j ≠ .double := by decide +kernel
theorem fd9 : ∀ j, j < nF 9 → tyF 9 j ≠ .float ∧ tyF 9 j ≠ .double := by decide +kernel
theorem fd10 : ∀ j, j < nF 10 → tyF 10 j ≠ .float ∧ tyF 10 j ≠ .double := by decide +kernel
theorem fd11 : ∀ j, j < nF 11 → tyF 11 j ≠ .float ∧ tyF 11 j ≠ .double := by decide +kernel
theorem fd12 : ∀ j, j < nF 12 → tyF 12 j ≠ .float ∧ tyF 12 j ≠ .double := by decide +kernel
