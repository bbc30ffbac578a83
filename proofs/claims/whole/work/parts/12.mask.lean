/-! ===== at a loop's head the locals that nobody reads are forgotten ===== -/
def fgt (ks : List Nat) (ls : List (Option EV)) : List (Option EV) := match ks with
  | [] => ls
  | k :: r => fgt r (ls.set k none)
def o_mask (ks : List Nat) (o : Op) : Op := fun k ls st h => o k (fgt ks ls) st h
theorem fgt_get : ∀ (ks : List Nat) (ls : List (Option EV)) (i : Nat) (v : EV), (fgt ks ls)[i]? = some (some v) → ls[i]? = some (some v)
  | [], _, _, _, h => h
  | k :: r, ls, i, v, h => by
    have h1 := fgt_get r (ls.set k none) i v h
    by_cases e : k = i
    · subst e
      rw [List.getElem?_set] at h1
      simp at h1
    · rw [List.getElem?_set_ne e] at h1
      exact h1
theorem so_mask {bytes : ByteArray} {own : String} {nL : Nat} {ret : Option FieldType} {isI : Bool} {dF dL : Nat} {pc : Nat} {o : Op} {ks : List Nat} (ho : SoundOp bytes own nL ret isI dF dL pc o) : SoundOp bytes own nL ret isI dF dL pc (o_mask ks o) := by
  intro p l e R s m args below meth c b D cy pre n0 s0 out C hp k hk ls st h hz
  obtain ⟨g1, g2, g3, g⟩ := ho p l e R s m args below meth c b D cy pre n0 s0 out C hp k hk (fgt ks ls) st h hz
  exact ⟨g1, g2, g3, fun H locs cells slots lsM a1 a2 a3 a4 a5 a6 => g H locs cells slots lsM a1 a2 a3 a4 a5 ⟨a6.1, a6.2.1, fun i v hi => a6.2.2 i v (fgt_get ks ls i v hi)⟩⟩
theorem pr_mask {o : Op} {ks : List Nat} (h : Pr o) : Pr (o_mask ks o) := fun k ls st h0 x hx => h k (fgt ks ls) st h0 x hx
