/-! ===== each instruction goes on in one place: so that fuel is enough or isn't ===== -/
def Pr (op : Op) : Prop := ∀ (k : Kt) (ls : List (Option EV)) (st : List EV) (h : Hp) (o : RV × Hp), op k ls st h = some o → ((∀ k' : Kt, op k' ls st h = some o) ∧ hN h ≤ hN o.2 ∧ hS h ≤ hS o.2) ∨ ∃ pc' ls' st' h', k pc' ls' st' h' = some o ∧ (hN h ≤ hN h' ∧ hS h ≤ hS h') ∧ ∀ k' : Kt, k' pc' ls' st' h' = some o → op k' ls st h = some o
def Gr (F : List EV → Hp → Option (RV × Hp)) : Prop := ∀ as h r h1, F as h = some (r, h1) → hN h ≤ hN h1 ∧ hS h ≤ hS h1
theorem pr_ic (x : Int32) (nx : Nat) : Pr (o_ic x nx) := fun k ls st h o ho => Or.inr ⟨_, _, _, _, ho, ⟨Nat.le_refl _, Nat.le_refl _⟩, fun k' hk => hk⟩
theorem pr_lc (x : Int64) (nx : Nat) : Pr (o_lc x nx) := fun k ls st h o ho => Or.inr ⟨_, _, _, _, ho, ⟨Nat.le_refl _, Nat.le_refl _⟩, fun k' hk => hk⟩
theorem pr_nul (nx : Nat) : Pr (o_nul nx) := fun k ls st h o ho => Or.inr ⟨_, _, _, _, ho, ⟨Nat.le_refl _, Nat.le_refl _⟩, fun k' hk => hk⟩
theorem pr_goto (nx : Nat) : Pr (o_goto nx) := fun k ls st h o ho => Or.inr ⟨_, _, _, _, ho, ⟨Nat.le_refl _, Nat.le_refl _⟩, fun k' hk => hk⟩
theorem pr_new (c nx : Nat) : Pr (o_new c nx) := fun k ls st h o ho => Or.inr ⟨_, _, _, _, ho, ⟨Nat.le_succ _, Nat.le_add_right _ _⟩, fun k' hk => hk⟩
theorem pr_pre (j nx : Nat) : Pr (o_pre j nx) := fun k ls st h o ho => Or.inr ⟨_, _, _, _, ho, ⟨Nat.le_refl _, Nat.le_refl _⟩, fun k' hk => hk⟩
theorem pr_fail : Pr failO := fun k ls st h o ho => by cases ho
theorem pr_il (i nx : Nat) : Pr (o_il i nx) := by
  intro k ls st h o ho
  have ho' := ho
  unfold o_il at ho'
  split at ho'
  · rename_i x hx
    refine Or.inr ⟨_, _, _, _, ho', ⟨Nat.le_refl _, Nat.le_refl _⟩, fun k' hk => ?_⟩
    unfold o_il
    rw [hx]
    exact hk
  · cases ho'
theorem pr_ll (i nx : Nat) : Pr (o_ll i nx) := by
  intro k ls st h o ho
  have ho' := ho
  unfold o_ll at ho'
  split at ho'
  · rename_i x hx
    refine Or.inr ⟨_, _, _, _, ho', ⟨Nat.le_refl _, Nat.le_refl _⟩, fun k' hk => ?_⟩
    unfold o_ll
    rw [hx]
    exact hk
  · cases ho'
theorem pr_al (i nx : Nat) : Pr (o_al i nx) := by
  intro k ls st h o ho
  have ho' := ho
  unfold o_al at ho'
  split at ho'
  · rename_i x hx
    refine Or.inr ⟨_, _, _, _, ho', ⟨Nat.le_refl _, Nat.le_refl _⟩, fun k' hk => ?_⟩
    unfold o_al
    rw [hx]
    exact hk
  · cases ho'
theorem pr_inc (i : Nat) (d : Int32) (nx : Nat) : Pr (o_inc i d nx) := by
  intro k ls st h o ho
  have ho' := ho
  unfold o_inc at ho'
  split at ho'
  · rename_i x hx
    refine Or.inr ⟨_, _, _, _, ho', ⟨Nat.le_refl _, Nat.le_refl _⟩, fun k' hk => ?_⟩
    unfold o_inc
    rw [hx]
    exact hk
  · cases ho'
theorem pr_is (i nx : Nat) : Pr (o_is i nx) := by
  intro k ls st h o ho
  unfold o_is at ho
  split at ho
  · exact Or.inr ⟨_, _, _, _, ho, ⟨Nat.le_refl _, Nat.le_refl _⟩, fun k' hk => hk⟩
  · cases ho
theorem pr_ls (i nx : Nat) : Pr (o_ls i nx) := by
  intro k ls st h o ho
  unfold o_ls at ho
  split at ho
  · exact Or.inr ⟨_, _, _, _, ho, ⟨Nat.le_refl _, Nat.le_refl _⟩, fun k' hk => hk⟩
  · cases ho
theorem pr_as (i nx : Nat) : Pr (o_as i nx) := by
  intro k ls st h o ho
  unfold o_as at ho
  split at ho
  · exact Or.inr ⟨_, _, _, _, ho, ⟨Nat.le_refl _, Nat.le_refl _⟩, fun k' hk => hk⟩
  · cases ho
theorem pr_iadd (nx : Nat) : Pr (o_iadd nx) := by
  intro k ls st h o ho
  unfold o_iadd at ho
  split at ho
  · exact Or.inr ⟨_, _, _, _, ho, ⟨Nat.le_refl _, Nat.le_refl _⟩, fun k' hk => hk⟩
  · cases ho
theorem pr_isub (nx : Nat) : Pr (o_isub nx) := by
  intro k ls st h o ho
  unfold o_isub at ho
  split at ho
  · exact Or.inr ⟨_, _, _, _, ho, ⟨Nat.le_refl _, Nat.le_refl _⟩, fun k' hk => hk⟩
  · cases ho
theorem pr_imul (nx : Nat) : Pr (o_imul nx) := by
  intro k ls st h o ho
  unfold o_imul at ho
  split at ho
  · exact Or.inr ⟨_, _, _, _, ho, ⟨Nat.le_refl _, Nat.le_refl _⟩, fun k' hk => hk⟩
  · cases ho
theorem pr_iand (nx : Nat) : Pr (o_iand nx) := by
  intro k ls st h o ho
  unfold o_iand at ho
  split at ho
  · exact Or.inr ⟨_, _, _, _, ho, ⟨Nat.le_refl _, Nat.le_refl _⟩, fun k' hk => hk⟩
  · cases ho
theorem pr_ior (nx : Nat) : Pr (o_ior nx) := by
  intro k ls st h o ho
  unfold o_ior at ho
  split at ho
  · exact Or.inr ⟨_, _, _, _, ho, ⟨Nat.le_refl _, Nat.le_refl _⟩, fun k' hk => hk⟩
  · cases ho
theorem pr_ixor (nx : Nat) : Pr (o_ixor nx) := by
  intro k ls st h o ho
  unfold o_ixor at ho
  split at ho
  · exact Or.inr ⟨_, _, _, _, ho, ⟨Nat.le_refl _, Nat.le_refl _⟩, fun k' hk => hk⟩
  · cases ho
theorem pr_ladd (nx : Nat) : Pr (o_ladd nx) := by
  intro k ls st h o ho
  unfold o_ladd at ho
  split at ho
  · exact Or.inr ⟨_, _, _, _, ho, ⟨Nat.le_refl _, Nat.le_refl _⟩, fun k' hk => hk⟩
  · cases ho
theorem pr_lsub (nx : Nat) : Pr (o_lsub nx) := by
  intro k ls st h o ho
  unfold o_lsub at ho
  split at ho
  · exact Or.inr ⟨_, _, _, _, ho, ⟨Nat.le_refl _, Nat.le_refl _⟩, fun k' hk => hk⟩
  · cases ho
theorem pr_lmul (nx : Nat) : Pr (o_lmul nx) := by
  intro k ls st h o ho
  unfold o_lmul at ho
  split at ho
  · exact Or.inr ⟨_, _, _, _, ho, ⟨Nat.le_refl _, Nat.le_refl _⟩, fun k' hk => hk⟩
  · cases ho
theorem pr_land (nx : Nat) : Pr (o_land nx) := by
  intro k ls st h o ho
  unfold o_land at ho
  split at ho
  · exact Or.inr ⟨_, _, _, _, ho, ⟨Nat.le_refl _, Nat.le_refl _⟩, fun k' hk => hk⟩
  · cases ho
theorem pr_lor (nx : Nat) : Pr (o_lor nx) := by
  intro k ls st h o ho
  unfold o_lor at ho
  split at ho
  · exact Or.inr ⟨_, _, _, _, ho, ⟨Nat.le_refl _, Nat.le_refl _⟩, fun k' hk => hk⟩
  · cases ho
theorem pr_lxor (nx : Nat) : Pr (o_lxor nx) := by
  intro k ls st h o ho
  unfold o_lxor at ho
  split at ho
  · exact Or.inr ⟨_, _, _, _, ho, ⟨Nat.le_refl _, Nat.le_refl _⟩, fun k' hk => hk⟩
  · cases ho
theorem pr_ishl (nx : Nat) : Pr (o_ishl nx) := by
  intro k ls st h o ho
  unfold o_ishl at ho
  split at ho
  · exact Or.inr ⟨_, _, _, _, ho, ⟨Nat.le_refl _, Nat.le_refl _⟩, fun k' hk => hk⟩
  · cases ho
theorem pr_ishr (nx : Nat) : Pr (o_ishr nx) := by
  intro k ls st h o ho
  unfold o_ishr at ho
  split at ho
  · exact Or.inr ⟨_, _, _, _, ho, ⟨Nat.le_refl _, Nat.le_refl _⟩, fun k' hk => hk⟩
  · cases ho
theorem pr_iushr (nx : Nat) : Pr (o_iushr nx) := by
  intro k ls st h o ho
  unfold o_iushr at ho
  split at ho
  · exact Or.inr ⟨_, _, _, _, ho, ⟨Nat.le_refl _, Nat.le_refl _⟩, fun k' hk => hk⟩
  · cases ho
theorem pr_lushr (nx : Nat) : Pr (o_lushr nx) := by
  intro k ls st h o ho
  unfold o_lushr at ho
  split at ho
  · exact Or.inr ⟨_, _, _, _, ho, ⟨Nat.le_refl _, Nat.le_refl _⟩, fun k' hk => hk⟩
  · cases ho
theorem pr_lshl (nx : Nat) : Pr (o_lshl nx) := by
  intro k ls st h o ho
  unfold o_lshl at ho
  split at ho
  · exact Or.inr ⟨_, _, _, _, ho, ⟨Nat.le_refl _, Nat.le_refl _⟩, fun k' hk => hk⟩
  · cases ho
theorem pr_i2l (nx : Nat) : Pr (o_i2l nx) := by
  intro k ls st h o ho
  unfold o_i2l at ho
  split at ho
  · exact Or.inr ⟨_, _, _, _, ho, ⟨Nat.le_refl _, Nat.le_refl _⟩, fun k' hk => hk⟩
  · cases ho
theorem pr_l2i (nx : Nat) : Pr (o_l2i nx) := by
  intro k ls st h o ho
  unfold o_l2i at ho
  split at ho
  · exact Or.inr ⟨_, _, _, _, ho, ⟨Nat.le_refl _, Nat.le_refl _⟩, fun k' hk => hk⟩
  · cases ho
theorem pr_i2b (nx : Nat) : Pr (o_i2b nx) := by
  intro k ls st h o ho
  unfold o_i2b at ho
  split at ho
  · exact Or.inr ⟨_, _, _, _, ho, ⟨Nat.le_refl _, Nat.le_refl _⟩, fun k' hk => hk⟩
  · cases ho
theorem pr_lcmp (nx : Nat) : Pr (o_lcmp nx) := by
  intro k ls st h o ho
  unfold o_lcmp at ho
  split at ho
  · exact Or.inr ⟨_, _, _, _, ho, ⟨Nat.le_refl _, Nat.le_refl _⟩, fun k' hk => hk⟩
  · cases ho
theorem pr_dupI (nx : Nat) : Pr (o_dupI nx) := by
  intro k ls st h o ho
  unfold o_dupI at ho
  split at ho
  · exact Or.inr ⟨_, _, _, _, ho, ⟨Nat.le_refl _, Nat.le_refl _⟩, fun k' hk => hk⟩
  · cases ho
theorem pr_popI (nx : Nat) : Pr (o_popI nx) := by
  intro k ls st h o ho
  unfold o_popI at ho
  split at ho
  · exact Or.inr ⟨_, _, _, _, ho, ⟨Nat.le_refl _, Nat.le_refl _⟩, fun k' hk => hk⟩
  · cases ho
theorem pr_dup2LL (nx : Nat) : Pr (o_dup2LL nx) := by
  intro k ls st h o ho
  unfold o_dup2LL at ho
  split at ho
  · exact Or.inr ⟨_, _, _, _, ho, ⟨Nat.le_refl _, Nat.le_refl _⟩, fun k' hk => hk⟩
  · cases ho
theorem pr_dupR (nx : Nat) : Pr (o_dupR nx) := by
  intro k ls st h o ho
  unfold o_dupR at ho
  split at ho
  · exact Or.inr ⟨_, _, _, _, ho, ⟨Nat.le_refl _, Nat.le_refl _⟩, fun k' hk => hk⟩
  · cases ho
theorem pr_popR (nx : Nat) : Pr (o_popR nx) := by
  intro k ls st h o ho
  unfold o_popR at ho
  split at ho
  · exact Or.inr ⟨_, _, _, _, ho, ⟨Nat.le_refl _, Nat.le_refl _⟩, fun k' hk => hk⟩
  · cases ho
theorem pr_dup2A (nx : Nat) : Pr (o_dup2A nx) := by
  intro k ls st h o ho
  unfold o_dup2A at ho
  split at ho
  · exact Or.inr ⟨_, _, _, _, ho, ⟨Nat.le_refl _, Nat.le_refl _⟩, fun k' hk => hk⟩
  · cases ho
theorem pr_dupx1 (nx : Nat) : Pr (o_dupx1 nx) := by
  intro k ls st h o ho
  unfold o_dupx1 at ho
  split at ho
  · exact Or.inr ⟨_, _, _, _, ho, ⟨Nat.le_refl _, Nat.le_refl _⟩, fun k' hk => hk⟩
  · cases ho
theorem pr_sw (ts : List (Int32 × Nat)) (d : Nat) : Pr (o_sw ts d) := by
  intro k ls st h o ho
  unfold o_sw at ho
  split at ho
  · rename_i x st'
    rw [swO_eq] at ho
    refine Or.inr ⟨_, _, _, _, ho, ⟨Nat.le_refl _, Nat.le_refl _⟩, fun k' hk => ?_⟩
    show swO ts d x (fun q => k' q ls st' h) = some o
    rw [swO_eq]
    exact hk
  · cases ho
theorem pr_idiv (nx : Nat) : Pr (o_idiv nx) := by
  intro k ls st h o ho
  unfold o_idiv at ho
  split at ho
  · split at ho
    · cases ho
    · rename_i hc
      refine Or.inr ⟨_, _, _, _, ho, ⟨Nat.le_refl _, Nat.le_refl _⟩, fun k' hk => ?_⟩
      show (if _ then none else _) = some o
      rw [if_neg hc]
      exact hk
  · cases ho
theorem pr_irem (nx : Nat) : Pr (o_irem nx) := by
  intro k ls st h o ho
  unfold o_irem at ho
  split at ho
  · split at ho
    · cases ho
    · rename_i hc
      refine Or.inr ⟨_, _, _, _, ho, ⟨Nat.le_refl _, Nat.le_refl _⟩, fun k' hk => ?_⟩
      show (if _ then none else _) = some o
      rw [if_neg hc]
      exact hk
  · cases ho
theorem pr_ldiv (nx : Nat) : Pr (o_ldiv nx) := by
  intro k ls st h o ho
  unfold o_ldiv at ho
  split at ho
  · split at ho
    · cases ho
    · rename_i hc
      refine Or.inr ⟨_, _, _, _, ho, ⟨Nat.le_refl _, Nat.le_refl _⟩, fun k' hk => ?_⟩
      show (if _ then none else _) = some o
      rw [if_neg hc]
      exact hk
  · cases ho
theorem pr_lrem (nx : Nat) : Pr (o_lrem nx) := by
  intro k ls st h o ho
  unfold o_lrem at ho
  split at ho
  · split at ho
    · cases ho
    · rename_i hc
      refine Or.inr ⟨_, _, _, _, ho, ⟨Nat.le_refl _, Nat.le_refl _⟩, fun k' hk => ?_⟩
      show (if _ then none else _) = some o
      rw [if_neg hc]
      exact hk
  · cases ho
theorem pr_zeq (tgt nx : Nat) : Pr (o_zeq tgt nx) := by
  intro k ls st h o ho
  unfold o_zeq at ho
  split at ho
  · split at ho
    · rename_i hc
      refine Or.inr ⟨_, _, _, _, ho, ⟨Nat.le_refl _, Nat.le_refl _⟩, fun k' hk => ?_⟩
      show (if _ then _ else _) = some o
      rw [if_pos hc]
      exact hk
    · rename_i hc
      refine Or.inr ⟨_, _, _, _, ho, ⟨Nat.le_refl _, Nat.le_refl _⟩, fun k' hk => ?_⟩
      show (if _ then _ else _) = some o
      rw [if_neg hc]
      exact hk
  · cases ho
theorem pr_zne (tgt nx : Nat) : Pr (o_zne tgt nx) := by
  intro k ls st h o ho
  unfold o_zne at ho
  split at ho
  · split at ho
    · rename_i hc
      refine Or.inr ⟨_, _, _, _, ho, ⟨Nat.le_refl _, Nat.le_refl _⟩, fun k' hk => ?_⟩
      show (if _ then _ else _) = some o
      rw [if_pos hc]
      exact hk
    · rename_i hc
      refine Or.inr ⟨_, _, _, _, ho, ⟨Nat.le_refl _, Nat.le_refl _⟩, fun k' hk => ?_⟩
      show (if _ then _ else _) = some o
      rw [if_neg hc]
      exact hk
  · cases ho
theorem pr_zlt (tgt nx : Nat) : Pr (o_zlt tgt nx) := by
  intro k ls st h o ho
  unfold o_zlt at ho
  split at ho
  · split at ho
    · rename_i hc
      refine Or.inr ⟨_, _, _, _, ho, ⟨Nat.le_refl _, Nat.le_refl _⟩, fun k' hk => ?_⟩
      show (if _ then _ else _) = some o
      rw [if_pos hc]
      exact hk
    · rename_i hc
      refine Or.inr ⟨_, _, _, _, ho, ⟨Nat.le_refl _, Nat.le_refl _⟩, fun k' hk => ?_⟩
      show (if _ then _ else _) = some o
      rw [if_neg hc]
      exact hk
  · cases ho
theorem pr_zge (tgt nx : Nat) : Pr (o_zge tgt nx) := by
  intro k ls st h o ho
  unfold o_zge at ho
  split at ho
  · split at ho
    · rename_i hc
      refine Or.inr ⟨_, _, _, _, ho, ⟨Nat.le_refl _, Nat.le_refl _⟩, fun k' hk => ?_⟩
      show (if _ then _ else _) = some o
      rw [if_pos hc]
      exact hk
    · rename_i hc
      refine Or.inr ⟨_, _, _, _, ho, ⟨Nat.le_refl _, Nat.le_refl _⟩, fun k' hk => ?_⟩
      show (if _ then _ else _) = some o
      rw [if_neg hc]
      exact hk
  · cases ho
theorem pr_zgt (tgt nx : Nat) : Pr (o_zgt tgt nx) := by
  intro k ls st h o ho
  unfold o_zgt at ho
  split at ho
  · split at ho
    · rename_i hc
      refine Or.inr ⟨_, _, _, _, ho, ⟨Nat.le_refl _, Nat.le_refl _⟩, fun k' hk => ?_⟩
      show (if _ then _ else _) = some o
      rw [if_pos hc]
      exact hk
    · rename_i hc
      refine Or.inr ⟨_, _, _, _, ho, ⟨Nat.le_refl _, Nat.le_refl _⟩, fun k' hk => ?_⟩
      show (if _ then _ else _) = some o
      rw [if_neg hc]
      exact hk
  · cases ho
theorem pr_zle (tgt nx : Nat) : Pr (o_zle tgt nx) := by
  intro k ls st h o ho
  unfold o_zle at ho
  split at ho
  · split at ho
    · rename_i hc
      refine Or.inr ⟨_, _, _, _, ho, ⟨Nat.le_refl _, Nat.le_refl _⟩, fun k' hk => ?_⟩
      show (if _ then _ else _) = some o
      rw [if_pos hc]
      exact hk
    · rename_i hc
      refine Or.inr ⟨_, _, _, _, ho, ⟨Nat.le_refl _, Nat.le_refl _⟩, fun k' hk => ?_⟩
      show (if _ then _ else _) = some o
      rw [if_neg hc]
      exact hk
  · cases ho
theorem pr_ceq (tgt nx : Nat) : Pr (o_ceq tgt nx) := by
  intro k ls st h o ho
  unfold o_ceq at ho
  split at ho
  · split at ho
    · rename_i hc
      refine Or.inr ⟨_, _, _, _, ho, ⟨Nat.le_refl _, Nat.le_refl _⟩, fun k' hk => ?_⟩
      show (if _ then _ else _) = some o
      rw [if_pos hc]
      exact hk
    · rename_i hc
      refine Or.inr ⟨_, _, _, _, ho, ⟨Nat.le_refl _, Nat.le_refl _⟩, fun k' hk => ?_⟩
      show (if _ then _ else _) = some o
      rw [if_neg hc]
      exact hk
  · cases ho
theorem pr_cne (tgt nx : Nat) : Pr (o_cne tgt nx) := by
  intro k ls st h o ho
  unfold o_cne at ho
  split at ho
  · split at ho
    · rename_i hc
      refine Or.inr ⟨_, _, _, _, ho, ⟨Nat.le_refl _, Nat.le_refl _⟩, fun k' hk => ?_⟩
      show (if _ then _ else _) = some o
      rw [if_pos hc]
      exact hk
    · rename_i hc
      refine Or.inr ⟨_, _, _, _, ho, ⟨Nat.le_refl _, Nat.le_refl _⟩, fun k' hk => ?_⟩
      show (if _ then _ else _) = some o
      rw [if_neg hc]
      exact hk
  · cases ho
theorem pr_clt (tgt nx : Nat) : Pr (o_clt tgt nx) := by
  intro k ls st h o ho
  unfold o_clt at ho
  split at ho
  · split at ho
    · rename_i hc
      refine Or.inr ⟨_, _, _, _, ho, ⟨Nat.le_refl _, Nat.le_refl _⟩, fun k' hk => ?_⟩
      show (if _ then _ else _) = some o
      rw [if_pos hc]
      exact hk
    · rename_i hc
      refine Or.inr ⟨_, _, _, _, ho, ⟨Nat.le_refl _, Nat.le_refl _⟩, fun k' hk => ?_⟩
      show (if _ then _ else _) = some o
      rw [if_neg hc]
      exact hk
  · cases ho
theorem pr_cge (tgt nx : Nat) : Pr (o_cge tgt nx) := by
  intro k ls st h o ho
  unfold o_cge at ho
  split at ho
  · split at ho
    · rename_i hc
      refine Or.inr ⟨_, _, _, _, ho, ⟨Nat.le_refl _, Nat.le_refl _⟩, fun k' hk => ?_⟩
      show (if _ then _ else _) = some o
      rw [if_pos hc]
      exact hk
    · rename_i hc
      refine Or.inr ⟨_, _, _, _, ho, ⟨Nat.le_refl _, Nat.le_refl _⟩, fun k' hk => ?_⟩
      show (if _ then _ else _) = some o
      rw [if_neg hc]
      exact hk
  · cases ho
theorem pr_cgt (tgt nx : Nat) : Pr (o_cgt tgt nx) := by
  intro k ls st h o ho
  unfold o_cgt at ho
  split at ho
  · split at ho
    · rename_i hc
      refine Or.inr ⟨_, _, _, _, ho, ⟨Nat.le_refl _, Nat.le_refl _⟩, fun k' hk => ?_⟩
      show (if _ then _ else _) = some o
      rw [if_pos hc]
      exact hk
    · rename_i hc
      refine Or.inr ⟨_, _, _, _, ho, ⟨Nat.le_refl _, Nat.le_refl _⟩, fun k' hk => ?_⟩
      show (if _ then _ else _) = some o
      rw [if_neg hc]
      exact hk
  · cases ho
theorem pr_cle (tgt nx : Nat) : Pr (o_cle tgt nx) := by
  intro k ls st h o ho
  unfold o_cle at ho
  split at ho
  · split at ho
    · rename_i hc
      refine Or.inr ⟨_, _, _, _, ho, ⟨Nat.le_refl _, Nat.le_refl _⟩, fun k' hk => ?_⟩
      show (if _ then _ else _) = some o
      rw [if_pos hc]
      exact hk
    · rename_i hc
      refine Or.inr ⟨_, _, _, _, ho, ⟨Nat.le_refl _, Nat.le_refl _⟩, fun k' hk => ?_⟩
      show (if _ then _ else _) = some o
      rw [if_neg hc]
      exact hk
  · cases ho
theorem pr_ifnull (tgt nx : Nat) : Pr (o_ifnull tgt nx) := by
  intro k ls st h o ho
  unfold o_ifnull at ho
  split at ho
  · rename_i r st'
    cases r with
    | none => exact Or.inr ⟨_, _, _, _, ho, ⟨Nat.le_refl _, Nat.le_refl _⟩, fun k' hk => hk⟩
    | some x => exact Or.inr ⟨_, _, _, _, ho, ⟨Nat.le_refl _, Nat.le_refl _⟩, fun k' hk => hk⟩
  · cases ho
theorem pr_ifnn (tgt nx : Nat) : Pr (o_ifnn tgt nx) := by
  intro k ls st h o ho
  unfold o_ifnn at ho
  split at ho
  · rename_i r st'
    cases r with
    | none => exact Or.inr ⟨_, _, _, _, ho, ⟨Nat.le_refl _, Nat.le_refl _⟩, fun k' hk => hk⟩
    | some x => exact Or.inr ⟨_, _, _, _, ho, ⟨Nat.le_refl _, Nat.le_refl _⟩, fun k' hk => hk⟩
  · cases ho
theorem pr_iret : Pr o_iret := by
  intro k ls st h o ho
  refine Or.inl ⟨fun _ => ho, ?_⟩
  unfold o_iret at ho
  split at ho
  · cases ho; exact ⟨Nat.le_refl _, Nat.le_refl _⟩
  · cases ho
theorem pr_lret : Pr o_lret := by
  intro k ls st h o ho
  refine Or.inl ⟨fun _ => ho, ?_⟩
  unfold o_lret at ho
  split at ho
  · cases ho; exact ⟨Nat.le_refl _, Nat.le_refl _⟩
  · cases ho
theorem pr_aret : Pr o_aret := by
  intro k ls st h o ho
  refine Or.inl ⟨fun _ => ho, ?_⟩
  unfold o_aret at ho
  split at ho
  · cases ho; exact ⟨Nat.le_refl _, Nat.le_refl _⟩
  · cases ho
theorem pr_vret : Pr o_vret := by
  intro k ls st h o ho
  refine Or.inl ⟨fun _ => ho, ?_⟩
  unfold o_vret at ho
  split at ho
  · cases ho; exact ⟨Nat.le_refl _, Nat.le_refl _⟩
  · cases ho
theorem pr_zret : Pr o_zret := by
  intro k ls st h o ho
  refine Or.inl ⟨fun _ => ho, ?_⟩
  unfold o_zret at ho
  split at ho
  · rename_i x
    cases hx : isZ x with
    | false => rw [hx] at ho; cases ho
    | true => rw [hx] at ho; cases ho; exact ⟨Nat.le_refl _, Nat.le_refl _⟩
  · cases ho
theorem pr_gI (c j nx : Nat) : Pr (o_gI c j nx) := by
  intro k ls st h o ho
  unfold o_gI at ho
  split at ho
  · obtain ⟨a, rfl, hz⟩ := dR_out ho
    split at hz
    · rename_i hc
      refine Or.inr ⟨_, _, _, _, hz, ⟨Nat.le_refl _, Nat.le_refl _⟩, fun k' hk => ?_⟩
      show (if hK h a = c then _ else none) = some o
      rw [if_pos hc]
      exact hk
    · cases hz
  · cases ho
theorem pr_gL (c j nx : Nat) : Pr (o_gL c j nx) := by
  intro k ls st h o ho
  unfold o_gL at ho
  split at ho
  · obtain ⟨a, rfl, hz⟩ := dR_out ho
    split at hz
    · rename_i hc
      refine Or.inr ⟨_, _, _, _, hz, ⟨Nat.le_refl _, Nat.le_refl _⟩, fun k' hk => ?_⟩
      show (if hK h a = c then _ else none) = some o
      rw [if_pos hc]
      exact hk
    · cases hz
  · cases ho
theorem pr_gR (c j nx : Nat) : Pr (o_gR c j nx) := by
  intro k ls st h o ho
  unfold o_gR at ho
  split at ho
  · obtain ⟨a, rfl, hz⟩ := dR_out ho
    split at hz
    · rename_i hc
      refine Or.inr ⟨_, _, _, _, hz, ⟨Nat.le_refl _, Nat.le_refl _⟩, fun k' hk => ?_⟩
      show (if hK h a = c then _ else none) = some o
      rw [if_pos hc]
      exact hk
    · cases hz
  · cases ho
theorem pr_pI (c j nx : Nat) : Pr (o_pI c j nx) := by
  intro k ls st h o ho
  unfold o_pI at ho
  split at ho
  · obtain ⟨a, rfl, hz⟩ := dR_out ho
    split at hz
    · rename_i hc
      refine Or.inr ⟨_, _, _, _, hz, ⟨Nat.le_refl _, Nat.le_refl _⟩, fun k' hk => ?_⟩
      show (if hK h a = c then _ else none) = some o
      rw [if_pos hc]
      exact hk
    · cases hz
  · cases ho
theorem pr_pL (c j nx : Nat) : Pr (o_pL c j nx) := by
  intro k ls st h o ho
  unfold o_pL at ho
  split at ho
  · obtain ⟨a, rfl, hz⟩ := dR_out ho
    split at hz
    · rename_i hc
      refine Or.inr ⟨_, _, _, _, hz, ⟨Nat.le_refl _, Nat.le_refl _⟩, fun k' hk => ?_⟩
      show (if hK h a = c then _ else none) = some o
      rw [if_pos hc]
      exact hk
    · cases hz
  · cases ho
theorem pr_pR (c j nx : Nat) : Pr (o_pR c j nx) := by
  intro k ls st h o ho
  unfold o_pR at ho
  split at ho
  · obtain ⟨a, rfl, hz⟩ := dR_out ho
    split at hz
    · rename_i hc
      refine Or.inr ⟨_, _, _, _, hz, ⟨Nat.le_refl _, Nat.le_refl _⟩, fun k' hk => ?_⟩
      show (if hK h a = c then _ else none) = some o
      rw [if_pos hc]
      exact hk
    · cases hz
  · cases ho
theorem pr_pZ (c j nx : Nat) : Pr (o_pZ c j nx) := by
  intro k ls st h o ho
  unfold o_pZ at ho
  split at ho
  · rename_i x r st'
    obtain ⟨a, rfl, hz⟩ := dR_out ho
    split at hz
    · rename_i hc
      cases hx : isZ x with
      | false => rw [hx] at hz; cases hz
      | true =>
        rw [hx] at hz
        refine Or.inr ⟨_, _, _, _, hz, ⟨Nat.le_refl _, Nat.le_refl _⟩, fun k' hk => ?_⟩
        show (if hK h a = c then (bif isZ x then _ else none) else none) = some o
        rw [if_pos hc, hx]
        exact hk
    · cases hz
  · cases ho
theorem pr_iald (nx : Nat) : Pr (o_iald nx) := by
  intro k ls st h o ho
  unfold o_iald at ho
  split at ho
  · rename_i i r st'
    obtain ⟨a, rfl, hz⟩ := dR_out ho
    cases hx : (iaK (hK h a) && inb i (hE h a)) with
    | false => rw [hx] at hz; cases hz
    | true =>
      rw [hx] at hz
      refine Or.inr ⟨_, _, _, _, hz, ⟨Nat.le_refl _, Nat.le_refl _⟩, fun k' hk => ?_⟩
      show (bif (iaK (hK h a) && inb i (hE h a)) then _ else none) = some o
      rw [hx]
      exact hk
  · cases ho
theorem pr_bald (nx : Nat) : Pr (o_bald nx) := by
  intro k ls st h o ho
  unfold o_bald at ho
  split at ho
  · rename_i i r st'
    obtain ⟨a, rfl, hz⟩ := dR_out ho
    cases hx : (Nat.beq (hK h a) 21 && inb i (hE h a)) with
    | false => rw [hx] at hz; cases hz
    | true =>
      rw [hx] at hz
      refine Or.inr ⟨_, _, _, _, hz, ⟨Nat.le_refl _, Nat.le_refl _⟩, fun k' hk => ?_⟩
      show (bif (Nat.beq (hK h a) 21 && inb i (hE h a)) then _ else none) = some o
      rw [hx]
      exact hk
  · cases ho
theorem pr_zald (nx : Nat) : Pr (o_zald nx) := by
  intro k ls st h o ho
  unfold o_zald at ho
  split at ho
  · rename_i i r st'
    obtain ⟨a, rfl, hz⟩ := dR_out ho
    cases hx : (Nat.beq (hK h a) 22 && inb i (hE h a)) with
    | false => rw [hx] at hz; cases hz
    | true =>
      rw [hx] at hz
      refine Or.inr ⟨_, _, _, _, hz, ⟨Nat.le_refl _, Nat.le_refl _⟩, fun k' hk => ?_⟩
      show (bif (Nat.beq (hK h a) 22 && inb i (hE h a)) then _ else none) = some o
      rw [hx]
      exact hk
  · cases ho
theorem pr_lald (nx : Nat) : Pr (o_lald nx) := by
  intro k ls st h o ho
  unfold o_lald at ho
  split at ho
  · rename_i i r st'
    obtain ⟨a, rfl, hz⟩ := dR_out ho
    cases hx : (Nat.beq (hK h a) 23 && inb i (hE h a)) with
    | false => rw [hx] at hz; cases hz
    | true =>
      rw [hx] at hz
      refine Or.inr ⟨_, _, _, _, hz, ⟨Nat.le_refl _, Nat.le_refl _⟩, fun k' hk => ?_⟩
      show (bif (Nat.beq (hK h a) 23 && inb i (hE h a)) then _ else none) = some o
      rw [hx]
      exact hk
  · cases ho
theorem pr_aald (kc nx : Nat) : Pr (o_aald kc nx) := by
  intro k ls st h o ho
  unfold o_aald at ho
  split at ho
  · rename_i i r st'
    obtain ⟨a, rfl, hz⟩ := dR_out ho
    cases hx : (Nat.beq (hK h a) kc && inb i (hE h a)) with
    | false => rw [hx] at hz; cases hz
    | true =>
      rw [hx] at hz
      refine Or.inr ⟨_, _, _, _, hz, ⟨Nat.le_refl _, Nat.le_refl _⟩, fun k' hk => ?_⟩
      show (bif (Nat.beq (hK h a) kc && inb i (hE h a)) then _ else none) = some o
      rw [hx]
      exact hk
  · cases ho
theorem pr_iast (nx : Nat) : Pr (o_iast nx) := by
  intro k ls st h o ho
  unfold o_iast at ho
  split at ho
  · rename_i x i r st'
    obtain ⟨a, rfl, hz⟩ := dR_out ho
    cases hx : (Nat.beq (hK h a) 20 && inb i (hE h a)) with
    | false => rw [hx] at hz; cases hz
    | true =>
      rw [hx] at hz
      refine Or.inr ⟨_, _, _, _, hz, ⟨Nat.le_refl _, Nat.le_refl _⟩, fun k' hk => ?_⟩
      show (bif (Nat.beq (hK h a) 20 && inb i (hE h a)) then _ else none) = some o
      rw [hx]
      exact hk
  · cases ho
theorem pr_bast (nx : Nat) : Pr (o_bast nx) := by
  intro k ls st h o ho
  unfold o_bast at ho
  split at ho
  · rename_i x i r st'
    obtain ⟨a, rfl, hz⟩ := dR_out ho
    cases hx : (Nat.beq (hK h a) 21 && inb i (hE h a)) with
    | false => rw [hx] at hz; cases hz
    | true =>
      rw [hx] at hz
      refine Or.inr ⟨_, _, _, _, hz, ⟨Nat.le_refl _, Nat.le_refl _⟩, fun k' hk => ?_⟩
      show (bif (Nat.beq (hK h a) 21 && inb i (hE h a)) then _ else none) = some o
      rw [hx]
      exact hk
  · cases ho
theorem pr_zast (nx : Nat) : Pr (o_zast nx) := by
  intro k ls st h o ho
  unfold o_zast at ho
  split at ho
  · rename_i x i r st'
    obtain ⟨a, rfl, hz⟩ := dR_out ho
    cases hx : (Nat.beq (hK h a) 22 && inb i (hE h a)) with
    | false => rw [hx] at hz; cases hz
    | true =>
      rw [hx] at hz
      refine Or.inr ⟨_, _, _, _, hz, ⟨Nat.le_refl _, Nat.le_refl _⟩, fun k' hk => ?_⟩
      show (bif (Nat.beq (hK h a) 22 && inb i (hE h a)) then _ else none) = some o
      rw [hx]
      exact hk
  · cases ho
theorem pr_last (nx : Nat) : Pr (o_last nx) := by
  intro k ls st h o ho
  unfold o_last at ho
  split at ho
  · rename_i x i r st'
    obtain ⟨a, rfl, hz⟩ := dR_out ho
    cases hx : (Nat.beq (hK h a) 23 && inb i (hE h a)) with
    | false => rw [hx] at hz; cases hz
    | true =>
      rw [hx] at hz
      refine Or.inr ⟨_, _, _, _, hz, ⟨Nat.le_refl _, Nat.le_refl _⟩, fun k' hk => ?_⟩
      show (bif (Nat.beq (hK h a) 23 && inb i (hE h a)) then _ else none) = some o
      rw [hx]
      exact hk
  · cases ho
theorem pr_alen (nx : Nat) : Pr (o_alen nx) := by
  intro k ls st h o ho
  unfold o_alen at ho
  split at ho
  · rename_i r st'
    obtain ⟨a, rfl, hz⟩ := dR_out ho
    cases hx : (alK (hK h a)) with
    | false => rw [hx] at hz; cases hz
    | true =>
      rw [hx] at hz
      refine Or.inr ⟨_, _, _, _, hz, ⟨Nat.le_refl _, Nat.le_refl _⟩, fun k' hk => ?_⟩
      show (bif (alK (hK h a)) then _ else none) = some o
      rw [hx]
      exact hk
  · cases ho
theorem pr_aast (kc c nx : Nat) : Pr (o_aast kc c nx) := by
  intro k ls st h o ho
  unfold o_aast at ho
  split at ho
  · rename_i v i r st'
    obtain ⟨x, rfl, hy⟩ := dR_out ho
    obtain ⟨a, rfl, hz⟩ := dR_out hy
    cases hx : (Nat.beq (hK h a) kc && inb i (hE h a) && Nat.beq (hK h x) c) with
    | false => rw [hx] at hz; cases hz
    | true =>
      rw [hx] at hz
      refine Or.inr ⟨_, _, _, _, hz, ⟨Nat.le_refl _, Nat.le_refl _⟩, fun k' hk => ?_⟩
      show (bif (Nat.beq (hK h a) kc && inb i (hE h a) && Nat.beq (hK h x) c) then _ else none) = some o
      rw [hx]
      exact hk
  · cases ho
theorem pr_newa (kc nx : Nat) : Pr (o_newa kc nx) := by
  intro k ls st h o ho
  unfold o_newa at ho
  split at ho
  · rename_i n st'
    cases hx : (decide (n < 0) || decide (1000000 < n.toNatClampNeg)) with
    | true => rw [hx] at ho; cases ho
    | false =>
      rw [hx] at ho
      refine Or.inr ⟨_, _, _, _, ho, ⟨Nat.le_succ _, Nat.le_add_right _ _⟩, fun k' hk => ?_⟩
      show (bif (decide (n < 0) || decide (1000000 < n.toNatClampNeg)) then none else _) = some o
      rw [hx]
      exact hk
  · cases ho
theorem pr_oini (nx : Nat) : Pr (o_oini nx) := by
  intro k ls st h o ho
  unfold o_oini at ho
  split at ho
  · rename_i r st'
    obtain ⟨a, rfl, hz⟩ := dR_out ho
    cases hx : Nat.ble (catS st') 8 with
    | false => rw [hx] at hz; cases hz
    | true =>
      rw [hx] at hz
      refine Or.inr ⟨_, _, _, _, hz, ⟨Nat.le_refl _, Nat.le_refl _⟩, fun k' hk => ?_⟩
      show (bif Nat.ble (catS st') 8 then _ else none) = some o
      rw [hx]
      exact hk
  · cases ho
theorem pr_max (nx : Nat) : Pr (o_max nx) := by
  intro k ls st h o ho
  unfold o_max at ho
  split at ho
  · rename_i y x st'
    cases hx : Nat.ble (catS st') 8 with
    | false => rw [hx] at ho; cases ho
    | true =>
      rw [hx] at ho
      refine Or.inr ⟨_, _, _, _, ho, ⟨Nat.le_refl _, Nat.le_refl _⟩, fun k' hk => ?_⟩
      show (bif Nat.ble (catS st') 8 then _ else none) = some o
      rw [hx]
      exact hk
  · cases ho
theorem pr_min (nx : Nat) : Pr (o_min nx) := by
  intro k ls st h o ho
  unfold o_min at ho
  split at ho
  · rename_i y x st'
    cases hx : Nat.ble (catS st') 8 with
    | false => rw [hx] at ho; cases ho
    | true =>
      rw [hx] at ho
      refine Or.inr ⟨_, _, _, _, ho, ⟨Nat.le_refl _, Nat.le_refl _⟩, fun k' hk => ?_⟩
      show (bif Nat.ble (catS st') 8 then _ else none) = some o
      rw [hx]
      exact hk
  · cases ho
theorem pr_abs (nx : Nat) : Pr (o_abs nx) := by
  intro k ls st h o ho
  unfold o_abs at ho
  split at ho
  · rename_i x st'
    cases hx : Nat.ble (catS st') 8 with
    | false => rw [hx] at ho; cases ho
    | true =>
      rw [hx] at ho
      refine Or.inr ⟨_, _, _, _, ho, ⟨Nat.le_refl _, Nat.le_refl _⟩, fun k' hk => ?_⟩
      show (bif Nat.ble (catS st') 8 then _ else none) = some o
      rw [hx]
      exact hk
  · cases ho
theorem pr_maxL (nx : Nat) : Pr (o_maxL nx) := by
  intro k ls st h o ho
  unfold o_maxL at ho
  split at ho
  · rename_i y x st'
    cases hx : Nat.ble (catS st') 8 with
    | false => rw [hx] at ho; cases ho
    | true =>
      rw [hx] at ho
      refine Or.inr ⟨_, _, _, _, ho, ⟨Nat.le_refl _, Nat.le_refl _⟩, fun k' hk => ?_⟩
      show (bif Nat.ble (catS st') 8 then _ else none) = some o
      rw [hx]
      exact hk
  · cases ho
theorem pr_minL (nx : Nat) : Pr (o_minL nx) := by
  intro k ls st h o ho
  unfold o_minL at ho
  split at ho
  · rename_i y x st'
    cases hx : Nat.ble (catS st') 8 with
    | false => rw [hx] at ho; cases ho
    | true =>
      rw [hx] at ho
      refine Or.inr ⟨_, _, _, _, ho, ⟨Nat.le_refl _, Nat.le_refl _⟩, fun k' hk => ?_⟩
      show (bif Nat.ble (catS st') 8 then _ else none) = some o
      rw [hx]
      exact hk
  · cases ho
theorem pr_inv (na c rk : Nat) {F : List EV → Hp → Option (RV × Hp)} (hG : Gr F) (nx : Nat) : Pr (o_inv na c rk F nx) := by
  intro k ls st h o ho
  have ho' := ho
  unfold o_inv at ho'
  split at ho'
  · rename_i r st' hst
    obtain ⟨a, rfl, hz⟩ := dR_out ho'
    cases hx : (Nat.beq (hK h a) c && Nat.ble (catS st') 8) with
    | false => rw [hx] at hz; cases hz
    | true =>
      rw [hx] at hz
      obtain ⟨r1, h1, e1, e2⟩ := oB_out hz
      refine Or.inr ⟨_, _, _, _, e2, hG _ _ _ _ e1, fun k' hk => ?_⟩
      unfold o_inv
      rw [hst]
      show (bif (Nat.beq (hK h a) c && Nat.ble (catS st') 8) then oB _ _ else none) = some o
      rw [hx, e1]
      exact hk
  · cases ho'
theorem pr_ist (na rk : Nat) {F : List EV → Hp → Option (RV × Hp)} (hG : Gr F) (nx : Nat) : Pr (o_ist na rk F nx) := by
  intro k ls st h o ho
  unfold o_ist at ho
  cases hx : (Nat.ble na st.length && Nat.ble (catS (st.drop na)) 8) with
  | false => rw [hx] at ho; cases ho
  | true =>
    rw [hx] at ho
    obtain ⟨r1, h1, e1, e2⟩ := oB_out ho
    refine Or.inr ⟨_, _, _, _, e2, hG _ _ _ _ e1, fun k' hk => ?_⟩
    unfold o_ist
    rw [hx, e1]
    exact hk
theorem pr_leaf {i : Nat} {o : Op} (h : Pr o) : ∀ pc, Pr (leafC i o pc) := by
  intro pc
  unfold leafC
  cases Nat.beq pc i
  · exact pr_fail
  · exact h
theorem pr_node {i : Nat} {A B : Nat → Op} (hA : ∀ pc, Pr (A pc)) (hB : ∀ pc, Pr (B pc)) : ∀ pc, Pr (nodeC i A B pc) := by
  intro pc
  unfold nodeC
  cases Nat.ble pc i
  · exact hB pc
  · exact hA pc
/-! the machine without fuel -/
theorem run_mono {code : Nat → Op} (hc : ∀ pc, Pr (code pc)) : ∀ (n pc : Nat) (ls : List (Option EV)) (st : List EV) (h : Hp) (o : RV × Hp), run code n pc ls st h = some o → run code (n + 1) pc ls st h = some o := by
  intro n
  induction n with
  | zero => intro pc ls st h o ho; cases ho
  | succ n ih =>
    intro pc ls st h o ho
    rcases hc pc (run code n) ls st h o ho with ⟨z, -⟩ | ⟨pc', ls', st', h', z1, -, z2⟩
    · exact z _
    · exact z2 _ (ih pc' ls' st' h' o z1)
theorem run_gr {code : Nat → Op} (hc : ∀ pc, Pr (code pc)) : ∀ (n pc : Nat) (ls : List (Option EV)) (st : List EV) (h : Hp) (o : RV × Hp), run code n pc ls st h = some o → hN h ≤ hN o.2 ∧ hS h ≤ hS o.2 := by
  intro n
  induction n with
  | zero => intro pc ls st h o ho; cases ho
  | succ n ih =>
    intro pc ls st h o ho
    rcases hc pc (run code n) ls st h o ho with ⟨-, z⟩ | ⟨pc', ls', st', h', z1, z3, z2⟩
    · exact z
    · have := ih pc' ls' st' h' o z1
      exact ⟨Nat.le_trans z3.1 this.1, Nat.le_trans z3.2 this.2⟩
theorem run_up {code : Nat → Op} (hc : ∀ pc, Pr (code pc)) (n : Nat) : ∀ (j pc : Nat) (ls : List (Option EV)) (st : List EV) (h : Hp) (o : RV × Hp), run code n pc ls st h = some o → run code (n + j) pc ls st h = some o := by
  intro j
  induction j with
  | zero => intro pc ls st h o ho; exact ho
  | succ j ih => intro pc ls st h o ho; exact run_mono hc _ _ _ _ _ _ (ih pc ls st h o ho)
noncomputable def Run (code : Nat → Op) : Kt := fun pc ls st h => @dite _ (∃ (o : RV × Hp) (n : Nat), run code n pc ls st h = some o) (Classical.propDecidable _) (fun z => some (Classical.choose z)) (fun _ => none)
theorem Run_iff {code : Nat → Op} (hc : ∀ pc, Pr (code pc)) {pc : Nat} {ls : List (Option EV)} {st : List EV} {h : Hp} {o : RV × Hp} : Run code pc ls st h = some o ↔ ∃ n, run code n pc ls st h = some o := by
  unfold Run
  by_cases z : ∃ (o : RV × Hp) (n : Nat), run code n pc ls st h = some o
  · rw [dif_pos z]
    obtain ⟨n, hn⟩ := Classical.choose_spec z
    constructor
    · intro q
      cases q
      exact ⟨n, hn⟩
    · rintro ⟨n', hn'⟩
      have h1 := run_up hc n n' _ _ _ _ _ hn
      have h2 := run_up hc n' n _ _ _ _ _ hn'
      rw [Nat.add_comm] at h2
      exact congrArg some (Option.some.inj (h1.symm.trans h2))
  · rw [dif_neg z]
    constructor
    · intro q; cases q
    · rintro ⟨n, hn⟩; exact absurd ⟨o, n, hn⟩ z
theorem opt_ext {α : Type} {a b : Option α} (h : ∀ o, a = some o ↔ b = some o) : a = b := by
  cases a with
  | none =>
    cases b with
    | none => rfl
    | some x => exact absurd ((h x).mpr rfl) (by simp)
  | some x => exact ((h x).mp rfl).symm
theorem Run_eq {code : Nat → Op} (hc : ∀ pc, Pr (code pc)) (pc : Nat) (ls : List (Option EV)) (st : List EV) (h : Hp) : Run code pc ls st h = code pc (Run code) ls st h := by
  refine opt_ext fun o => ⟨fun q => ?_, fun q => ?_⟩
  · obtain ⟨n, hn⟩ := (Run_iff hc).mp q
    cases n with
    | zero => cases hn
    | succ n =>
      rcases hc pc (run code n) ls st h o hn with ⟨z, -⟩ | ⟨pc', ls', st', h', z1, -, z2⟩
      · exact z _
      · exact z2 _ ((Run_iff hc).mpr ⟨n, z1⟩)
  · rcases hc pc (Run code) ls st h o q with ⟨z, -⟩ | ⟨pc', ls', st', h', z1, -, z2⟩
    · exact (Run_iff hc).mpr ⟨1, z _⟩
    · obtain ⟨n, hn⟩ := (Run_iff hc).mp z1
      exact (Run_iff hc).mpr ⟨n + 1, z2 _ hn⟩
/-- so many steps, up to the cuts -/
noncomputable def it (code : Nat → Op) (cut : Nat → Bool) : Nat → Kt
  | 0 => Run code
  | n + 1 => fun pc ls st h => bif cut pc then Run code pc ls st h else code pc (it code cut n) ls st h
theorem it_eq {code : Nat → Op} (hc : ∀ pc, Pr (code pc)) (cut : Nat → Bool) : ∀ n, it code cut n = Run code := by
  intro n
  induction n with
  | zero => rfl
  | succ n ih =>
    funext pc ls st h
    show (bif cut pc then _ else code pc (it code cut n) ls st h) = _
    cases cut pc
    · rw [ih]; exact (Run_eq hc pc ls st h).symm
    · rfl
theorem Run_it {code : Nat → Op} (hc : ∀ pc, Pr (code pc)) (cut : Nat → Bool) (n pc : Nat) (ls : List (Option EV)) (st : List EV) (h : Hp) : Run code pc ls st h = code pc (it code cut n) ls st h := by
  rw [it_eq hc]
  exact Run_eq hc pc ls st h
/-- the locals at the start -/
def entL (as : List EV) : List (Option EV) := match as with
  | [] => []
  | .inr (.inl x) :: r => some (vL x) :: none :: entL r
  | a :: r => some a :: entL r
def entN (nL : Nat) (as : List EV) : List (Option EV) := entL as ++ List.replicate (nL - (entL as).length) none
/-- a method's function -/
noncomputable def Fm (code : Nat → Op) (nL : Nat) : List EV → Hp → Option (RV × Hp) := fun as h => bif Nat.ble (entL as).length nL then Run code 0 (entN nL as) [] h else none
theorem Gr_Fm {code : Nat → Op} (hc : ∀ pc, Pr (code pc)) (nL : Nat) : Gr (Fm code nL) := by
  intro as h r h1 hF
  unfold Fm at hF
  cases hle : Nat.ble (entL as).length nL with
  | false => rw [hle] at hF; cases hF
  | true =>
    rw [hle] at hF
    obtain ⟨n, hn⟩ := (Run_iff hc).mp hF
    exact run_gr hc _ _ _ _ _ _ hn
