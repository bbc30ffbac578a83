/-! ===== what stays: kinds, lengths, arrays that stood before ===== -/
def KP (h h' : Hp) : Prop := hN h ≤ hN h' ∧ (hN h' < PRE → ∀ a, (a < hN h ∨ PRE ≤ a) → hK h' a = hK h a ∧ hE h' a = hE h a ∧ (hK h a = 25 → hI h' a = hI h a))
theorem kp_rfl (h : Hp) : KP h h := ⟨Nat.le_refl _, fun _ _ _ => ⟨rfl, rfl, fun _ => rfl⟩⟩
theorem kp_trans {h h1 h2 : Hp} (A : KP h h1) (B : KP h1 h2) : KP h h2 := by
  refine ⟨Nat.le_trans A.1 B.1, fun z a o => ?_⟩
  have z1 : hN h1 < PRE := Nat.lt_of_le_of_lt B.1 z
  have oA := A.2 z1 a o
  have a1 := A.1
  have oB := B.2 z a (by rcases o with o | o <;> omega)
  exact ⟨oB.1.trans oA.1, oB.2.1.trans oA.2.1, fun k => (oB.2.2 (oA.1.trans k)).trans (oA.2.2 k)⟩
theorem kp_sI {h : Hp} {a : Nat} (n : hK h a ≠ 25) (k : Nat) (v : Int32) : KP h (sI h a k v) := by
  refine ⟨Nat.le_refl _, fun _ b _ => ⟨rfl, rfl, fun z => ?_⟩⟩
  have nb : b ≠ a := fun e => n (e ▸ z)
  show up2 h.2.2.2.2 a k v b = h.2.2.2.2 b
  funext j
  unfold up2
  simp [nb]
theorem kp_sL {h : Hp} (a k : Nat) (v : Int64) : KP h (sL h a k v) := ⟨Nat.le_refl _, fun _ _ _ => ⟨rfl, rfl, fun _ => rfl⟩⟩
theorem kp_sR {h : Hp} (a k : Nat) (v : Option Nat) : KP h (sR h a k v) := ⟨Nat.le_refl _, fun _ _ _ => ⟨rfl, rfl, fun _ => rfl⟩⟩
theorem kp_cpI {h : Hp} {a : Nat} (n : hK h a ≠ 25) (a0 sp dp m : Nat) : KP h (cpI h a0 a sp dp m) := by
  refine ⟨Nat.le_refl _, fun _ b _ => ⟨rfl, rfl, fun z => ?_⟩⟩
  have nb : b ≠ a := fun e => n (e ▸ z)
  show up1 h.2.2.2.2 a _ b = h.2.2.2.2 b
  unfold up1
  simp [nb]
theorem kp_nw (h : Hp) (c len sl : Nat) : KP h (nw h c len sl) := by
  refine ⟨Nat.le_succ _, fun z b o => ?_⟩
  have z' : hN h + 1 < PRE := z
  have nb : b ≠ h.1.1 := by have : h.1.1 = hN h := rfl; omega
  refine ⟨?_, ?_, fun _ => ?_⟩
  · show (up1 h.2.1 h.1.1 (c, len) b).1 = (h.2.1 b).1
    unfold up1; simp [nb]
  · show (up1 h.2.1 h.1.1 (c, len) b).2 = (h.2.1 b).2
    unfold up1; simp [nb]
  · show up1 h.2.2.2.2 h.1.1 (fun _ => 0) b = h.2.2.2.2 b
    unfold up1; simp [nb]
def Pk (op : Op) : Prop := ∀ (k : Kt) (ls : List (Option EV)) (st : List EV) (h : Hp) (o : RV × Hp), op k ls st h = some o → KP h o.2 ∨ ∃ pc' ls' st' h', k pc' ls' st' h' = some o ∧ KP h h'
def Kp (F : List EV → Hp → Option (RV × Hp)) : Prop := ∀ as h r h1, F as h = some (r, h1) → KP h h1
theorem kp_20 {n m : Nat} {b : Bool} (e : (Nat.beq n m && b) = true) (c : m ≠ 25) : n ≠ 25 := by
  rw [Bool.and_eq_true] at e
  rw [Nat.eq_of_beq_eq_true e.1]
  exact c

theorem pk_ic (x : Int32) (nx : Nat) : Pk (o_ic x nx) := fun k ls st h o ho => Or.inr ⟨_, _, _, _, ho, kp_rfl _⟩
theorem pk_lc (x : Int64) (nx : Nat) : Pk (o_lc x nx) := fun k ls st h o ho => Or.inr ⟨_, _, _, _, ho, kp_rfl _⟩
theorem pk_nul (nx : Nat) : Pk (o_nul nx) := fun k ls st h o ho => Or.inr ⟨_, _, _, _, ho, kp_rfl _⟩
theorem pk_goto (nx : Nat) : Pk (o_goto nx) := fun k ls st h o ho => Or.inr ⟨_, _, _, _, ho, kp_rfl _⟩
theorem pk_new (c nx : Nat) : Pk (o_new c nx) := fun k ls st h o ho => Or.inr ⟨_, _, _, _, ho, kp_nw _ _ _ _⟩
theorem pk_pre (j nx : Nat) : Pk (o_pre j nx) := fun k ls st h o ho => Or.inr ⟨_, _, _, _, ho, kp_rfl _⟩
theorem pk_fail : Pk failO := fun k ls st h o ho => by cases ho
theorem pk_il (i nx : Nat) : Pk (o_il i nx) := by
  intro k ls st h o ho
  have ho' := ho
  unfold o_il at ho'
  split at ho'
  · rename_i x hx
    exact Or.inr ⟨_, _, _, _, ho', kp_rfl _⟩
  · cases ho'
theorem pk_ll (i nx : Nat) : Pk (o_ll i nx) := by
  intro k ls st h o ho
  have ho' := ho
  unfold o_ll at ho'
  split at ho'
  · rename_i x hx
    exact Or.inr ⟨_, _, _, _, ho', kp_rfl _⟩
  · cases ho'
theorem pk_al (i nx : Nat) : Pk (o_al i nx) := by
  intro k ls st h o ho
  have ho' := ho
  unfold o_al at ho'
  split at ho'
  · rename_i x hx
    exact Or.inr ⟨_, _, _, _, ho', kp_rfl _⟩
  · cases ho'
theorem pk_inc (i : Nat) (d : Int32) (nx : Nat) : Pk (o_inc i d nx) := by
  intro k ls st h o ho
  have ho' := ho
  unfold o_inc at ho'
  split at ho'
  · rename_i x hx
    exact Or.inr ⟨_, _, _, _, ho', kp_rfl _⟩
  · cases ho'
theorem pk_is (i nx : Nat) : Pk (o_is i nx) := by
  intro k ls st h o ho
  unfold o_is at ho
  split at ho
  · exact Or.inr ⟨_, _, _, _, ho, kp_rfl _⟩
  · cases ho
theorem pk_ls (i nx : Nat) : Pk (o_ls i nx) := by
  intro k ls st h o ho
  unfold o_ls at ho
  split at ho
  · exact Or.inr ⟨_, _, _, _, ho, kp_rfl _⟩
  · cases ho
theorem pk_as (i nx : Nat) : Pk (o_as i nx) := by
  intro k ls st h o ho
  unfold o_as at ho
  split at ho
  · exact Or.inr ⟨_, _, _, _, ho, kp_rfl _⟩
  · cases ho
theorem pk_iadd (nx : Nat) : Pk (o_iadd nx) := by
  intro k ls st h o ho
  unfold o_iadd at ho
  split at ho
  · exact Or.inr ⟨_, _, _, _, ho, kp_rfl _⟩
  · cases ho
theorem pk_isub (nx : Nat) : Pk (o_isub nx) := by
  intro k ls st h o ho
  unfold o_isub at ho
  split at ho
  · exact Or.inr ⟨_, _, _, _, ho, kp_rfl _⟩
  · cases ho
theorem pk_imul (nx : Nat) : Pk (o_imul nx) := by
  intro k ls st h o ho
  unfold o_imul at ho
  split at ho
  · exact Or.inr ⟨_, _, _, _, ho, kp_rfl _⟩
  · cases ho
theorem pk_iand (nx : Nat) : Pk (o_iand nx) := by
  intro k ls st h o ho
  unfold o_iand at ho
  split at ho
  · exact Or.inr ⟨_, _, _, _, ho, kp_rfl _⟩
  · cases ho
theorem pk_ior (nx : Nat) : Pk (o_ior nx) := by
  intro k ls st h o ho
  unfold o_ior at ho
  split at ho
  · exact Or.inr ⟨_, _, _, _, ho, kp_rfl _⟩
  · cases ho
theorem pk_ixor (nx : Nat) : Pk (o_ixor nx) := by
  intro k ls st h o ho
  unfold o_ixor at ho
  split at ho
  · exact Or.inr ⟨_, _, _, _, ho, kp_rfl _⟩
  · cases ho
theorem pk_ladd (nx : Nat) : Pk (o_ladd nx) := by
  intro k ls st h o ho
  unfold o_ladd at ho
  split at ho
  · exact Or.inr ⟨_, _, _, _, ho, kp_rfl _⟩
  · cases ho
theorem pk_lsub (nx : Nat) : Pk (o_lsub nx) := by
  intro k ls st h o ho
  unfold o_lsub at ho
  split at ho
  · exact Or.inr ⟨_, _, _, _, ho, kp_rfl _⟩
  · cases ho
theorem pk_lmul (nx : Nat) : Pk (o_lmul nx) := by
  intro k ls st h o ho
  unfold o_lmul at ho
  split at ho
  · exact Or.inr ⟨_, _, _, _, ho, kp_rfl _⟩
  · cases ho
theorem pk_land (nx : Nat) : Pk (o_land nx) := by
  intro k ls st h o ho
  unfold o_land at ho
  split at ho
  · exact Or.inr ⟨_, _, _, _, ho, kp_rfl _⟩
  · cases ho
theorem pk_lor (nx : Nat) : Pk (o_lor nx) := by
  intro k ls st h o ho
  unfold o_lor at ho
  split at ho
  · exact Or.inr ⟨_, _, _, _, ho, kp_rfl _⟩
  · cases ho
theorem pk_lxor (nx : Nat) : Pk (o_lxor nx) := by
  intro k ls st h o ho
  unfold o_lxor at ho
  split at ho
  · exact Or.inr ⟨_, _, _, _, ho, kp_rfl _⟩
  · cases ho
theorem pk_ishl (nx : Nat) : Pk (o_ishl nx) := by
  intro k ls st h o ho
  unfold o_ishl at ho
  split at ho
  · exact Or.inr ⟨_, _, _, _, ho, kp_rfl _⟩
  · cases ho
theorem pk_ishr (nx : Nat) : Pk (o_ishr nx) := by
  intro k ls st h o ho
  unfold o_ishr at ho
  split at ho
  · exact Or.inr ⟨_, _, _, _, ho, kp_rfl _⟩
  · cases ho
theorem pk_iushr (nx : Nat) : Pk (o_iushr nx) := by
  intro k ls st h o ho
  unfold o_iushr at ho
  split at ho
  · exact Or.inr ⟨_, _, _, _, ho, kp_rfl _⟩
  · cases ho
theorem pk_lushr (nx : Nat) : Pk (o_lushr nx) := by
  intro k ls st h o ho
  unfold o_lushr at ho
  split at ho
  · exact Or.inr ⟨_, _, _, _, ho, kp_rfl _⟩
  · cases ho
theorem pk_lshl (nx : Nat) : Pk (o_lshl nx) := by
  intro k ls st h o ho
  unfold o_lshl at ho
  split at ho
  · exact Or.inr ⟨_, _, _, _, ho, kp_rfl _⟩
  · cases ho
theorem pk_i2l (nx : Nat) : Pk (o_i2l nx) := by
  intro k ls st h o ho
  unfold o_i2l at ho
  split at ho
  · exact Or.inr ⟨_, _, _, _, ho, kp_rfl _⟩
  · cases ho
theorem pk_l2i (nx : Nat) : Pk (o_l2i nx) := by
  intro k ls st h o ho
  unfold o_l2i at ho
  split at ho
  · exact Or.inr ⟨_, _, _, _, ho, kp_rfl _⟩
  · cases ho
theorem pk_i2b (nx : Nat) : Pk (o_i2b nx) := by
  intro k ls st h o ho
  unfold o_i2b at ho
  split at ho
  · exact Or.inr ⟨_, _, _, _, ho, kp_rfl _⟩
  · cases ho
theorem pk_lcmp (nx : Nat) : Pk (o_lcmp nx) := by
  intro k ls st h o ho
  unfold o_lcmp at ho
  split at ho
  · exact Or.inr ⟨_, _, _, _, ho, kp_rfl _⟩
  · cases ho
theorem pk_dupI (nx : Nat) : Pk (o_dupI nx) := by
  intro k ls st h o ho
  unfold o_dupI at ho
  split at ho
  · exact Or.inr ⟨_, _, _, _, ho, kp_rfl _⟩
  · cases ho
theorem pk_popI (nx : Nat) : Pk (o_popI nx) := by
  intro k ls st h o ho
  unfold o_popI at ho
  split at ho
  · exact Or.inr ⟨_, _, _, _, ho, kp_rfl _⟩
  · cases ho
theorem pk_dup2LL (nx : Nat) : Pk (o_dup2LL nx) := by
  intro k ls st h o ho
  unfold o_dup2LL at ho
  split at ho
  · exact Or.inr ⟨_, _, _, _, ho, kp_rfl _⟩
  · cases ho
theorem pk_dupR (nx : Nat) : Pk (o_dupR nx) := by
  intro k ls st h o ho
  unfold o_dupR at ho
  split at ho
  · exact Or.inr ⟨_, _, _, _, ho, kp_rfl _⟩
  · cases ho
theorem pk_popR (nx : Nat) : Pk (o_popR nx) := by
  intro k ls st h o ho
  unfold o_popR at ho
  split at ho
  · exact Or.inr ⟨_, _, _, _, ho, kp_rfl _⟩
  · cases ho
theorem pk_dup2A (nx : Nat) : Pk (o_dup2A nx) := by
  intro k ls st h o ho
  unfold o_dup2A at ho
  split at ho
  · exact Or.inr ⟨_, _, _, _, ho, kp_rfl _⟩
  · cases ho
theorem pk_dupx1 (nx : Nat) : Pk (o_dupx1 nx) := by
  intro k ls st h o ho
  unfold o_dupx1 at ho
  split at ho
  · exact Or.inr ⟨_, _, _, _, ho, kp_rfl _⟩
  · cases ho
theorem pk_sw (ts : List (Int32 × Nat)) (d : Nat) : Pk (o_sw ts d) := by
  intro k ls st h o ho
  unfold o_sw at ho
  split at ho
  · rename_i x st'
    rw [swO_eq] at ho
    exact Or.inr ⟨_, _, _, _, ho, kp_rfl _⟩
  · cases ho
theorem pk_idiv (nx : Nat) : Pk (o_idiv nx) := by
  intro k ls st h o ho
  unfold o_idiv at ho
  split at ho
  · split at ho
    · cases ho
    · rename_i hc
      exact Or.inr ⟨_, _, _, _, ho, kp_rfl _⟩
  · cases ho
theorem pk_irem (nx : Nat) : Pk (o_irem nx) := by
  intro k ls st h o ho
  unfold o_irem at ho
  split at ho
  · split at ho
    · cases ho
    · rename_i hc
      exact Or.inr ⟨_, _, _, _, ho, kp_rfl _⟩
  · cases ho
theorem pk_ldiv (nx : Nat) : Pk (o_ldiv nx) := by
  intro k ls st h o ho
  unfold o_ldiv at ho
  split at ho
  · split at ho
    · cases ho
    · rename_i hc
      exact Or.inr ⟨_, _, _, _, ho, kp_rfl _⟩
  · cases ho
theorem pk_lrem (nx : Nat) : Pk (o_lrem nx) := by
  intro k ls st h o ho
  unfold o_lrem at ho
  split at ho
  · split at ho
    · cases ho
    · rename_i hc
      exact Or.inr ⟨_, _, _, _, ho, kp_rfl _⟩
  · cases ho
theorem pk_zeq (tgt nx : Nat) : Pk (o_zeq tgt nx) := by
  intro k ls st h o ho
  unfold o_zeq at ho
  split at ho
  · split at ho
    · rename_i hc
      exact Or.inr ⟨_, _, _, _, ho, kp_rfl _⟩
    · rename_i hc
      exact Or.inr ⟨_, _, _, _, ho, kp_rfl _⟩
  · cases ho
theorem pk_zne (tgt nx : Nat) : Pk (o_zne tgt nx) := by
  intro k ls st h o ho
  unfold o_zne at ho
  split at ho
  · split at ho
    · rename_i hc
      exact Or.inr ⟨_, _, _, _, ho, kp_rfl _⟩
    · rename_i hc
      exact Or.inr ⟨_, _, _, _, ho, kp_rfl _⟩
  · cases ho
theorem pk_zlt (tgt nx : Nat) : Pk (o_zlt tgt nx) := by
  intro k ls st h o ho
  unfold o_zlt at ho
  split at ho
  · split at ho
    · rename_i hc
      exact Or.inr ⟨_, _, _, _, ho, kp_rfl _⟩
    · rename_i hc
      exact Or.inr ⟨_, _, _, _, ho, kp_rfl _⟩
  · cases ho
theorem pk_zge (tgt nx : Nat) : Pk (o_zge tgt nx) := by
  intro k ls st h o ho
  unfold o_zge at ho
  split at ho
  · split at ho
    · rename_i hc
      exact Or.inr ⟨_, _, _, _, ho, kp_rfl _⟩
    · rename_i hc
      exact Or.inr ⟨_, _, _, _, ho, kp_rfl _⟩
  · cases ho
theorem pk_zgt (tgt nx : Nat) : Pk (o_zgt tgt nx) := by
  intro k ls st h o ho
  unfold o_zgt at ho
  split at ho
  · split at ho
    · rename_i hc
      exact Or.inr ⟨_, _, _, _, ho, kp_rfl _⟩
    · rename_i hc
      exact Or.inr ⟨_, _, _, _, ho, kp_rfl _⟩
  · cases ho
theorem pk_zle (tgt nx : Nat) : Pk (o_zle tgt nx) := by
  intro k ls st h o ho
  unfold o_zle at ho
  split at ho
  · split at ho
    · rename_i hc
      exact Or.inr ⟨_, _, _, _, ho, kp_rfl _⟩
    · rename_i hc
      exact Or.inr ⟨_, _, _, _, ho, kp_rfl _⟩
  · cases ho
theorem pk_ceq (tgt nx : Nat) : Pk (o_ceq tgt nx) := by
  intro k ls st h o ho
  unfold o_ceq at ho
  split at ho
  · split at ho
    · rename_i hc
      exact Or.inr ⟨_, _, _, _, ho, kp_rfl _⟩
    · rename_i hc
      exact Or.inr ⟨_, _, _, _, ho, kp_rfl _⟩
  · cases ho
theorem pk_cne (tgt nx : Nat) : Pk (o_cne tgt nx) := by
  intro k ls st h o ho
  unfold o_cne at ho
  split at ho
  · split at ho
    · rename_i hc
      exact Or.inr ⟨_, _, _, _, ho, kp_rfl _⟩
    · rename_i hc
      exact Or.inr ⟨_, _, _, _, ho, kp_rfl _⟩
  · cases ho
theorem pk_clt (tgt nx : Nat) : Pk (o_clt tgt nx) := by
  intro k ls st h o ho
  unfold o_clt at ho
  split at ho
  · split at ho
    · rename_i hc
      exact Or.inr ⟨_, _, _, _, ho, kp_rfl _⟩
    · rename_i hc
      exact Or.inr ⟨_, _, _, _, ho, kp_rfl _⟩
  · cases ho
theorem pk_cge (tgt nx : Nat) : Pk (o_cge tgt nx) := by
  intro k ls st h o ho
  unfold o_cge at ho
  split at ho
  · split at ho
    · rename_i hc
      exact Or.inr ⟨_, _, _, _, ho, kp_rfl _⟩
    · rename_i hc
      exact Or.inr ⟨_, _, _, _, ho, kp_rfl _⟩
  · cases ho
theorem pk_cgt (tgt nx : Nat) : Pk (o_cgt tgt nx) := by
  intro k ls st h o ho
  unfold o_cgt at ho
  split at ho
  · split at ho
    · rename_i hc
      exact Or.inr ⟨_, _, _, _, ho, kp_rfl _⟩
    · rename_i hc
      exact Or.inr ⟨_, _, _, _, ho, kp_rfl _⟩
  · cases ho
theorem pk_cle (tgt nx : Nat) : Pk (o_cle tgt nx) := by
  intro k ls st h o ho
  unfold o_cle at ho
  split at ho
  · split at ho
    · rename_i hc
      exact Or.inr ⟨_, _, _, _, ho, kp_rfl _⟩
    · rename_i hc
      exact Or.inr ⟨_, _, _, _, ho, kp_rfl _⟩
  · cases ho
theorem pk_ifnull (tgt nx : Nat) : Pk (o_ifnull tgt nx) := by
  intro k ls st h o ho
  unfold o_ifnull at ho
  split at ho
  · rename_i r st'
    cases r with
    | none => exact Or.inr ⟨_, _, _, _, ho, kp_rfl _⟩
    | some x => exact Or.inr ⟨_, _, _, _, ho, kp_rfl _⟩
  · cases ho
theorem pk_ifnn (tgt nx : Nat) : Pk (o_ifnn tgt nx) := by
  intro k ls st h o ho
  unfold o_ifnn at ho
  split at ho
  · rename_i r st'
    cases r with
    | none => exact Or.inr ⟨_, _, _, _, ho, kp_rfl _⟩
    | some x => exact Or.inr ⟨_, _, _, _, ho, kp_rfl _⟩
  · cases ho
theorem pk_iret : Pk o_iret := by
  intro k ls st h o ho
  refine Or.inl ?_
  unfold o_iret at ho
  split at ho
  · cases ho; exact kp_rfl _
  · cases ho
theorem pk_lret : Pk o_lret := by
  intro k ls st h o ho
  refine Or.inl ?_
  unfold o_lret at ho
  split at ho
  · cases ho; exact kp_rfl _
  · cases ho
theorem pk_aret : Pk o_aret := by
  intro k ls st h o ho
  refine Or.inl ?_
  unfold o_aret at ho
  split at ho
  · cases ho; exact kp_rfl _
  · cases ho
theorem pk_vret : Pk o_vret := by
  intro k ls st h o ho
  refine Or.inl ?_
  unfold o_vret at ho
  split at ho
  · cases ho; exact kp_rfl _
  · cases ho
theorem pk_zret : Pk o_zret := by
  intro k ls st h o ho
  refine Or.inl ?_
  unfold o_zret at ho
  split at ho
  · rename_i x
    cases hx : isZ x with
    | false => rw [hx] at ho; cases ho
    | true => rw [hx] at ho; cases ho; exact kp_rfl _
  · cases ho
theorem pk_gI (c j nx : Nat) : Pk (o_gI c j nx) := by
  intro k ls st h o ho
  unfold o_gI at ho
  split at ho
  · obtain ⟨a, rfl, hz⟩ := dR_out ho
    split at hz
    · rename_i hc
      exact Or.inr ⟨_, _, _, _, hz, kp_rfl _⟩
    · cases hz
  · cases ho
theorem pk_gL (c j nx : Nat) : Pk (o_gL c j nx) := by
  intro k ls st h o ho
  unfold o_gL at ho
  split at ho
  · obtain ⟨a, rfl, hz⟩ := dR_out ho
    split at hz
    · rename_i hc
      exact Or.inr ⟨_, _, _, _, hz, kp_rfl _⟩
    · cases hz
  · cases ho
theorem pk_gR (c j nx : Nat) : Pk (o_gR c j nx) := by
  intro k ls st h o ho
  unfold o_gR at ho
  split at ho
  · obtain ⟨a, rfl, hz⟩ := dR_out ho
    split at hz
    · rename_i hc
      exact Or.inr ⟨_, _, _, _, hz, kp_rfl _⟩
    · cases hz
  · cases ho
theorem pk_pI (c j nx : Nat) (hcc : c ≠ 25) : Pk (o_pI c j nx) := by
  intro k ls st h o ho
  unfold o_pI at ho
  split at ho
  · obtain ⟨a, rfl, hz⟩ := dR_out ho
    split at hz
    · rename_i hc
      exact Or.inr ⟨_, _, _, _, hz, kp_sI (fun z => hcc (hc.symm.trans z)) _ _⟩
    · cases hz
  · cases ho
theorem pk_pL (c j nx : Nat) : Pk (o_pL c j nx) := by
  intro k ls st h o ho
  unfold o_pL at ho
  split at ho
  · obtain ⟨a, rfl, hz⟩ := dR_out ho
    split at hz
    · rename_i hc
      exact Or.inr ⟨_, _, _, _, hz, kp_sL _ _ _⟩
    · cases hz
  · cases ho
theorem pk_pR (c j nx : Nat) : Pk (o_pR c j nx) := by
  intro k ls st h o ho
  unfold o_pR at ho
  split at ho
  · obtain ⟨a, rfl, hz⟩ := dR_out ho
    split at hz
    · rename_i hc
      exact Or.inr ⟨_, _, _, _, hz, kp_sR _ _ _⟩
    · cases hz
  · cases ho
theorem pk_pZ (c j nx : Nat) (hcc : c ≠ 25) : Pk (o_pZ c j nx) := by
  intro k ls st h o ho
  unfold o_pZ at ho
  split at ho
  · rename_i x r st'
    obtain ⟨a, rfl, hz⟩ := dR_out ho
    split at hz
    · rename_i hc
      cases hx : isZ x with
      | false => rw [hx] at hz; cases hz
      | true =>
        rw [hx] at hz
        exact Or.inr ⟨_, _, _, _, hz, kp_sI (fun z => hcc (hc.symm.trans z)) _ _⟩
    · cases hz
  · cases ho
theorem pk_iald (nx : Nat) : Pk (o_iald nx) := by
  intro k ls st h o ho
  unfold o_iald at ho
  split at ho
  · rename_i i r st'
    obtain ⟨a, rfl, hz⟩ := dR_out ho
    cases hx : (iaK (hK h a) && inb i (hE h a)) with
    | false => rw [hx] at hz; cases hz
    | true =>
      rw [hx] at hz
      exact Or.inr ⟨_, _, _, _, hz, kp_rfl _⟩
  · cases ho
theorem pk_bald (nx : Nat) : Pk (o_bald nx) := by
  intro k ls st h o ho
  unfold o_bald at ho
  split at ho
  · rename_i i r st'
    obtain ⟨a, rfl, hz⟩ := dR_out ho
    cases hx : (Nat.beq (hK h a) 21 && inb i (hE h a)) with
    | false => rw [hx] at hz; cases hz
    | true =>
      rw [hx] at hz
      exact Or.inr ⟨_, _, _, _, hz, kp_rfl _⟩
  · cases ho
theorem pk_zald (nx : Nat) : Pk (o_zald nx) := by
  intro k ls st h o ho
  unfold o_zald at ho
  split at ho
  · rename_i i r st'
    obtain ⟨a, rfl, hz⟩ := dR_out ho
    cases hx : (Nat.beq (hK h a) 22 && inb i (hE h a)) with
    | false => rw [hx] at hz; cases hz
    | true =>
      rw [hx] at hz
      exact Or.inr ⟨_, _, _, _, hz, kp_rfl _⟩
  · cases ho
theorem pk_lald (nx : Nat) : Pk (o_lald nx) := by
  intro k ls st h o ho
  unfold o_lald at ho
  split at ho
  · rename_i i r st'
    obtain ⟨a, rfl, hz⟩ := dR_out ho
    cases hx : (Nat.beq (hK h a) 23 && inb i (hE h a)) with
    | false => rw [hx] at hz; cases hz
    | true =>
      rw [hx] at hz
      exact Or.inr ⟨_, _, _, _, hz, kp_rfl _⟩
  · cases ho
theorem pk_aald (kc nx : Nat) : Pk (o_aald kc nx) := by
  intro k ls st h o ho
  unfold o_aald at ho
  split at ho
  · rename_i i r st'
    obtain ⟨a, rfl, hz⟩ := dR_out ho
    cases hx : (Nat.beq (hK h a) kc && inb i (hE h a)) with
    | false => rw [hx] at hz; cases hz
    | true =>
      rw [hx] at hz
      exact Or.inr ⟨_, _, _, _, hz, kp_rfl _⟩
  · cases ho
theorem pk_iast (nx : Nat) : Pk (o_iast nx) := by
  intro k ls st h o ho
  unfold o_iast at ho
  split at ho
  · rename_i x i r st'
    obtain ⟨a, rfl, hz⟩ := dR_out ho
    cases hx : (Nat.beq (hK h a) 20 && inb i (hE h a)) with
    | false => rw [hx] at hz; cases hz
    | true =>
      rw [hx] at hz
      exact Or.inr ⟨_, _, _, _, hz, kp_sI (kp_20 hx (by decide)) _ _⟩
  · cases ho
theorem pk_bast (nx : Nat) : Pk (o_bast nx) := by
  intro k ls st h o ho
  unfold o_bast at ho
  split at ho
  · rename_i x i r st'
    obtain ⟨a, rfl, hz⟩ := dR_out ho
    cases hx : (Nat.beq (hK h a) 21 && inb i (hE h a)) with
    | false => rw [hx] at hz; cases hz
    | true =>
      rw [hx] at hz
      exact Or.inr ⟨_, _, _, _, hz, kp_sI (kp_20 hx (by decide)) _ _⟩
  · cases ho
theorem pk_zast (nx : Nat) : Pk (o_zast nx) := by
  intro k ls st h o ho
  unfold o_zast at ho
  split at ho
  · rename_i x i r st'
    obtain ⟨a, rfl, hz⟩ := dR_out ho
    cases hx : (Nat.beq (hK h a) 22 && inb i (hE h a)) with
    | false => rw [hx] at hz; cases hz
    | true =>
      rw [hx] at hz
      exact Or.inr ⟨_, _, _, _, hz, kp_sI (kp_20 hx (by decide)) _ _⟩
  · cases ho
theorem pk_last (nx : Nat) : Pk (o_last nx) := by
  intro k ls st h o ho
  unfold o_last at ho
  split at ho
  · rename_i x i r st'
    obtain ⟨a, rfl, hz⟩ := dR_out ho
    cases hx : (Nat.beq (hK h a) 23 && inb i (hE h a)) with
    | false => rw [hx] at hz; cases hz
    | true =>
      rw [hx] at hz
      exact Or.inr ⟨_, _, _, _, hz, kp_sL _ _ _⟩
  · cases ho
theorem pk_alen (nx : Nat) : Pk (o_alen nx) := by
  intro k ls st h o ho
  unfold o_alen at ho
  split at ho
  · rename_i r st'
    obtain ⟨a, rfl, hz⟩ := dR_out ho
    cases hx : (alK (hK h a)) with
    | false => rw [hx] at hz; cases hz
    | true =>
      rw [hx] at hz
      exact Or.inr ⟨_, _, _, _, hz, kp_rfl _⟩
  · cases ho
theorem pk_aast (kc c nx : Nat) : Pk (o_aast kc c nx) := by
  intro k ls st h o ho
  unfold o_aast at ho
  split at ho
  · rename_i v i r st'
    obtain ⟨x, rfl, hy⟩ := dR_out ho
    obtain ⟨a, rfl, hz⟩ := dR_out hy
    cases hx : (Nat.beq (hK h a) kc && inb i (hE h a) && Nat.beq (hK h x) c) with
    | false => rw [hx] at hz; cases hz
    | true =>
      rw [hx] at hz
      exact Or.inr ⟨_, _, _, _, hz, kp_sR _ _ _⟩
  · cases ho
theorem pk_newa (kc nx : Nat) : Pk (o_newa kc nx) := by
  intro k ls st h o ho
  unfold o_newa at ho
  split at ho
  · rename_i n st'
    cases hx : (decide (n < 0) || decide (1000000 < n.toNatClampNeg)) with
    | true => rw [hx] at ho; cases ho
    | false =>
      rw [hx] at ho
      exact Or.inr ⟨_, _, _, _, ho, kp_nw _ _ _ _⟩
  · cases ho
theorem pk_oini (nx : Nat) : Pk (o_oini nx) := by
  intro k ls st h o ho
  unfold o_oini at ho
  split at ho
  · rename_i r st'
    obtain ⟨a, rfl, hz⟩ := dR_out ho
    cases hx : Nat.ble (catS st') 8 with
    | false => rw [hx] at hz; cases hz
    | true =>
      rw [hx] at hz
      exact Or.inr ⟨_, _, _, _, hz, kp_rfl _⟩
  · cases ho
theorem pk_max (nx : Nat) : Pk (o_max nx) := by
  intro k ls st h o ho
  unfold o_max at ho
  split at ho
  · rename_i y x st'
    cases hx : Nat.ble (catS st') 8 with
    | false => rw [hx] at ho; cases ho
    | true =>
      rw [hx] at ho
      exact Or.inr ⟨_, _, _, _, ho, kp_rfl _⟩
  · cases ho
theorem pk_min (nx : Nat) : Pk (o_min nx) := by
  intro k ls st h o ho
  unfold o_min at ho
  split at ho
  · rename_i y x st'
    cases hx : Nat.ble (catS st') 8 with
    | false => rw [hx] at ho; cases ho
    | true =>
      rw [hx] at ho
      exact Or.inr ⟨_, _, _, _, ho, kp_rfl _⟩
  · cases ho
theorem pk_abs (nx : Nat) : Pk (o_abs nx) := by
  intro k ls st h o ho
  unfold o_abs at ho
  split at ho
  · rename_i x st'
    cases hx : Nat.ble (catS st') 8 with
    | false => rw [hx] at ho; cases ho
    | true =>
      rw [hx] at ho
      exact Or.inr ⟨_, _, _, _, ho, kp_rfl _⟩
  · cases ho
theorem pk_maxL (nx : Nat) : Pk (o_maxL nx) := by
  intro k ls st h o ho
  unfold o_maxL at ho
  split at ho
  · rename_i y x st'
    cases hx : Nat.ble (catS st') 8 with
    | false => rw [hx] at ho; cases ho
    | true =>
      rw [hx] at ho
      exact Or.inr ⟨_, _, _, _, ho, kp_rfl _⟩
  · cases ho
theorem pk_minL (nx : Nat) : Pk (o_minL nx) := by
  intro k ls st h o ho
  unfold o_minL at ho
  split at ho
  · rename_i y x st'
    cases hx : Nat.ble (catS st') 8 with
    | false => rw [hx] at ho; cases ho
    | true =>
      rw [hx] at ho
      exact Or.inr ⟨_, _, _, _, ho, kp_rfl _⟩
  · cases ho
theorem pk_inv (na c rk : Nat) {F : List EV → Hp → Option (RV × Hp)} (hG : Kp F) (nx : Nat) : Pk (o_inv na c rk F nx) := by
  intro k ls st h o ho
  have ho' := ho
  unfold o_inv at ho'
  split at ho'
  · rename_i r st' hst
    obtain ⟨a, rfl, hz⟩ := dR_out ho'
    cases hx : (Nat.beq (hK h a) c && Nat.ble (catS st') 8) with
    | false => rw [hx] at hz; cases hz
    | true =>
      rw [hx] at hz
      obtain ⟨r1, h1, e1, e2⟩ := oB_out hz
      exact Or.inr ⟨_, _, _, _, e2, hG _ _ _ _ e1⟩
  · cases ho'
theorem pk_ist (na rk : Nat) {F : List EV → Hp → Option (RV × Hp)} (hG : Kp F) (nx : Nat) : Pk (o_ist na rk F nx) := by
  intro k ls st h o ho
  unfold o_ist at ho
  cases hx : (Nat.ble na st.length && Nat.ble (catS (st.drop na)) 8) with
  | false => rw [hx] at ho; cases ho
  | true =>
    rw [hx] at ho
    obtain ⟨r1, h1, e1, e2⟩ := oB_out ho
    exact Or.inr ⟨_, _, _, _, e2, hG _ _ _ _ e1⟩
theorem pk_acopy (nx : Nat) : Pk (o_acopy nx) := by
  intro k ls st h o ho
  unfold o_acopy at ho
  split at ho
  · rename_i n dp d sp s st'
    obtain ⟨a0, rfl, hy⟩ := dR_out ho
    obtain ⟨a, rfl, hz⟩ := dR_out hy
    cases hx : (Nat.beq (hK h a0) 20 && Nat.beq (hK h a) 20 && cpOK sp dp n (hE h a0) (hE h a) && Nat.ble (catS st') 8) with
    | false => rw [hx] at hz; cases hz
    | true =>
      rw [hx] at hz
      exact Or.inr ⟨_, _, _, _, hz, kp_cpI (kp_20 (by simp only [Bool.and_eq_true] at hx; exact (Bool.and_eq_true _ _).mpr ⟨hx.1.1.2, rfl⟩) (by decide)) _ _ _ _⟩
  · cases ho
theorem pk_sval (nx : Nat) : Pk (o_sval nx) := by
  intro k ls st h o ho
  unfold o_sval at ho
  split at ho
  · obtain ⟨a, rfl, hz⟩ := dR_out ho
    split at hz
    · rename_i hc
      exact Or.inr ⟨_, _, _, _, hz, kp_rfl _⟩
    · cases hz
  · cases ho
theorem pk_scod (nx : Nat) : Pk (o_scod nx) := by
  intro k ls st h o ho
  unfold o_scod at ho
  split at ho
  · obtain ⟨a, rfl, hz⟩ := dR_out ho
    split at hz
    · rename_i hc
      exact Or.inr ⟨_, _, _, _, hz, kp_rfl _⟩
    · cases hz
  · cases ho
theorem pk_fmt (nx : Nat) : Pk (o_fmt nx) := by
  intro k ls st h o ho
  unfold o_fmt at ho
  cases hx : Nat.beq (hK h (PRE + 60)) 50 with
  | true =>
    rw [hx] at ho
    exact Or.inr ⟨_, _, _, _, ho, kp_rfl _⟩
  | false =>
    rw [hx] at ho
    cases hy : Nat.beq (hK h (PRE + 60)) 51 with
    | false => rw [hy] at ho; cases ho
    | true =>
      rw [hy] at ho
      exact Or.inr ⟨_, _, _, _, ho, kp_rfl _⟩
theorem pk_baldP (nx : Nat) : Pk (o_baldP nx) := by
  intro k ls st h o ho
  unfold o_baldP at ho
  split at ho
  · rename_i i r st'
    obtain ⟨a, rfl, hz⟩ := dR_out ho
    cases hx : (Nat.beq (hK h a) 27 && inb i (hE h a)) with
    | false => rw [hx] at hz; cases hz
    | true =>
      rw [hx] at hz
      exact Or.inr ⟨_, _, _, _, hz, kp_rfl _⟩
  · cases ho
theorem pk_alenP (nx : Nat) : Pk (o_alenP nx) := by
  intro k ls st h o ho
  unfold o_alenP at ho
  split at ho
  · rename_i r st'
    obtain ⟨a, rfl, hz⟩ := dR_out ho
    cases hx : Nat.beq (hK h a) 27 with
    | false => rw [hx] at hz; cases hz
    | true =>
      rw [hx] at hz
      exact Or.inr ⟨_, _, _, _, hz, kp_rfl _⟩
  · cases ho
theorem pk_i2c (nx : Nat) : Pk (o_i2c nx) := by
  intro k ls st h o ho
  unfold o_i2c at ho
  split at ho
  · exact Or.inr ⟨_, _, _, _, ho, kp_rfl _⟩
  · cases ho
theorem pk_nret (ty : FieldType) : Pk (o_nret ty) := by
  intro k ls st h o ho
  refine Or.inl ?_
  unfold o_nret at ho
  split at ho
  · rename_i x
    cases hx : isN ty x with
    | false => rw [hx] at ho; cases ho
    | true => rw [hx] at ho; cases ho; exact kp_rfl _
  · cases ho
theorem pk_leaf {i : Nat} {o : Op} (h : Pk o) : ∀ pc, Pk (leafC i o pc) := by
  intro pc
  unfold leafC
  cases Nat.beq pc i
  · exact pk_fail
  · exact h
theorem pk_node {i : Nat} {A B : Nat → Op} (hA : ∀ pc, Pk (A pc)) (hB : ∀ pc, Pk (B pc)) : ∀ pc, Pk (nodeC i A B pc) := by
  intro pc
  unfold nodeC
  cases Nat.ble pc i
  · exact hB pc
  · exact hA pc
theorem pk_mask {o : Op} {ks : List Nat} (h : Pk o) : Pk (o_mask ks o) := fun k ls st h0 x hx => h k (fgt ks ls) st h0 x hx
theorem run_kp {code : Nat → Op} (hc : ∀ pc, Pk (code pc)) : ∀ (n pc : Nat) (ls : List (Option EV)) (st : List EV) (h : Hp) (o : RV × Hp), run code n pc ls st h = some o → KP h o.2 := by
  intro n
  induction n with
  | zero => intro pc ls st h o ho; cases ho
  | succ n ih =>
    intro pc ls st h o ho
    rcases hc pc (run code n) ls st h o ho with z | ⟨pc', ls', st', h', z1, z3⟩
    · exact z
    · exact kp_trans z3 (ih pc' ls' st' h' o z1)
theorem Kp_Fm {code : Nat → Op} (hp : ∀ pc, Pr (code pc)) (hc : ∀ pc, Pk (code pc)) (nL : Nat) : Kp (Fm code nL) := by
  intro as h r h1 hF
  unfold Fm at hF
  cases hle : Nat.ble (entL as).length nL with
  | false => rw [hle] at hF; cases hF
  | true =>
    rw [hle] at hF
    obtain ⟨n, hn⟩ := (Run_iff hp).mp hF
    exact run_kp hc _ _ _ _ _ _ hn
