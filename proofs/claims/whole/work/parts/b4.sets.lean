/-! ===== PURE: sales: what sets of pieces bring ===== -/
abbrev Ach : Type := Nat → Nat → Nat → Prop
def ach0 : Ach := fun b t m => b = 0 ∧ t = 0 ∧ m = 0
/-- one piece more -/
def stA (A : Ach) (p q : Nat) : Ach := fun b t m => A b t m ∨ (∃ b' m', b = b' + 1 ∧ m = m' + p ∧ A b' t m') ∨ (∃ t' m', t = t' + 1 ∧ m = m' + q ∧ A b t' m')
def itA (A : Ach) (p q : Nat) : Nat → Ach
  | 0 => A
  | n + 1 => stA (itA A p q n) p q
/-- some bolts and some thirds more, W at most -/
def upA (A : Ach) (p q W : Nat) : Ach := fun b t m => ∃ one two m', one + two ≤ W ∧ one ≤ b ∧ two ≤ t ∧ m = m' + one * p + two * q ∧ A (b - one) (t - two) m'
theorem itA_up (A : Ach) (p q : Nat) : ∀ W b t m, itA A p q W b t m ↔ upA A p q W b t m := by
  intro W
  induction W with
  | zero =>
    intro b t m
    constructor
    · intro h; exact ⟨0, 0, m, by omega, by omega, by omega, by omega, h⟩
    · rintro ⟨one, two, m', h1, h2, h3, h4, h5⟩
      have e1 : one = 0 := by omega
      have e2 : two = 0 := by omega
      subst e1 e2
      have : m = m' := by omega
      subst this
      exact h5
  | succ W ih =>
    intro b t m
    show (itA A p q W b t m ∨ (∃ b' m', b = b' + 1 ∧ m = m' + p ∧ itA A p q W b' t m') ∨ (∃ t' m', t = t' + 1 ∧ m = m' + q ∧ itA A p q W b t' m')) ↔ _
    constructor
    · rintro (h | ⟨b', m', e1, e2, h⟩ | ⟨t', m', e1, e2, h⟩)
      · obtain ⟨one, two, m'', h1, h2, h3, h4, h5⟩ := (ih b t m).mp h
        exact ⟨one, two, m'', by omega, h2, h3, h4, h5⟩
      · obtain ⟨one, two, m'', h1, h2, h3, h4, h5⟩ := (ih b' t m').mp h
        refine ⟨one + 1, two, m'', by omega, by omega, h3, by rw [Nat.add_mul]; omega, ?_⟩
        rw [e1, Nat.add_sub_add_right]; exact h5
      · obtain ⟨one, two, m'', h1, h2, h3, h4, h5⟩ := (ih b t' m').mp h
        refine ⟨one, two + 1, m'', by omega, h2, by omega, by rw [Nat.add_mul]; omega, ?_⟩
        rw [e1, Nat.add_sub_add_right]; exact h5
    · rintro ⟨one, two, m', h1, h2, h3, h4, h5⟩
      by_cases c : one + two ≤ W
      · exact Or.inl ((ih b t m).mpr ⟨one, two, m', c, h2, h3, h4, h5⟩)
      · by_cases c1 : one = 0
        · refine Or.inr (Or.inr ⟨t - 1, m - q, by omega, ?_, (ih b (t - 1) (m - q)).mpr ⟨one, two - 1, m', by omega, h2, by omega, ?_, ?_⟩⟩)
          · obtain ⟨k, rfl⟩ : ∃ k, two = k + 1 := ⟨two - 1, by omega⟩
            rw [Nat.add_mul] at h4; omega
          · obtain ⟨k, rfl⟩ : ∃ k, two = k + 1 := ⟨two - 1, by omega⟩
            rw [Nat.add_mul] at h4; rw [Nat.add_sub_cancel]; omega
          · rw [show t - 1 - (two - 1) = t - two by omega]; exact h5
        · refine Or.inr (Or.inl ⟨b - 1, m - p, by omega, ?_, (ih (b - 1) t (m - p)).mpr ⟨one - 1, two, m', by omega, by omega, h3, ?_, ?_⟩⟩)
          · obtain ⟨k, rfl⟩ : ∃ k, one = k + 1 := ⟨one - 1, by omega⟩
            rw [Nat.add_mul] at h4; omega
          · obtain ⟨k, rfl⟩ : ∃ k, one = k + 1 := ⟨one - 1, by omega⟩
            rw [Nat.add_mul] at h4; rw [Nat.add_sub_cancel]; omega
          · rw [show b - 1 - (one - 1) = b - one by omega]; exact h5
/-- bounds of what is reached by n pieces -/
def bdA (A : Ach) (n : Nat) : Prop := ∀ b t m, A b t m → b + t ≤ n ∧ m ≤ 60 * n
theorem bd_0 : bdA ach0 0 := fun b t m ⟨h1, h2, h3⟩ => by omega
theorem bd_st {A : Ach} {n p q : Nat} (h : bdA A n) (hp : p ≤ 60) (hq : q ≤ 60) : bdA (stA A p q) (n + 1) := by
  rintro b t m (h1 | ⟨b', m', e1, e2, h1⟩ | ⟨t', m', e1, e2, h1⟩)
  · have := h b t m h1; omega
  · have := h b' t m' h1; omega
  · have := h b t' m' h1; omega
theorem bd_it {A : Ach} {n p q : Nat} (h : bdA A n) (hp : p ≤ 60) (hq : q ≤ 60) : ∀ W, bdA (itA A p q W) (n + W) := by
  intro W
  induction W with
  | zero => exact h
  | succ W ih => exact bd_st ih hp hq
/-- the most of a set, or none -/
def optC (x : Int32) (P : Nat → Prop) : Prop := (x = -1 ∧ ∀ m, ¬ P m) ∨ ∃ m, x = nI m ∧ P m ∧ m < 2 ^ 30 ∧ ∀ m', P m' → m' ≤ m
def mxI (x y : Int32) : Int32 := if x < y then y else x
theorem lt_m1 {m : Nat} (h : m < 2 ^ 31) : (-1 : Int32) < nI m := by
  rw [Int32.lt_iff_toInt_lt, nI_toInt h, show (-1 : Int32).toInt = -1 from rfl]; omega
/-- the most of two sets, the second moved by p -/
theorem opt_or {x y : Int32} {P Q R : Nat → Prop} {p : Nat} (h1 : optC x P) (h2 : optC y Q) (hp : p ≤ 60) (hb : ∀ m, Q m → m < 2 ^ 29) (hR : ∀ m, R m ↔ P m ∨ ∃ m', m = m' + p ∧ Q m') : optC (if y = -1 then x else mxI x (y + nI p)) R := by
  rcases h2 with ⟨e2, n2⟩ | ⟨m2, e2, q2, b2, u2⟩
  · rw [if_pos e2]
    rcases h1 with ⟨e1, n1⟩ | ⟨m1, e1, q1, b1, u1⟩
    · refine Or.inl ⟨e1, fun m hm => ?_⟩
      rcases (hR m).mp hm with z | ⟨m', _, z⟩
      · exact n1 m z
      · exact n2 m' z
    · refine Or.inr ⟨m1, e1, (hR m1).mpr (Or.inl q1), b1, fun m hm => ?_⟩
      rcases (hR m).mp hm with z | ⟨m', _, z⟩
      · exact u1 m z
      · exact absurd z (n2 m')
  · have hb2 := hb m2 q2
    rw [if_neg (by rw [e2]; exact nI_nm1 (by omega)), e2, nI_add]
    rcases h1 with ⟨e1, n1⟩ | ⟨m1, e1, q1, b1, u1⟩
    · refine Or.inr ⟨m2 + p, ?_, (hR _).mpr (Or.inr ⟨m2, rfl, q2⟩), by omega, fun m hm => ?_⟩
      · unfold mxI; rw [e1, if_pos (lt_m1 (by omega))]
      · rcases (hR m).mp hm with z | ⟨m', e, z⟩
        · exact absurd z (n1 m)
        · have := u2 m' z; omega
    · have ql : (nI m1 < nI (m2 + p)) = (m1 < m2 + p) := nI_nlt' (by omega) (by omega)
      unfold mxI
      rw [e1]
      by_cases c : m1 < m2 + p
      · rw [if_pos (by rw [ql]; exact c)]
        refine Or.inr ⟨m2 + p, rfl, (hR _).mpr (Or.inr ⟨m2, rfl, q2⟩), by omega, fun m hm => ?_⟩
        rcases (hR m).mp hm with z | ⟨m', e, z⟩
        · have := u1 m z; omega
        · have := u2 m' z; omega
      · rw [if_neg (by rw [ql]; exact c)]
        refine Or.inr ⟨m1, rfl, (hR _).mpr (Or.inl q1), b1, fun m hm => ?_⟩
        rcases (hR m).mp hm with z | ⟨m', e, z⟩
        · exact u1 m z
        · have := u2 m' z; omega
theorem opt_cg {x : Int32} {P Q : Nat → Prop} (h : optC x P) (e : ∀ m, Q m ↔ P m) : optC x Q := by
  rcases h with ⟨e1, n1⟩ | ⟨m1, e1, q1, b1, u1⟩
  · exact Or.inl ⟨e1, fun m hm => n1 m ((e m).mp hm)⟩
  · exact Or.inr ⟨m1, e1, (e _).mpr q1, b1, fun m hm => u1 m ((e m).mp hm)⟩
/-- a cell behind one piece more -/
def nwv (T : Nat → Int32) (B t : Nat) (p q : Int32) : Int32 :=
  let a := if B = 0 then T (46 * B + t) else if T (46 * (B - 1) + t) = -1 then T (46 * B + t) else mxI (T (46 * B + t)) (T (46 * (B - 1) + t) + p)
  if t = 0 then a else if T (46 * B + (t - 1)) = -1 then a else mxI a (T (46 * B + (t - 1)) + q)
/-- the class's table: bolts, thirds, the most they bring -/
def TabC (T : Nat → Int32) (v5 tM : Nat) (A : Ach) : Prop := ∀ B t, B < 46 → t < 46 → (B ≤ v5 ∧ t ≤ tM → optC (T (46 * B + t)) (A B t)) ∧ (¬ (B ≤ v5 ∧ t ≤ tM) → T (46 * B + t) = -1)
theorem nwv_opt {T : Nat → Int32} {v5 tM n p q B t : Nat} {A : Ach} (H : TabC T v5 tM A) (bd : bdA A n) (hn : n ≤ 45) (hp : p ≤ 60) (hq : q ≤ 60) (hB : B < 46) (ht : t < 46) (h5 : B ≤ v5) (hM : t ≤ tM) : optC (nwv T B t (nI p) (nI q)) (stA A p q B t) := by
  have bb : ∀ B t m, A B t m → m < 2 ^ 29 := fun B t m h => by have := bd B t m h; omega
  have o1 := (H B t hB ht).1 ⟨h5, hM⟩
  have a1 : optC (if B = 0 then T (46 * B + t) else if T (46 * (B - 1) + t) = -1 then T (46 * B + t) else mxI (T (46 * B + t)) (T (46 * (B - 1) + t) + nI p)) (fun m => A B t m ∨ ∃ b' m', B = b' + 1 ∧ m = m' + p ∧ A b' t m') := by
    by_cases c : B = 0
    · rw [if_pos c]
      exact opt_cg o1 (fun m => ⟨fun z => by rcases z with z | ⟨b', _, e, _⟩; exact z; omega, Or.inl⟩)
    · rw [if_neg c]
      have o2 := (H (B - 1) t (by omega) ht).1 ⟨by omega, hM⟩
      refine opt_or o1 o2 hp (bb _ _) (fun m => ⟨?_, ?_⟩)
      · rintro (z | ⟨b', m', e, e2, z⟩)
        · exact Or.inl z
        · refine Or.inr ⟨m', e2, ?_⟩
          rw [show B - 1 = b' by omega]; exact z
      · rintro (z | ⟨m', e2, z⟩)
        · exact Or.inl z
        · exact Or.inr ⟨B - 1, m', by omega, e2, z⟩
  show optC (if t = 0 then _ else _) _
  by_cases c : t = 0
  · rw [if_pos c]
    refine opt_cg a1 (fun m => ⟨?_, ?_⟩)
    · rintro (z | z | ⟨t', _, e, _⟩)
      · exact Or.inl z
      · exact Or.inr z
      · omega
    · rintro (z | z)
      · exact Or.inl z
      · exact Or.inr (Or.inl z)
  · rw [if_neg c]
    have o3 := (H B (t - 1) hB (by omega)).1 ⟨h5, by omega⟩
    refine opt_or a1 o3 hq (bb _ _) (fun m => ⟨?_, ?_⟩)
    · rintro (z | z | ⟨t', m', e, e2, z⟩)
      · exact Or.inl (Or.inl z)
      · exact Or.inl (Or.inr z)
      · refine Or.inr ⟨m', e2, ?_⟩
        rw [show t - 1 = t' by omega]; exact z
    · rintro ((z | z) | ⟨m', e2, z⟩)
      · exact Or.inl z
      · exact Or.inr (Or.inl z)
      · exact Or.inr (Or.inr ⟨t - 1, m', by omega, e2, z⟩)
/-- the table while a piece is added: cells from (B, t) on are new -/
def mixT (T : Nat → Int32) (p q : Int32) (n v5 tM : Nat) (D : Nat → Nat → Prop) (T1 : Nat → Int32) : Prop := ∀ B t, B < 46 → t < 46 → ((B ≤ v5 ∧ B ≤ n ∧ t ≤ tM ∧ t ≤ n - B ∧ D B t) → T1 (46 * B + t) = nwv T B t p q) ∧ (¬ (B ≤ v5 ∧ B ≤ n ∧ t ≤ tM ∧ t ≤ n - B ∧ D B t) → T1 (46 * B + t) = T (46 * B + t))
theorem mix_done {T T1 : Nat → Int32} {v5 tM n p q : Nat} {A : Ach} (H : TabC T v5 tM A) (bd : bdA A n) (hn : n + 1 ≤ 45) (hp : p ≤ 60) (hq : q ≤ 60) (M : mixT T (nI p) (nI q) (n + 1) v5 tM (fun _ _ => True) T1) : TabC T1 v5 tM (stA A p q) := by
  intro B t hB ht
  obtain ⟨m1, m2⟩ := M B t hB ht
  constructor
  · rintro ⟨h5, hM⟩
    by_cases c : B + t ≤ n + 1
    · rw [m1 ⟨h5, by omega, hM, by omega, trivial⟩]
      exact nwv_opt H bd (by omega) hp hq hB ht h5 hM
    · rw [m2 (fun z => by omega)]
      refine opt_cg ((H B t hB ht).1 ⟨h5, hM⟩) (fun m => ⟨fun z => ?_, Or.inl⟩)
      have := bd_st bd hp hq B t m z
      omega
  · intro h
    rw [m2 (fun z => h ⟨z.1, z.2.2.1⟩)]
    exact (H B t hB ht).2 h
