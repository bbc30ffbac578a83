/-! ===== the abstract heap: cells by labels; what the machine's heap holds of it ===== -/
abbrev EV : Type := Int32 ⊕ (Int64 ⊕ Option Nat)
abbrev RV : Type := Int32 × Int64 × Option Nat
abbrev Hp : Type := (Nat × Nat) × (Nat → Nat × Nat) × (Nat → Nat → Option Nat) × (Nat → Nat → Int64) × (Nat → Nat → Int32)
abbrev vI (x : Int32) : EV := .inl x
abbrev vL (x : Int64) : EV := .inr (.inl x)
abbrev vR (r : Option Nat) : EV := .inr (.inr r)
abbrev rI (x : Int32) : RV := (x, 0, none)
abbrev rL (x : Int64) : RV := (0, x, none)
abbrev rR (r : Option Nat) : RV := (0, 0, r)
abbrev rV : RV := (0, 0, none)
def hN (h : Hp) : Nat := h.1.1
def hS (h : Hp) : Nat := h.1.2
def hK (h : Hp) (a : Nat) : Nat := (h.2.1 a).1
def hE (h : Hp) (a : Nat) : Nat := (h.2.1 a).2
def hR (h : Hp) (a k : Nat) : Option Nat := h.2.2.1 a k
def hL (h : Hp) (a k : Nat) : Int64 := h.2.2.2.1 a k
def hI (h : Hp) (a k : Nat) : Int32 := h.2.2.2.2 a k
def up2 {α : Type} (f : Nat → Nat → α) (a k : Nat) (v : α) : Nat → Nat → α := fun x y => if x = a then (if y = k then v else f x y) else f x y
def up1 {α : Type} (f : Nat → α) (a : Nat) (v : α) : Nat → α := fun x => if x = a then v else f x
def sR (h : Hp) (a k : Nat) (v : Option Nat) : Hp := (h.1, h.2.1, up2 h.2.2.1 a k v, h.2.2.2.1, h.2.2.2.2)
def sL (h : Hp) (a k : Nat) (v : Int64) : Hp := (h.1, h.2.1, h.2.2.1, up2 h.2.2.2.1 a k v, h.2.2.2.2)
def sI (h : Hp) (a k : Nat) (v : Int32) : Hp := (h.1, h.2.1, h.2.2.1, h.2.2.2.1, up2 h.2.2.2.2 a k v)
def nw (h : Hp) (c len sl : Nat) : Hp := ((h.1.1 + 1, h.1.2 + sl), up1 h.2.1 h.1.1 (c, len), up1 h.2.2.1 h.1.1 (fun _ => none), up1 h.2.2.2.1 h.1.1 (fun _ => 0), up1 h.2.2.2.2 h.1.1 (fun _ => 0))
theorem hN_sI (h : Hp) (a k : Nat) (v : Int32) : hN (sI h a k v) = hN h := rfl
theorem hS_sI (h : Hp) (a k : Nat) (v : Int32) : hS (sI h a k v) = hS h := rfl
theorem hK_sI (h : Hp) (a k : Nat) (v : Int32) (x : Nat) : hK (sI h a k v) x = hK h x := rfl
theorem hE_sI (h : Hp) (a k : Nat) (v : Int32) (x : Nat) : hE (sI h a k v) x = hE h x := rfl
theorem hR_sI (h : Hp) (a k : Nat) (v : Int32) (x y : Nat) : hR (sI h a k v) x y = hR h x y := rfl
theorem hL_sI (h : Hp) (a k : Nat) (v : Int32) (x y : Nat) : hL (sI h a k v) x y = hL h x y := rfl
theorem hI_sI (h : Hp) (a k : Nat) (v : Int32) (x y : Nat) : hI (sI h a k v) x y = if x = a then (if y = k then v else hI h x y) else hI h x y := rfl
theorem hN_sL (h : Hp) (a k : Nat) (v : Int64) : hN (sL h a k v) = hN h := rfl
theorem hS_sL (h : Hp) (a k : Nat) (v : Int64) : hS (sL h a k v) = hS h := rfl
theorem hK_sL (h : Hp) (a k : Nat) (v : Int64) (x : Nat) : hK (sL h a k v) x = hK h x := rfl
theorem hE_sL (h : Hp) (a k : Nat) (v : Int64) (x : Nat) : hE (sL h a k v) x = hE h x := rfl
theorem hR_sL (h : Hp) (a k : Nat) (v : Int64) (x y : Nat) : hR (sL h a k v) x y = hR h x y := rfl
theorem hI_sL (h : Hp) (a k : Nat) (v : Int64) (x y : Nat) : hI (sL h a k v) x y = hI h x y := rfl
theorem hL_sL (h : Hp) (a k : Nat) (v : Int64) (x y : Nat) : hL (sL h a k v) x y = if x = a then (if y = k then v else hL h x y) else hL h x y := rfl
theorem hN_sR (h : Hp) (a k : Nat) (v : Option Nat) : hN (sR h a k v) = hN h := rfl
theorem hS_sR (h : Hp) (a k : Nat) (v : Option Nat) : hS (sR h a k v) = hS h := rfl
theorem hK_sR (h : Hp) (a k : Nat) (v : Option Nat) (x : Nat) : hK (sR h a k v) x = hK h x := rfl
theorem hE_sR (h : Hp) (a k : Nat) (v : Option Nat) (x : Nat) : hE (sR h a k v) x = hE h x := rfl
theorem hL_sR (h : Hp) (a k : Nat) (v : Option Nat) (x y : Nat) : hL (sR h a k v) x y = hL h x y := rfl
theorem hI_sR (h : Hp) (a k : Nat) (v : Option Nat) (x y : Nat) : hI (sR h a k v) x y = hI h x y := rfl
theorem hR_sR (h : Hp) (a k : Nat) (v : Option Nat) (x y : Nat) : hR (sR h a k v) x y = if x = a then (if y = k then v else hR h x y) else hR h x y := rfl
theorem hN_nw (h : Hp) (c len sl : Nat) : hN (nw h c len sl) = hN h + 1 := rfl
theorem hS_nw (h : Hp) (c len sl : Nat) : hS (nw h c len sl) = hS h + sl := rfl
theorem hK_nw (h : Hp) (c len sl x : Nat) : hK (nw h c len sl) x = if x = hN h then c else hK h x := by
  unfold hK nw up1 hN
  by_cases e : x = h.1.1 <;> simp [e]
theorem hE_nw (h : Hp) (c len sl x : Nat) : hE (nw h c len sl) x = if x = hN h then len else hE h x := by
  unfold hE nw up1 hN
  by_cases e : x = h.1.1 <;> simp [e]
theorem hR_nw (h : Hp) (c len sl x y : Nat) : hR (nw h c len sl) x y = if x = hN h then none else hR h x y := by
  unfold hR nw up1 hN
  by_cases e : x = h.1.1 <;> simp [e]
theorem hL_nw (h : Hp) (c len sl x y : Nat) : hL (nw h c len sl) x y = if x = hN h then 0 else hL h x y := by
  unfold hL nw up1 hN
  by_cases e : x = h.1.1 <;> simp [e]
theorem hI_nw (h : Hp) (c len sl x y : Nat) : hI (nw h c len sl) x y = if x = hN h then 0 else hI h x y := by
  unfold hI nw up1 hN
  by_cases e : x = h.1.1 <;> simp [e]
/-- labels from here on are cells that stood before the law began -/
def PRE : Nat := 1000000
def adr (b : Nat) (pre : Nat → Nat) (k : Nat) : Nat := if k < PRE then b + k else pre (k - PRE)
def trV (ad : Nat → Nat) (v : EV) : Value := match v with
  | .inl x => .int x
  | .inr (.inl x) => .long x
  | .inr (.inr r) => va_rf (r.map ad)
def nF (c : Nat) : Nat := match c with
  | 0 => 7 | 1 => 1 | 2 => 3 | 3 => 2 | 4 => 13 | 5 => 3 | 6 => 2 | 7 => 5 | 8 => 11 | 9 => 4 | 10 => 4 | 11 => 20 | _ => 54
def tyF (c : Nat) : Nat → FieldType := match c with
  | 0 => tyX0 | 1 => tyX1 | 2 => tyX2 | 3 => tyX3 | 4 => tyX4 | 5 => tyX5 | 6 => tyX6 | 7 => tyX7 | 8 => tyX8 | 9 => tyX9 | 10 => tyX10 | 11 => tyX11 | _ => tyX12
def clT (c : Nat) : u_T := match c with
  | 0 => TX0 | 1 => TX1 | 2 => TX2 | 3 => TX3 | 4 => TX4 | 5 => TX5 | 6 => TX6 | 7 => TX7 | 8 => TX8 | 9 => TX9 | 10 => TX10 | 11 => TX11 | _ => TX12
def clR (c : Nat) : String := match c with
  | 0 => RX0 | 1 => RX1 | 2 => RX2 | 3 => RX3 | 4 => RX4 | 5 => RX5 | 6 => RX6 | 7 => RX7 | 8 => RX8 | 9 => RX9 | 10 => RX10 | 11 => RX11 | _ => RX12
theorem by13 {P : Nat → Prop} (h0 : P 0) (h1 : P 1) (h2 : P 2) (h3 : P 3) (h4 : P 4) (h5 : P 5) (h6 : P 6) (h7 : P 7) (h8 : P 8) (h9 : P 9) (h10 : P 10) (h11 : P 11) (h12 : P 12) : ∀ c, c < 13 → P c := by
  intro c hc
  match c, hc with
  | 0, _ => exact h0
  | 1, _ => exact h1
  | 2, _ => exact h2
  | 3, _ => exact h3
  | 4, _ => exact h4
  | 5, _ => exact h5
  | 6, _ => exact h6
  | 7, _ => exact h7
  | 8, _ => exact h8
  | 9, _ => exact h9
  | 10, _ => exact h10
  | 11, _ => exact h11
  | 12, _ => exact h12
theorem vw_get : ∀ c, c < 13 → vwCl[c]? = some (clR c, clT c, nF c) := by13 rfl rfl rfl rfl rfl rfl rfl rfl rfl rfl rfl rfl rfl
theorem ty_ok : ∀ c, c < 13 → ∀ k, k < nF c → parseFieldDescriptor (clT c k).2.2.1 = some (tyF c k) := by13 tyX0_ok tyX1_ok tyX2_ok tyX3_ok tyX4_ok tyX5_ok tyX6_ok tyX7_ok tyX8_ok tyX9_ok tyX10_ok tyX11_ok tyX12_ok
theorem nm_ok : ∀ c, c < 13 → ∀ a, a < nF c → ∀ b, b < nF c → a ≠ b → (clT c a).2.1 ≠ (clT c b).2.1 := by13 nmX0 nmX1 nmX2 nmX3 nmX4 nmX5 nmX6 nmX7 nmX8 nmX9 nmX10 nmX11 nmX12
def fv (ty : FieldType) (i : Int32) (l : Int64) (r : Option Nat) : Value := match ty with
  | .long => .long l
  | .object _ => va_rf r
  | .array _ => va_rf r
  | _ => .int i
def arT (c : Nat) : FieldType := match c with
  | 20 => .int | 21 => .byte | 22 => .boolean | 23 => .long | 31 => .object RX1 | 34 => .object RX4 | _ => .object RX6
abbrev tysL (cy : Nat → ClassId) : List (ClassId × FieldType) := [(cy 20, .int), (cy 21, .byte), (cy 22, .boolean), (cy 23, .long), (cy 31, .object RX1), (cy 34, .object RX4), (cy 36, .object RX6)]
/-- a String that stood before: its characters -/
def StrAt (a v b : Nat) (U : State) (H : Heap) : Prop :=
  va_O "java/lang/String" a (fun q => b ≤ q) U H ∧ va_OF "java/lang/String" "value" "[B" (.ref v) a (fun q => b ≤ q) U H ∧ va_OF "java/lang/String" "coder" "B" (.int 0) a (fun q => b ≤ q) U H
/-- one cell -/
def HC (b : Nat) (D : va_G) (cy : Nat → ClassId) (pre : Nat → Nat) (h : Hp) (U : State) (H : Heap) (k : Nat) : Prop :=
  (hK h k < 13 → k < hN h ∧ t_OB (b + k) (D.1 (hK h k)) (nF (hK h k)) (D.2 (hK h k)) H (fun j => fv (tyF (hK h k) j) (hI h k j) (hL h k j) ((hR h k j).map (adr b pre)))) ∧
  (hK h k = 20 ∨ hK h k = 21 ∨ hK h k = 22 → k < hN h ∧ H[b + k]? = some (arrV (cy (hK h k)) (hE h k) (fun j => .int (hI h k j)))) ∧
  (hK h k = 23 → k < hN h ∧ H[b + k]? = some (arrV (cy 23) (hE h k) (fun j => .long (hL h k j)))) ∧
  (hK h k = 31 ∨ hK h k = 34 ∨ hK h k = 36 → k < hN h ∧ H[b + k]? = some (arrV (cy (hK h k)) (hE h k) (fun j => va_rf ((hR h k j).map (adr b pre))))) ∧
  (hK h k = 25 → PRE ≤ k ∧ va_T .int (pre (k - PRE)) (hE h k) (fun j => .int (hI h k j)) (fun q => b ≤ q) U H) ∧
  (hK h k = 40 → PRE ≤ k ∧ StrAt (pre (k - PRE)) (pre (k - PRE + 100)) b U H) ∧
  (hK h k = 27 → PRE ≤ k ∧ va_T .byte (pre (k - PRE)) (hE h k) (fun j => .int (hI h k j)) (fun q => b ≤ q) U H) ∧
  (hK h k = 50 → PRE ≤ k ∧ va_Z "jdk/internal/util/Preconditions" "SIOOBE_FORMATTER" "Ljava/util/function/BiFunction;" (.ref (pre (k - PRE))) (fun q => b ≤ q) U H) ∧
  (hK h k = 51 → va_Z "jdk/internal/util/Preconditions" "SIOOBE_FORMATTER" "Ljava/util/function/BiFunction;" .null (fun q => b ≤ q) U H)
def Hold (b : Nat) (D : va_G) (cy : Nat → ClassId) (pre : Nat → Nat) (h : Hp) (U : State) (H : Heap) : Prop :=
  H.size = b + hN h ∧ hN h < PRE ∧ ∀ k, HC b D cy pre h U H k
theorem StrAt.moved {a v b : Nat} {u U : State} {H : Heap} (hvm : u.vm.Alike U.vm) (h : StrAt a v b u H) : StrAt a v b U H := ⟨h.1.moved hvm, h.2.1.moved hvm, h.2.2.moved hvm⟩
theorem StrAt.kept {a v b : Nat} {U : State} {H H1 : Heap} (h : StrAt a v b U H) (hq : ∀ q : Nat, q < H.size → ¬ b ≤ q → H1[q]? = H[q]?) : StrAt a v b U H1 := ⟨h.1.kept hq, h.2.1.kept hq, h.2.2.kept hq⟩
theorem HC.moved {b : Nat} {D : va_G} {cy : Nat → ClassId} {pre : Nat → Nat} {h : Hp} {u U : State} {H : Heap} {k : Nat} (hvm : u.vm.Alike U.vm) (h1 : HC b D cy pre h u H k) : HC b D cy pre h U H k :=
  ⟨h1.1, h1.2.1, h1.2.2.1, h1.2.2.2.1, fun e => ⟨(h1.2.2.2.2.1 e).1, (h1.2.2.2.2.1 e).2.moved hvm⟩, fun e => ⟨(h1.2.2.2.2.2.1 e).1, (h1.2.2.2.2.2.1 e).2.moved hvm⟩, fun e => ⟨(h1.2.2.2.2.2.2.1 e).1, (h1.2.2.2.2.2.2.1 e).2.moved hvm⟩, fun e => ⟨(h1.2.2.2.2.2.2.2.1 e).1, (h1.2.2.2.2.2.2.2.1 e).2.moved hvm⟩, fun e => (h1.2.2.2.2.2.2.2.2 e).moved hvm⟩
theorem Hold.moved {b : Nat} {D : va_G} {cy : Nat → ClassId} {pre : Nat → Nat} {h : Hp} {u U : State} {H : Heap} (hvm : u.vm.Alike U.vm) (h1 : Hold b D cy pre h u H) : Hold b D cy pre h U H :=
  ⟨h1.1, h1.2.1, fun k => (h1.2.2 k).moved hvm⟩
/-- one cell's change -/
theorem Hold.set {b : Nat} {D : va_G} {cy : Nat → ClassId} {pre : Nat → Nat} {h h' : Hp} {U : State} {H H1 : Heap} {a : Nat} (hH : Hold b D cy pre h U H) (hz : H1.size = H.size) (ho : ∀ q : Nat, q ≠ b + a → H1[q]? = H[q]?)
    (e1 : hN h' = hN h) (e2 : ∀ x, hK h' x = hK h x) (e3 : ∀ x, hE h' x = hE h x) (e4 : ∀ x y, x ≠ a → hR h' x y = hR h x y) (e5 : ∀ x y, x ≠ a → hL h' x y = hL h x y) (e6 : ∀ x y, x ≠ a → hI h' x y = hI h x y) (hc : HC b D cy pre h' U H1 a) : Hold b D cy pre h' U H1 := by
  refine ⟨by rw [hz, e1]; exact hH.1, by rw [e1]; exact hH.2.1, fun k => ?_⟩
  by_cases hk : k = a
  · subst hk; exact hc
  · obtain ⟨c1, c2, c3, c4, c5, c6, c7, c8, c9⟩ := hH.2.2 k
    have hq : H1[b + k]? = H[b + k]? := ho _ (by omega)
    have hp : ∀ q : Nat, q < H.size → ¬ b ≤ q → H1[q]? = H[q]? := fun q _ h2 => ho q (by omega)
    have r1 : hR h' k = hR h k := funext fun y => e4 k y hk
    have r2 : hL h' k = hL h k := funext fun y => e5 k y hk
    have r3 : hI h' k = hI h k := funext fun y => e6 k y hk
    unfold HC
    rw [e1, e2, e3, r1, r2, r3]
    refine ⟨fun z => ⟨(c1 z).1, (c1 z).2.kept hq⟩, fun z => ⟨(c2 z).1, hq.trans (c2 z).2⟩, fun z => ⟨(c3 z).1, hq.trans (c3 z).2⟩, fun z => ⟨(c4 z).1, hq.trans (c4 z).2⟩, fun z => ⟨(c5 z).1, (c5 z).2.kept hp⟩, fun z => ⟨(c6 z).1, (c6 z).2.kept hp⟩, fun z => ⟨(c7 z).1, (c7 z).2.kept hp⟩, fun z => ⟨(c8 z).1, (c8 z).2.kept hp⟩, fun z => (c9 z).kept hp⟩
/-- a new cell -/
theorem Hold.new {b : Nat} {D : va_G} {cy : Nat → ClassId} {pre : Nat → Nat} {h : Hp} {U : State} {H H1 : Heap} {c len sl : Nat} (hH : Hold b D cy pre h U H) (hz : H1.size = H.size + 1) (ho : ∀ q : Nat, q < H.size → H1[q]? = H[q]?) (hpre : hN h + 1 < PRE) (hc : HC b D cy pre (nw h c len sl) U H1 (hN h)) : Hold b D cy pre (nw h c len sl) U H1 := by
  refine ⟨by rw [hz, hN_nw, hH.1]; omega, by rw [hN_nw]; exact hpre, fun k => ?_⟩
  by_cases hk : k = hN h
  · subst hk; exact hc
  · obtain ⟨c1, c2, c3, c4, c5, c6, c7, c8, c9⟩ := hH.2.2 k
    have hq : k < hN h → H1[b + k]? = H[b + k]? := fun z => ho _ (by rw [hH.1]; omega)
    have hp : ∀ q : Nat, q < H.size → ¬ b ≤ q → H1[q]? = H[q]? := fun q h1 _ => ho q h1
    have r1 : hR (nw h c len sl) k = hR h k := funext fun y => by rw [hR_nw, if_neg hk]
    have r2 : hL (nw h c len sl) k = hL h k := funext fun y => by rw [hL_nw, if_neg hk]
    have r3 : hI (nw h c len sl) k = hI h k := funext fun y => by rw [hI_nw, if_neg hk]
    unfold HC
    rw [hN_nw, hK_nw, hE_nw, r1, r2, r3, if_neg hk, if_neg hk]
    refine ⟨fun z => ⟨by have := (c1 z).1; omega, (c1 z).2.kept (hq (c1 z).1)⟩, fun z => ⟨by have := (c2 z).1; omega, (hq (c2 z).1).trans (c2 z).2⟩, fun z => ⟨by have := (c3 z).1; omega, (hq (c3 z).1).trans (c3 z).2⟩, fun z => ⟨by have := (c4 z).1; omega, (hq (c4 z).1).trans (c4 z).2⟩, fun z => ⟨(c5 z).1, (c5 z).2.kept hp⟩, fun z => ⟨(c6 z).1, (c6 z).2.kept hp⟩, fun z => ⟨(c7 z).1, (c7 z).2.kept hp⟩, fun z => ⟨(c8 z).1, (c8 z).2.kept hp⟩, fun z => (c9 z).kept hp⟩
