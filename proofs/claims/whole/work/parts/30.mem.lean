/-! THE HEAP AS NUMBERS: behind the constructors every cell has a fixed shape; its values are told by Int -/
section BA
abbrev bM : Type := Nat → Nat → Int
abbrev bR (a : Int) : Prop := -2147483648 ≤ a ∧ a ≤ 2147483647
abbrev bRL (a : Int) : Prop := -9223372036854775808 ≤ a ∧ a ≤ 9223372036854775807
abbrev bI (a : Int) : Value := .int (Int32.ofInt a)
abbrev bLg (a : Int) : Value := .long (Int64.ofInt a)
def bset (μ : bM) (q k : Nat) (v : Int) : bM := fun q' k' => if q' = q ∧ k' = k then v else μ q' k'
/-- the cells: 0 to 3 rows of bytes, ints, longs, booleans with their length; 10 + c an object of kind c with its number of fields -/
def bShs : List (Nat × Nat) := [(18, 6), (15, 2), (0, 12000), (15, 2), (0, 30000), (14, 3), (15, 2), (0, 24000), (15, 2), (0, 8000), (15, 2), (0, 8000), (12, 19), (1, 400), (1, 7), (1, 6), (1, 400), (1, 400), (1, 400), (1, 400), (1, 400), (1, 3200), (1, 3200), (10, 2), (1, 256), (1, 400), (10, 2), (1, 256), (1, 3200), (13, 7), (17, 16), (1, 6), (1, 400), (1, 400), (1, 400), (1, 400), (1, 400), (1, 400), (1, 400), (1, 400), (1, 400), (1, 3200), (1, 3200), (2, 3200), (1, 3200), (11, 7), (15, 2), (0, 0), (16, 8), (1, 200), (3, 200), (1, 200), (1, 1600), (1, 1600), (1, 200), (10, 2), (1, 256), (1, 200), (1, 400), (1, 3200), (17, 16), (1, 6), (1, 400), (1, 400), (1, 400), (1, 400), (1, 400), (1, 400), (1, 400), (1, 400), (1, 400), (1, 3200), (1, 3200), (2, 3200), (1, 3200), (19, 55), (0, 12000), (1, 2), (1, 2), (1, 12), (1, 800), (1, 800), (1, 800), (1, 800), (1, 6400), (1, 6400), (2, 6400), (1, 6400), (1, 6400), (1, 2), (1, 2), (0, 180000), (0, 40000), (1, 3), (1, 400), (1, 400), (1, 400), (1, 400), (1, 3200), (1, 3200), (1, 400), (1, 3200), (1, 6), (1, 200), (1, 200), (3, 200), (1, 200), (1, 1600), (1, 1600), (1, 400), (1, 3200), (2, 1)]
def bSh (q : Nat) : Nat × Nat := match q with
  | 0 => (99, 0)
  | j + 1 => bShs.getD j (99, 0)
/-- what a field holds: 0 an int, 1 a boolean, 2 a long, 3 any tree, 4 any store, 5 + n the cell n behind its own -/
def bPfs : List (List Nat) := [[6, 7], [0, 0, 0, 0, 0, 0, 4], [0, 0, 0, 0, 0, 0, 1, 6, 7, 8, 9, 10, 11, 12, 13, 14, 15, 16, 19], [3, 21, 24, 0, 0, 34, 35], [6, 8, 10], [6, 0], [6, 7, 8, 9, 10, 0, 11, 12], [0, 0, 6, 7, 8, 9, 10, 11, 12, 13, 14, 15, 16, 17, 18, 19], [6, 8, 10, 17, 34, 3], [0, 6, 0, 0, 7, 8, 9, 10, 11, 12, 13, 14, 15, 16, 17, 18, 19, 20, 21, 22, 23, 0, 0, 0, 24, 25, 0, 26, 27, 0, 28, 29, 0, 30, 31, 32, 0, 0, 0, 0, 0, 0, 0, 0, 33, 34, 35, 36, 37, 38, 39, 40, 0, 1, 2]]
def bPf (ci k : Nat) : Nat := (bPfs.getD ci []).getD k 0
abbrev bStore (q : Nat) : Prop := bSh q = (15, 2)
abbrev bTree (q : Nat) : Prop := bSh q = (17, 16)
abbrev bChn (q : Nat) : Prop := bSh q = (10, 2)
def bIo (q p : Nat) (e : Int) : Prop := match p with
  | 0 => bR e
  | 1 => 0 ≤ e ∧ e ≤ 1
  | 2 => bRL e
  | 3 => bTree e.toNat
  | 4 => bStore e.toNat
  | n + 5 => e = (q : Int) + n
def bIn (q k : Nat) (e : Int) : Prop := match (bSh q).1 with
  | 0 => -128 ≤ e ∧ e ≤ 127
  | 1 => bR e
  | 2 => bRL e
  | 3 => 0 ≤ e ∧ e ≤ 1
  | s + 4 => bIo q (bPf (s - 6) k) e
/-- every cell of the memory holds what its type allows, and the pointers that never change -/
def bOk (μ : bM) : Prop := ∀ q k, bIn q k (μ q k)
theorem bOk_set {μ : bM} {q k : Nat} {e : Int} (h : bOk μ) (he : bIn q k e) : bOk (bset μ q k e) := by
  intro q' k'
  unfold bset
  by_cases c : q' = q ∧ k' = k
  · rw [if_pos c, c.1, c.2]; exact he
  · rw [if_neg c]; exact h q' k'
theorem bIn_i {q k n : Nat} {e : Int} (hq : bSh q = (1, n)) : bIn q k e ↔ bR e := by unfold bIn; rw [hq]
theorem bIn_b {q k n : Nat} {e : Int} (hq : bSh q = (0, n)) : bIn q k e ↔ (-128 ≤ e ∧ e ≤ 127) := by unfold bIn; rw [hq]
theorem bIn_l {q k n : Nat} {e : Int} (hq : bSh q = (2, n)) : bIn q k e ↔ bRL e := by unfold bIn; rw [hq]
theorem bIn_z {q k n : Nat} {e : Int} (hq : bSh q = (3, n)) : bIn q k e ↔ (0 ≤ e ∧ e ≤ 1) := by unfold bIn; rw [hq]
theorem bIn_f {q k n ci p : Nat} {e : Int} (hq : bSh q = (ci + 10, n)) (hp : bPf ci k = p) : bIn q k e ↔ bIo q p e := by
  unfold bIn
  rw [hq]
  show bIo q (bPf (ci + 6 - 6) k) e ↔ _
  rw [Nat.add_sub_cancel, hp]
section
variable {μ : bM} {q k n ci : Nat}
theorem bO_i (h : bOk μ) (hq : bSh q = (1, n)) : bR (μ q k) := (bIn_i hq).mp (h q k)
theorem bO_b (h : bOk μ) (hq : bSh q = (0, n)) : -128 ≤ μ q k ∧ μ q k ≤ 127 := (bIn_b hq).mp (h q k)
theorem bO_br (h : bOk μ) (hq : bSh q = (0, n)) : bR (μ q k) := by have := bO_b (k := k) h hq; constructor <;> omega
theorem bO_l (h : bOk μ) (hq : bSh q = (2, n)) : bRL (μ q k) := (bIn_l hq).mp (h q k)
theorem bO_z (h : bOk μ) (hq : bSh q = (3, n)) : 0 ≤ μ q k ∧ μ q k ≤ 1 := (bIn_z hq).mp (h q k)
theorem bO_zr (h : bOk μ) (hq : bSh q = (3, n)) : bR (μ q k) := by have := bO_z (k := k) h hq; constructor <;> omega
theorem bO_f (h : bOk μ) (hq : bSh q = (ci + 10, n)) (hp : bPf ci k = 0) : bR (μ q k) := (bIn_f hq hp).mp (h q k)
theorem bO_fz (h : bOk μ) (hq : bSh q = (ci + 10, n)) (hp : bPf ci k = 1) : 0 ≤ μ q k ∧ μ q k ≤ 1 := (bIn_f hq hp).mp (h q k)
theorem bO_fzr (h : bOk μ) (hq : bSh q = (ci + 10, n)) (hp : bPf ci k = 1) : bR (μ q k) := by have := bO_fz h hq hp; constructor <;> omega
theorem bO_fl (h : bOk μ) (hq : bSh q = (ci + 10, n)) (hp : bPf ci k = 2) : bRL (μ q k) := (bIn_f hq hp).mp (h q k)
theorem bO_ft (h : bOk μ) (hq : bSh q = (ci + 10, n)) (hp : bPf ci k = 3) : bTree (μ q k).toNat := (bIn_f hq hp).mp (h q k)
theorem bO_fs (h : bOk μ) (hq : bSh q = (ci + 10, n)) (hp : bPf ci k = 4) : bStore (μ q k).toNat := (bIn_f hq hp).mp (h q k)
theorem bO_fp {j : Nat} (h : bOk μ) (hq : bSh q = (ci + 10, n)) (hp : bPf ci k = j + 5) : (μ q k).toNat = q + j := by
  have : μ q k = (q : Int) + j := (bIn_f hq hp).mp (h q k)
  omega
end
theorem bSh_lt {q : Nat} (h : (bSh q).1 ≠ 99) : 1 ≤ q ∧ q < 113 := by
  match q, h with
  | 0, h => exact absurd rfl h
  | j + 1, h =>
    refine ⟨by omega, ?_⟩
    by_cases c : j < 112
    · omega
    · exfalso
      apply h
      show (bShs.getD j (99, 0)).1 = 99
      rw [List.getD_eq_getElem?_getD, List.getElem?_eq_none (by show 112 ≤ j; omega)]
      rfl
theorem bStore_all : ∀ q, q < 113 → bStore q → q = 2 ∨ q = 4 ∨ q = 7 ∨ q = 9 ∨ q = 11 ∨ q = 47 := by decide +kernel
theorem bTree_all : ∀ q, q < 113 → bTree q → q = 31 ∨ q = 61 := by decide +kernel
theorem bChn_all : ∀ q, q < 113 → bChn q → q = 24 ∨ q = 27 ∨ q = 56 := by decide +kernel
theorem bStore_is {q : Nat} (h : bStore q) : q = 2 ∨ q = 4 ∨ q = 7 ∨ q = 9 ∨ q = 11 ∨ q = 47 := bStore_all q (bSh_lt (by rw [show bSh q = _ from h]; decide)).2 h
theorem bTree_is {q : Nat} (h : bTree q) : q = 31 ∨ q = 61 := bTree_all q (bSh_lt (by rw [show bSh q = _ from h]; decide)).2 h
theorem bChn_is {q : Nat} (h : bChn q) : q = 24 ∨ q = 27 ∨ q = 56 := bChn_all q (bSh_lt (by rw [show bSh q = _ from h]; decide)).2 h
def bN (q : Nat) : Nat := (bSh q).2
theorem bStore_d {q : Nat} (h : bStore q) : bSh (q + 1) = (0, bN (q + 1)) := by rcases bStore_is h with rfl | rfl | rfl | rfl | rfl | rfl <;> rfl
theorem bChn_h {q : Nat} (h : bChn q) : bSh (q + 1) = (1, 256) := by rcases bChn_is h with rfl | rfl | rfl <;> rfl
theorem bChn_n {q : Nat} (h : bChn q) : bSh (q + 2) = (1, bN (q + 2)) := by rcases bChn_is h with rfl | rfl | rfl <;> rfl
theorem bTree_r {q : Nat} (h : bTree q) : bSh (q + 1) = (1, 6) := by rcases bTree_is h with rfl | rfl <;> rfl
theorem bTree_e {q : Nat} (h : bTree q) (k : Nat) (hk : 2 ≤ k ∧ k ≤ 10) : bSh (q + k) = (1, 400) := by
  have : k = 2 ∨ k = 3 ∨ k = 4 ∨ k = 5 ∨ k = 6 ∨ k = 7 ∨ k = 8 ∨ k = 9 ∨ k = 10 := by omega
  rcases bTree_is h with rfl | rfl <;> rcases this with rfl | rfl | rfl | rfl | rfl | rfl | rfl | rfl | rfl <;> rfl
theorem bTree_n {q : Nat} (h : bTree q) : bSh (q + 11) = (1, 3200) := by rcases bTree_is h with rfl | rfl <;> rfl
theorem bTree_f {q : Nat} (h : bTree q) : bSh (q + 12) = (1, 3200) := by rcases bTree_is h with rfl | rfl <;> rfl
theorem bTree_v {q : Nat} (h : bTree q) : bSh (q + 13) = (2, 3200) := by rcases bTree_is h with rfl | rfl <;> rfl
theorem bTree_l {q : Nat} (h : bTree q) : bSh (q + 14) = (1, 3200) := by rcases bTree_is h with rfl | rfl <;> rfl
/-- a field's value as the machine's -/
def bV (t : FieldType) (e : Int) : Value := match t with
  | .long => bLg e
  | .object _ => .ref e.toNat
  | .array _ => .ref e.toNat
  | _ => bI e
def bCell (s : Nat × Nat) (g : Nat → Int) : ax_C :=
  if s.1 < 10 then (if s.1 = 2 then .inl (2, s.2, .inr (.inl fun k => Int64.ofInt (g k))) else .inl (s.1, s.2, .inl fun k => Int32.ofInt (g k)))
  else .inr (s.1 - 10, (List.range (ax_cn (s.1 - 10))).map fun k => bV (ax_ty (s.1 - 10) k) (g k))
def bH (μ : bM) : ax_H := fun q => bCell (bSh q) (μ q)
theorem bH_i {μ : bM} {q n : Nat} (h : bSh q = (1, n)) : bH μ q = .inl (1, n, .inl fun k => Int32.ofInt (μ q k)) := by unfold bH; rw [h]; rfl
theorem bH_b {μ : bM} {q n : Nat} (h : bSh q = (0, n)) : bH μ q = .inl (0, n, .inl fun k => Int32.ofInt (μ q k)) := by unfold bH; rw [h]; rfl
theorem bH_z {μ : bM} {q n : Nat} (h : bSh q = (3, n)) : bH μ q = .inl (3, n, .inl fun k => Int32.ofInt (μ q k)) := by unfold bH; rw [h]; rfl
theorem bH_l {μ : bM} {q n : Nat} (h : bSh q = (2, n)) : bH μ q = .inl (2, n, .inr (.inl fun k => Int64.ofInt (μ q k))) := by unfold bH; rw [h]; rfl
theorem bH_o {μ : bM} {q n ci : Nat} (h : bSh q = (ci + 10, n)) : bH μ q = .inr (ci, (List.range (ax_cn ci)).map fun k => bV (ax_ty ci k) (μ q k)) := by
  unfold bH bCell
  rw [h]
  have h1 : ¬ (ci + 10 < 10) := by omega
  simp only [h1, if_false, Nat.add_sub_cancel]
/-- a cell's update -/
theorem bH_set {μ : bM} {q k : Nat} {e : Int} {x : ax_C} (h : bCell (bSh q) (bset μ q k e q) = x) : ax_up (bH μ) q x = bH (bset μ q k e) := by
  funext q'
  unfold ax_up
  by_cases c : q' = q
  · rw [if_pos c, c, ← h]; rfl
  · rw [if_neg c]
    unfold bH
    congr 1
    funext k'
    unfold bset
    rw [if_neg (fun hh => c hh.1)]
theorem bset_row {μ : bM} {q k : Nat} {e : Int} (j : Nat) : bset μ q k e q j = if j = k then e else μ q j := by
  unfold bset
  by_cases c : j = k
  · rw [if_pos ⟨rfl, c⟩, if_pos c]
  · rw [if_neg (fun h => c h.2), if_neg c]
end BA
