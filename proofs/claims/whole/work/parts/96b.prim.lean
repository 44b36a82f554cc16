section FK
/-! the reader's first steps: octets, numbers, rows; the class's by exceptions, the model's by a mark -/
def ISE : String := "java/lang/IllegalStateException"
def Src (r : Nat → Nat → Int) (sz : Nat → Nat) : Prop := sz 0 ≤ 24000 ∧ sz 1 ≤ 8000 ∧ sz 2 ≤ 8000 ∧ ∀ j i, -128 ≤ r j i ∧ r j i ≤ 127
def sO (j : Nat) : Nat := if j = 0 then 0 else if j = 1 then 24000 else 32000
def CSrc (r : Nat → Nat → Int) (sz : Nat → Nat) (μ : bM) : Prop := ∀ j, j < 3 → μ (7 + 2 * j) 1 = (sz j : Int) ∧ ∀ i, i < sz j → μ (8 + 2 * j) i = r j i
def MSrc (r : Nat → Nat → Int) (sz : Nat → Nat) (ν : bM) : Prop := ∀ j, j < 3 → ν 94 j = (sz j : Int) ∧ ∀ i, i < sz j → ν 93 (sO j + i) = r j i
def Cur (j p E : Nat) (μ : bM) : Prop := μ 46 5 = (j : Int) ∧ (μ 46 6 = ((7 + 2 * j : Nat) : Int) ∧ μ 46 2 = 0 ∧ μ 46 3 = 0) ∧ μ 46 0 = (p : Int) ∧ μ 46 1 = (E : Int)
def Mur (j p E : Nat) (ν : bM) : Prop := ν 76 42 = (j : Int) ∧ ν 76 40 = (p : Int) ∧ ν 76 41 = (E : Int) ∧ ν 76 37 = -1
def fl (μ : bM) (k pl : Int) : bM := bset (bset (bset μ 46 2 k) 46 3 (μ 46 5)) 46 4 pl
def wr (ν : bM) (k s pl : Int) : bM := bset (bset (bset ν 76 37 pl) 76 38 k) 76 39 s
section
variable {r : Nat → Nat → Int} {sz : Nat → Nat} {μ ν : bM} {j p E w : Nat}
theorem C_refuse {k pl : Int} : F_X1_refuse k pl μ = some (.inr ISE, fl μ k pl) := by
  unfold F_X1_refuse fl ISE
  simp (disch := first | omega | decide) only [bset_q, bset_k, bset_at]
theorem M_bad {k s pl : Int} (h : ν 76 37 = -1) : F_X11_bad k s pl ν = some (0, wr ν k s pl) := by
  unfold F_X11_bad wr
  rw [if_neg (fun c => c h)]
theorem M_badno {k s pl : Int} (h : ν 76 37 ≠ -1) : F_X11_bad k s pl ν = some (0, ν) := by
  unfold F_X11_bad
  rw [if_pos h]
theorem C_oct (hs : Src r sz) (hc : CSrc r sz μ) (hj : j < 3) {i : Nat} (hi : i < sz j) : F_X6_at (7 + 2 * j) i μ = some (oc (r j) i : Int) := by
  obtain ⟨h1, h2⟩ := hc j hj
  obtain ⟨s0, s1, s2, s3⟩ := hs
  have hb : (i : Int) < ((bN (7 + 2 * j + 1) : Nat) : Int) := by
    have : j = 0 ∨ j = 1 ∨ j = 2 := by omega
    rcases this with c | c | c <;> subst c
    · show (i : Int) < ((24000 : Nat) : Int); omega
    · show (i : Int) < ((8000 : Nat) : Int); omega
    · show (i : Int) < ((8000 : Nat) : Int); omega
  unfold F_X6_at
  rw [if_neg (by omega), h1, if_neg (by omega), bG_pos ⟨by omega, hb⟩, Int.toNat_natCast, show 7 + 2 * j + 1 = 8 + 2 * j by omega, h2 i hi, bAnd_b (s3 j i), oc_eq]
theorem M_from (hj : j < 3) : F_X11_from (j : Int) ν = some ((sO j : Nat) : Int) := by
  have : j = 0 ∨ j = 1 ∨ j = 2 := by omega
  rcases this with c | c | c <;> subst c <;> rfl
theorem sO_sz (hs : Src r sz) (hj : j < 3) : sO j + sz j ≤ 40000 := by
  obtain ⟨s0, s1, s2, s3⟩ := hs
  have : j = 0 ∨ j = 1 ∨ j = 2 := by omega
  rcases this with c | c | c <;> subst c <;> simp [sO] <;> omega
theorem M_oct (hs : Src r sz) (hc : MSrc r sz ν) (hj : j < 3) (h42 : ν 76 42 = (j : Int)) {i : Nat} (hi : i < sz j) : F_X11_byteAt i ν = some (oc (r j) i : Int) := by
  have hz := sO_sz hs hj
  unfold F_X11_byteAt
  rw [h42, M_from hj, Option.bind_some, bG_pos (by constructor <;> omega), bG_pos (by omega), show ((sO j : Nat) : Int) + (i : Int) = ((sO j + i : Nat) : Int) by omega, Int.toNat_natCast, (hc j hj).2 i hi, bAnd_b (hs.2.2.2 j i), oc_eq]
theorem M_has_ok (h : Mur j p E ν) (hw : p + w ≤ E) (hE : E ≤ 24000) : F_X11_has w ν = some (1, ν) := by
  obtain ⟨h1, h2, h3, h4⟩ := h
  unfold F_X11_has
  rw [h2, h3, h4, if_neg (by decide), bG_pos (by constructor <;> omega), if_pos (by omega), if_neg (by decide)]
theorem M_has_bad (h : Mur j p E ν) (hw : E < p + w) (hp : p ≤ 24000) (hw2 : w ≤ 24000) : F_X11_has w ν = some (0, wr ν 1 j E) := by
  obtain ⟨h1, h2, h3, h4⟩ := h
  unfold F_X11_has
  rw [h2, h3, M_bad h4, h4, if_neg (by decide), bG_pos (by constructor <;> omega), if_neg (by omega), bMm_some, h1]
  unfold wr
  simp (disch := first | omega | decide) only [bG_pos, bMm_some, bXm_inl, bXm_inr, Option.bind_some, bset_q, bset_k, bset_at, if_pos, if_neg, Int.toNat_natCast]
theorem M_has_w {w : Int} (h : ν 76 37 ≠ -1) : F_X11_has w ν = some (0, ν) := by
  unfold F_X11_has
  rw [if_pos h, if_pos h]
/-! numbers low first -/
theorem sz_le (hs : Src r sz) (hj : j < 2) : sz j ≤ 24000 := by
  obtain ⟨s0, s1, s2, s3⟩ := hs
  have : j = 0 ∨ j = 1 := by omega
  rcases this with c | c <;> subst c <;> omega
theorem C_low_ok (hs : Src r sz) (hc : CSrc r sz μ) (hj : j < 2) (h : Cur j p E μ) (hE : E ≤ sz j) (hw : p + w ≤ E) (w8 : w ≤ 8) : F_X1_lowFirst w μ = some (.inl (sg (lowN (r j) p w)), bset μ 46 0 ((p + w : Nat) : Int)) := by
  obtain ⟨h1, ⟨h2, _, _⟩, h3, h4⟩ := h
  have hz := sz_le hs hj
  have L : ∀ d i : Nat, i + d = w → bLoop (fun z : Int × Int => F_X1_lowFirst_27 w μ z.1 z.2) (sg (lowN (r j) p i), (i : Int)) = some (.inl (sg (lowN (r j) p w)), bset μ 46 0 ((p + w : Nat) : Int)) := by
    intro d
    induction d with
    | zero =>
      intro i hi
      refine bLoop_done ?_
      show F_X1_lowFirst_27 w μ _ _ = _
      unfold F_X1_lowFirst_27
      rw [if_pos (by omega), h3, bG_pos (by constructor <;> omega), show i = w by omega, show (p : Int) + (w : Int) = ((p + w : Nat) : Int) by omega]
    | succ d ih =>
      intro i hi
      refine (bLoop_step (s' := (sg (lowN (r j) p (i + 1)), ((i + 1 : Nat) : Int))) ?_).trans (ih (i + 1) (by omega))
      show F_X1_lowFirst_27 w μ _ _ = _
      unfold F_X1_lowFirst_27
      rw [if_neg (by omega), h3, bG_pos (by constructor <;> omega), h2, Int.toNat_natCast, show (p : Int) + (i : Int) = ((p + i : Nat) : Int) by omega, C_oct hs hc (by omega) (by omega), Option.bind_some, bG_pos (by constructor <;> omega), bG_pos (by constructor <;> omega), show (8 : Int) * (i : Int) = ((8 * i : Nat) : Int) by omega, low_step (by omega)]
      rfl
  unfold F_X1_lowFirst
  rw [h3, h4, bG_pos (by constructor <;> omega), if_pos (by omega)]
  exact L w 0 (by omega)
theorem C_low_bad (hs : Src r sz) (hj : j < 2) (h : Cur j p E μ) (hp : p ≤ E) (hE : E ≤ sz j) (hw : E < p + w) : F_X1_lowFirst w μ = some (.inr ISE, fl μ 1 E) := by
  obtain ⟨h1, ⟨h2, _, _⟩, h3, h4⟩ := h
  have hz := sz_le hs hj
  unfold F_X1_lowFirst
  rw [h3, h4, bG_pos (by constructor <;> omega), if_neg (by omega), C_refuse, bXm_inr]
theorem M_fixed_ok (hs : Src r sz) (hc : MSrc r sz ν) (hj : j < 2) (h : Mur j p E ν) (hE : E ≤ sz j) (hw : p + w ≤ E) (w8 : w ≤ 8) : F_X11_fixed w ν = some (sg (lowN (r j) p w), bset ν 76 40 ((p + w : Nat) : Int)) := by
  have hh := M_has_ok h hw (by have := sz_le hs hj; omega)
  obtain ⟨h1, h2, h3, h4⟩ := h
  have hz := sz_le hs hj
  have L : ∀ d i : Nat, i + d = w → bLoop (fun z : Int × Int => F_X11_fixed_17 w ν z.1 z.2) (sg (lowN (r j) (p + d) i), (d : Int) - 1) = some (sg (lowN (r j) p w), bset ν 76 40 ((p + w : Nat) : Int)) := by
    intro d
    induction d with
    | zero =>
      intro i hi
      refine bLoop_done ?_
      show F_X11_fixed_17 w ν _ _ = _
      unfold F_X11_fixed_17
      rw [if_pos (by omega), h2, bG_pos (by constructor <;> omega), show i = w by omega, show (p : Int) + (w : Int) = ((p + w : Nat) : Int) by omega, Nat.add_zero]
    | succ d ih =>
      intro i hi
      refine (bLoop_step (s' := (sg (lowN (r j) (p + d) (i + 1)), (d : Int) - 1)) ?_).trans (ih (i + 1) (by omega))
      show F_X11_fixed_17 w ν _ _ = _
      unfold F_X11_fixed_17
      rw [if_neg (by omega), h2, bG_pos (by constructor <;> omega), show (p : Int) + (((d + 1 : Nat) : Int) - 1) = ((p + d : Nat) : Int) by omega, M_oct hs hc (by omega) h1 (by omega), Option.bind_some, bG_pos (by constructor <;> omega), show p + (d + 1) = p + d + 1 by omega, hi_step (by omega), show ((d + 1 : Nat) : Int) - 1 + -1 = (d : Int) - 1 by omega]
  unfold F_X11_fixed
  rw [hh, bMm_some, if_pos (by decide), bG_pos (by constructor <;> omega)]
  exact L w 0 (by omega)
theorem M_fixed_bad (hs : Src r sz) (hj : j < 2) (h : Mur j p E ν) (hp : p ≤ E) (hE : E ≤ sz j) (hw : E < p + w) (w8 : w ≤ 8) : F_X11_fixed w ν = some (0, wr ν 1 j E) := by
  have hz := sz_le hs hj
  unfold F_X11_fixed
  rw [M_has_bad h hw (by omega) (by omega), bMm_some, if_neg (by decide)]
theorem M_fixed_w {w : Int} (h : ν 76 37 ≠ -1) : F_X11_fixed w ν = some (0, ν) := by
  unfold F_X11_fixed
  rw [M_has_w h, bMm_some, if_neg (by decide)]
end
end FK
