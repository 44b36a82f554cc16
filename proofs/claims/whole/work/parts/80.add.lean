section DK
/-! the class's and the model's ways to make an entry -/
section
variable {T b n m p : Nat} {μ : bM} {tag par u d : Int}
def addC (T n m : Nat) (tag par u d : Int) (μ μ' : bM) : Prop :=
  (μ' T 1 = (n : Int) + 1 ∧ μ' T 0 = (m : Int) + (if par = -1 then 1 else 0)) ∧
  (∀ j : Nat, μ' (T + 1) j = if par = -1 ∧ j = m then (n : Int) else μ (T + 1) j) ∧
  (∀ j : Nat, μ' (T + 2) j = if j = n then tag else μ (T + 2) j) ∧
  (∀ j : Nat, μ' (T + 3) j = if j = n then par else μ (T + 3) j) ∧
  (∀ j : Nat, μ' (T + 4) j = if j = n then u else μ (T + 4) j) ∧
  (∀ j : Nat, μ' (T + 5) j = if j = n then d else μ (T + 5) j) ∧
  (∀ j : Nat, μ' (T + 6) j = if j = n then 0 else if (j : Int) = par then μ (T + 6) j + 1 else μ (T + 6) j) ∧
  (∀ j : Nat, μ' (T + 7) j = if j = n then -1 else if (j : Int) = par ∧ μ (T + 6) j = 0 then (n : Int) else μ (T + 7) j) ∧
  (∀ j : Nat, μ' (T + 8) j = if j = n then -1 else if (j : Int) = par then (n : Int) else μ (T + 8) j) ∧
  (∀ j : Nat, μ' (T + 9) j = if j = n then -1 else if 0 ≤ par ∧ μ (T + 6) par.toNat ≠ 0 ∧ (j : Int) = μ (T + 8) par.toNat then (n : Int) else μ (T + 9) j) ∧
  (∀ j : Nat, μ' (T + 10) j = if j = n then 0 else μ (T + 10) j)
theorem C_addRoot (hn : μ T 1 = (n : Int)) (hm : μ T 0 = (m : Int)) (n4 : n < 400) (m6 : m < 6) : ∃ ν, F_X8_addRoot T tag μ = some ((n : Int), ν) ∧ addC T n m tag (-1) m 0 μ ν ∧ ∀ q, (q < T ∨ T + 10 < q) → ν q = μ q := by
  refine ⟨?w, ?e, ?f⟩
  case e =>
    unfold F_X8_addRoot F_X8_addEntry
    simp (disch := first | omega | decide) only [bG_pos, bMm_some, bXm_inl, bXm_inr, Option.bind_some, bset_q, bset_k, bset_at, if_pos, if_neg, Int.toNat_natCast, hn, hm]
    rfl
  case f =>
    refine ⟨⟨⟨by simp (disch := first | omega | decide) only [bset_q, bset_k, bset_at, hn, hm], by simp (disch := first | omega | decide) only [bset_q, bset_k, bset_at, hn, hm]; rfl⟩, fun j => ?_, fun j => ?_, fun j => ?_, fun j => ?_, fun j => ?_, fun j => ?_, fun j => ?_, fun j => ?_, fun j => ?_, fun j => ?_⟩, fun q hq => ?_⟩
    · simp (disch := first | omega | decide) only [bset_q, bset_row]
      simp
    · simp (disch := first | omega | decide) only [bset_q, bset_row]
    · simp (disch := first | omega | decide) only [bset_q, bset_row]
    · simp (disch := first | omega | decide) only [bset_q, bset_row]
    · simp (disch := first | omega | decide) only [bset_q, bset_row]
    · simp (disch := first | omega | decide) only [bset_q, bset_row]
      rw [if_neg (c := (j : Int) = -1) (by omega)]
    · simp (disch := first | omega | decide) only [bset_q, bset_row]
      rw [if_neg (c := (j : Int) = -1 ∧ _) (by omega)]
    · simp (disch := first | omega | decide) only [bset_q, bset_row]
      rw [if_neg (c := (j : Int) = -1) (by omega)]
    · simp (disch := first | omega | decide) only [bset_q, bset_row]
      simp
    · simp (disch := first | omega | decide) only [bset_q, bset_row]
    · simp (disch := omega) only [bset_q]
theorem C_addChild (hn : μ T 1 = (n : Int)) (n4 : n < 400) (hm : μ T 0 = (m : Int)) (hp : p < n) (h6 : 0 ≤ μ (T + 6) p ∧ μ (T + 6) p ≤ 400) (h8 : μ (T + 6) p ≠ 0 → 0 ≤ μ (T + 8) p ∧ μ (T + 8) p < n) (h5 : 0 ≤ μ (T + 5) p ∧ μ (T + 5) p ≤ 30) :
    ∃ ν, F_X8_addChild T p tag μ = some ((n : Int), ν) ∧ addC T n m tag p (μ (T + 4) p) (μ (T + 5) p + 1) μ ν ∧ ∀ q, (q < T ∨ T + 10 < q) → ν q = μ q := by
  have np : ¬ ((p : Int) = -1) := by omega
  have np2 : p ≠ n := by omega
  by_cases c : μ (T + 6) p = 0
  · refine ⟨?w, ?e, ?f⟩
    case e =>
      unfold F_X8_addChild F_X8_addEntry F_X8_addChild_70
      simp (disch := first | omega | decide) only [bG_pos, bMm_some, bXm_inl, bXm_inr, Option.bind_some, bset_q, bset_k, bset_at, if_pos, if_neg, Int.toNat_natCast, hn, hm, c]
      rfl
    case f =>
      refine ⟨⟨⟨by simp (disch := first | omega | decide) only [bset_q, bset_k, bset_at, hn, hm], by simp (disch := first | omega | decide) only [bset_q, bset_k, bset_at, hn, hm, if_neg np, Int.add_zero]⟩, fun j => ?_, fun j => ?_, fun j => ?_, fun j => ?_, fun j => ?_, fun j => ?_, fun j => ?_, fun j => ?_, fun j => ?_, fun j => ?_⟩, fun q hq => ?_⟩
      · simp (disch := first | omega | decide) only [bset_q, bset_row]
        rw [if_neg (by omega)]
      · simp (disch := first | omega | decide) only [bset_q, bset_row]
      · simp (disch := first | omega | decide) only [bset_q, bset_row]
      · simp (disch := first | omega | decide) only [bset_q, bset_row]
      · simp (disch := first | omega | decide) only [bset_q, bset_row]
      · simp (disch := first | omega | decide) only [bset_q, bset_row]
        by_cases h1 : j = n
        · rw [if_neg (by omega), if_pos h1, if_pos h1]
        · by_cases h2 : j = p
          · rw [if_pos h2, if_neg h1, if_pos (by omega), h2, c]
          · rw [if_neg h2, if_neg h1, if_neg h1, if_neg (by omega)]
      · simp (disch := first | omega | decide) only [bset_q, bset_row]
        by_cases h1 : j = n
        · rw [if_neg (by omega), if_pos h1, if_pos h1]
        · by_cases h2 : j = p
          · rw [if_pos h2, if_neg h1, if_pos (by rw [h2]; exact ⟨rfl, c⟩)]
          · rw [if_neg h2, if_neg h1, if_neg h1, if_neg (by omega)]
      · simp (disch := first | omega | decide) only [bset_q, bset_row]
        by_cases h1 : j = n
        · rw [if_neg (by omega), if_pos h1, if_pos h1]
        · by_cases h2 : j = p
          · rw [if_pos h2, if_neg h1, if_pos (by omega)]
          · rw [if_neg h2, if_neg h1, if_neg h1, if_neg (by omega)]
      · simp (disch := first | omega | decide) only [bset_q, bset_row]
        rw [Int.toNat_natCast, if_neg (c := 0 ≤ (p : Int) ∧ _) (fun h => h.2.1 c)]
      · simp (disch := first | omega | decide) only [bset_q, bset_row]
      · simp (disch := omega) only [bset_q]
  · have h8 := h8 c
    obtain ⟨l, hl⟩ : ∃ l : Nat, μ (T + 8) p = l := ⟨(μ (T + 8) p).toNat, by omega⟩
    refine ⟨?w2, ?e2, ?f2⟩
    case e2 =>
      unfold F_X8_addChild F_X8_addEntry F_X8_addChild_70
      simp (disch := first | omega | decide) only [bG_pos, bMm_some, bXm_inl, bXm_inr, Option.bind_some, bset_q, bset_k, bset_at, if_pos, if_neg, Int.toNat_natCast, hn, hm, hl]
      rfl
    case f2 =>
      refine ⟨⟨⟨by simp (disch := first | omega | decide) only [bset_q, bset_k, bset_at, hn, hm], by simp (disch := first | omega | decide) only [bset_q, bset_k, bset_at, hn, hm, if_neg np, Int.add_zero]⟩, fun j => ?_, fun j => ?_, fun j => ?_, fun j => ?_, fun j => ?_, fun j => ?_, fun j => ?_, fun j => ?_, fun j => ?_, fun j => ?_⟩, fun q hq => ?_⟩
      · simp (disch := first | omega | decide) only [bset_q, bset_row]
        rw [if_neg (by omega)]
      · simp (disch := first | omega | decide) only [bset_q, bset_row]
      · simp (disch := first | omega | decide) only [bset_q, bset_row]
      · simp (disch := first | omega | decide) only [bset_q, bset_row]
      · simp (disch := first | omega | decide) only [bset_q, bset_row]
      · simp (disch := first | omega | decide) only [bset_q, bset_row]
        by_cases h1 : j = n
        · rw [if_neg (by omega), if_pos h1, if_pos h1]
        · by_cases h2 : j = p
          · rw [if_pos h2, if_neg h1, if_pos (by omega), h2]
          · rw [if_neg h2, if_neg h1, if_neg h1, if_neg (by omega)]
      · simp (disch := first | omega | decide) only [bset_q, bset_row]
        by_cases h1 : j = n
        · rw [if_pos h1, if_pos h1]
        · rw [if_neg h1, if_neg h1, if_neg (fun h => c (by rw [← show j = p by omega]; exact h.2))]
      · simp (disch := first | omega | decide) only [bset_q, bset_row]
        by_cases h1 : j = n
        · rw [if_neg (by omega), if_pos h1, if_pos h1]
        · by_cases h2 : j = p
          · rw [if_pos h2, if_neg h1, if_pos (by omega)]
          · rw [if_neg h2, if_neg h1, if_neg h1, if_neg (by omega)]
      · simp (disch := first | omega | decide) only [bset_q, bset_row]
        rw [Int.toNat_natCast, hl]
        by_cases h1 : j = n
        · rw [if_neg (by omega), if_pos h1, if_pos h1]
        · by_cases h2 : j = l
          · rw [if_pos h2, if_neg h1, if_pos ⟨by omega, c, by omega⟩]
          · rw [if_neg h2, if_neg h1, if_neg h1, if_neg (by omega)]
      · simp (disch := first | omega | decide) only [bset_q, bset_row]
      · simp (disch := omega) only [bset_q]
theorem M_at {e : Nat} (hb : b = 0 ∨ b = 1) (h3 : μ 76 3 = (b : Int)) (he : e ≤ 400) : F_X11_at e μ = some (400 * (b : Int) + e) := by
  unfold F_X11_at
  simp (disch := first | omega | decide) only [bG_pos, bMm_some, bXm_inl, bXm_inr, Option.bind_some, bset_q, bset_k, bset_at, if_pos, if_neg, Int.toNat_natCast, h3]
theorem M_make (hb : b = 0 ∨ b = 1) (h3 : μ 76 3 = (b : Int)) (hn : μ 78 b = (n : Int)) (n4 : n < 400) : ∃ ν, F_X11_make tag par u μ = some ((n : Int), ν) ∧ ν 78 b = (n : Int) + 1 ∧
    (∀ j : Nat, ν 81 (400 * b + j) = if j = n then tag else μ 81 (400 * b + j)) ∧ (∀ j : Nat, ν 82 (400 * b + j) = if j = n then par else μ 82 (400 * b + j)) ∧
    (∀ j : Nat, ν 83 (400 * b + j) = if j = n then u else μ 83 (400 * b + j)) ∧ (∀ j : Nat, ν 84 (400 * b + j) = if j = n then 0 else μ 84 (400 * b + j)) ∧ ∀ q, (q < 78 ∨ 79 ≤ q ∧ q ≤ 80 ∨ 85 ≤ q) → ν q = μ q := by
  refine ⟨?w3, ?e3, ?f3⟩
  case e3 =>
    unfold F_X11_make F_X11_at
    simp (disch := first | omega | decide) only [bG_pos, bMm_some, bXm_inl, bXm_inr, Option.bind_some, bset_q, bset_k, bset_at, if_pos, if_neg, Int.toNat_natCast, hn, h3, t400]
    rfl
  case f3 =>
    refine ⟨by simp (disch := first | omega | decide) only [bset_q, bset_k, bset_at], fun j => ?_, fun j => ?_, fun j => ?_, fun j => ?_, fun q hq => ?_⟩
    · simp (disch := first | omega | decide) only [bset_q, bset_row, Nat.add_left_cancel_iff]
    · simp (disch := first | omega | decide) only [bset_q, bset_row, Nat.add_left_cancel_iff]
    · simp (disch := first | omega | decide) only [bset_q, bset_row, Nat.add_left_cancel_iff]
    · simp (disch := first | omega | decide) only [bset_q, bset_row, Nat.add_left_cancel_iff]
    · simp (disch := omega) only [bset_q]
end
end DK
