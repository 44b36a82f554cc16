section FM
/-! both together: either both read the same, or both refuse alike -/
def BadP (μ ν : bM) : Prop := ν 76 37 = μ 46 4 ∧ ν 76 38 = μ 46 2 ∧ ν 76 39 = μ 46 3 ∧ 0 ≤ μ 46 4 ∧ μ 46 4 ≤ 24000
def Bad1 (μ ν μ' ν' : bM) : Prop := BadP μ' ν' ∧ (∀ q, q ≠ 46 → μ' q = μ q) ∧ (∀ q, q ≠ 76 → ν' q = ν q) ∧ ∀ k, k < 37 ∨ 40 < k → ν' 76 k = ν 76 k
section
variable {r : Nat → Nat → Int} {sz : Nat → Nat} {μ ν : bM} {j p E n w : Nat} {g most : Int}
theorem Bad1_mk {k : Int} {a a' pl : Nat} (h : μ 46 5 = (j : Int)) (hp : pl ≤ 24000) : Bad1 μ ν (fl (bset μ 46 0 (a : Int)) k pl) (wr (bset ν 76 40 (a' : Int)) k j pl) := by
  unfold Bad1 BadP fl wr
  refine ⟨⟨?_, ?_, ?_, ?_, ?_⟩, fun q hq => ?_, fun q hq => ?_, fun k hk => ?_⟩
  · simp (disch := first | omega | decide) only [bset_q, bset_k, bset_at]
  · simp (disch := first | omega | decide) only [bset_q, bset_k, bset_at]
  · simp (disch := first | omega | decide) only [bset_q, bset_k, bset_at, h]
  · simp (disch := first | omega | decide) only [bset_q, bset_k, bset_at]; omega
  · simp (disch := first | omega | decide) only [bset_q, bset_k, bset_at]; omega
  · simp (disch := first | omega | decide) only [bset_q, bset_k, bset_at]
  · simp (disch := first | omega | decide) only [bset_q, bset_k, bset_at]
  · simp (disch := first | omega | decide) only [bset_q, bset_k, bset_at]
theorem Bad1_mk0 {k : Int} {pl : Nat} (h : μ 46 5 = (j : Int)) (hp : pl ≤ 24000) : Bad1 μ ν (fl μ k pl) (wr ν k j pl) := by
  unfold Bad1 BadP fl wr
  refine ⟨⟨?_, ?_, ?_, ?_, ?_⟩, fun q hq => ?_, fun q hq => ?_, fun k hk => ?_⟩
  · simp (disch := first | omega | decide) only [bset_q, bset_k, bset_at]
  · simp (disch := first | omega | decide) only [bset_q, bset_k, bset_at]
  · simp (disch := first | omega | decide) only [bset_q, bset_k, bset_at, h]
  · simp (disch := first | omega | decide) only [bset_q, bset_k, bset_at]; omega
  · simp (disch := first | omega | decide) only [bset_q, bset_k, bset_at]; omega
  · simp (disch := first | omega | decide) only [bset_q, bset_k, bset_at]
  · simp (disch := first | omega | decide) only [bset_q, bset_k, bset_at]
  · simp (disch := first | omega | decide) only [bset_q, bset_k, bset_at]
theorem BadP_ne (h : BadP μ ν) : ν 76 37 ≠ -1 := by
  obtain ⟨h1, h2, h3, h4, h5⟩ := h
  omega
theorem row_cases (f : Nat → Int) (p E : Nat) (h : p ≤ E) : (∃ n, n < 10 ∧ (∀ i, i < n → 128 ≤ oc f (p + i)) ∧ p + n < E ∧ oc f (p + n) < 128) ∨ (∃ n, n < 10 ∧ (∀ i, i < n → 128 ≤ oc f (p + i)) ∧ p + n = E) ∨ ((∀ i, i < 10 → 128 ≤ oc f (p + i)) ∧ p + 9 < E) := by
  have L : ∀ m, m ≤ 10 → (∃ n, n < 10 ∧ (∀ i, i < n → 128 ≤ oc f (p + i)) ∧ p + n < E ∧ oc f (p + n) < 128) ∨ (∃ n, n < 10 ∧ (∀ i, i < n → 128 ≤ oc f (p + i)) ∧ p + n = E) ∨ ((∀ i, i < m → 128 ≤ oc f (p + i)) ∧ p + m ≤ E) := by
    intro m
    induction m with
    | zero => exact fun _ => Or.inr (Or.inr ⟨fun i hi => by omega, by omega⟩)
    | succ m ih =>
      intro hm
      rcases ih (by omega) with c | c | ⟨c1, c2⟩
      · exact Or.inl c
      · exact Or.inr (Or.inl c)
      · by_cases e : p + m = E
        · exact Or.inr (Or.inl ⟨m, by omega, c1, e⟩)
        · by_cases o : oc f (p + m) < 128
          · exact Or.inl ⟨m, by omega, c1, by omega, o⟩
          · refine Or.inr (Or.inr ⟨fun i hi => ?_, by omega⟩)
            by_cases x : i = m
            · rw [x]; omega
            · exact c1 i (by omega)
  rcases L 10 (by omega) with c | c | ⟨c1, c2⟩
  · exact Or.inl c
  · exact Or.inr (Or.inl c)
  · exact Or.inr (Or.inr ⟨c1, by omega⟩)
theorem rowV_le {f : Nat → Int} : rowV f g p n ≤ 9223372036854775807 := by
  have hq : ∀ x : Int64, x.toInt ≤ 9223372036854775807 := fun x => by
    have := Int64.toInt_lt x
    omega
  unfold rowV bOrL sg
  split
  · exact hq _
  · exact hq _
theorem sev63 {f : Nat → Int} (n1 : n < 10) (h9 : n = 9 → oc f (p + n) = 0) : sevN f p (n + 1) < 9223372036854775808 := by
  by_cases c : n = 9
  · have hl := sevN_lt (f := f) (p := p) n
    have e : sevN f p (n + 1) = sevN f p n + (oc f (p + n) % 128) * 2 ^ (7 * n) := rfl
    rw [e, h9 c, Nat.zero_mod, Nat.zero_mul, Nat.add_zero]
    have : 2 ^ (7 * n) ≤ 2 ^ 63 := Nat.pow_le_pow_right (by omega) (by omega)
    omega
  · have hl2 := sevN_lt (f := f) (p := p) (n + 1)
    have : 2 ^ (7 * (n + 1)) ≤ 2 ^ 63 := Nat.pow_le_pow_right (by omega) (by omega)
    omega
theorem rowV_nn {f : Nat → Int} (hg : g = 0) (n1 : n < 10) (h9 : n = 9 → oc f (p + n) = 0) : 0 ≤ rowV f g p n := by
  unfold rowV
  rw [if_neg (fun hh => hh.1 hg), sg_id (sev63 n1 h9)]
  omega
theorem J_row (hs : Src r sz) (hc : CSrc r sz μ) (hm : MSrc r sz ν) (hj : j < 2) (h : Cur j p E μ) (h' : Mur j p E ν) (hp : p ≤ E) (hE : E ≤ sz j) :
    (∃ (v : Int) (p' : Nat), p < p' ∧ p' ≤ E ∧ (g = 0 → 0 ≤ v) ∧ v ≤ 9223372036854775807 ∧ F_X1_row g μ = some (.inl v, bset μ 46 0 (p' : Int)) ∧ ∀ most, F_X11_row g most ν = some (v, if g = 0 ∧ most < v then wr (bset ν 76 40 (p' : Int)) 4 j p else bset ν 76 40 (p' : Int))) ∨
    (∃ μ' ν', F_X1_row g μ = some (.inr ISE, μ') ∧ Bad1 μ ν μ' ν' ∧ ∀ most, ∃ v', F_X11_row g most ν = some (v', ν')) := by
  have hz := sz_le hs hj
  have bad9 : p + 9 < E → (∀ i, i < 9 → 128 ≤ oc (r j) (p + i)) → oc (r j) (p + 9) ≠ 0 → g = 0 ∨ oc (r j) (p + 9) ≠ 127 → (∃ μ' ν', F_X1_row g μ = some (.inr ISE, μ') ∧ Bad1 μ ν μ' ν' ∧ ∀ most, ∃ v', F_X11_row g most ν = some (v', ν')) := by
    intro h1 h2 h3 h4
    exact ⟨_, _, C_row_bad hs hc hj h hE h1 h2 h3 h4, Bad1_mk h.1 (by omega), fun most => M_row_bad hs hm hj h' hE h1 h2 h3 h4⟩
  rcases row_cases (r j) p E hp with ⟨n, n1, n2, n3, n4⟩ | ⟨n, n1, n2, n3⟩ | ⟨n1, n2⟩
  · by_cases c9 : n = 9 → oc (r j) (p + n) = 0 ∨ g ≠ 0 ∧ oc (r j) (p + n) = 127
    · left
      have hv : g = 0 → 0 ≤ rowV (r j) g p n := fun hg => rowV_nn hg n1 (fun c => (c9 c).elim id fun x => absurd hg x.1)
      refine ⟨rowV (r j) g p n, p + n + 1, by omega, by omega, hv, ?_, C_row_ok hs hc hj h hE n1 n3 n2 n4 c9, fun most => ?_⟩
      · exact rowV_le
      · rw [M_row_ok hs hm hj h' hE n1 n3 n2 n4 c9]
        by_cases hg : g = 0
        · have := hv hg
          by_cases c : most < rowV (r j) g p n
          · rw [if_pos ⟨hg, Or.inr c⟩, if_pos ⟨hg, c⟩]
          · rw [if_neg (by omega), if_neg (by omega)]
        · rw [if_neg (fun hh => hg hh.1), if_neg (fun hh => hg hh.1)]
    · right
      have c : n = 9 := by
        by_cases x : n = 9
        · exact x
        · exact absurd (fun y => absurd y x) c9
      subst c
      refine bad9 n3 n2 (fun hh => c9 fun _ => Or.inl hh) ?_
      by_cases hg : g = 0
      · exact Or.inl hg
      · exact Or.inr fun hh => c9 fun _ => Or.inr ⟨hg, hh⟩
  · right
    exact ⟨_, _, C_row_end hs hc hj h hE n1 n3 n2, Bad1_mk h.1 (by omega), fun most => ⟨_, M_row_end hs hm hj h' hE n1 n3 n2⟩⟩
  · right
    have := n1 9 (by omega)
    refine bad9 n2 (fun i hi => n1 i (by omega)) (by omega) (Or.inr (by omega))
theorem J_small (hs : Src r sz) (hc : CSrc r sz μ) (hm : MSrc r sz ν) (hj : j < 2) (h : Cur j p E μ) (h' : Mur j p E ν) (hp : p ≤ E) (hE : E ≤ sz j) :
    (∃ v p' : Nat, p < p' ∧ p' ≤ E ∧ v ≤ 2147483647 ∧ F_X1_smallRow μ = some (.inl (v : Int), bset μ 46 0 (p' : Int)) ∧ F_X11_row 0 2147483647 ν = some ((v : Int), bset ν 76 40 (p' : Int))) ∨
    (∃ μ' ν' v', F_X1_smallRow μ = some (.inr ISE, μ') ∧ F_X11_row 0 2147483647 ν = some (v', ν') ∧ Bad1 μ ν μ' ν') := by
  have hz := sz_le hs hj
  unfold F_X1_smallRow
  rcases J_row (g := 0) hs hc hm hj h h' hp hE with ⟨v, p', h1, h2, h3, h4, h5, h6⟩ | ⟨μ', ν', h1, h2, h3⟩
  · have h3 := h3 rfl
    rw [h5, bXm_inl, h6 2147483647]
    by_cases c : 2147483647 < v
    · right
      rw [if_neg (fun hh => by have := bCle.mp hh; omega), if_pos ⟨rfl, c⟩, C_refuse, bXm_inr, h.2.2.1]
      exact ⟨_, _, _, rfl, rfl, Bad1_mk h.1 (by omega)⟩
    · left
      obtain ⟨x, hx⟩ : ∃ x : Nat, v = x := ⟨v.toNat, by omega⟩
      subst hx
      refine ⟨x, p', h1, h2, by omega, ?_, ?_⟩
      · rw [if_pos (bCle.mpr (by omega)), show b32 (x : Int) = x by unfold b32; omega]
      · rw [if_neg (fun hh => c hh.2)]
  · right
    obtain ⟨v', h4⟩ := h3 2147483647
    rw [h1, bXm_inr]
    exact ⟨μ', ν', v', rfl, h4, h2⟩
theorem J_low (hs : Src r sz) (hc : CSrc r sz μ) (hm : MSrc r sz ν) (hj : j < 2) (h : Cur j p E μ) (h' : Mur j p E ν) (hp : p ≤ E) (hE : E ≤ sz j) (w8 : w ≤ 8) :
    (p + w ≤ E ∧ F_X1_lowFirst w μ = some (.inl (sg (lowN (r j) p w)), bset μ 46 0 ((p + w : Nat) : Int)) ∧ F_X11_fixed w ν = some (sg (lowN (r j) p w), bset ν 76 40 ((p + w : Nat) : Int))) ∨
    (∃ μ' ν', F_X1_lowFirst w μ = some (.inr ISE, μ') ∧ F_X11_fixed w ν = some (0, ν') ∧ Bad1 μ ν μ' ν') := by
  have hz := sz_le hs hj
  by_cases c : p + w ≤ E
  · exact Or.inl ⟨c, C_low_ok hs hc hj h hE c w8, M_fixed_ok hs hm hj h' hE c w8⟩
  · exact Or.inr ⟨_, _, C_low_bad hs hj h hp hE (by omega), M_fixed_bad hs hj h' hp hE (by omega) w8, Bad1_mk0 h.1 (by omega)⟩
theorem CSrc_cong {μ' : bM} (hc : CSrc r sz μ) (h : ∀ q, 7 ≤ q → q ≤ 12 → μ' q = μ q) : CSrc r sz μ' := fun i hi => by
  have := hc i hi
  rw [h _ (by omega) (by omega), h _ (by omega) (by omega)]
  exact this
theorem MSrc_cong {ν' : bM} (hm : MSrc r sz ν) (h : ∀ q, 93 ≤ q → q ≤ 94 → ν' q = ν q) : MSrc r sz ν' := fun i hi => by
  have := hm i hi
  rw [h _ (by omega) (by omega), h _ (by omega) (by omega)]
  exact this
theorem CSrc_b {q k : Nat} {v : Int} (hc : CSrc r sz μ) (h : q < 7 ∨ 12 < q) : CSrc r sz (bset μ q k v) := CSrc_cong hc fun q' h1 h2 => by rw [bset_q (by omega)]
theorem MSrc_b {q k : Nat} {v : Int} (hm : MSrc r sz ν) (h : q < 93 ∨ 94 < q) : MSrc r sz (bset ν q k v) := MSrc_cong hm fun q' h1 h2 => by rw [bset_q (by omega)]
theorem Cur_at {p' : Nat} (h : Cur j p E μ) : Cur j p' E (bset μ 46 0 (p' : Int)) := by
  obtain ⟨h1, ⟨h2, h20, h30⟩, h3, h4⟩ := h
  refine ⟨?_, ⟨?_, ?_, ?_⟩, ?_, ?_⟩
  · simp (disch := first | omega | decide) only [bset_q, bset_k, bset_at, h1]
  · simp (disch := first | omega | decide) only [bset_q, bset_k, bset_at, h2]
  · simp (disch := first | omega | decide) only [bset_q, bset_k, bset_at, h20]
  · simp (disch := first | omega | decide) only [bset_q, bset_k, bset_at, h30]
  · simp (disch := first | omega | decide) only [bset_q, bset_k, bset_at]
  · simp (disch := first | omega | decide) only [bset_q, bset_k, bset_at, h4]
theorem Mur_at {p' : Nat} (h : Mur j p E ν) : Mur j p' E (bset ν 76 40 (p' : Int)) := by
  obtain ⟨h1, h2, h3, h4⟩ := h
  refine ⟨?_, ?_, ?_, ?_⟩
  · simp (disch := first | omega | decide) only [bset_q, bset_k, bset_at, h1]
  · simp (disch := first | omega | decide) only [bset_q, bset_k, bset_at]
  · simp (disch := first | omega | decide) only [bset_q, bset_k, bset_at, h3]
  · simp (disch := first | omega | decide) only [bset_q, bset_k, bset_at, h4]
theorem Cur_b {q k : Nat} {v : Int} (h : Cur j p E μ) (hq : q ≠ 46) : Cur j p E (bset μ q k v) := by
  obtain ⟨h1, ⟨h2, h20, h30⟩, h3, h4⟩ := h
  refine ⟨?_, ⟨?_, ?_, ?_⟩, ?_, ?_⟩
  · simp (disch := first | omega | decide) only [bset_q, bset_k, bset_at, h1]
  · simp (disch := first | omega | decide) only [bset_q, bset_k, bset_at, h2]
  · simp (disch := first | omega | decide) only [bset_q, bset_k, bset_at, h20]
  · simp (disch := first | omega | decide) only [bset_q, bset_k, bset_at, h30]
  · simp (disch := first | omega | decide) only [bset_q, bset_k, bset_at, h3]
  · simp (disch := first | omega | decide) only [bset_q, bset_k, bset_at, h4]
theorem Mur_b {q k : Nat} {v : Int} (h : Mur j p E ν) (hq : q ≠ 76 ∨ k < 37 ∨ 42 < k) : Mur j p E (bset ν q k v) := by
  obtain ⟨h1, h2, h3, h4⟩ := h
  have e : ∀ i, 37 ≤ i → i ≤ 42 → bset ν q k v 76 i = ν 76 i := fun i i1 i2 => by
    by_cases c : q = 76
    · rw [bset_k (by omega)]
    · rw [bset_q (by omega)]
  exact ⟨by rw [e _ (by omega) (by omega)]; exact h1, by rw [e _ (by omega) (by omega)]; exact h2, by rw [e _ (by omega) (by omega)]; exact h3, by rw [e _ (by omega) (by omega)]; exact h4⟩
end
end FM
