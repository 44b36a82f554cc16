section FL
/-! rows of sevens, read by both -/
section
variable {r : Nat → Nat → Int} {sz : Nat → Nat} {μ ν : bM} {j p E n : Nat} {g most : Int}
theorem wr_37 {k s pl : Int} : wr ν k s pl 76 37 = pl := by
  unfold wr
  simp (disch := first | omega | decide) only [bset_q, bset_k, bset_at]
theorem C_row1 (hs : Src r sz) (hc : CSrc r sz μ) (hj : j < 2) (h : Cur j p E μ) (hE : E ≤ sz j) (n9 : n < 10) (hn : p + n < E) (f0 v : Int) : F_X1_row_10 g f0 v n (bset μ 46 0 ((p + n : Nat) : Int)) = F_X1_row_72 g f0 v n (oc (r j) (p + n)) (if n = 9 then 1 else 0) (bset μ 46 0 ((p + n + 1 : Nat) : Int)) := by
  obtain ⟨h1, ⟨h2, h20, h30⟩, h3, h4⟩ := h
  have hz := sz_le hs hj
  have hc' : CSrc r sz (bset μ 46 0 ((p + n : Nat) : Int)) := fun i hi => by
    have := hc i hi
    rw [bset_q (by omega), bset_q (by omega)]
    exact this
  unfold F_X1_row_10 F_X1_row_37
  rw [if_neg (by omega)]
  have a0 : bset μ 46 0 ((p + n : Nat) : Int) 46 0 = ((p + n : Nat) : Int) := by simp (disch := first | omega | decide) only [bset_q, bset_k, bset_at]
  have a1 : bset μ 46 0 ((p + n : Nat) : Int) 46 1 = (E : Int) := by simp (disch := first | omega | decide) only [bset_q, bset_k, bset_at, h4]
  have a6 : bset μ 46 0 ((p + n : Nat) : Int) 46 6 = ((7 + 2 * j : Nat) : Int) := by simp (disch := first | omega | decide) only [bset_q, bset_k, bset_at, h2]
  have a7 : bset (bset μ 46 0 ((p + n : Nat) : Int)) 46 0 (((p + n : Nat) : Int) + 1) = bset μ 46 0 ((p + n + 1 : Nat) : Int) := by
    funext q k
    unfold bset
    by_cases c : q = 46 ∧ k = 0
    · rw [if_pos c, if_pos c]; omega
    · rw [if_neg c, if_neg c, if_neg c]
  rw [a0, a1, if_pos (by omega), a6, Int.toNat_natCast, C_oct hs hc' (by omega) (by omega), Option.bind_some, bG_pos (by constructor <;> omega), a7]
  by_cases c : n = 9
  · rw [if_neg (by omega), if_pos c]
  · rw [if_pos (by omega), if_neg c]
theorem C_row_run (hs : Src r sz) (hc : CSrc r sz μ) (hj : j < 2) (h : Cur j p E μ) (hE : E ≤ sz j) : ∀ n : Nat, n < 10 → p + n ≤ E → (∀ i, i < n → 128 ≤ oc (r j) (p + i)) → F_X1_row g μ = bLoop (fun z : Int × Int × bM => F_X1_row_10 g p z.1 z.2.1 z.2.2) (sg (sevN (r j) p n), (n : Int), bset μ 46 0 ((p + n : Nat) : Int)) := by
  intro n
  induction n with
  | zero =>
    intro _ _ _
    unfold F_X1_row
    rw [h.2.2.1, Nat.add_zero, bset_id h.2.2.1]
    rfl
  | succ n ih =>
    intro h1 h2 h3
    rw [ih (by omega) (by omega) (fun i hi => h3 i (by omega))]
    refine bLoop_step ?_
    show F_X1_row_10 g p _ _ _ = _
    have ho := h3 n (by omega)
    rw [C_row1 hs hc hj h hE (by omega) (by omega), if_neg (by omega)]
    unfold F_X1_row_72 F_X1_row_101
    rw [if_pos rfl, bG_pos (by constructor <;> omega), if_pos (by omega), bG_pos (by constructor <;> omega), (and127 _ oc_lt).1, show (7 : Int) * (n : Int) = ((7 * n : Nat) : Int) by omega, sev_step (by omega)]
    rfl
def rowV (f : Nat → Int) (g : Int) (p n : Nat) : Int := if g ≠ 0 ∧ 64 ≤ oc f (p + n) ∧ n < 9 then bOrL (sg (sevN f p (n + 1))) (bShlL (-1) ((7 * (n + 1) : Nat) : Int)) else sg (sevN f p (n + 1))
theorem C_row_ok (hs : Src r sz) (hc : CSrc r sz μ) (hj : j < 2) (h : Cur j p E μ) (hE : E ≤ sz j) (n9 : n < 10) (hn : p + n < E) (hb : ∀ i, i < n → 128 ≤ oc (r j) (p + i)) (ho : oc (r j) (p + n) < 128) (h9 : n = 9 → oc (r j) (p + n) = 0 ∨ g ≠ 0 ∧ oc (r j) (p + n) = 127) :
    F_X1_row g μ = some (.inl (rowV (r j) g p n), bset μ 46 0 ((p + n + 1 : Nat) : Int)) := by
  rw [C_row_run hs hc hj h hE n n9 (by omega) hb]
  refine bLoop_done ?_
  show F_X1_row_10 g p _ _ _ = _
  rw [C_row1 hs hc hj h hE (by omega) (by omega)]
  have e : F_X1_row_72 g p (sg (sevN (r j) p n)) n (oc (r j) (p + n)) (if n = 9 then 1 else 0) (bset μ 46 0 ((p + n + 1 : Nat) : Int)) = F_X1_row_101 g p (sg (sevN (r j) p n)) n (oc (r j) (p + n)) (if n = 9 then 1 else 0) (bset μ 46 0 ((p + n + 1 : Nat) : Int)) := by
    unfold F_X1_row_72
    by_cases c : n = 9
    · rw [if_pos c, if_neg (by decide)]
      rcases h9 c with c2 | ⟨c2, c3⟩
      · rw [c2, if_pos (by decide)]
      · rw [c3, if_neg (by decide), if_neg c2, if_pos (by decide)]
    · rw [if_neg c, if_pos rfl]
  rw [e]
  unfold F_X1_row_101
  rw [bG_pos (by constructor <;> omega), if_neg (by omega), (and127 _ oc_lt).1, show (7 : Int) * (n : Int) = ((7 * n : Nat) : Int) by omega, sev_step (by omega)]
  have e2 : ∀ x, F_X1_row_124 g (sg (sevN (r j) p (n + 1))) n (oc (r j) (p + n)) (if n = 9 then 1 else 0) x = some (.inl (rowV (r j) g p n), x) := by
    intro x
    unfold F_X1_row_124 F_X1_row_139 F_X1_row_140 rowV
    by_cases c : g = 0
    · rw [if_pos c, if_pos rfl, if_neg (fun hh => hh.1 c)]
    · rw [if_neg c]
      by_cases c2 : oc (r j) (p + n) < 64
      · rw [if_pos (by omega), if_pos rfl, if_neg (by omega)]
      · rw [if_neg (by omega), if_neg (by decide)]
        by_cases c3 : n = 9
        · rw [if_pos c3, if_pos (by decide), if_neg (by omega)]
        · rw [if_neg c3, if_neg (by decide), bG_pos (by constructor <;> omega), bG_pos (by constructor <;> omega), if_pos ⟨c, by omega, by omega⟩, show (7 : Int) * ((n : Int) + 1) = ((7 * (n + 1) : Nat) : Int) by omega]
  rw [e2]
  rfl
theorem C_row_end (hs : Src r sz) (hc : CSrc r sz μ) (hj : j < 2) (h : Cur j p E μ) (hE : E ≤ sz j) (n9 : n < 10) (hn : p + n = E) (hb : ∀ i, i < n → 128 ≤ oc (r j) (p + i)) :
    F_X1_row g μ = some (.inr ISE, fl (bset μ 46 0 (E : Int)) 1 E) := by
  rw [C_row_run hs hc hj h hE n n9 (by omega) hb]
  refine bLoop_done ?_
  show F_X1_row_10 g p (sg (sevN (r j) p n)) (n : Int) (bset μ 46 0 ((p + n : Nat) : Int)) = _
  unfold F_X1_row_10
  have h4 := h.2.2.2
  rw [if_neg (by omega), C_refuse, bXm_inr, hn]
  have a0 : bset μ 46 0 (E : Int) 46 0 = (E : Int) := by simp (disch := first | omega | decide) only [bset_q, bset_k, bset_at]
  have a1 : bset μ 46 0 (E : Int) 46 1 = (E : Int) := by simp (disch := first | omega | decide) only [bset_q, bset_k, bset_at, h4]
  rw [a0, a1, if_neg (by omega)]
theorem C_row_bad (hs : Src r sz) (hc : CSrc r sz μ) (hj : j < 2) (h : Cur j p E μ) (hE : E ≤ sz j) (hn : p + 9 < E) (hb : ∀ i, i < 9 → 128 ≤ oc (r j) (p + i)) (ho : oc (r j) (p + 9) ≠ 0) (h9 : g = 0 ∨ oc (r j) (p + 9) ≠ 127) :
    F_X1_row g μ = some (.inr ISE, fl (bset μ 46 0 ((p + 9 + 1 : Nat) : Int)) 4 p) := by
  rw [C_row_run hs hc hj h hE 9 (by omega) (by omega) hb]
  refine bLoop_done ?_
  show F_X1_row_10 g p _ _ _ = _
  rw [C_row1 hs hc hj h hE (by omega) (by omega), if_pos rfl]
  unfold F_X1_row_72 F_X1_row_95
  rw [C_refuse, bXm_inr, if_neg (by decide), if_neg (by omega)]
  rcases h9 with c | c
  · rw [if_pos c]
  · by_cases c2 : g = 0
    · rw [if_pos c2]
    · rw [if_neg c2, if_neg (by omega)]
/-! the model's -/
theorem M_row1 (hs : Src r sz) (hc : MSrc r sz ν) (hj : j < 2) (h : Mur j p E ν) (hE : E ≤ sz j) (n9 : n < 10) (hn : p + n < E) (f0 v : Int) : F_X11_row_12 g most f0 v n (bset ν 76 40 ((p + n : Nat) : Int)) =
    (if n = 9 ∧ oc (r j) (p + n) ≠ 0 then F_X11_row_73 g most f0 v n (oc (r j) (p + n)) (oc (r j) (p + n)) (if g = 0 then 1 else 127) (bset ν 76 40 ((p + n + 1 : Nat) : Int)) else F_X11_row_89 g most f0 v n (oc (r j) (p + n)) (bset ν 76 40 ((p + n + 1 : Nat) : Int))) := by
  obtain ⟨h1, h2, h3, h4⟩ := h
  have hz := sz_le hs hj
  have hc' : MSrc r sz (bset ν 76 40 ((p + n : Nat) : Int)) := fun i hi => by
    have := hc i hi
    rw [bset_q (by omega), bset_q (by omega)]
    exact this
  have a40 : bset ν 76 40 ((p + n : Nat) : Int) 76 40 = ((p + n : Nat) : Int) := by simp (disch := first | omega | decide) only [bset_q, bset_k, bset_at]
  have a41 : bset ν 76 40 ((p + n : Nat) : Int) 76 41 = (E : Int) := by simp (disch := first | omega | decide) only [bset_q, bset_k, bset_at, h3]
  have a42 : bset ν 76 40 ((p + n : Nat) : Int) 76 42 = (j : Int) := by simp (disch := first | omega | decide) only [bset_q, bset_k, bset_at, h1]
  have a37 : bset ν 76 40 ((p + n : Nat) : Int) 76 37 = -1 := by simp (disch := first | omega | decide) only [bset_q, bset_k, bset_at, h4]
  have a7 : bset (bset ν 76 40 ((p + n : Nat) : Int)) 76 40 (((p + n : Nat) : Int) + 1) = bset ν 76 40 ((p + n + 1 : Nat) : Int) := by
    funext q k
    unfold bset
    by_cases c : q = 76 ∧ k = 40
    · rw [if_pos c, if_pos c]; omega
    · rw [if_neg c, if_neg c, if_neg c]
  unfold F_X11_row_12
  have hh : F_X11_has 1 (bset ν 76 40 ((p + n : Nat) : Int)) = _ := M_has_ok (ν := bset ν 76 40 ((p + n : Nat) : Int)) (w := 1) (j := j) (p := p + n) (E := E) ⟨a42, a40, a41, a37⟩ (by omega) (by omega)
  rw [if_neg (by omega), hh, bMm_some, if_pos (by decide), a40, M_oct hs hc' (by omega) a42 (by omega), Option.bind_some, bG_pos (by constructor <;> omega), a7]
  by_cases c : n = 9
  · rw [if_neg (by omega)]
    by_cases c2 : oc (r j) (p + n) = 0
    · rw [if_pos (by omega), if_neg (fun hh => hh.2 c2)]
    · rw [if_neg (by omega), if_pos (c := n = 9 ∧ oc (r j) (p + n) ≠ 0) ⟨c, c2⟩]
      by_cases c3 : g = 0
      · rw [if_pos c3, if_pos c3]
      · rw [if_neg c3, if_neg c3]
  · rw [if_pos (by omega), if_neg (fun hh => c hh.1)]
theorem M_row_run (hs : Src r sz) (hc : MSrc r sz ν) (hj : j < 2) (h : Mur j p E ν) (hE : E ≤ sz j) : ∀ n : Nat, n < 10 → p + n ≤ E → (∀ i, i < n → 128 ≤ oc (r j) (p + i)) → F_X11_row g most ν = bLoop (fun z : Int × Int × bM => F_X11_row_12 g most p z.1 z.2.1 z.2.2) (sg (sevN (r j) p n), (n : Int), bset ν 76 40 ((p + n : Nat) : Int)) := by
  intro n
  induction n with
  | zero =>
    intro _ _ _
    unfold F_X11_row
    rw [h.2.1, Nat.add_zero, bset_id h.2.1]
    rfl
  | succ n ih =>
    intro h1 h2 h3
    rw [ih (by omega) (by omega) (fun i hi => h3 i (by omega))]
    refine bLoop_step ?_
    show F_X11_row_12 g most p _ _ _ = _
    have ho := h3 n (by omega)
    rw [M_row1 hs hc hj h hE (by omega) (by omega), if_neg (by omega)]
    unfold F_X11_row_89
    rw [bG_pos (by constructor <;> omega), if_pos (by omega), bG_pos (by constructor <;> omega), (and127 _ oc_lt).2, show (7 : Int) * (n : Int) = ((7 * n : Nat) : Int) by omega, sev_step (by omega)]
    rfl
theorem bC0 {a b : Int} : bCmp a b = 0 ↔ a = b := by
  unfold bCmp
  split
  · omega
  · split <;> omega
theorem bClt {a b : Int} : bCmp a b < 0 ↔ a < b := by
  unfold bCmp
  split
  · omega
  · split <;> omega
theorem bCle {a b : Int} : bCmp a b ≤ 0 ↔ a ≤ b := by
  unfold bCmp
  split
  · omega
  · split <;> omega
theorem bCge {a b : Int} : 0 ≤ bCmp a b ↔ b ≤ a := by
  unfold bCmp
  split
  · omega
  · split <;> omega
theorem M_row_ok (hs : Src r sz) (hc : MSrc r sz ν) (hj : j < 2) (h : Mur j p E ν) (hE : E ≤ sz j) (n9 : n < 10) (hn : p + n < E) (hb : ∀ i, i < n → 128 ≤ oc (r j) (p + i)) (ho : oc (r j) (p + n) < 128) (h9 : n = 9 → oc (r j) (p + n) = 0 ∨ g ≠ 0 ∧ oc (r j) (p + n) = 127) :
    F_X11_row g most ν = some (rowV (r j) g p n, if g = 0 ∧ (rowV (r j) g p n < 0 ∨ most < rowV (r j) g p n) then wr (bset ν 76 40 ((p + n + 1 : Nat) : Int)) 4 j p else bset ν 76 40 ((p + n + 1 : Nat) : Int)) := by
  rw [M_row_run hs hc hj h hE n n9 (by omega) hb]
  refine bLoop_done ?_
  show F_X11_row_12 g most p _ _ _ = _
  rw [M_row1 hs hc hj h hE (by omega) (by omega)]
  have e : (if n = 9 ∧ oc (r j) (p + n) ≠ 0 then F_X11_row_73 g most p (sg (sevN (r j) p n)) n (oc (r j) (p + n)) (oc (r j) (p + n)) (if g = 0 then 1 else 127) (bset ν 76 40 ((p + n + 1 : Nat) : Int)) else F_X11_row_89 g most p (sg (sevN (r j) p n)) n (oc (r j) (p + n)) (bset ν 76 40 ((p + n + 1 : Nat) : Int))) = F_X11_row_89 g most p (sg (sevN (r j) p n)) n (oc (r j) (p + n)) (bset ν 76 40 ((p + n + 1 : Nat) : Int)) := by
    by_cases c : n = 9 ∧ oc (r j) (p + n) ≠ 0
    · rw [if_pos c]
      rcases h9 c.1 with c2 | ⟨c2, c3⟩
      · exact absurd c2 c.2
      · unfold F_X11_row_73
        rw [if_neg c2, if_pos (by omega)]
    · rw [if_neg c]
  rw [e]
  unfold F_X11_row_89
  rw [bG_pos (by constructor <;> omega), if_neg (by omega), (and127 _ oc_lt).2, show (7 : Int) * (n : Int) = ((7 * n : Nat) : Int) by omega, sev_step (by omega)]
  have a42 : bset ν 76 40 ((p + n + 1 : Nat) : Int) 76 42 = (j : Int) := by simp (disch := first | omega | decide) only [bset_q, bset_k, bset_at, h.1]
  have a37 : bset ν 76 40 ((p + n + 1 : Nat) : Int) 76 37 = -1 := by simp (disch := first | omega | decide) only [bset_q, bset_k, bset_at, h.2.2.2]
  have e3 : ∀ v, F_X11_row_151 g most p v (bset ν 76 40 ((p + n + 1 : Nat) : Int)) = some (v, if g = 0 ∧ (v < 0 ∨ most < v) then wr (bset ν 76 40 ((p + n + 1 : Nat) : Int)) 4 j p else bset ν 76 40 ((p + n + 1 : Nat) : Int)) := by
    intro v
    unfold F_X11_row_151
    rw [M_bad a37, a42]
    by_cases c : g = 0
    · rw [if_neg (by omega)]
      by_cases c2 : v < 0
      · rw [if_pos (bClt.mpr c2), if_pos ⟨c, Or.inl c2⟩]; rfl
      · rw [if_neg (fun hh => c2 (bClt.mp hh))]
        by_cases c3 : most < v
        · rw [if_neg (fun hh => by have := bCle.mp hh; omega), if_pos ⟨c, Or.inr c3⟩]; rfl
        · rw [if_pos (bCle.mpr (by omega)), if_neg (by omega)]
    · rw [if_pos c, if_neg (fun hh => c hh.1)]
  have e2 : F_X11_row_115 g most p (sg (sevN (r j) p (n + 1))) n (oc (r j) (p + n)) (bset ν 76 40 ((p + n + 1 : Nat) : Int)) = F_X11_row_151 g most p (rowV (r j) g p n) (bset ν 76 40 ((p + n + 1 : Nat) : Int)) := by
    unfold F_X11_row_115 rowV
    by_cases c : g = 0
    · rw [if_pos c, if_neg (fun hh => hh.1 c)]
    · rw [if_neg c]
      by_cases c2 : oc (r j) (p + n) < 64
      · rw [if_pos ((and64 _ ho).mpr c2), if_neg (by omega)]
      · rw [if_neg (fun hh => c2 ((and64 _ ho).mp hh))]
        by_cases c3 : n = 9
        · rw [if_pos (by omega), if_neg (by omega)]
        · rw [if_neg (by omega), bG_pos (by constructor <;> omega), bG_pos (by constructor <;> omega), if_pos ⟨c, by omega, by omega⟩, show (7 : Int) * (n : Int) + 7 = ((7 * (n + 1) : Nat) : Int) by omega]
  rw [e2, e3]
  rfl
theorem M_row_end (hs : Src r sz) (hc : MSrc r sz ν) (hj : j < 2) (h : Mur j p E ν) (hE : E ≤ sz j) (n9 : n < 10) (hn : p + n = E) (hb : ∀ i, i < n → 128 ≤ oc (r j) (p + i)) :
    F_X11_row g most ν = some (0, wr (bset ν 76 40 (E : Int)) 1 j E) := by
  rw [M_row_run hs hc hj h hE n n9 (by omega) hb]
  refine bLoop_done ?_
  show F_X11_row_12 g most p (sg (sevN (r j) p n)) (n : Int) (bset ν 76 40 ((p + n : Nat) : Int)) = _
  obtain ⟨h1, h2, h3, h4⟩ := h
  have hz := sz_le hs hj
  have a40 : bset ν 76 40 (E : Int) 76 40 = (E : Int) := by simp (disch := first | omega | decide) only [bset_q, bset_k, bset_at]
  have a41 : bset ν 76 40 (E : Int) 76 41 = (E : Int) := by simp (disch := first | omega | decide) only [bset_q, bset_k, bset_at, h3]
  have a42 : bset ν 76 40 (E : Int) 76 42 = (j : Int) := by simp (disch := first | omega | decide) only [bset_q, bset_k, bset_at, h1]
  have a37 : bset ν 76 40 (E : Int) 76 37 = -1 := by simp (disch := first | omega | decide) only [bset_q, bset_k, bset_at, h4]
  have hh : F_X11_has 1 (bset ν 76 40 (E : Int)) = _ := M_has_bad (ν := bset ν 76 40 (E : Int)) (w := 1) (j := j) (p := E) (E := E) ⟨a42, a40, a41, a37⟩ (by omega) (by omega) (by omega)
  unfold F_X11_row_12
  rw [if_neg (by omega), hn, hh, bMm_some, if_neg (by decide)]
theorem M_row_bad (hs : Src r sz) (hc : MSrc r sz ν) (hj : j < 2) (h : Mur j p E ν) (hE : E ≤ sz j) (hn : p + 9 < E) (hb : ∀ i, i < 9 → 128 ≤ oc (r j) (p + i)) (ho : oc (r j) (p + 9) ≠ 0) (h9 : g = 0 ∨ oc (r j) (p + 9) ≠ 127) :
    ∃ v, F_X11_row g most ν = some (v, wr (bset ν 76 40 ((p + 9 + 1 : Nat) : Int)) 4 j p) := by
  rw [M_row_run hs hc hj h hE 9 (by omega) (by omega) hb]
  have a42 : bset ν 76 40 ((p + 9 + 1 : Nat) : Int) 76 42 = (j : Int) := by simp (disch := first | omega | decide) only [bset_q, bset_k, bset_at, h.1]
  have a37 : bset ν 76 40 ((p + 9 + 1 : Nat) : Int) 76 37 = -1 := by simp (disch := first | omega | decide) only [bset_q, bset_k, bset_at, h.2.2.2]
  by_cases c : g = 0 ∧ oc (r j) (p + 9) = 1
  · have e : F_X11_row_12 g most p (sg (sevN (r j) p 9)) ((9 : Nat) : Int) (bset ν 76 40 ((p + 9 : Nat) : Int)) = some (.inr (sg (sevN (r j) p (9 + 1)), wr (bset ν 76 40 ((p + 9 + 1 : Nat) : Int)) 4 j p)) := by
      rw [M_row1 hs hc hj h hE (by omega) (by omega), if_pos ⟨rfl, ho⟩]
      unfold F_X11_row_73 F_X11_row_89
      rw [if_pos c.1, if_pos (by omega), bG_pos (by decide), if_neg (by omega), (and127 _ oc_lt).2, show (7 : Int) * ((9 : Nat) : Int) = ((7 * 9 : Nat) : Int) by omega, sev_step (by omega)]
      unfold F_X11_row_115 F_X11_row_151
      have hlt := sevN_lt (f := r j) (p := p) 9
      have hng : sg (sevN (r j) p (9 + 1)) < 0 := by
        refine sg_neg ?_ ?_
        · show _ ≤ sevN (r j) p 9 + (oc (r j) (p + 9) % 128) * 2 ^ (7 * 9)
          rw [c.2]; omega
        · show sevN (r j) p 9 + (oc (r j) (p + 9) % 128) * 2 ^ (7 * 9) < _
          rw [c.2]; omega
      rw [if_pos c.1, if_neg (by omega), if_pos (bClt.mpr hng), M_bad a37, a42, bMm_some]
      rfl
    exact ⟨_, bLoop_done e⟩
  · have e : F_X11_row_12 g most p (sg (sevN (r j) p 9)) ((9 : Nat) : Int) (bset ν 76 40 ((p + 9 : Nat) : Int)) = some (.inr (0, wr (bset ν 76 40 ((p + 9 + 1 : Nat) : Int)) 4 j p)) := by
      rw [M_row1 hs hc hj h hE (by omega) (by omega), if_pos ⟨rfl, ho⟩]
      unfold F_X11_row_73
      rw [if_neg, M_bad a37, a42, bMm_some]
      intro hh
      by_cases c2 : g = 0
      · rw [if_pos c2] at hh
        exact c ⟨c2, by omega⟩
      · rw [if_neg c2] at hh
        rcases h9 with c3 | c3 <;> omega
    exact ⟨_, bLoop_done e⟩
end
end FL
