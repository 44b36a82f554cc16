section GC
/-! the head of a unit -/
def hC (q _k : Nat) : Prop := q = 46
def hM (q k : Nat) : Prop := q = 76 ∧ 37 ≤ k ∧ k ≤ 41
section
variable {r : Nat → Nat → Int} {sz : Nat → Nat} {μ ν μ' ν' μ1 ν1 : bM} {a p E w x Z t : Nat} {v1 v4 v5 v2 : Int} {C : Option ((Int ⊕ String) × bM)} {M : Option (Int × bM)}
theorem J_low4 (hs : Src r sz) (hc : CSrc r sz μ) (hm : MSrc r sz ν) (h : Cur 0 p E μ) (h' : Mur 0 p E ν) (hp : p ≤ E) (hE : E ≤ sz 0) (w4 : w ≤ 4) :
    (∃ x : Nat, x < 4294967296 ∧ p + w ≤ E ∧ F_X1_lowFirst w μ = some (.inl (x : Int), bset μ 46 0 ((p + w : Nat) : Int)) ∧ F_X11_fixed w ν = some ((x : Int), bset ν 76 40 ((p + w : Nat) : Int))) ∨
    (∃ μ' ν', F_X1_lowFirst w μ = some (.inr ISE, μ') ∧ F_X11_fixed w ν = some (0, ν') ∧ Bad1 μ ν μ' ν') := by
  rcases J_low (j := 0) hs hc hm (by omega) h h' hp hE (show w ≤ 8 by omega) with ⟨h1, h2, h3⟩ | h1
  · left
    have hl := lowN_lt (f := r 0) (p := p) w
    have : 2 ^ (8 * w) ≤ 2 ^ 32 := Nat.pow_le_pow_right (by omega) (by omega)
    have e := sg_id (x := lowN (r 0) p w) (by omega)
    rw [e] at h2 h3
    exact ⟨lowN (r 0) p w, by omega, h1, h2, h3⟩
  · exact Or.inr h1
theorem M234_w (h : ν 76 37 ≠ -1) : F_X11_readUnit_234 v1 v4 ν = some (0, ν) := by
  unfold F_X11_readUnit_234
  rw [if_neg h]
theorem M191_w (h : ν 76 37 ≠ -1) : F_X11_readUnit_191 v1 v4 v5 ν = some (0, ν) := by
  unfold F_X11_readUnit_191
  rw [if_pos h, M234_w h]
theorem M169_w (h : ν 76 37 ≠ -1) (ha : a ≤ 24000) : F_X11_readUnit_169 a v4 v5 ν = some (0, ν) := by
  unfold F_X11_readUnit_169
  rw [M_fixed_w (w := 1) h, bMm_some, if_neg (by decide), bG_pos (by constructor <;> omega), M_badno h, bMm_some, M191_w h]
theorem M131_w (h : ν 76 37 ≠ -1) (ha : a ≤ 24000) : F_X11_readUnit_131 a v4 ν = some (0, ν) := by
  unfold F_X11_readUnit_131
  rw [M_fixed_w (w := 4) h, bMm_some, if_pos h, M169_w h ha]
theorem M87_w (h : ν 76 37 ≠ -1) : F_X11_readUnit_87 v1 v2 ν = some (0, ν) := by
  unfold F_X11_readUnit_87
  rw [if_neg h]
def HdOk (sz : Nat → Nat) (a : Nat) (C : Option ((Int ⊕ String) × bM)) (M : Option (Int × bM)) (μ ν : bM) : Prop :=
  (∃ (E' tp : Nat) (μ' ν' : bM), a + 11 ≤ E' ∧ E' ≤ sz 0 ∧ tp ≤ sz 1 ∧ C = some (.inl (tp : Int), μ') ∧ M = F_X11_readUnit_191 a E' tp ν' ∧ Cur 0 (a + 11) E' μ' ∧ Mur 0 (a + 11) E' ν' ∧ Fr hC μ μ' ∧ Fr hM ν ν') ∨
  (∃ μ' ν', C = some (.inr ISE, μ') ∧ M = some (0, ν') ∧ BadP μ' ν' ∧ Fr hC μ μ' ∧ Fr hM ν ν')
theorem Hd_tr (f1 : Fr hC μ μ1) (f2 : Fr hM ν ν1) (h : HdOk sz a C M μ1 ν1) : HdOk sz a C M μ ν := by
  rcases h with ⟨E', tp, μ', ν', h1, h2, h3, h4, h5, h6, h7, h8, h9⟩ | ⟨μ', ν', h1, h2, h3, h4, h5⟩
  · exact Or.inl ⟨E', tp, μ', ν', h1, h2, h3, h4, h5, h6, h7, Fr_tr f1 h8, Fr_tr f2 h9⟩
  · exact Or.inr ⟨μ', ν', h1, h2, h3, Fr_tr f1 h4, Fr_tr f2 h5⟩
theorem Hd_bad (h1 : C = some (.inr ISE, μ')) (h2 : M = some (0, ν')) (h3 : Bad1 μ ν μ' ν') : HdOk sz a C M μ ν :=
  Or.inr ⟨μ', ν', h1, h2, h3.1, fun q k x => by rw [h3.2.1 q x], Bad1_frX (fun k h1 h2 => ⟨rfl, by omega, by omega⟩) h3⟩
theorem f46 {k : Nat} {v : Int} : Fr hC μ (bset μ 46 k v) := Fr_b rfl
theorem f76 {k : Nat} {v : Int} (h : 37 ≤ k ∧ k ≤ 41) : Fr hM ν (bset ν 76 k v) := Fr_b ⟨rfl, h⟩
theorem J_133 (hs : Src r sz) (hc : CSrc r sz μ) (hm : MSrc r sz ν) (h : Cur 0 (a + 10) E μ) (h' : Mur 0 (a + 10) E ν) (hp : a + 10 ≤ E) (hE : E ≤ sz 0) (ht : t ≤ sz 1) : HdOk sz a (F_X4_readHeader_133 t μ) (F_X11_readUnit_169 a E t ν) μ ν := by
  have hz := sz_le hs (j := 0) (by omega)
  have hz1 := sz_le hs (j := 1) (by omega)
  unfold F_X4_readHeader_133 F_X11_readUnit_169
  rcases J_low4 (w := 1) hs hc hm h h' hp hE (by omega) with ⟨x, x1, x2, x3, x4⟩ | ⟨μ', ν', x1, x2, x3⟩
  · rw [show ((1 : Nat) : Int) = 1 from rfl] at x3 x4
    rw [x3, x4, bXm_inl, bMm_some]
    by_cases c : (x : Int) = 8
    · rw [if_pos (bC0.mpr c), if_pos (bC0.mpr c), b32_n (by omega)]
      exact Or.inl ⟨E, t, _, _, x2, hE, ht, rfl, rfl, Cur_at h, Mur_at h', f46, f76 (by omega)⟩
    · rw [if_neg (fun hh => c (bC0.mp hh)), if_neg (fun hh => c (bC0.mp hh)), bG_pos (by constructor <;> omega), C_refuse, bXm_inr, h.2.2.1]
      have e37 : bset ν 76 40 ((a + 10 + 1 : Nat) : Int) 76 37 = -1 := by simp (disch := first | omega | decide) only [bset_q, bset_k, bset_at, h'.2.2.2]
      rw [M_bad e37, bMm_some, show (a : Int) + 10 = ((a + 10 : Nat) : Int) from rfl]
      have B := Bad1_mk (μ := μ) (ν := ν) (k := 2) (a := a + 10 + 1) (a' := a + 10 + 1) (pl := a + 10) h.1 (by omega)
      exact Hd_bad rfl (M191_w (BadP_ne B.1)) B
  · rw [show ((1 : Nat) : Int) = 1 from rfl] at x1 x2
    rw [x1, x2, bXm_inr, bMm_some, if_neg (by decide), bG_pos (by constructor <;> omega), M_badno (BadP_ne x3.1), bMm_some, M191_w (BadP_ne x3.1)]
    exact Hd_bad rfl rfl x3
theorem J_90 (hs : Src r sz) (hc : CSrc r sz μ) (hm : MSrc r sz ν) (h : Cur 0 (a + 6) E μ) (h' : Mur 0 (a + 6) E ν) (hp : a + 6 ≤ E) (hE : E ≤ sz 0) : HdOk sz a (F_X4_readHeader_90 μ) (F_X11_readUnit_131 a E ν) μ ν := by
  have hz := sz_le hs (j := 0) (by omega)
  unfold F_X4_readHeader_90 F_X11_readUnit_131 F_X6_used
  rcases J_low4 (w := 4) hs hc hm h h' hp hE (by omega) with ⟨x, x1, x2, x3, x4⟩ | ⟨μ', ν', x1, x2, x3⟩
  · rw [show ((4 : Nat) : Int) = 4 from rfl] at x3 x4
    have e37 : bset ν 76 40 ((a + 6 + 4 : Nat) : Int) 76 37 = -1 := by simp (disch := first | omega | decide) only [bset_q, bset_k, bset_at, h'.2.2.2]
    have e9 : bset μ 46 0 ((a + 6 + 4 : Nat) : Int) 9 1 = (sz 1 : Int) := by rw [bset_q (by decide)]; exact (hc 1 (by omega)).1
    have e94 : bset ν 76 40 ((a + 6 + 4 : Nat) : Int) 94 1 = (sz 1 : Int) := by rw [bset_q (by decide)]; exact (hm 1 (by omega)).1
    rw [x3, x4, bXm_inl, bMm_some, Option.bind_some, if_neg (c := ¬ bset ν 76 40 ((a + 6 + 4 : Nat) : Int) 76 37 = -1) (fun hh => hh e37), e9, e94]
    by_cases c : (x : Int) ≤ (sz 1 : Int)
    · rw [if_pos (bCle.mpr c), if_pos (bCle.mpr c)]
      exact Hd_tr f46 (f76 (by omega)) (J_133 hs (CSrc_b hc (by omega)) (MSrc_b hm (by omega)) (Cur_at h) (Mur_at h') x2 hE (by omega))
    · rw [if_neg (fun hh => c (bCle.mp hh)), if_neg (fun hh => c (bCle.mp hh)), bG_pos (by constructor <;> omega), C_refuse, bXm_inr, h.2.2.1, M_bad e37, bMm_some, show (a : Int) + 6 = ((a + 6 : Nat) : Int) from rfl]
      have B := Bad1_mk (μ := μ) (ν := ν) (k := 2) (a := a + 6 + 4) (a' := a + 6 + 4) (pl := a + 6) h.1 (by omega)
      exact Hd_bad rfl (M169_w (BadP_ne B.1) (by omega)) B
  · rw [show ((4 : Nat) : Int) = 4 from rfl] at x1 x2
    rw [x1, x2, bXm_inr, bMm_some, if_pos (BadP_ne x3.1), M169_w (BadP_ne x3.1) (by omega)]
    exact Hd_bad rfl rfl x3
theorem J_39 (hs : Src r sz) (hc : CSrc r sz μ) (hm : MSrc r sz ν) (h : Cur 0 (a + 4) (sz 0) μ) (h' : Mur 0 (a + 4) (sz 0) ν) (hx : a + 4 + x ≤ sz 0) : HdOk sz a (F_X4_readHeader_39 x μ) (F_X11_readUnit_87 a x ν) μ ν := by
  have hz := sz_le hs (j := 0) (by omega)
  have h2 : Cur 0 (a + 4) (a + 4 + x) (bset μ 46 1 ((a + 4 + x : Nat) : Int)) := by
    obtain ⟨c1, ⟨c2, c20, c30⟩, c3, c4⟩ := h
    refine ⟨?_, ⟨?_, ?_, ?_⟩, ?_, ?_⟩
    · simp (disch := first | omega | decide) only [bset_q, bset_k, bset_at, c1]
    · simp (disch := first | omega | decide) only [bset_q, bset_k, bset_at, c2]
    · simp (disch := first | omega | decide) only [bset_q, bset_k, bset_at, c20]
    · simp (disch := first | omega | decide) only [bset_q, bset_k, bset_at, c30]
    · simp (disch := first | omega | decide) only [bset_q, bset_k, bset_at, c3]
    · simp (disch := first | omega | decide) only [bset_q, bset_k, bset_at]
  have h2' : Mur 0 (a + 4) (a + 4 + x) (bset ν 76 41 ((a + 4 + x : Nat) : Int)) := by
    obtain ⟨c1, c2, c3, c4⟩ := h'
    refine ⟨?_, ?_, ?_, ?_⟩
    · simp (disch := first | omega | decide) only [bset_q, bset_k, bset_at, c1]
    · simp (disch := first | omega | decide) only [bset_q, bset_k, bset_at, c2]
    · simp (disch := first | omega | decide) only [bset_q, bset_k, bset_at]
    · simp (disch := first | omega | decide) only [bset_q, bset_k, bset_at, c4]
  unfold F_X4_readHeader_39 F_X11_readUnit_87
  rw [b32_n (by omega), h.2.2.1, bG_pos (by constructor <;> omega), if_pos h'.2.2.2, bG_pos (by constructor <;> omega), bG_pos (by constructor <;> omega), show ((a + 4 : Nat) : Int) + (x : Int) = ((a + 4 + x : Nat) : Int) from rfl, show (a : Int) + 4 + (x : Int) = ((a + 4 + x : Nat) : Int) from rfl]
  refine Hd_tr (f46 (k := 1) (v := ((a + 4 + x : Nat) : Int))) (f76 (k := 41) (v := ((a + 4 + x : Nat) : Int)) (by omega)) ?_
  rcases J_low4 (w := 2) hs (CSrc_b hc (by omega)) (MSrc_b hm (by omega)) h2 h2' (by omega) hx (by omega) with ⟨y, x1, x2, x3, x4⟩ | ⟨μ', ν', x1, x2, x3⟩
  · rw [show ((2 : Nat) : Int) = 2 from rfl] at x3 x4
    rw [x3, x4, bXm_inl, bMm_some]
    by_cases c : (y : Int) = 4
    · rw [if_pos (bC0.mpr c), if_pos (bC0.mpr c)]
      exact Hd_tr f46 (f76 (by omega)) (J_90 hs (CSrc_b (CSrc_b hc (by omega)) (by omega)) (MSrc_b (MSrc_b hm (by omega)) (by omega)) (Cur_at h2) (Mur_at h2') (by omega) hx)
    · have B := Bad1_mk (k := 2) (a := a + 4 + 2) (a' := a + 4 + 2) (pl := a + 4) (ν := bset ν 76 41 ((a + 4 + x : Nat) : Int)) h2.1 (by omega)
      rw [if_neg (fun hh => c (bC0.mp hh)), if_neg (fun hh => c (bC0.mp hh)), bG_pos (by constructor <;> omega), C_refuse, bXm_inr, h2.2.2.1, M_bad (by simp (disch := first | omega | decide) only [bset_q, bset_k, bset_at, h'.2.2.2]), bMm_some, show (a : Int) + 4 = ((a + 4 : Nat) : Int) from rfl]
      exact Hd_bad rfl (M131_w (BadP_ne B.1) (by omega)) B
  · rw [show ((2 : Nat) : Int) = 2 from rfl] at x1 x2
    rw [x1, x2, bXm_inr, bMm_some, if_neg (by decide), bG_pos (by constructor <;> omega), M_badno (BadP_ne x3.1), bMm_some, M131_w (BadP_ne x3.1) (by omega)]
    exact Hd_bad rfl rfl x3
theorem J_head (hs : Src r sz) (hc : CSrc r sz μ) (hm : MSrc r sz ν) (h : Cur 0 a (sz 0) μ) (h' : Mur 0 a (sz 0) ν) (hp : a ≤ sz 0) : HdOk sz a (F_X4_readHeader a μ) (F_X11_readUnit_47 a ν) μ ν := by
  have hz := sz_le hs (j := 0) (by omega)
  unfold F_X4_readHeader F_X11_readUnit_47
  rcases J_low4 (w := 4) hs hc hm h h' hp (Nat.le_refl _) (by omega) with ⟨x, x1, x2, x3, x4⟩ | ⟨μ', ν', x1, x2, x3⟩
  · rw [show ((4 : Nat) : Int) = 4 from rfl] at x3 x4
    have k1 := Cur_at (p' := a + 4) h
    have k2 := Mur_at (p' := a + 4) h'
    have e94 : bset ν 76 40 ((a + 4 : Nat) : Int) 94 0 = (sz 0 : Int) := by rw [bset_q (by decide)]; exact (hm 0 (by omega)).1
    rw [x3, x4, bXm_inl, bMm_some, k1.2.2.1, k1.2.2.2, bG_pos (by constructor <;> omega), if_neg (c := ¬ bset ν 76 40 ((a + 4 : Nat) : Int) 76 37 = -1) (fun hh => hh k2.2.2.2), bG_pos (by constructor <;> omega), bG_pos (by constructor <;> omega), e94]
    by_cases c : a + 4 + x ≤ sz 0
    · rw [if_pos (bCle.mpr (by omega)), if_pos (bCle.mpr (by omega))]
      exact Hd_tr f46 (f76 (by omega)) (J_39 hs (CSrc_b hc (by omega)) (MSrc_b hm (by omega)) k1 k2 c)
    · rw [if_neg (fun hh => c (by have := bCle.mp hh; omega)), if_neg (fun hh => c (by have := bCle.mp hh; omega)), C_refuse, bXm_inr, M_bad k2.2.2.2, bMm_some]
      have B := Bad1_mk (μ := μ) (ν := ν) (k := 2) (a := a + 4) (a' := a + 4) (pl := a) h.1 (by omega)
      exact Hd_bad rfl (M87_w (BadP_ne B.1)) B
  · rw [show ((4 : Nat) : Int) = 4 from rfl] at x1 x2
    rw [x1, x2, bXm_inr, bMm_some, if_pos (BadP_ne x3.1), M87_w (BadP_ne x3.1)]
    exact Hd_bad rfl rfl x3
end
end GC
