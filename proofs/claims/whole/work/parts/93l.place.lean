section EL
theorem sumI_lin {f g : Nat → Int} : ∀ k : Nat, sumI (fun j => f j + 3 * g j) k = sumI (fun j => f j + g j) k + 2 * sumI g k
  | 0 => rfl
  | k + 1 => by
    unfold sumI
    have := sumI_lin (f := f) (g := g) k
    (try simp only)
    omega
section
variable {T b n m : Nat} {μ ν ρ : bM} {ord : Nat → Nat}
/-- a unit whose places hold -/
def fixU (T : Nat) (μ : bM) (ord : Nat → Nat) (st X : Nat → Int) (lo hi : Nat) (tot : Int) : Prop := X (ord lo) = 11 ∧ ∀ i, lo ≤ i → i < hi → (if i + 1 < hi then X (ord (i + 1)) else tot) = X (ord i) + st (ord i) + rrs T μ (ord i) (rowsOf T μ X)
theorem C_rounds (h : cT T n m μ) (ho : ordOk (μ (T + 3)) n ord) {u lo hi : Nat} (hu : u < m) (hU : unitR T n μ ord u lo hi) {st : Nat → Int} (hst : ∀ e, e < n → 0 ≤ st e ∧ st e ≤ 2080) {ρ : bM} (hr : ∀ q, T ≤ q → q ≤ T + 14 → ρ q = μ q)
    (h15 : ρ 15 u = lo ∧ ρ 15 (u + 1) = hi) (h14 : ∀ k, k < n → ρ 14 k = ord k) (h18 : ∀ e, e < n → ρ 18 e = st e) (hX : ∀ e, e < n → 0 ≤ ρ 19 e ∧ ρ 19 e ≤ 900000) (h0 : ∀ e, e < n → μ (T + 4) e = u → ρ 19 e = 0) (h132 : 0 ≤ ρ 13 2 ∧ ρ 13 2 ≤ 900000 * u) :
    ∃ (ρ' : bM) (tot : Int), bLoop (fun z : Int × Int × bM => F_X3_placeEntries_79 T u z.1 z.2.1 z.2.2) (1, 0, ρ) = some (.inl ((u : Int) + 1, ρ')) ∧ (∀ q, q ≠ 13 → q ≠ 16 → q ≠ 19 → ρ' q = ρ q) ∧ (∀ k, k ≠ 2 → ρ' 13 k = ρ 13 k) ∧ ρ' 13 2 = ρ 13 2 + tot ∧ (∀ k, k ≠ u → ρ' 16 k = ρ 16 k) ∧ ρ' 16 u = tot ∧ (0 ≤ tot ∧ tot ≤ 900000) ∧ (∀ e, e < n → μ (T + 4) e ≠ u → ρ' 19 e = ρ 19 e) ∧ (∀ e, e < n → 0 ≤ ρ' 19 e ∧ ρ' 19 e ≤ 900000) ∧
      fixU T μ ord st (ρ' 19) lo hi tot ∧ ∀ Y R, post T n μ ord st Y R → (∀ e, e < n → ρ 19 e ≤ Y e) → ∀ e, e < n → ρ' 19 e ≤ Y e := by
  have n4 := h.2.1.2
  have m6 := h.2.2.1.2
  have hT := h.1
  obtain ⟨u1, u2, u3, u4, u5⟩ := id hU
  obtain ⟨B, hB⟩ : ∃ B, B = sumI (fun j => st (ord (lo + j)) + rct T μ (ord (lo + j))) (hi - lo) := ⟨_, rfl⟩
  obtain ⟨C, hC⟩ : ∃ C, C = sumI (fun j => rct T μ (ord (lo + j))) (hi - lo) := ⟨_, rfl⟩
  have hC3 : sumI (fun j => st (ord (lo + j)) + 3 * rct T μ (ord (lo + j))) (hi - lo) = B + 2 * C := by rw [hB, hC]; exact sumI_lin _
  have hrct : ∀ e, e < n → 0 ≤ rct T μ e ∧ rct T μ e ≤ 8 := fun e he => (rrs_rows (X := fun _ => 0) h he (fun x _ => by (try simp only); omega)).2.2
  have hCr : 0 ≤ C ∧ C ≤ 3200 := by
    have := sumI_rg' (f := fun j => rct T μ (ord (lo + j))) (lo := 0) (hi := 8) (hi - lo) (fun j hj => hrct _ (ho.1 _ (by omega)).1)
    rw [← hC] at this
    omega
  have hBr : 0 ≤ B := by
    have := sumI_rg' (f := fun j => st (ord (lo + j)) + rct T μ (ord (lo + j))) (lo := 0) (hi := 3000) (hi - lo) (fun j hj => by
      have a1 := hst _ (ho.1 (lo + j) (by omega)).1
      have a2 := hrct _ (ho.1 (lo + j) (by omega)).1
      (try simp only)
      omega)
    rw [← hB] at this
    omega
  have H := bLoop_inv (f := fun z : Int × Int × bM => F_X3_placeEntries_79 T u z.1 z.2.1 z.2.2)
    (fun z => ∃ r : Nat, z.2.1 = r ∧ (z.1 = 0 ∨ z.1 = 1) ∧ (∀ q, q ≠ 16 → q ≠ 19 → z.2.2 q = ρ q) ∧ (∀ k, k ≠ u → z.2.2 16 k = ρ 16 k) ∧ (∀ e, e < n → μ (T + 4) e ≠ u → z.2.2 19 e = ρ 19 e) ∧ (∀ e, e < n → 0 ≤ z.2.2 19 e ∧ z.2.2 19 e ≤ 900000) ∧
      (∀ Y R, post T n μ ord st Y R → (∀ e, e < n → ρ 19 e ≤ Y e) → ∀ e, e < n → z.2.2 19 e ≤ Y e) ∧
      (r = 0 ∧ z.1 = 1 ∧ (∀ e, e < n → μ (T + 4) e = u → z.2.2 19 e = 0) ∨ 1 ≤ r ∧ (11 + B ≤ z.2.2 16 u ∧ z.2.2 16 u ≤ 11 + B + 2 * C) ∧ (z.1 = 1 → 11 + B + ((r : Int) - 1) ≤ z.2.2 16 u) ∧ z.2.2 19 (ord lo) = 11 ∧ z.2.2 16 u ≤ 900000 ∧
        (∀ i, lo ≤ i → i < hi → (if i + 1 < hi then z.2.2 19 (ord (i + 1)) else z.2.2 16 u) ≤ z.2.2 19 (ord i) + st (ord i) + rrs T μ (ord i) (rowsOf T μ (z.2.2 19))) ∧
        (z.1 = 0 → ∀ i, lo ≤ i → i < hi → (if i + 1 < hi then z.2.2 19 (ord (i + 1)) else z.2.2 16 u) = z.2.2 19 (ord i) + st (ord i) + rrs T μ (ord i) (rowsOf T μ (z.2.2 19)))))
    (fun z => 9700 - z.2.1.toNat)
    (fun r => ∃ (ρ' : bM) (tot : Int), r = .inl ((u : Int) + 1, ρ') ∧ (∀ q, q ≠ 13 → q ≠ 16 → q ≠ 19 → ρ' q = ρ q) ∧ (∀ k, k ≠ 2 → ρ' 13 k = ρ 13 k) ∧ ρ' 13 2 = ρ 13 2 + tot ∧ (∀ k, k ≠ u → ρ' 16 k = ρ 16 k) ∧ ρ' 16 u = tot ∧ (0 ≤ tot ∧ tot ≤ 900000) ∧ (∀ e, e < n → μ (T + 4) e ≠ u → ρ' 19 e = ρ 19 e) ∧ (∀ e, e < n → 0 ≤ ρ' 19 e ∧ ρ' 19 e ≤ 900000) ∧
      fixU T μ ord st (ρ' 19) lo hi tot ∧ ∀ Y R, post T n μ ord st Y R → (∀ e, e < n → ρ 19 e ≤ Y e) → ∀ e, e < n → ρ' 19 e ≤ Y e) ?_ (1, 0, ρ) ⟨0, rfl, Or.inr rfl, fun q _ _ => rfl, fun k _ => rfl, fun e _ _ => rfl, hX, fun Y R _ hY => hY, Or.inl ⟨rfl, rfl, h0⟩⟩
  · obtain ⟨r, x1, ρ', tot, x2, x3⟩ := H
    exact ⟨ρ', tot, by rw [x1, x2], x3⟩
  · rintro ⟨z1, z2, σ⟩ ⟨r, k1, k2, k3, k4, k5, k6, k7, k8⟩
    simp only at k1 k2 k3 k4 k5 k6 k7 k8
    subst k1
    show (∃ s', F_X3_placeEntries_79 T u z1 r σ = some (Sum.inl s') ∧ _) ∨ ∃ q, F_X3_placeEntries_79 T u z1 r σ = some (Sum.inr q) ∧ _
    unfold F_X3_placeEntries_79
    have hrσ : ∀ q, T ≤ q → q ≤ T + 14 → σ q = μ q := fun q q1 q2 => by rw [k3 q (by omega) (by omega), hr q q1 q2]
    by_cases c : z1 = 0
    · right
      rcases k8 with ⟨-, y, -⟩ | ⟨y1, y2, y3, y4, y5, y6, y7⟩
      · omega
      · unfold F_X3_placeEntries_104
        rw [if_pos c, k3 13 (by omega) (by omega), bG_pos (by omega), Int.toNat_natCast, bG_pos (by constructor <;> omega), bG_pos (by constructor <;> omega)]
        refine ⟨_, rfl, _, σ 16 u, rfl, fun q q1 q2 q3 => by rw [bset_q q1, k3 q q2 q3], fun k hk => by rw [bset_k hk, k3 13 (by omega) (by omega)], bset_at, fun k hk => by rw [bset_q (by omega), k4 k hk], by rw [bset_q (by omega)], by omega, fun e he hne => by rw [bset_q (by omega), k5 e he hne], fun e he => by rw [bset_q (by omega)]; exact k6 e he, ?_, fun Y R hP hY e he => by rw [bset_q (by omega)]; exact k7 Y R hP hY e he⟩
        unfold fixU
        rw [bset_q (by omega)]
        exact ⟨y4, y7 c⟩
    · left
      have hz1 : z1 = 1 := by omega
      have hr9 : r < 9600 := by
        rcases k8 with ⟨y, -⟩ | ⟨y1, y2, y3, -⟩
        · omega
        · have := y3 hz1; omega
      -- the hypotheses of a round
      obtain ⟨tot, t1, t2, t3⟩ : ∃ tot : Int, (∀ i, lo ≤ i → i < hi → (if i + 1 < hi then σ 19 (ord (i + 1)) else tot) ≤ σ 19 (ord i) + st (ord i) + rrs T μ (ord i) (rowsOf T μ (σ 19))) ∧ σ 19 (ord lo) ≤ 11 ∧ (1 ≤ r → tot = σ 16 u ∧ 11 + B + ((r : Int) - 1) ≤ tot) := by
        rcases k8 with ⟨y, -, y2⟩ | ⟨y1, y2, y3, y4, y5, y6, y7⟩
        · refine ⟨0, fun i i1 i2 => ?_, ?_, fun hh => by omega⟩
          · have hoi := (ho.1 i (by omega)).1
            have a1 := hst _ hoi
            have a2 := rrs_rows (X := σ 19) h hoi (fun x hx => by have := k6 x hx; omega)
            have a3 := k6 _ hoi
            by_cases w : i + 1 < hi
            · rw [if_pos w, y2 _ (ho.1 (i + 1) (by omega)).1 ((u5 (i + 1) (by omega)).mp ⟨by omega, w⟩)]
              omega
            · rw [if_neg w]; omega
          · rw [y2 _ (ho.1 lo (by omega)).1 ((u5 lo (by omega)).mp ⟨by omega, u1⟩)]
            decide
        · exact ⟨σ 16 u, y6, by omega, fun _ => ⟨rfl, y3 hz1⟩⟩
      obtain ⟨mv, ρ', tot', w1, w2, w3, w4, w5, w6, w7, w8, w9, w10, w11, w12, w13, w14, w15⟩ := C_move h ho hu hU hst hrσ (by rw [k3 15 (by omega) (by omega)]; exact h15) (fun k hk => by rw [k3 14 (by omega) (by omega)]; exact h14 k hk) (fun e he => by rw [k3 18 (by omega) (by omega)]; exact h18 e he) k6 t1 t2
      rw [hC3, ← hB] at w13
      rw [if_neg c, if_neg (by omega), w1, bMm_some, bG_pos (by constructor <;> omega)]
      refine ⟨_, rfl, ⟨r + 1, by simp, w2, fun q q1 q2 => ?_, fun k hk => ?_, fun e he hne => ?_, w7, fun Y R hP hY e he => ?_, Or.inr ⟨by omega, ?_, fun hh => ?_, w9, ?_, ?_, fun hh => ?_⟩⟩, by simp only; omega⟩
      · simp only
        rw [w3 q q1 q2, k3 q q1 q2]
      · simp only
        rw [w4 k hk, k4 k hk]
      · simp only
        rw [w6 e he hne, k5 e he hne]
      · exact w15 Y R hP (k7 Y R hP hY) e he
      · simp only
        rw [w5]
        omega
      · simp only at hh ⊢
        rw [w5]
        by_cases hr1 : 1 ≤ r
        · have := t3 hr1
          have := w11 hh
          omega
        · omega
      · simp only
        rw [w5]
        exact w14
      · simp only
        rw [w5]
        exact w8
      · simp only at hh ⊢
        rw [w5]
        obtain ⟨v1, v2⟩ := w12 hh
        intro i i1 i2
        have hoi := (ho.1 i (by omega)).1
        have e1 : rrs T μ (ord i) (rowsOf T μ (ρ' 19)) = rrs T μ (ord i) (rowsOf T μ (σ 19)) := rrs_rows_unit h hoi (fun x hx _ => v1 x hx)
        have v2i := v2 i i1 i2
        rw [v1 _ hoi, e1]
        by_cases w : i + 1 < hi
        · rw [if_pos w] at v2i ⊢
          rw [v1 _ (ho.1 (i + 1) (by omega)).1]
          exact v2i
        · rw [if_neg w] at v2i ⊢
          exact v2i
theorem post_ge (h : cT T n m μ) (ho : ordOk (μ (T + 3)) n ord) {st : Nat → Int} (hst : ∀ e, e < n → 0 ≤ st e ∧ st e ≤ 2080) {Y R : Nat → Int} (hP : post T n μ ord st Y R) : ∀ e, e < n → 11 ≤ Y e := by
  have H : ∀ i, i < n → 11 ≤ Y (ord i) := by
    intro i
    induction i with
    | zero =>
      intro hi
      have := hP.1 0 hi
      by_cases c : μ (T + 3) (ord 0) = -1
      · rw [if_pos c] at this; omega
      · exfalso
        obtain ⟨u, v1, v2, v3, v4⟩ := unit_in h ho hi
        have hU := unit_R h ho v1
        have s0 := start_0 h
        have sm := start_mono h (show 0 ≤ u by omega) (by omega)
        have : (startP T n m μ u).toNat = 0 := by omega
        exact c (by have := hU.2.2.1; rw [‹(startP T n m μ u).toNat = 0›] at this; exact this)
    | succ i ih =>
      intro hi
      have h1 := ih (by omega)
      have h2 := hP.1 (i + 1) hi
      have hoi := (ho.1 i (by omega)).1
      have h3 := hst _ hoi
      by_cases c : μ (T + 3) (ord (i + 1)) = -1
      · rw [if_pos c] at h2; omega
      · rw [if_neg c, Nat.add_sub_cancel] at h2
        have h4 : 0 ≤ rrs T μ (ord i) R := by
          have := rrs_mono (T := T) (μ := μ) (e := ord i) (R := fun _ => 0) (R' := R) (fun k hk hf => by
            have a := hP.2 (ord i) k hoi hk hf
            have b := rb_1 (v := Y (μ (T + 13) (8 * ord i + k)).toNat)
            unfold rowsOf at a
            (try simp only)
            omega)
          have z : rrs T μ (ord i) (fun _ => 0) = 0 := by
            unfold rrs
            have : ∀ k : Nat, sumI (fun k => if μ (T + 12) (8 * ord i + k) = 21 then (0 : Int) else 0) k = 0 := by
              intro k
              induction k with
              | zero => rfl
              | succ k ih => unfold sumI; rw [ih]; (try simp only); split <;> rfl
            exact this _
          omega
        omega
  intro e he
  obtain ⟨k, k1, k2, -⟩ := ho.2 e he
  rw [← k2]
  exact H k k1
/-- all units -/
theorem C_units (h : cT T n m μ) (ho : ordOk (μ (T + 3)) n ord) {st : Nat → Int} (hst : ∀ e, e < n → 0 ≤ st e ∧ st e ≤ 2080) {ρ : bM} (hr : ∀ q, T ≤ q → q ≤ T + 14 → ρ q = μ q)
    (h15 : ∀ u : Nat, u ≤ m → ρ 15 u = startP T n m μ u) (h14 : ∀ k, k < n → ρ 14 k = ord k) (h18 : ∀ e, e < n → ρ 18 e = st e) (h0 : ∀ e, e < n → ρ 19 e = 0) (h132 : ρ 13 2 = 0) :
    ∃ ρ', bLoop (fun z : Int × bM => F_X3_placeEntries_66 T z.1 z.2) (0, ρ) = some (0, ρ') ∧ (∀ q, q ≠ 13 → q ≠ 16 → q ≠ 19 → ρ' q = ρ q) ∧ (∀ k, k ≠ 2 → ρ' 13 k = ρ 13 k) ∧ ρ' 13 2 = sumI (fun u => ρ' 16 u) m ∧ (∀ u, u < m → 0 ≤ ρ' 16 u ∧ ρ' 16 u ≤ 900000) ∧ (∀ e, e < n → 0 ≤ ρ' 19 e ∧ ρ' 19 e ≤ 900000) ∧
      (∀ u, u < m → fixU T μ ord st (ρ' 19) (startP T n m μ u).toNat (startP T n m μ (u + 1)).toNat (ρ' 16 u)) ∧ ∀ Y R, post T n μ ord st Y R → ∀ e, e < n → ρ' 19 e ≤ Y e := by
  have n4 := h.2.1.2
  have m6 := h.2.2.1.2
  have hT := h.1
  have H := bLoop_inv (f := fun z : Int × bM => F_X3_placeEntries_66 T z.1 z.2)
    (fun z => ∃ u : Nat, u ≤ m ∧ z.1 = u ∧ (∀ q, q ≠ 13 → q ≠ 16 → q ≠ 19 → z.2 q = ρ q) ∧ (∀ k, k ≠ 2 → z.2 13 k = ρ 13 k) ∧ z.2 13 2 = sumI (fun u => z.2 16 u) u ∧ (∀ w, w < u → 0 ≤ z.2 16 w ∧ z.2 16 w ≤ 900000) ∧ (∀ e, e < n → 0 ≤ z.2 19 e ∧ z.2 19 e ≤ 900000) ∧ (∀ e, e < n → (u : Int) ≤ μ (T + 4) e → z.2 19 e = 0) ∧
      (∀ w, w < u → fixU T μ ord st (z.2 19) (startP T n m μ w).toNat (startP T n m μ (w + 1)).toNat (z.2 16 w)) ∧ ∀ Y R, post T n μ ord st Y R → ∀ e, e < n → z.2 19 e ≤ Y e)
    (fun z => m - z.1.toNat)
    (fun r => ∃ ρ', r = (0, ρ') ∧ (∀ q, q ≠ 13 → q ≠ 16 → q ≠ 19 → ρ' q = ρ q) ∧ (∀ k, k ≠ 2 → ρ' 13 k = ρ 13 k) ∧ ρ' 13 2 = sumI (fun u => ρ' 16 u) m ∧ (∀ u, u < m → 0 ≤ ρ' 16 u ∧ ρ' 16 u ≤ 900000) ∧ (∀ e, e < n → 0 ≤ ρ' 19 e ∧ ρ' 19 e ≤ 900000) ∧
      (∀ u, u < m → fixU T μ ord st (ρ' 19) (startP T n m μ u).toNat (startP T n m μ (u + 1)).toNat (ρ' 16 u)) ∧ ∀ Y R, post T n μ ord st Y R → ∀ e, e < n → ρ' 19 e ≤ Y e) ?_ (0, ρ) ⟨0, by omega, rfl, fun q _ _ _ => rfl, fun k _ => rfl, h132, fun w hw => by omega, fun e he => by (simp only; rw [h0 e he]; omega), fun e he _ => h0 e he, fun w hw => by omega, fun Y R hP e he => by (simp only; rw [h0 e he]; have := post_ge h ho hst hP e he; omega)⟩
  · obtain ⟨r, x1, ρ', x2, x3⟩ := H
    exact ⟨ρ', by rw [x1, x2], x3⟩
  · rintro ⟨z1, σ⟩ ⟨u, hu, k1, k2, k3, k4, k5, k6, k7, k8, k9⟩
    simp only at k1 k2 k3 k4 k5 k6 k7 k8 k9
    subst k1
    show (∃ s', F_X3_placeEntries_66 T u σ = some (Sum.inl s') ∧ _) ∨ ∃ q, F_X3_placeEntries_66 T u σ = some (Sum.inr q) ∧ _
    unfold F_X3_placeEntries_66
    rw [k2 T (by omega) (by omega) (by omega), hr T (by omega) (by omega), h.2.2.1.1]
    by_cases c : u < m
    · left
      have sr := start_rg h c
      have hU := unit_R h ho c
      have s16 := sumI_rg' (f := fun u => σ 16 u) (lo := 0) (hi := 900000) u (fun w hw => k5 w hw)
      obtain ⟨ρ', tot, w1, w2, w3, w4, w5, w6, w7, w8, w9, w10, w11⟩ := C_rounds h ho c hU hst (fun q q1 q2 => by rw [k2 q (by omega) (by omega) (by omega), hr q q1 q2]) (by rw [k2 15 (by omega) (by omega) (by omega), h15 u (by omega), h15 (u + 1) (by omega)]; omega) (fun k hk => by rw [k2 14 (by omega) (by omega) (by omega)]; exact h14 k hk) (fun e he => by rw [k2 18 (by omega) (by omega) (by omega)]; exact h18 e he) k6 (fun e he hh => k7 e he (by omega)) (by rw [k4]; omega)
      rw [if_neg (by omega), w1]
      refine ⟨_, rfl, ⟨u + 1, by omega, by simp, fun q q1 q2 q3 => ?_, fun k hk => ?_, ?_, fun w hw => ?_, w9, fun e he hh => ?_, fun w hw => ?_, fun Y R hP => ?_⟩, by simp only; omega⟩
      · simp only
        rw [w2 q q1 q2 q3, k2 q q1 q2 q3]
      · simp only
        rw [w3 k hk, k3 k hk]
      · simp only
        rw [w4, k4]
        show _ = sumI (fun u => ρ' 16 u) u + ρ' 16 u
        rw [w6, sumI_congr (f := fun u => ρ' 16 u) (g := fun u => σ 16 u) u (fun i hi => w5 i (by omega))]
      · simp only
        by_cases q : w = u
        · rw [q, w6]; exact w7
        · rw [w5 w q]; exact k5 w (by omega)
      · simp only
        rw [w8 e he (by omega)]
        exact k7 e he (by omega)
      · simp only
        by_cases q : w = u
        · rw [q, w6]; exact w10
        · rw [w5 w q]
          obtain ⟨f1, f2⟩ := k8 w (by omega)
          have srw := start_rg h (show w < m by omega)
          have hUw := unit_R h ho (show w < m by omega)
          have eq : ∀ i, (startP T n m μ w).toNat ≤ i → i < (startP T n m μ (w + 1)).toNat → ρ' 19 (ord i) = σ 19 (ord i) := fun i i1 i2 => by
            have hin : i < n := by omega
            refine w8 _ (ho.1 i hin).1 ?_
            rw [(hUw.2.2.2.2 i hin).mp ⟨i1, i2⟩]
            omega
          refine ⟨by rw [eq _ (Nat.le_refl _) (by omega)]; exact f1, fun i i1 i2 => ?_⟩
          have hin : i < n := by omega
          have e1 : rrs T μ (ord i) (rowsOf T μ (ρ' 19)) = rrs T μ (ord i) (rowsOf T μ (σ 19)) := by
            refine rrs_rows_unit h (ho.1 i hin).1 (fun x hx hxu => ?_)
            refine w8 x hx ?_
            rw [hxu, (hUw.2.2.2.2 i hin).mp ⟨i1, i2⟩]
            omega
          have f2i := f2 i i1 i2
          rw [eq i i1 i2, e1]
          by_cases v : i + 1 < (startP T n m μ (w + 1)).toNat
          · rw [if_pos v] at f2i ⊢
            rw [eq (i + 1) (by omega) v]
            exact f2i
          · rw [if_neg v] at f2i ⊢
            exact f2i
      · exact w11 Y R hP (k9 Y R hP)
    · right
      have : u = m := by omega
      subst this
      rw [if_pos (by omega)]
      exact ⟨_, rfl, σ, rfl, k2, k3, k4, k5, k6, k8, k9⟩
theorem fix_isPl (h : cT T n m μ) (ho : ordOk (μ (T + 3)) n ord) {st X : Nat → Int} {tt : Nat → Int} (hf : ∀ u, u < m → fixU T μ ord st X (startP T n m μ u).toNat (startP T n m μ (u + 1)).toNat (tt u)) : isPl T n μ ord st X (rowsOf T μ X) := by
  intro i hi
  obtain ⟨u, v1, v2, v3, v4⟩ := unit_in h ho hi
  obtain ⟨u1, u2, u3, u4, u5⟩ := unit_R h ho v1
  have sr := start_rg h v1
  obtain ⟨f1, f2⟩ := hf u v1
  by_cases c : i = (startP T n m μ u).toNat
  · rw [c, if_pos u3, f1]
  · rw [if_neg (u4 i (by omega) (by omega))]
    have := f2 (i - 1) (by omega) (by omega)
    rw [show i - 1 + 1 = i by omega, if_pos (by omega)] at this
    exact this
theorem C_place (hb : bOk μ) (h : cT T n m μ) (ho : ordOk (μ (T + 3)) n ord) {ρ : bM} (hr : ∀ q, T ≤ q → q ≤ T + 14 → ρ q = μ q) (h5 : ρ 13 5 = n) (h15 : ∀ u : Nat, u ≤ m → ρ 15 u = startP T n m μ u) (h14 : ∀ k, k < n → ρ 14 k = ord k) (h17 : ∀ e, e < n → 0 ≤ ρ 17 e ∧ ρ 17 e ≤ 30) (h20 : ∀ e, e < n → 1 ≤ ρ 20 e ∧ ρ 20 e ≤ 400) :
    ∃ ρ', F_X3_placeEntries T ρ = some (0, ρ') ∧ (∀ q, q ≠ 13 → q ≠ 16 → q ≠ 18 → q ≠ 19 → ρ' q = ρ q) ∧ (∀ k, k ≠ 2 → ρ' 13 k = ρ 13 k) ∧ ρ' 13 2 = sumI (fun u => ρ' 16 u) m ∧ (∀ u, u < m → 0 ≤ ρ' 16 u ∧ ρ' 16 u ≤ 900000) ∧ (∀ e, e < n → 0 ≤ ρ' 19 e ∧ ρ' 19 e ≤ 900000) ∧ (∀ e, e < n → ρ' 18 e = rb (ρ 20 e) + svs T μ e + ρ 17 e) ∧
      (∀ u, u < m → fixU T μ ord (fun e => rb (ρ 20 e) + svs T μ e + ρ 17 e) (ρ' 19) (startP T n m μ u).toNat (startP T n m μ (u + 1)).toNat (ρ' 16 u)) ∧ ∀ Y R, post T n μ ord (fun e => rb (ρ 20 e) + svs T μ e + ρ 17 e) Y R → ∀ e, e < n → ρ' 19 e ≤ Y e := by
  have n4 := h.2.1.2
  have m6 := h.2.2.1.2
  have hT := h.1
  obtain ⟨st, hst⟩ : ∃ st : Nat → Int, st = fun e => rb (ρ 20 e) + svs T μ e + ρ 17 e := ⟨_, rfl⟩
  have hstr : ∀ e, e < n → 0 ≤ st e ∧ st e ≤ 2080 := fun e he => by
    have a1 := rb_1 (v := ρ 20 e)
    have a2 := rb_mono (show ρ 20 e ≤ 400 from (h20 e he).2)
    have a3 : rb 400 = 2 := by decide
    have a4 := svs_rg hb h he
    have a5 := h17 e he
    rw [hst]
    (try simp only)
    omega
  rw [← hst]
  have H := bLoop_inv (f := fun z : Int × bM => F_X3_placeEntries_2 T z.1 z.2)
    (fun z => ∃ i : Nat, i ≤ n ∧ z.1 = i ∧ (∀ q, q ≠ 18 → q ≠ 19 → z.2 q = ρ q) ∧ ∀ j, j < i → z.2 18 (ord j) = st (ord j) ∧ z.2 19 (ord j) = 0) (fun z => n - z.1.toNat)
    (fun r => ∃ ρ', r = (0, ρ') ∧ (∀ q, q ≠ 13 → q ≠ 16 → q ≠ 18 → q ≠ 19 → ρ' q = ρ q) ∧ (∀ k, k ≠ 2 → ρ' 13 k = ρ 13 k) ∧ ρ' 13 2 = sumI (fun u => ρ' 16 u) m ∧ (∀ u, u < m → 0 ≤ ρ' 16 u ∧ ρ' 16 u ≤ 900000) ∧ (∀ e, e < n → 0 ≤ ρ' 19 e ∧ ρ' 19 e ≤ 900000) ∧ (∀ e, e < n → ρ' 18 e = rb (ρ 20 e) + svs T μ e + ρ 17 e) ∧
      (∀ u, u < m → fixU T μ ord st (ρ' 19) (startP T n m μ u).toNat (startP T n m μ (u + 1)).toNat (ρ' 16 u)) ∧ ∀ Y R, post T n μ ord st Y R → ∀ e, e < n → ρ' 19 e ≤ Y e) ?_ (0, ρ) ⟨0, by omega, rfl, fun q _ _ => rfl, fun j hj => by omega⟩
  · obtain ⟨r, x1, ρ', x2, x3⟩ := H
    refine ⟨ρ', ?_, x3⟩
    unfold F_X3_placeEntries
    rw [x1, x2]
  · rintro ⟨z1, σ⟩ ⟨i, hi, k1, k2, k3⟩
    simp only at k1 k2 k3
    subst k1
    show (∃ s', F_X3_placeEntries_2 T i σ = some (Sum.inl s') ∧ _) ∨ ∃ q, F_X3_placeEntries_2 T i σ = some (Sum.inr q) ∧ _
    unfold F_X3_placeEntries_2
    rw [k2 13 (by omega) (by omega), h5]
    by_cases c : i < n
    · left
      have hoi := (ho.1 i c).1
      obtain ⟨e, he⟩ : ∃ e, e = ord i := ⟨_, rfl⟩
      have hen : e < n := by rw [he]; exact hoi
      have a0 := h20 e hen
      have a1 := rb_1 (v := ρ 20 e)
      have a4 := svs_rg hb h hen
      have a5 := h17 e hen
      rw [if_neg (by omega), bG_pos (by omega), Int.toNat_natCast, k2 14 (by omega) (by omega), h14 i c, ← he, bG_pos (by omega), Int.toNat_natCast, k2 20 (by omega) (by omega), C_rowSize (by omega), Option.bind_some, C_steady hb h (fun q q1 q2 => by rw [k2 q (by omega) (by omega), hr q q1 q2]) hen, Option.bind_some, bG_pos (by constructor <;> omega), bG_pos (by omega), k2 17 (by omega) (by omega), bG_pos (by constructor <;> omega), bG_pos (by omega), bG_pos (by omega), bG_pos (by constructor <;> omega)]
      refine ⟨_, rfl, ⟨i + 1, by omega, by simp, fun q q1 q2 => by (simp only; rw [bset_q q2, bset_q q1, k2 q q1 q2]), fun j hj => ?_⟩, by simp only; omega⟩
      simp only
      rw [bset_q (show 18 ≠ 19 by decide), bset_row, bset_row, bset_q (show 19 ≠ 18 by decide)]
      by_cases q : j = i
      · rw [q, ← he, if_pos rfl, if_pos rfl, hst]
        exact ⟨rfl, rfl⟩
      · have : ord j ≠ e := fun hh => q (ord_inj ho (by omega) c (by rw [hh, he]))
        rw [if_neg this, if_neg this]
        exact k3 j (by omega)
    · right
      have : i = n := by omega
      subst this
      rw [if_pos (by omega)]
      have all : ∀ e, e < i → σ 18 e = st e ∧ σ 19 e = 0 := fun e he => by
        obtain ⟨k, j1, j2, -⟩ := ho.2 e he
        rw [← j2]
        exact k3 k j1
      obtain ⟨ρ', w1, w2, w3, w4, w5, w6, w7, w8⟩ := C_units (ρ := bset σ 13 2 0) h ho hstr (fun q q1 q2 => by rw [bset_q (by omega), k2 q (by omega) (by omega), hr q q1 q2]) (fun u hu => by rw [bset_q (by omega), k2 15 (by omega) (by omega)]; exact h15 u hu) (fun k hk => by rw [bset_q (by omega), k2 14 (by omega) (by omega)]; exact h14 k hk) (fun e he => by rw [bset_q (by omega)]; exact (all e he).1) (fun e he => by rw [bset_q (by omega)]; exact (all e he).2) bset_at
      rw [w1]
      refine ⟨_, rfl, ρ', rfl, fun q q1 q2 q3 q4 => by rw [w2 q q1 q2 q4, bset_q q1, k2 q q3 q4], fun k hk => by rw [w3 k hk, bset_k hk, k2 13 (by omega) (by omega)], w4, w5, w6, fun e he => ?_, w7, w8⟩
      rw [w2 18 (by omega) (by omega) (by omega), bset_q (by omega), (all e he).1, hst]
end
end EL
