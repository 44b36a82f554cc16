section EN
section
variable {T b n m : Nat} {μ ν ρ : bM} {ord : Nat → Nat}
/-- the bytes of an entry that do not hang on places -/
noncomputable def stP (T n : Nat) (μ : bM) (ord : Nat → Nat) (e : Nat) : Int := rb (shI T μ ord (posE (μ (T + 3)) n e).toNat + 1) + svs T μ e + (nexE (μ (T + 3)) n e).2
/-- what the class's layout holds -/
def layC (T n m : Nat) (μ : bM) (ord : Nat → Nat) (ρ : bM) : Prop := ρ 13 5 = n ∧ (∀ k, k < n → ρ 14 k = ord k) ∧ (∀ u : Nat, u ≤ m → ρ 15 u = startP T n m μ u) ∧ (∀ e, e < n → ρ 17 e = (nexE (μ (T + 3)) n e).2) ∧ shC T n μ ord n ρ ∧ txC T μ (Vt T μ ord n 0) (tA T μ ord n) ρ ∧ ρ 13 2 = sumI (fun u => ρ 16 u) m ∧ (∀ u, u < m → 0 ≤ ρ 16 u ∧ ρ 16 u ≤ 900000) ∧ (∀ e, e < n → 0 ≤ ρ 19 e ∧ ρ 19 e ≤ 900000) ∧
  (∀ u, u < m → fixU T μ ord (stP T n μ ord) (ρ 19) (startP T n m μ u).toNat (startP T n m μ (u + 1)).toNat (ρ 16 u)) ∧ ∀ Y R, post T n μ ord (stP T n μ ord) Y R → ∀ e, e < n → ρ 19 e ≤ Y e
theorem layC_congr {ρ' : bM} (h : layC T n m μ ord ρ) (hq : ∀ q, 13 ≤ q → q ≤ 29 → ρ' q = ρ q) : layC T n m μ ord ρ' := by
  unfold layC shC txC chOk at h ⊢
  rw [hq 13 (by omega) (by omega), hq 14 (by omega) (by omega), hq 15 (by omega) (by omega), hq 16 (by omega) (by omega), hq 17 (by omega) (by omega), hq 19 (by omega) (by omega), hq 20 (by omega) (by omega), hq 21 (by omega) (by omega), hq 22 (by omega) (by omega), hq 23 (by omega) (by omega), hq (24 + 1) (by omega) (by omega), hq (24 + 2) (by omega) (by omega), hq (27 + 1) (by omega) (by omega), hq (27 + 2) (by omega) (by omega)]
  exact h
theorem fixU_st {st st' X : Nat → Int} {lo hi : Nat} {tot : Int} (hh : hi ≤ n) (ho : ∀ k, k < n → ord k < n) (hs : ∀ e, e < n → st e = st' e) (h : fixU T μ ord st X lo hi tot) : fixU T μ ord st' X lo hi tot := ⟨h.1, fun i i1 i2 => by rw [h.2 i i1 i2, hs _ (ho i (by omega))]⟩
theorem isPl_st {st st' X R : Nat → Int} (ho : ∀ k, k < n → ord k < n) (hs : ∀ e, e < n → st e = st' e) (h : isPl T n μ ord st X R) : isPl T n μ ord st' X R := fun i hi => by
  rw [h i hi]
  by_cases c : μ (T + 3) (ord i) = -1
  · rw [if_pos c, if_pos c]
  · rw [if_neg c, if_neg c, hs _ (ho (i - 1) (by omega))]
theorem shI_rg (h : cT T n m μ) (ho : ∀ k, k < n → ord k < n) {i : Nat} (hi : i < n) : 1 ≤ shI T μ ord i + 1 ∧ shI T μ ord i + 1 ≤ n := by
  have h1 := shI_lt (T := T) (μ := μ) (ord := ord) (i := i)
  have h2 := (shS_ok h ho (i + 1) (by omega)).1
  omega
theorem C_reckon (hb : bOk μ) (h : cT T n m μ) {ρ0 : bM} (hb0 : bOk ρ0) (hr0 : ∀ q, (T ≤ q ∧ q ≤ T + 14 ∨ q = 4 ∨ q = 5) → ρ0 q = μ q) (h6 : ρ0 13 6 = 0) : ∃ (ρ' : bM) (ord : Nat → Nat), F_X3_reckon T 4 ρ0 = some (0, ρ') ∧ ordOk (μ (T + 3)) n ord ∧ (∀ q, (q < 13 ∨ 29 < q) → ρ' q = ρ0 q) ∧ ρ' 13 6 = 1 ∧ layC T n m μ ord ρ' := by
  have n4 := h.2.1.2
  have hT := h.1
  have hTb : bTree T := by rcases hT with rfl | rfl <;> rfl
  have h0 : cT T n m ρ0 := cT_congr h (fun q hq => hr0 q (by omega))
  -- the order
  obtain ⟨ρ1, a1, a2, a3, a4, a5⟩ := C_order h0
  have p3 : ρ0 (T + 3) = μ (T + 3) := hr0 (T + 3) (by omega)
  rw [p3] at a3
  have ok1 : bOk ρ1 := kp_X3_orderEntries T hTb hb0 a1
  have rw1 : ∀ k, k < n → (0 ≤ ρ1 14 k ∧ ρ1 14 k < n) ∧ posE (μ (T + 3)) n (ρ1 14 k).toNat = k := fun k hk => ⟨(a3 k (by omega)).1, (a3 k (by omega)).2.1⟩
  obtain ⟨ord, hord⟩ : ∃ ord : Nat → Nat, ord = fun k => (ρ1 14 k).toNat := ⟨_, rfl⟩
  have ho : ordOk (μ (T + 3)) n ord := by rw [hord]; exact ord_of rw1
  have ho' : ∀ k, k < n → ord k < n := fun k hk => (ho.1 k hk).1
  have hinj : ∀ j k, j < n → k < n → ord j = ord k → j = k := fun j k hj hk => ord_inj ho hj hk
  have e14 : ∀ k, k < n → ρ1 14 k = ord k := fun k hk => by
    rw [hord]
    have := (rw1 k hk).1
    (try simp only)
    omega
  have e17 : ∀ e, e < n → ρ1 17 e = (nexE (μ (T + 3)) n e).2 := fun e he => by
    obtain ⟨k, k1, k2, -⟩ := ho.2 e he
    have := (a3 k (by omega)).2.2
    rw [e14 k k1, Int.toNat_natCast, k2] at this
    exact this
  have r1 : ∀ q, (T ≤ q ∧ q ≤ T + 14 ∨ q = 4 ∨ q = 5) → ρ1 q = μ q := fun q hq => by rw [a2.1 q (by omega) (by omega) (by omega) (by omega), hr0 q hq]
  have e15 : ∀ u : Nat, u ≤ m → ρ1 15 u = startP T n m μ u := fun u hu => by
    rw [a5 u hu]
    unfold startP rootE
    rw [hr0 (T + 1) (by omega), p3]
  -- the shapes
  obtain ⟨ρ2, b1, b2, b3⟩ := C_shapes h ho' hinj (fun q q1 q2 => r1 q (by omega)) a4 e14
  have ok2 : bOk ρ2 := kp_X3_numberShapes T hTb ok1 b1
  have r2 : ∀ q, (T ≤ q ∧ q ≤ T + 14 ∨ q = 4 ∨ q = 5) → ρ2 q = μ q := fun q hq => by rw [b2.1 q (by omega) (by omega) (by omega) (by omega) (by omega), r1 q hq]
  -- the texts
  obtain ⟨ρ3, c1, c2, c3⟩ := C_texts hb h ho' hinj ok2 r2 (by rw [b2.2 5 (by omega) (by omega)]; exact a4) (fun k hk => by rw [b2.1 14 (by omega) (by omega) (by omega) (by omega) (by omega)]; exact e14 k hk)
  have r3 : ∀ q, (T ≤ q ∧ q ≤ T + 14 ∨ q = 4 ∨ q = 5) → ρ3 q = μ q := fun q hq => by rw [c2.1 q (by omega) (by omega) (by omega) (by omega) (by omega), r2 q hq]
  have f3 : ∀ q, q ≠ 13 → q ≠ 20 → q ≠ 21 → q ≠ 22 → q ≠ 23 → q ≠ 25 → q ≠ 26 → q ≠ 28 → q ≠ 29 → ρ3 q = ρ1 q := fun q q1 q2 q3 q4 q5 q6 q7 q8 q9 => by rw [c2.1 q q1 q4 q5 q8 q9, b2.1 q q1 q2 q3 q6 q7]
  have e20 : ∀ e, e < n → ρ3 20 e = shI T μ ord (posE (μ (T + 3)) n e).toNat + 1 := fun e he => by
    obtain ⟨k, k1, k2, k3⟩ := ho.2 e he
    have := b3.2.2.2.1 k k1
    rw [c2.1 20 (by omega) (by omega) (by omega) (by omega) (by omega), k3, Int.toNat_natCast, ← this, k2]
  -- the places
  obtain ⟨ρ4, d1, d2, d3, d4, d5, d6, d7, d8, d9⟩ := C_place hb h ho (fun q q1 q2 => r3 q (by omega)) (by rw [c2.2 5 (by omega) (by omega), b2.2 5 (by omega) (by omega)]; exact a4) (fun u hu => by rw [f3 15 (by omega) (by omega) (by omega) (by omega) (by omega) (by omega) (by omega) (by omega) (by omega)]; exact e15 u hu) (fun k hk => by rw [f3 14 (by omega) (by omega) (by omega) (by omega) (by omega) (by omega) (by omega) (by omega) (by omega)]; exact e14 k hk) (fun e he => by rw [f3 17 (by omega) (by omega) (by omega) (by omega) (by omega) (by omega) (by omega) (by omega) (by omega), e17 e he]; exact nex_cnt h he) (fun e he => by
    rw [e20 e he]
    obtain ⟨k, k1, k2, k3⟩ := ho.2 e he
    rw [k3, Int.toNat_natCast]
    have := shI_rg h ho' k1
    omega)
  have hst : ∀ e, e < n → rb (ρ3 20 e) + svs T μ e + ρ3 17 e = stP T n μ ord e := fun e he => by
    unfold stP
    rw [e20 e he, f3 17 (by omega) (by omega) (by omega) (by omega) (by omega) (by omega) (by omega) (by omega) (by omega), e17 e he]
  have f4 : ∀ q, q ≠ 13 → q ≠ 16 → q ≠ 18 → q ≠ 19 → bset ρ4 13 6 1 q = ρ3 q := fun q q1 q2 q3 q4 => by rw [bset_q q1, d2 q q1 q2 q3 q4]
  have g13 : ∀ k, k ≠ 2 → k ≠ 6 → bset ρ4 13 6 1 13 k = ρ3 13 k := fun k k2 k6 => by rw [bset_k k6, d3 k k2]
  refine ⟨bset ρ4 13 6 1, ord, ?_, ho, fun q hq => ?_, bset_at, ?_, fun k hk => ?_, fun u hu => ?_, fun e he => ?_, ?_, ?_, ?_, fun u hu => ?_, fun e he => ?_, fun u hu => ?_, fun Y R hP e he => ?_⟩
  · unfold F_X3_reckon
    rw [if_pos h6, a1, bMm_some, b1, bMm_some, c1, bMm_some, d1, bMm_some]
  · rw [f4 q (by omega) (by omega) (by omega) (by omega), f3 q (by omega) (by omega) (by omega) (by omega) (by omega) (by omega) (by omega) (by omega) (by omega), a2.1 q (by omega) (by omega) (by omega) (by omega)]
  · rw [g13 5 (by omega) (by omega), c2.2 5 (by omega) (by omega), b2.2 5 (by omega) (by omega)]; exact a4
  · rw [f4 14 (by omega) (by omega) (by omega) (by omega), f3 14 (by omega) (by omega) (by omega) (by omega) (by omega) (by omega) (by omega) (by omega) (by omega)]; exact e14 k hk
  · rw [f4 15 (by omega) (by omega) (by omega) (by omega), f3 15 (by omega) (by omega) (by omega) (by omega) (by omega) (by omega) (by omega) (by omega) (by omega)]; exact e15 u hu
  · rw [f4 17 (by omega) (by omega) (by omega) (by omega), f3 17 (by omega) (by omega) (by omega) (by omega) (by omega) (by omega) (by omega) (by omega) (by omega)]; exact e17 e he
  · obtain ⟨s1, s2, s3, s4, s5⟩ := b3
    refine ⟨by rw [g13 0 (by omega) (by omega), c2.2 0 (by omega) (by omega)]; exact s1, fun s hs => ?_, ⟨fun w hw => ?_, fun s hs => ?_⟩, fun j hj => ?_, by rw [g13 3 (by omega) (by omega), c2.2 3 (by omega) (by omega)]; exact s5⟩
    · rw [f4 21 (by omega) (by omega) (by omega) (by omega), c2.1 21 (by omega) (by omega) (by omega) (by omega) (by omega)]; exact s2 s hs
    · rw [f4 (24 + 1) (by omega) (by omega) (by omega) (by omega), c2.1 (24 + 1) (by omega) (by omega) (by omega) (by omega) (by omega)]; exact s3.1 w hw
    · rw [f4 (24 + 2) (by omega) (by omega) (by omega) (by omega), c2.1 (24 + 2) (by omega) (by omega) (by omega) (by omega) (by omega)]; exact s3.2 s hs
    · rw [f4 20 (by omega) (by omega) (by omega) (by omega), c2.1 20 (by omega) (by omega) (by omega) (by omega) (by omega)]; exact s4 j hj
  · obtain ⟨s1, s2, s3, s4, s5⟩ := c3
    refine ⟨by rw [g13 1 (by omega) (by omega)]; exact s1, fun t ht => ?_, ⟨fun w hw => ?_, fun s hs => ?_⟩, fun a ha t ht hs => ?_, by rw [g13 4 (by omega) (by omega)]; exact s5⟩
    · rw [f4 23 (by omega) (by omega) (by omega) (by omega)]; exact s2 t ht
    · rw [f4 (27 + 1) (by omega) (by omega) (by omega) (by omega)]; exact s3.1 w hw
    · rw [f4 (27 + 2) (by omega) (by omega) (by omega) (by omega)]; exact s3.2 s hs
    · rw [f4 22 (by omega) (by omega) (by omega) (by omega)]; exact s4 a ha t ht hs
  · rw [bset_k (by omega), d4]
    exact sumI_congr m (fun u _ => by (try simp only); rw [bset_q (by omega)])
  · rw [bset_q (by omega)]; exact d5 u hu
  · rw [bset_q (by omega)]; exact d6 e he
  · rw [bset_q (show 19 ≠ 13 by decide), bset_q (show 16 ≠ 13 by decide)]
    have := start_rg h hu
    exact fixU_st (by omega) ho' hst (d8 u hu)
  · rw [bset_q (by omega)]
    exact d9 Y R ⟨isPl_st ho' (fun e he => (hst e he).symm) hP.1, hP.2⟩ e he
/-! the model's -/
abbrev rS (T n : Nat) (μ : bM) (a : Nat) : Prop := a / 8 < n ∧ ((a % 8 : Nat) : Int) < μ (T + 10) (a / 8) ∧ μ (T + 12) a = 21
theorem rS_of {e k : Nat} (hk8 : k < 8) : rS T n μ (8 * e + k) ↔ e < n ∧ (k : Int) < μ (T + 10) e ∧ μ (T + 12) (8 * e + k) = 21 := by
  unfold rS
  rw [show (8 * e + k) / 8 = e by omega, show (8 * e + k) % 8 = k by omega]
/-- a row before the slot c has grown -/
def grew (T n : Nat) (μ ρ : bM) (W : Nat → Int) (c : Nat) : Prop := ∃ a : Nat, a < c ∧ rS T n μ a ∧ ρ 102 a < W a
/-- the rows before the slot c told anew -/
def growJ (T n : Nat) (μ ρ : bM) (W : Nat → Int) (c : Nat) (v : Int) (σ : bM) : Prop := (v = 0 ∨ v = 1) ∧ (∀ q, q ≠ 102 → σ q = ρ q) ∧ (∀ a : Nat, σ 102 a = if a < c ∧ rS T n μ a ∧ ρ 102 a < W a then W a else ρ 102 a) ∧ (v = 1 ↔ grew T n μ ρ W c)
theorem growJ_skip {W : Nat → Int} {c c' : Nat} {v : Int} {σ : bM} (hcc : c ≤ c') (hno : ∀ a, c ≤ a → a < c' → ¬ rS T n μ a) (h : growJ T n μ ρ W c v σ) : growJ T n μ ρ W c' v σ := by
  obtain ⟨j1, j2, j3, j4⟩ := h
  refine ⟨j1, j2, fun a => ?_, ?_⟩
  · rw [j3 a]
    by_cases x : a < c ∧ rS T n μ a ∧ ρ 102 a < W a
    · rw [if_pos x, if_pos ⟨Nat.lt_of_lt_of_le x.1 hcc, x.2⟩]
    · rw [if_neg x, if_neg (fun y => ?_)]
      by_cases z : a < c
      · exact x ⟨z, y.2⟩
      · exact hno a (Nat.le_of_not_lt z) y.1 y.2.1
  · rw [j4]
    constructor
    · rintro ⟨a, y1, y2, y3⟩; exact ⟨a, Nat.lt_of_lt_of_le y1 hcc, y2, y3⟩
    · rintro ⟨a, y1, y2, y3⟩
      by_cases z : a < c
      · exact ⟨a, z, y2, y3⟩
      · exact absurd y2 (hno a (Nat.le_of_not_lt z) y1)
/-- every row grows to what its reference's place wants -/
theorem M_grow (h : cT T n m μ) {ρ : bM} (hM : mA T b n m μ ρ) (hY : ∀ e, e < n → 0 ≤ ρ 101 e ∧ ρ 101 e ≤ 900000) :
    ∃ (mo : Int) (ρ' : bM), bLoop (fun z : Int × Int × bM => F_X11_layOut_48 z.1 z.2.1 z.2.2) (0, 0, ρ) = some (.inl (mo, ρ')) ∧ (∀ q, q ≠ 102 → ρ' q = ρ q) ∧ (mo = 0 ∨ mo = 1) ∧ (∀ a : Nat, ρ' 102 a = if rS T n μ a ∧ ρ 102 a < rowsOf T μ (ρ 101) a then rowsOf T μ (ρ 101) a else ρ 102 a) ∧ (mo = 1 ↔ ∃ a : Nat, rS T n μ a ∧ ρ 102 a < rowsOf T μ (ρ 101) a) := by
  have n4 := h.2.1.2
  have hb01 := hM.1.1
  obtain ⟨W, hW⟩ : ∃ W : Nat → Int, W = rowsOf T μ (ρ 101) := ⟨_, rfl⟩
  rw [← hW]
  have H := bLoop_inv (f := fun z : Int × Int × bM => F_X11_layOut_48 z.1 z.2.1 z.2.2) (fun z => ∃ e : Nat, e ≤ n ∧ z.2.1 = e ∧ growJ T n μ ρ W (8 * e) z.1 z.2.2) (fun z => n - z.2.1.toNat)
    (fun r => ∃ (mo : Int) (ρ' : bM), r = .inl (mo, ρ') ∧ (∀ q, q ≠ 102 → ρ' q = ρ q) ∧ (mo = 0 ∨ mo = 1) ∧ (∀ a : Nat, ρ' 102 a = if rS T n μ a ∧ ρ 102 a < W a then W a else ρ 102 a) ∧ (mo = 1 ↔ ∃ a : Nat, rS T n μ a ∧ ρ 102 a < W a)) ?_ (0, 0, ρ) ⟨0, by omega, rfl, Or.inl rfl, fun q _ => rfl, fun a => by rw [if_neg (by omega)], ⟨fun x => by (simp only at x; omega), fun x => by (obtain ⟨a, x1, -⟩ := x; exact absurd x1 (Nat.not_lt_zero a))⟩⟩
  · obtain ⟨r, x1, mo, ρ', x2, x3⟩ := H
    exact ⟨mo, ρ', by rw [x1, x2], x3⟩
  · rintro ⟨v, z2, σ⟩ ⟨e, e1, e2, j⟩
    simp only at e2 j
    subst e2
    show (∃ s', F_X11_layOut_48 v e σ = some (Sum.inl s') ∧ _) ∨ ∃ q, F_X11_layOut_48 v e σ = some (Sum.inr q) ∧ _
    have hMσ : mA T b n m μ σ := mA_congr hM (by rw [j.2.1 76 (by omega)]) (fun q q1 q2 => j.2.1 q (by omega))
    have e3 : σ 76 3 = b := hMσ.1.2.1
    unfold F_X11_layOut_48
    rw [e3, bG_pos (by omega), Int.toNat_natCast, hMσ.1.2.2.1]
    by_cases c : e < n
    · left
      have a8 := (h.2.2.2.1 e c).2.2.2.1
      obtain ⟨A, hA⟩ : ∃ A : Nat, μ (T + 10) e = A := ⟨(μ (T + 10) e).toNat, by omega⟩
      have I := bLoop_inv (f := fun z : Int × Int × bM => F_X11_layOut_73 e (400 * (b : Int) + e) z.1 z.2.1 z.2.2) (fun z => ∃ k : Nat, k ≤ A ∧ z.2.1 = ((3200 * b + (8 * e + k) : Nat) : Int) ∧ growJ T n μ ρ W (8 * e + k) z.1 z.2.2) (fun z => 3200 * b + (8 * e + A) - z.2.1.toNat) (fun r => ∃ (v' : Int) (σ' : bM), r = .inl (v', (e : Int) + 1, σ') ∧ growJ T n μ ρ W (8 * (e + 1)) v' σ') ?_ (v, 8 * (400 * (b : Int) + e), σ) ⟨0, by omega, by (simp only; omega), j⟩
      · obtain ⟨r, w1, v', σ', w2, w3⟩ := I
        rw [if_neg (by omega), M_at hb01 e3 (by omega), Option.bind_some, bG_pos (by constructor <;> omega), w1, w2]
        exact ⟨_, rfl, ⟨e + 1, by omega, by simp, w3⟩, by simp only; omega⟩
      · rintro ⟨v', u1, τ⟩ ⟨k, k1, k2, jj⟩
        simp only at k2 jj
        subst k2
        show (∃ s', F_X11_layOut_73 e (400 * (b : Int) + e) v' ((3200 * b + (8 * e + k) : Nat) : Int) τ = some (Sum.inl s') ∧ _) ∨ ∃ q, F_X11_layOut_73 e (400 * (b : Int) + e) v' ((3200 * b + (8 * e + k) : Nat) : Int) τ = some (Sum.inr q) ∧ _
        have hMτ : mA T b n m μ τ := mA_congr hM (by rw [jj.2.1 76 (by omega)]) (fun q q1 q2 => jj.2.1 q (by omega))
        have t3 : τ 76 3 = b := hMτ.1.2.1
        have r84 := (hMτ.2.1 e c).2.2
        have hsucc : ((3200 * b + (8 * e + k) : Nat) : Int) + 1 = ((3200 * b + (8 * e + (k + 1)) : Nat) : Int) := by omega
        unfold F_X11_layOut_73
        rw [bG_pos (by constructor <;> omega), bG_pos (by omega), t400, r84, hA, bG_pos (by constructor <;> omega)]
        by_cases ck : k < A
        · left
          obtain ⟨⟨r85, r86, r89⟩, r87, -⟩ := hMτ.2.2 e c k (by omega)
          rw [if_neg (by omega), bG_pos (by omega), Int.toNat_natCast, r86]
          by_cases cf : μ (T + 12) (8 * e + k) = 21
          · obtain ⟨w, w1, w2, -⟩ := ref_to h c (show (k : Int) < μ (T + 10) e by omega) cf
            have hrs : rS T n μ (8 * e + k) := (rS_of (by omega)).mpr ⟨c, by omega, cf⟩
            have t87 : τ 87 (3200 * b + (8 * e + k)) = w := by rw [r87 (Or.inr (by unfold isRef; omega)), w1]
            have t101 : τ 101 = ρ 101 := jj.2.1 101 (by omega)
            have yw := hY w w2
            have rbw := rb_1 (v := ρ 101 w)
            have hWa : rb (ρ 101 w) = W (8 * e + k) := by rw [hW]; unfold rowsOf; rw [w1, Int.toNat_natCast]
            have t102 : τ 102 (8 * e + k) = ρ 102 (8 * e + k) := by rw [jj.2.2.1, if_neg (by omega)]
            have tj : (((3200 * b + (8 * e + k) : Nat) : Int) - 3200 * (b : Int)).toNat = 8 * e + k := by omega
            rw [if_neg (fun q => q cf), bG_pos (by omega), t87, b32i (by constructor <;> omega), bG_pos (by omega), Int.toNat_natCast, t101, M_rowBytes (by omega), Option.bind_some, t3, bG_pos (by constructor <;> omega), bG_pos (by constructor <;> omega), hWa]
            -- what the row becomes
            have S154 : ∀ y0 : Int, F_X11_layOut_154 e (400 * (b : Int) + e) ((3200 * b + (8 * e + k) : Nat) : Int) (W (8 * e + k)) (((3200 * b + (8 * e + k) : Nat) : Int) - 3200 * (b : Int)) y0 τ = some (.inl (y0, ((3200 * b + (8 * e + (k + 1)) : Nat) : Int), bset τ 102 (8 * e + k) (if ρ 102 (8 * e + k) < W (8 * e + k) then W (8 * e + k) else ρ 102 (8 * e + k)))) := fun y0 => by
              unfold F_X11_layOut_154
              rw [bG_pos (by omega), tj, t102]
              by_cases q : W (8 * e + k) ≤ ρ 102 (8 * e + k)
              · rw [if_pos q, bG_pos (by omega), bG_pos (by omega), bG_pos (by constructor <;> omega), if_neg (by omega), hsucc]
              · rw [if_neg q, bG_pos (by omega), bG_pos (by constructor <;> omega), if_pos (by omega), hsucc]
            have goal : ∀ y0 : Int, (y0 = 0 ∨ y0 = 1) → (y0 = 1 ↔ v' = 1 ∨ ρ 102 (8 * e + k) < W (8 * e + k)) → growJ T n μ ρ W (8 * e + (k + 1)) y0 (bset τ 102 (8 * e + k) (if ρ 102 (8 * e + k) < W (8 * e + k) then W (8 * e + k) else ρ 102 (8 * e + k))) := by
              intro y0 hy hyi
              obtain ⟨j1, j2, j3, j4⟩ := jj
              refine ⟨hy, fun q hq => by rw [bset_q hq, j2 q hq], fun a => ?_, ?_⟩
              · rw [bset_row]
                by_cases x : a = 8 * e + k
                · rw [if_pos x, x]
                  by_cases y : ρ 102 (8 * e + k) < W (8 * e + k)
                  · rw [if_pos y, if_pos ⟨by omega, hrs, y⟩]
                  · rw [if_neg y, if_neg (fun z => y z.2.2)]
                · rw [if_neg x, j3 a]
                  by_cases y : a < 8 * e + k ∧ rS T n μ a ∧ ρ 102 a < W a
                  · rw [if_pos y, if_pos ⟨by omega, y.2⟩]
                  · rw [if_neg y, if_neg (fun z => y ⟨by omega, z.2⟩)]
              · rw [hyi, j4]
                constructor
                · rintro (⟨a, y1, y2, y3⟩ | y)
                  · exact ⟨a, by omega, y2, y3⟩
                  · exact ⟨8 * e + k, by omega, hrs, y⟩
                · rintro ⟨a, y1, y2, y3⟩
                  by_cases x : a = 8 * e + k
                  · rw [x] at y3; exact Or.inr y3
                  · exact Or.inl ⟨a, by omega, y2, y3⟩
            have j1 := jj.1
            by_cases q : v' = 0
            · rw [if_neg (fun x => x q), bG_pos (by omega), tj, t102]
              by_cases q2 : W (8 * e + k) ≤ ρ 102 (8 * e + k)
              · rw [if_pos q2, S154 0]
                exact ⟨_, rfl, ⟨k + 1, by omega, rfl, goal 0 (Or.inl rfl) (by omega)⟩, by simp only; omega⟩
              · rw [if_neg q2]
                unfold F_X11_layOut_149
                rw [S154 1]
                exact ⟨_, rfl, ⟨k + 1, by omega, rfl, goal 1 (Or.inr rfl) (by omega)⟩, by simp only; omega⟩
            · rw [if_pos q]
              unfold F_X11_layOut_149
              rw [S154 1]
              exact ⟨_, rfl, ⟨k + 1, by omega, rfl, goal 1 (Or.inr rfl) (by omega)⟩, by simp only; omega⟩
          · rw [if_pos cf, bG_pos (by constructor <;> omega)]
            refine ⟨_, rfl, ⟨k + 1, by omega, hsucc, ?_⟩, by simp only; omega⟩
            refine growJ_skip (c := 8 * e + k) (by omega) (fun a a1 a2 hrs => ?_) jj
            rw [show a = 8 * e + k by omega] at hrs
            exact cf ((rS_of (by omega)).mp hrs).2.2
        · right
          have : k = A := by omega
          subst this
          rw [if_pos (by omega), bG_pos (by constructor <;> omega)]
          refine ⟨_, rfl, v', τ, rfl, ?_⟩
          refine growJ_skip (c := 8 * e + k) (by omega) (fun a a1 a2 hrs => ?_) jj
          have h2 := hrs.2.1
          rw [show a / 8 = e by omega] at h2
          omega
    · right
      have : e = n := by omega
      subst this
      rw [if_pos (by omega)]
      obtain ⟨j1, j2, j3, j4⟩ := j
      refine ⟨_, rfl, v, σ, rfl, j2, j1, fun a => ?_, ?_⟩
      · rw [j3 a]
        by_cases x : rS T e μ a ∧ ρ 102 a < W a
        · rw [if_pos x, if_pos ⟨by have := x.1.1; omega, x⟩]
        · rw [if_neg x, if_neg (fun y => x y.2)]
      · rw [j4]
        constructor
        · rintro ⟨a, y1, y2, y3⟩; exact ⟨a, y2, y3⟩
        · rintro ⟨a, y2, y3⟩; exact ⟨a, by have := y2.1; omega, y2, y3⟩
end
end EN
