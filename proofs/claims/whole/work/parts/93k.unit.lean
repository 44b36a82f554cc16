section EK
section
variable {T b n m : Nat} {μ ν ρ : bM} {ord : Nat → Nat}
/-- all below an entry lies in its piece of the order -/
theorem pos_in {par : Nat → Int} (hp : parOk par n) : ∀ e : Nat, e < n → rtE par e < n ∧ posE par n (rtE par e) ≤ posE par n e ∧ posE par n e + szT par n 0 e ≤ posE par n (rtE par e) + szT par n 0 (rtE par e) := by
  intro e
  induction e using Nat.strongRecOn with
  | _ e ih =>
    intro he
    rw [rtE_eq hp he]
    by_cases c : par e = -1
    · rw [if_pos c]; exact ⟨he, Int.le_refl _, Int.le_refl _⟩
    · rw [if_neg c]
      have hpe := hp e he
      have := ih (par e).toNat (by omega) (by omega)
      have h1 := posE_eq hp he
      rw [if_neg c] at h1
      have h2 := szT_mono (par := par) (n := n) (p := par e) (a := 0) e e (by omega) (by omega)
      have h3 := szT_at hp he
      have h4 := szT_ge' (par := par) (n := n) (p := par e) (j := e + 1) (by omega)
      rw [show (((par e).toNat : Nat) : Int) = par e by omega] at this
      refine ⟨this.1, by omega, by omega⟩
theorem rt_unit (h : cT T n m μ) : ∀ e : Nat, e < n → μ (T + 3) (rtE (μ (T + 3)) e) = -1 ∧ μ (T + 4) (rtE (μ (T + 3)) e) = μ (T + 4) e := by
  intro e
  induction e using Nat.strongRecOn with
  | _ e ih =>
    intro he
    obtain ⟨-, q2, -, -, -, q6, q7⟩ := h.2.2.2.1 e he
    rw [rtE_eq (cT_par h) he]
    by_cases c : μ (T + 3) e = -1
    · rw [if_pos c]; exact ⟨c, rfl⟩
    · rw [if_neg c]
      have := ih (μ (T + 3) e).toNat (by omega) (by omega)
      rw [(q7 (by omega)).2]
      exact this
theorem start_rg (h : cT T n m μ) {u : Nat} (hu : u < m) : 0 ≤ startP T n m μ u ∧ startP T n m μ u < startP T n m μ (u + 1) ∧ startP T n m μ (u + 1) ≤ n := by
  obtain ⟨r1, r2, r3, -⟩ := root_is h hu
  have h1 := pos_rg (cT_par h) _ r1
  have h2 := sz_pos (cT_par h) r1
  have h3 := start_succ h hu
  have h4 : startP T n m μ u = posE (μ (T + 3)) n (rootE T μ u) := by unfold startP; rw [if_pos hu]
  omega
theorem start_mono (h : cT T n m μ) : ∀ {u v : Nat}, u ≤ v → v ≤ m → startP T n m μ u ≤ startP T n m μ v := by
  intro u v huv hv
  induction v with
  | zero => rw [show u = 0 by omega]; exact Int.le_refl _
  | succ v ih =>
    by_cases c : u ≤ v
    · have := ih c (by omega)
      have := start_rg h (show v < m by omega)
      omega
    · rw [show u = v + 1 by omega]; exact Int.le_refl _
/-- one unit's piece of the order -/
def unitR (T n : Nat) (μ : bM) (ord : Nat → Nat) (u lo hi : Nat) : Prop := lo < hi ∧ hi ≤ n ∧ μ (T + 3) (ord lo) = -1 ∧ (∀ i, lo < i → i < hi → μ (T + 3) (ord i) ≠ -1) ∧ ∀ i, i < n → ((lo ≤ i ∧ i < hi) ↔ μ (T + 4) (ord i) = (u : Int))
theorem unit_in (h : cT T n m μ) (ho : ordOk (μ (T + 3)) n ord) {i : Nat} (hi : i < n) : ∃ u : Nat, u < m ∧ μ (T + 4) (ord i) = u ∧ startP T n m μ u ≤ i ∧ (i : Int) < startP T n m μ (u + 1) := by
  obtain ⟨o1, o2⟩ := ho.1 i hi
  have hq := (h.2.2.2.1 (ord i) o1).2.2.1
  obtain ⟨u, hu⟩ : ∃ u : Nat, μ (T + 4) (ord i) = u := ⟨(μ (T + 4) (ord i)).toNat, by omega⟩
  have hum : u < m := by omega
  obtain ⟨x1, x2, x3⟩ := pos_in (cT_par h) (ord i) o1
  obtain ⟨y1, y2⟩ := rt_unit h (ord i) o1
  have hr := (h.2.2.2.1 _ x1).2.2.2.2.2.1 y1
  have hroot : rootE T μ u = rtE (μ (T + 3)) (ord i) := by
    unfold rootE
    have := hr.2
    rw [y2, hu, Int.toNat_natCast] at this
    omega
  refine ⟨u, hum, hu, ?_, ?_⟩
  · unfold startP
    rw [if_pos hum, hroot]
    omega
  · rw [start_succ h hum, hroot]
    have := sz_pos (cT_par h) o1
    omega
theorem unit_R (h : cT T n m μ) (ho : ordOk (μ (T + 3)) n ord) {u : Nat} (hu : u < m) : unitR T n μ ord u (startP T n m μ u).toNat (startP T n m μ (u + 1)).toNat := by
  have sr := start_rg h hu
  obtain ⟨r1, r2, r3, r4⟩ := root_is h hu
  have key : ∀ i, i < n → ((startP T n m μ u ≤ i ∧ (i : Int) < startP T n m μ (u + 1)) ↔ μ (T + 4) (ord i) = (u : Int)) := fun i hi => by
    obtain ⟨v, v1, v2, v3, v4⟩ := unit_in h ho hi
    constructor
    · rintro ⟨a1, a2⟩
      by_cases x : v = u
      · rw [v2, x]
      · by_cases y : v < u
        · have := start_mono h (show v + 1 ≤ u by omega) (by omega)
          omega
        · have := start_mono h (show u + 1 ≤ v by omega) (by omega)
          omega
    · intro hq
      have : v = u := by omega
      rw [this] at v3 v4
      exact ⟨v3, v4⟩
  have hlo : ord (startP T n m μ u).toNat = rootE T μ u := by
    obtain ⟨k, k1, k2, k3⟩ := ho.2 _ r1
    have : startP T n m μ u = k := by unfold startP; rw [if_pos hu]; exact k3
    rw [this, Int.toNat_natCast, k2]
  refine ⟨by omega, by omega, by rw [hlo]; exact r2, fun i a1 a2 hp => ?_, fun i hi => ?_⟩
  · have hi : i < n := by omega
    obtain ⟨w, w1, w2⟩ := root_all h (ho.1 i hi).1 hp
    have hpos := (ho.1 i hi).2
    have : startP T n m μ w = i := by unfold startP; rw [if_pos w1, w2]; exact hpos
    by_cases x : w ≤ u
    · have := start_mono h x (by omega)
      omega
    · have := start_mono h (show u + 1 ≤ w by omega) (by omega)
      omega
  · rw [← key i hi]
    constructor
    · rintro ⟨a1, a2⟩; exact ⟨by omega, by omega⟩
    · rintro ⟨a1, a2⟩; exact ⟨by omega, by omega⟩
/-- rows of places that hold their references' rows -/
def rowsOf (T : Nat) (μ : bM) (X : Nat → Int) (a : Nat) : Int := rb (X (μ (T + 13) a).toNat)
/-- places with rows R -/
def isPl (T n : Nat) (μ : bM) (ord : Nat → Nat) (st X R : Nat → Int) : Prop := ∀ i, i < n → X (ord i) = if μ (T + 3) (ord i) = -1 then 11 else X (ord (i - 1)) + st (ord (i - 1)) + rrs T μ (ord (i - 1)) R
def post (T n : Nat) (μ : bM) (ord : Nat → Nat) (st Y R : Nat → Int) : Prop := isPl T n μ ord st Y R ∧ ∀ e k : Nat, e < n → (k : Int) < μ (T + 10) e → μ (T + 12) (8 * e + k) = 21 → rowsOf T μ Y (8 * e + k) ≤ R (8 * e + k)
theorem rrs_rows (h : cT T n m μ) {e : Nat} (he : e < n) {X : Nat → Int} (hX : ∀ x : Nat, x < n → 0 ≤ X x ∧ X x ≤ 2097151) : rct T μ e ≤ rrs T μ e (rowsOf T μ X) ∧ rrs T μ e (rowsOf T μ X) ≤ 3 * rct T μ e ∧ 0 ≤ rct T μ e ∧ rct T μ e ≤ 8 := by
  refine rrs_rg h he (fun k hk hf => ?_)
  obtain ⟨v, v1, v2, v3⟩ := ref_to h he hk hf
  unfold rowsOf
  rw [v1, Int.toNat_natCast]
  exact ⟨rb_1.1, rb_small (hX v v2).2⟩
theorem rrs_rows_mono (h : cT T n m μ) {e : Nat} (he : e < n) {X Y : Nat → Int} (hXY : ∀ x : Nat, x < n → X x ≤ Y x) : rrs T μ e (rowsOf T μ X) ≤ rrs T μ e (rowsOf T μ Y) := by
  refine rrs_mono (fun k hk hf => ?_)
  obtain ⟨v, v1, v2, v3⟩ := ref_to h he hk hf
  unfold rowsOf
  rw [v1, Int.toNat_natCast]
  exact rb_mono (hXY v v2)
theorem rrs_rows_unit (h : cT T n m μ) {e : Nat} (he : e < n) {X Y : Nat → Int} (hXY : ∀ x : Nat, x < n → μ (T + 4) x = μ (T + 4) e → X x = Y x) : rrs T μ e (rowsOf T μ X) = rrs T μ e (rowsOf T μ Y) := by
  refine rrs_congr (fun k hk hf => ?_)
  obtain ⟨v, v1, v2, v3⟩ := ref_to h he hk hf
  unfold rowsOf
  rw [v1, Int.toNat_natCast, hXY v v2 v3]
def frE (μ ρ : bM) : Prop := ∀ q, q ≠ 16 → q ≠ 19 → ρ q = μ q
/-- one round over a unit -/
theorem C_move (h : cT T n m μ) (ho : ordOk (μ (T + 3)) n ord) {u lo hi : Nat} (hu : u < m) (hU : unitR T n μ ord u lo hi) {st : Nat → Int} (hst : ∀ e, e < n → 0 ≤ st e ∧ st e ≤ 2080) {ρ : bM} (hr : ∀ q, T ≤ q → q ≤ T + 14 → ρ q = μ q)
    (h15 : ρ 15 u = lo ∧ ρ 15 (u + 1) = hi) (h14 : ∀ k, k < n → ρ 14 k = ord k) (h18 : ∀ e, e < n → ρ 18 e = st e) (hX : ∀ e, e < n → 0 ≤ ρ 19 e ∧ ρ 19 e ≤ 900000) {tot : Int}
    (hQ : ∀ i, lo ≤ i → i < hi → (if i + 1 < hi then ρ 19 (ord (i + 1)) else tot) ≤ ρ 19 (ord i) + st (ord i) + rrs T μ (ord i) (rowsOf T μ (ρ 19))) (hQ0 : ρ 19 (ord lo) ≤ 11) :
    ∃ (mv : Int) (ρ' : bM) (tot' : Int), F_X3_moveEntries T u ρ = some (mv, ρ') ∧ (mv = 0 ∨ mv = 1) ∧ frE ρ ρ' ∧ (∀ k, k ≠ u → ρ' 16 k = ρ 16 k) ∧ ρ' 16 u = tot' ∧ (∀ e, e < n → μ (T + 4) e ≠ u → ρ' 19 e = ρ 19 e) ∧ (∀ e, e < n → 0 ≤ ρ' 19 e ∧ ρ' 19 e ≤ 900000) ∧
    (∀ i, lo ≤ i → i < hi → (if i + 1 < hi then ρ' 19 (ord (i + 1)) else tot') ≤ ρ' 19 (ord i) + st (ord i) + rrs T μ (ord i) (rowsOf T μ (ρ' 19))) ∧ ρ' 19 (ord lo) = 11 ∧
    tot ≤ tot' ∧ (mv = 1 → tot < tot') ∧ (mv = 0 → (∀ e, e < n → ρ' 19 e = ρ 19 e) ∧ ∀ i, lo ≤ i → i < hi → (if i + 1 < hi then ρ 19 (ord (i + 1)) else tot') = ρ 19 (ord i) + st (ord i) + rrs T μ (ord i) (rowsOf T μ (ρ 19))) ∧
    (11 + sumI (fun j => st (ord (lo + j)) + rct T μ (ord (lo + j))) (hi - lo) ≤ tot' ∧ tot' ≤ 11 + sumI (fun j => st (ord (lo + j)) + 3 * rct T μ (ord (lo + j))) (hi - lo)) ∧ tot' ≤ 900000 ∧
    ∀ Y R, post T n μ ord st Y R → (∀ e, e < n → ρ 19 e ≤ Y e) → ∀ e, e < n → ρ' 19 e ≤ Y e := by
  have n4 := h.2.1.2
  have hT := h.1
  have m6 := h.2.2.1.2
  obtain ⟨u1, u2, u3, u4, u5⟩ := hU
  have tgt : ∀ i, lo ≤ i → i < hi → ∃ t : Int, t = (if i < hi then ρ 19 (ord i) else tot) := fun i _ _ => ⟨_, rfl⟩
  have H := bLoop_inv (f := fun z : Int × Int × Int × bM => F_X3_moveEntries_14 T u z.1 z.2.1 z.2.2.1 z.2.2.2)
    (fun z => ∃ i : Nat, lo ≤ i ∧ i ≤ hi ∧ z.2.2.1 = i ∧ (z.1 = 0 ∨ z.1 = 1) ∧ (∀ q, q ≠ 19 → z.2.2.2 q = ρ q) ∧ (∀ j, j < n → ¬ (lo ≤ j ∧ j < i) → z.2.2.2 19 (ord j) = ρ 19 (ord j)) ∧ (∀ e, e < n → ρ 19 e ≤ z.2.2.2 19 e) ∧
      (∀ e, e < n → 0 ≤ z.2.2.2 19 e ∧ z.2.2.2 19 e ≤ 900000) ∧ (11 ≤ z.2.1 ∧ z.2.1 ≤ 11 + 2104 * ((i : Int) - lo)) ∧
      (lo < i → z.2.2.2 19 (ord lo) = 11) ∧ (i = lo → z.2.1 = 11) ∧
      (∀ j, lo ≤ j → j < i → (if j + 1 < i then z.2.2.2 19 (ord (j + 1)) else z.2.1) ≤ z.2.2.2 19 (ord j) + st (ord j) + rrs T μ (ord j) (rowsOf T μ (z.2.2.2 19))) ∧
      (if i < hi then ρ 19 (ord i) else tot) ≤ z.2.1 ∧ (z.1 = 1 → (if i < hi then ρ 19 (ord i) else tot) < z.2.1) ∧
      (z.1 = 0 → (∀ e, e < n → z.2.2.2 19 e = ρ 19 e) ∧ ∀ j, lo ≤ j → j < i → (if j + 1 < i then ρ 19 (ord (j + 1)) else z.2.1) = ρ 19 (ord j) + st (ord j) + rrs T μ (ord j) (rowsOf T μ (ρ 19))) ∧
      (11 + sumI (fun j => st (ord (lo + j)) + rct T μ (ord (lo + j))) (i - lo) ≤ z.2.1 ∧ z.2.1 ≤ 11 + sumI (fun j => st (ord (lo + j)) + 3 * rct T μ (ord (lo + j))) (i - lo)) ∧
      (∀ Y R, post T n μ ord st Y R → (∀ e, e < n → ρ 19 e ≤ Y e) → (∀ e, e < n → z.2.2.2 19 e ≤ Y e) ∧ (i < hi → z.2.1 ≤ Y (ord i))))
    (fun z => hi - z.2.2.1.toNat)
    (fun r => ∃ (mv : Int) (ρ' : bM) (tot' : Int), r = (mv, ρ') ∧ (mv = 0 ∨ mv = 1) ∧ frE ρ ρ' ∧ (∀ k, k ≠ u → ρ' 16 k = ρ 16 k) ∧ ρ' 16 u = tot' ∧ (∀ e, e < n → μ (T + 4) e ≠ u → ρ' 19 e = ρ 19 e) ∧ (∀ e, e < n → 0 ≤ ρ' 19 e ∧ ρ' 19 e ≤ 900000) ∧
    (∀ i, lo ≤ i → i < hi → (if i + 1 < hi then ρ' 19 (ord (i + 1)) else tot') ≤ ρ' 19 (ord i) + st (ord i) + rrs T μ (ord i) (rowsOf T μ (ρ' 19))) ∧ ρ' 19 (ord lo) = 11 ∧
    tot ≤ tot' ∧ (mv = 1 → tot < tot') ∧ (mv = 0 → (∀ e, e < n → ρ' 19 e = ρ 19 e) ∧ ∀ i, lo ≤ i → i < hi → (if i + 1 < hi then ρ 19 (ord (i + 1)) else tot') = ρ 19 (ord i) + st (ord i) + rrs T μ (ord i) (rowsOf T μ (ρ 19))) ∧
    (11 + sumI (fun j => st (ord (lo + j)) + rct T μ (ord (lo + j))) (hi - lo) ≤ tot' ∧ tot' ≤ 11 + sumI (fun j => st (ord (lo + j)) + 3 * rct T μ (ord (lo + j))) (hi - lo)) ∧ tot' ≤ 900000 ∧
    ∀ Y R, post T n μ ord st Y R → (∀ e, e < n → ρ 19 e ≤ Y e) → ∀ e, e < n → ρ' 19 e ≤ Y e) ?_ (0, 11, ρ 15 u, ρ) ?_
  · obtain ⟨r, x1, mv, ρ', tot', x2, x3⟩ := H
    refine ⟨mv, ρ', tot', ?_, x3⟩
    unfold F_X3_moveEntries
    rw [bG_pos (by omega), Int.toNat_natCast]
    rw [x1, x2]
  · rintro ⟨z1, at_, z3, σ⟩ ⟨i, i1, i2, i3, k1, k2, k3, k4, k5, k6, k7, k8, k9, k10, k11, k12, k13, k14⟩
    simp only at i3 k1 k2 k3 k4 k5 k6 k7 k8 k9 k10 k11 k12 k13 k14
    subst i3
    show (∃ s', F_X3_moveEntries_14 T u z1 at_ i σ = some (Sum.inl s') ∧ _) ∨ ∃ r, F_X3_moveEntries_14 T u z1 at_ i σ = some (Sum.inr r) ∧ _
    unfold F_X3_moveEntries_14
    rw [bG_pos (by constructor <;> omega), bG_pos (by omega), show ((u : Int) + 1).toNat = u + 1 by omega, k2 15 (by omega), h15.2]
    by_cases c : i < hi
    · left
      have hin : i < n := by omega
      have hoi := (ho.1 i hin).1
      obtain ⟨e, he⟩ : ∃ e, e = ord i := ⟨_, rfl⟩
      rw [if_neg (by omega), bG_pos (by omega), Int.toNat_natCast, k2 14 (by omega), h14 i hin, bG_pos (by omega), Int.toNat_natCast, ← he]
      rw [if_pos c] at k10 k11
      have ste := hst e (by rw [he]; exact hoi)
      have hen : e < n := by rw [he]; exact hoi
      -- the memory with the entry's place told
      obtain ⟨τ, hτ⟩ : ∃ τ, τ = bset σ 19 e at_ := ⟨_, rfl⟩
      have τq : ∀ q, q ≠ 19 → τ q = ρ q := fun q hq => by rw [hτ, bset_q hq, k2 q hq]
      have τr : ∀ x, τ 19 x = if x = e then at_ else σ 19 x := fun x => by rw [hτ, bset_row]
      have σe : σ 19 e = ρ 19 e := by rw [he]; exact k3 i hin (by omega)
      have τge : ∀ x, x < n → ρ 19 x ≤ τ 19 x := fun x hx => by
        rw [τr]
        by_cases q : x = e
        · rw [if_pos q, q, he]; exact k10
        · rw [if_neg q]; exact k4 x hx
      have τσ : ∀ x, x < n → σ 19 x ≤ τ 19 x := fun x hx => by
        rw [τr]
        by_cases q : x = e
        · rw [if_pos q, q, σe, he]; exact k10
        · rw [if_neg q]; exact Int.le_refl _
      have τrg : ∀ x, x < n → 0 ≤ τ 19 x ∧ τ 19 x ≤ 900000 := fun x hx => by
        rw [τr]
        by_cases q : x = e
        · rw [if_pos q]; omega
        · rw [if_neg q]; exact k5 x hx
      have rr := rrs_rows (X := τ 19) h hen (fun x hx => by have := τrg x hx; omega)
      have CR : F_X3_referenceRowBytes T e τ = some (rrs T μ e (rowsOf T μ (τ 19))) := C_refRows h (fun q q1 q2 => by rw [τq q (by omega), hr q q1 q2]) (fun x hx => by have := τrg x hx; omega) hen
      obtain ⟨D, hD⟩ : ∃ D, D = rrs T μ e (rowsOf T μ (τ 19)) := ⟨_, rfl⟩
      rw [← hD] at rr CR
      have S59 : ∀ v3 : Int, F_X3_moveEntries_59 T u v3 at_ i e τ = some (.inl (v3, at_ + (st e + D), (i : Int) + 1, τ)) := fun v3 => by
        unfold F_X3_moveEntries_59
        rw [bG_pos (by omega), Int.toNat_natCast, CR, Option.bind_some, τq 18 (by omega), h18 e hen, bG_pos (by constructor <;> omega), bG_pos (by constructor <;> omega), bG_pos (by constructor <;> omega)]
      -- the flag behind this entry
      obtain ⟨f, hf1, hf2, hf3, hf4⟩ : ∃ f : Int, (f = 0 ∨ f = 1) ∧ (f = 1 ↔ z1 = 1 ∨ ρ 19 e ≠ at_) ∧ (f = 0 ↔ z1 = 0 ∧ ρ 19 e = at_) ∧ (if σ 19 e = at_ then F_X3_moveEntries_59 T u z1 at_ i e σ else bG (0 ≤ (e : Int) ∧ (e : Int) < 400) (F_X3_moveEntries_59 T u 1 at_ i e (bset σ 19 e at_))) = some (.inl (f, at_ + (st e + D), (i : Int) + 1, τ)) := by
        by_cases q : σ 19 e = at_
        · have : τ = σ := by rw [hτ, bset_id q]
          rw [if_pos q, ← this, S59 z1]
          rw [σe] at q
          exact ⟨z1, k1, by omega, by omega, rfl⟩
        · rw [if_neg q, bG_pos (by omega), ← hτ, S59 1]
          rw [σe] at q
          exact ⟨1, Or.inr rfl, by omega, by omega, rfl⟩
      rw [hf4]
      have hD0 : rrs T μ e (rowsOf T μ (ρ 19)) ≤ D := by rw [hD]; exact rrs_rows_mono h hen τge
      have Qi := hQ i i1 c
      rw [← he] at Qi
      have hinj : ∀ j, j < n → ord j = e → j = i := fun j hj hje => ord_inj ho hj hin (by rw [hje, he])
      refine ⟨_, rfl, ⟨i + 1, by omega, by omega, by simp, hf1, τq, fun j hj hnj => ?_, τge, τrg, ?_, fun _ => ?_, fun hh => by omega, fun j j1 j2 => ?_, ?_, fun hh => ?_, fun hh => ?_, ?_, fun Y R hP hY => ?_⟩, by simp only; omega⟩
      · simp only
        rw [τr, if_neg (fun q => hnj ⟨by have := hinj j hj q; omega, by have := hinj j hj q; omega⟩)]
        exact k3 j hj (by omega)
      · simp only
        omega
      · simp only
        rw [τr]
        by_cases q : ord lo = e
        · rw [if_pos q]
          have := hinj lo (by omega) q
          exact k8 (by omega)
        · rw [if_neg q]
          exact k7 (by
            by_cases w : i = lo
            · rw [he, w] at q; exact absurd rfl q
            · omega)
      · simp only
        have jn : j < n := by omega
        by_cases ji : j = i
        · rw [if_neg (by omega), ji, ← he, τr, if_pos rfl, ← hD]
          omega
        · have k9j := k9 j j1 (by omega)
          have hjm := rrs_rows_mono h (ho.1 j jn).1 τσ
          have τj : τ 19 (ord j) = σ 19 (ord j) := by rw [τr, if_neg (fun q => ji (hinj j jn q))]
          rw [if_pos (by omega), τj]
          by_cases w : j + 1 = i
          · rw [w, ← he, τr, if_pos rfl]
            rw [if_neg (by omega)] at k9j
            omega
          · rw [τr, if_neg (fun q => w (hinj (j + 1) (by omega) q))]
            rw [if_pos (by omega)] at k9j
            omega
      · simp only
        have : ρ 19 e ≤ at_ := by rw [he]; exact k10
        omega
      · simp only at hh ⊢
        have hle : ρ 19 e ≤ at_ := by rw [he]; exact k10
        have : ρ 19 e < at_ := by
          rcases hf2.mp hh with x | x
          · rw [he]; exact k11 x
          · omega
        omega
      · simp only at hh
        obtain ⟨x1, x2⟩ := hf3.mp hh
        obtain ⟨y1, y2⟩ := k12 x1
        have hτσ : ∀ x, x < n → τ 19 x = ρ 19 x := fun x hx => by
          rw [τr]
          by_cases q : x = e
          · rw [if_pos q, q, x2]
          · rw [if_neg q]; exact y1 x hx
        have hDe : D = rrs T μ e (rowsOf T μ (ρ 19)) := by rw [hD]; exact rrs_rows_unit h hen (fun x hx _ => hτσ x hx)
        refine ⟨hτσ, fun j j1 j2 => ?_⟩
        simp only
        by_cases ji : j = i
        · rw [if_neg (by omega), ji, ← he, x2, hDe]
          omega
        · have := y2 j j1 (by omega)
          rw [if_pos (by omega)]
          by_cases w : j + 1 = i
          · rw [w, ← he, x2]
            rw [if_neg (by omega)] at this
            exact this
          · rw [if_pos (by omega)] at this
            exact this
      · simp only
        rw [show i + 1 - lo = (i - lo) + 1 by omega]
        have e1 : sumI (fun j => st (ord (lo + j)) + rct T μ (ord (lo + j))) (i - lo + 1) = sumI (fun j => st (ord (lo + j)) + rct T μ (ord (lo + j))) (i - lo) + (st e + rct T μ e) := by
          show _ + (st (ord (lo + (i - lo))) + rct T μ (ord (lo + (i - lo)))) = _
          rw [show lo + (i - lo) = i by omega, ← he]
        have e2 : sumI (fun j => st (ord (lo + j)) + 3 * rct T μ (ord (lo + j))) (i - lo + 1) = sumI (fun j => st (ord (lo + j)) + 3 * rct T μ (ord (lo + j))) (i - lo) + (st e + 3 * rct T μ e) := by
          show _ + (st (ord (lo + (i - lo))) + 3 * rct T μ (ord (lo + (i - lo)))) = _
          rw [show lo + (i - lo) = i by omega, ← he]
        omega
      · obtain ⟨z1', z2'⟩ := k14 Y R hP hY
        have hYτ : ∀ x, x < n → τ 19 x ≤ Y x := fun x hx => by
          rw [τr]
          by_cases q : x = e
          · rw [if_pos q, q, he]; exact z2' c
          · rw [if_neg q]; exact z1' x hx
        refine ⟨hYτ, fun hi1 => ?_⟩
        simp only
        have hpl := hP.1 (i + 1) (by omega)
        rw [if_neg (u4 (i + 1) (by omega) hi1), Nat.add_sub_cancel, ← he] at hpl
        have hDR : D ≤ rrs T μ e R := by
          rw [hD]
          refine rrs_mono (fun k hk hf => ?_)
          obtain ⟨v, v1, v2, v3⟩ := ref_to h hen hk hf
          refine Int.le_trans ?_ (hP.2 e k hen hk hf)
          unfold rowsOf
          rw [v1, Int.toNat_natCast]
          exact rb_mono (hYτ v v2)
        have := z2' c
        rw [← he] at this
        rw [hpl]
        omega
    · right
      have : i = hi := by omega
      subst this
      rw [if_pos (by omega), bG_pos (by omega), bG_pos (by omega), Int.toNat_natCast]
      rw [if_neg (by omega)] at k10 k11
      have r19 : ∀ x, bset σ 16 u at_ 19 x = σ 19 x := fun x => by rw [bset_q (by omega)]
      have r19f : bset σ 16 u at_ 19 = σ 19 := bset_q (by omega)
      refine ⟨_, rfl, z1, _, at_, rfl, k1, fun q q1 q2 => by rw [bset_q q1, k2 q q2], fun k hk => by rw [bset_k hk, k2 16 (by omega)], bset_at, fun e he hne => ?_, fun e he => by rw [r19]; exact k5 e he, fun j j1 j2 => ?_, by rw [r19]; exact k7 u1, k10, k11, fun hh => ?_, k13, by omega, fun Y R hP hY e he => by rw [r19]; exact (k14 Y R hP hY).1 e he⟩
      · rw [r19]
        obtain ⟨j, j1, j2, j3⟩ := ho.2 e he
        rw [← j2]
        refine k3 j j1 (fun hh => hne ?_)
        rw [← j2]
        exact (u5 j j1).mp hh
      · rw [r19f]
        exact k9 j j1 j2
      · obtain ⟨y1, y2⟩ := k12 hh
        exact ⟨fun e he => by rw [r19]; exact y1 e he, y2⟩
  · refine ⟨lo, Nat.le_refl _, by omega, h15.1, Or.inl rfl, fun q _ => rfl, fun j _ _ => rfl, fun e _ => Int.le_refl _, hX, by (simp only; omega), fun hh => by omega, fun _ => rfl, fun j j1 j2 => by omega, ?_, fun hh => ?_, fun _ => ⟨fun e _ => rfl, fun j j1 j2 => by omega⟩, ?_, fun Y R hP hY => ⟨hY, fun hlt => ?_⟩⟩
    · simp only
      rw [if_pos u1]
      exact hQ0
    · simp only at hh
      omega
    · simp only
      rw [Nat.sub_self]
      unfold sumI
      omega
    · simp only
      rw [hP.1 lo (by omega), if_pos u3]
      exact Int.le_refl _
end
end EK
