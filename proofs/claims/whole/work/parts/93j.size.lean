section EJ
/-- the bytes of a value that do not hang on places -/
def svz (T : Nat) (μ : bM) (a : Nat) : Int := if μ (T + 12) a = 13 then sr (μ (T + 13) a) else if μ (T + 12) a = 15 then rb (μ (T + 13) a) else if μ (T + 12) a = 8 ∨ μ (T + 12) a = 10 then μ (T + 14) a + 1 else if μ (T + 12) a = 5 then 2 else if μ (T + 12) a = 6 ∨ μ (T + 12) a = 14 ∨ μ (T + 12) a = 19 then 4 else if μ (T + 12) a = 7 then 8 else if μ (T + 12) a = 11 ∨ μ (T + 12) a = 12 then 1 else 0
/-- the rows of references of an entry -/
def rrs (T : Nat) (μ : bM) (e : Nat) (R : Nat → Int) : Int := sumI (fun k => if μ (T + 12) (8 * e + k) = 21 then R (8 * e + k) else 0) (μ (T + 10) e).toNat
def svs (T : Nat) (μ : bM) (e : Nat) : Int := sumI (fun k => svz T μ (8 * e + k)) (μ (T + 10) e).toNat
section
variable {T b n m : Nat} {μ ν ρ : bM}
theorem svz_rg (hb : bOk μ) (h : cT T n m μ) {e k : Nat} (he : e < n) (hk : (k : Int) < μ (T + 10) e) : 0 ≤ svz T μ (8 * e + k) ∧ svz T μ (8 * e + k) ≤ 256 := by
  have hc := h.2.2.2.2.2.2.1 e he k hk
  have h1 := sr_1 (v := μ (T + 13) (8 * e + k))
  have h2 := rb_1 (v := μ (T + 13) (8 * e + k))
  have h3 : 0 ≤ μ (T + 14) (8 * e + k) ∧ μ (T + 14) (8 * e + k) ≤ 255 := by
    rcases hc.2 with ⟨-, x, -⟩ | ⟨-, x, -⟩
    · exact x
    · omega
  unfold svz
  split
  · omega
  · split
    · omega
    · split
      · omega
      · split
        · omega
        · split
          · omega
          · split
            · omega
            · split <;> omega
theorem sumI_rg' {f : Nat → Int} {lo hi : Int} : ∀ k : Nat, (∀ i, i < k → lo ≤ f i ∧ f i ≤ hi) → lo * k ≤ sumI f k ∧ sumI f k ≤ hi * k
  | 0, _ => by unfold sumI; omega
  | k + 1, h => by
    unfold sumI
    have := sumI_rg' k (fun i hi => h i (by omega))
    have := h k (by omega)
    rw [Int.natCast_succ, Int.mul_add, Int.mul_add]
    omega
theorem sumI_mono {f g : Nat → Int} : ∀ k : Nat, (∀ i, i < k → f i ≤ g i) → sumI f k ≤ sumI g k
  | 0, _ => by unfold sumI; omega
  | k + 1, h => by
    unfold sumI
    have := sumI_mono k (fun i hi => h i (by omega))
    have := h k (by omega)
    omega
theorem svs_rg (hb : bOk μ) (h : cT T n m μ) {e : Nat} (he : e < n) : 0 ≤ svs T μ e ∧ svs T μ e ≤ 2048 := by
  have a8 := (h.2.2.2.1 e he).2.2.2.1
  have := sumI_rg' (f := fun k => svz T μ (8 * e + k)) (lo := 0) (hi := 256) (μ (T + 10) e).toNat (fun i hi => svz_rg hb h he (by omega))
  unfold svs
  omega
theorem rrs_mono {e : Nat} {R R' : Nat → Int} (h : ∀ k : Nat, (k : Int) < μ (T + 10) e → μ (T + 12) (8 * e + k) = 21 → R (8 * e + k) ≤ R' (8 * e + k)) : rrs T μ e R ≤ rrs T μ e R' := by
  unfold rrs
  refine sumI_mono _ (fun i hi => ?_)
  by_cases c : μ (T + 12) (8 * e + i) = 21
  · rw [if_pos c, if_pos c]; exact h i (by omega) c
  · rw [if_neg c, if_neg c]; omega
theorem rrs_congr {e : Nat} {R R' : Nat → Int} (h : ∀ k : Nat, (k : Int) < μ (T + 10) e → μ (T + 12) (8 * e + k) = 21 → R (8 * e + k) = R' (8 * e + k)) : rrs T μ e R = rrs T μ e R' := by
  unfold rrs
  refine sumI_congr _ (fun i hi => ?_)
  by_cases c : μ (T + 12) (8 * e + i) = 21
  · rw [if_pos c, if_pos c]; exact h i (by omega) c
  · rw [if_neg c, if_neg c]
/-- how many rows of references an entry has -/
def rct (T : Nat) (μ : bM) (e : Nat) : Int := rrs T μ e (fun _ => 1)
theorem rrs_rg (h : cT T n m μ) {e : Nat} (he : e < n) {R : Nat → Int} (hR : ∀ k : Nat, (k : Int) < μ (T + 10) e → μ (T + 12) (8 * e + k) = 21 → 1 ≤ R (8 * e + k) ∧ R (8 * e + k) ≤ 3) : rct T μ e ≤ rrs T μ e R ∧ rrs T μ e R ≤ 3 * rct T μ e ∧ 0 ≤ rct T μ e ∧ rct T μ e ≤ 8 := by
  have a8 := (h.2.2.2.1 e he).2.2.2.1
  have h1 : rct T μ e ≤ rrs T μ e R := rrs_mono (fun k hk hf => (hR k hk hf).1)
  have h2 : rrs T μ e R ≤ rrs T μ e (fun _ => 3) := rrs_mono (fun k hk hf => (hR k hk hf).2)
  have h3 : ∀ k : Nat, sumI (fun k => if μ (T + 12) (8 * e + k) = 21 then (3 : Int) else 0) k = 3 * sumI (fun k => if μ (T + 12) (8 * e + k) = 21 then (1 : Int) else 0) k := by
    intro k
    induction k with
    | zero => rfl
    | succ k ih =>
      unfold sumI
      rw [ih]
      (try simp only)
      split <;> omega
  have h4 := sumI_rg' (f := fun k => if μ (T + 12) (8 * e + k) = 21 then (1 : Int) else 0) (lo := 0) (hi := 1) (μ (T + 10) e).toNat (fun i _ => by (try simp only); split <;> omega)
  have h5 : rrs T μ e (fun _ => 3) = 3 * rct T μ e := h3 _
  have h6 : rct T μ e = sumI (fun k => if μ (T + 12) (8 * e + k) = 21 then (1 : Int) else 0) (μ (T + 10) e).toNat := rfl
  rw [← h6] at h4
  omega
theorem ref_to (h : cT T n m μ) {e k : Nat} (he : e < n) (hk : (k : Int) < μ (T + 10) e) (hf : μ (T + 12) (8 * e + k) = 21) : ∃ v : Nat, μ (T + 13) (8 * e + k) = v ∧ v < n ∧ μ (T + 4) v = μ (T + 4) e := by
  have hc := (h.2.2.2.2.2.2.1 e he k hk).2
  rcases hc with ⟨x, -⟩ | ⟨-, -, -, x⟩
  · unfold isLet at x; omega
  · have := x (by unfold isRef; omega)
    refine ⟨(μ (T + 13) (8 * e + k)).toNat, by omega, by omega, this.2⟩
theorem C_refRows (h : cT T n m μ) (hr : ∀ q, T ≤ q → q ≤ T + 14 → ρ q = μ q) (hpl : ∀ x : Nat, x < n → 0 ≤ ρ 19 x ∧ ρ 19 x ≤ 2097151) {e : Nat} (he : e < n) : F_X3_referenceRowBytes T e ρ = some (rrs T μ e (fun a => rb (ρ 19 (μ (T + 13) a).toNat))) := by
  have n4 := h.2.1.2
  have a8 := (h.2.2.2.1 e he).2.2.2.1
  obtain ⟨A, hA⟩ : ∃ A : Nat, μ (T + 10) e = A := ⟨(μ (T + 10) e).toNat, by omega⟩
  have rg : ∀ j : Nat, j ≤ A → 0 ≤ sumI (fun k => if μ (T + 12) (8 * e + k) = 21 then rb (ρ 19 (μ (T + 13) (8 * e + k)).toNat) else 0) j ∧ sumI (fun k => if μ (T + 12) (8 * e + k) = 21 then rb (ρ 19 (μ (T + 13) (8 * e + k)).toNat) else 0) j ≤ 10 * j := fun j hj => by
    have := sumI_rg' (f := fun k => if μ (T + 12) (8 * e + k) = 21 then rb (ρ 19 (μ (T + 13) (8 * e + k)).toNat) else 0) (lo := 0) (hi := 10) j (fun i _ => by
      have := rb_1 (v := ρ 19 (μ (T + 13) (8 * e + i)).toNat)
      (try simp only)
      split <;> omega)
    omega
  have L : ∀ k j : Nat, j + k = A → bLoop (fun z : Int × Int => F_X3_referenceRowBytes_5 T e ρ z.1 z.2) (sumI (fun k => if μ (T + 12) (8 * e + k) = 21 then rb (ρ 19 (μ (T + 13) (8 * e + k)).toNat) else 0) j, (j : Int)) = some (sumI (fun k => if μ (T + 12) (8 * e + k) = 21 then rb (ρ 19 (μ (T + 13) (8 * e + k)).toNat) else 0) A) := by
    intro k
    induction k with
    | zero =>
      intro j hj
      rw [show j = A by omega]
      refine bLoop_done ?_
      show F_X3_referenceRowBytes_5 T e ρ _ A = _
      unfold F_X3_referenceRowBytes_5
      rw [bG_pos (by omega), Int.toNat_natCast, hr (T + 10) (by omega) (by omega), if_pos (by omega)]
    | succ k ih =>
      intro j hj
      have rj := rg j (by omega)
      have ih := ih (j + 1) (by omega)
      rw [Int.natCast_succ, show sumI (fun k => if μ (T + 12) (8 * e + k) = 21 then rb (ρ 19 (μ (T + 13) (8 * e + k)).toNat) else 0) (j + 1) = sumI (fun k => if μ (T + 12) (8 * e + k) = 21 then rb (ρ 19 (μ (T + 13) (8 * e + k)).toNat) else 0) j + (if μ (T + 12) (8 * e + j) = 21 then rb (ρ 19 (μ (T + 13) (8 * e + j)).toNat) else 0) from rfl] at ih
      by_cases c : μ (T + 12) (8 * e + j) = 21
      · obtain ⟨v, v1, v2, v3⟩ := ref_to h he (by omega) c
        have hv := hpl v v2
        have r1 := rb_1 (v := ρ 19 v)
        rw [if_pos c, v1, Int.toNat_natCast] at ih
        refine (bLoop_step (f := fun z : Int × Int => F_X3_referenceRowBytes_5 T e ρ z.1 z.2) (s' := (sumI (fun k => if μ (T + 12) (8 * e + k) = 21 then rb (ρ 19 (μ (T + 13) (8 * e + k)).toNat) else 0) j + rb (ρ 19 v), (j : Int) + 1)) ?_).trans ih
        show F_X3_referenceRowBytes_5 T e ρ _ j = _
        unfold F_X3_referenceRowBytes_5
        rw [bG_pos (by omega), Int.toNat_natCast, hr (T + 10) (by omega) (by omega), if_neg (by omega), C_slotAt (by omega) (by omega), Option.bind_some, bG_pos (by omega), t8, hr (T + 12) (by omega) (by omega), if_neg (fun q => q c), bG_pos (by omega), hr (T + 13) (by omega) (by omega), v1, b32i (by constructor <;> omega), bG_pos (by omega), Int.toNat_natCast, C_rowSize (by omega), Option.bind_some, bG_pos (by constructor <;> omega), bG_pos (by constructor <;> omega)]
      · rw [if_neg c, Int.add_zero] at ih
        refine (bLoop_step (f := fun z : Int × Int => F_X3_referenceRowBytes_5 T e ρ z.1 z.2) (s' := (sumI (fun k => if μ (T + 12) (8 * e + k) = 21 then rb (ρ 19 (μ (T + 13) (8 * e + k)).toNat) else 0) j, (j : Int) + 1)) ?_).trans ih
        show F_X3_referenceRowBytes_5 T e ρ _ j = _
        unfold F_X3_referenceRowBytes_5
        rw [bG_pos (by omega), Int.toNat_natCast, hr (T + 10) (by omega) (by omega), if_neg (by omega), C_slotAt (by omega) (by omega), Option.bind_some, bG_pos (by omega), t8, hr (T + 12) (by omega) (by omega), if_pos c, bG_pos (by constructor <;> omega)]
  unfold F_X3_referenceRowBytes rrs
  rw [hA, Int.toNat_natCast]
  exact L A 0 (by omega)
theorem C_width {v : Int} (hv : isNum v ∨ isLet v ∨ isRef v) (h1 : v ≠ 13) (h2 : v ≠ 15) (h3 : v ≠ 8) (h4 : v ≠ 10) : F_X2_width v ρ = some (if v = 5 then 2 else if v = 6 ∨ v = 14 ∨ v = 19 then 4 else if v = 7 then 8 else if v = 11 ∨ v = 12 then 1 else 0) := by
  have : v = 5 ∨ v = 6 ∨ v = 7 ∨ v = 11 ∨ v = 12 ∨ v = 25 ∨ v = 14 ∨ v = 19 ∨ v = 21 := by unfold isNum isLet isRef at hv; omega
  rcases this with rfl | rfl | rfl | rfl | rfl | rfl | rfl | rfl | rfl <;> rfl
theorem form_any (h : cT T n m μ) {e k : Nat} (he : e < n) (hk : (k : Int) < μ (T + 10) e) : isNum (μ (T + 12) (8 * e + k)) ∨ isLet (μ (T + 12) (8 * e + k)) ∨ isRef (μ (T + 12) (8 * e + k)) := by
  rcases (h.2.2.2.2.2.2.1 e he k hk).2 with ⟨x, -⟩ | ⟨x | x, -⟩
  · exact Or.inr (Or.inl x)
  · exact Or.inl x
  · exact Or.inr (Or.inr x)
theorem val_L (hb : bOk μ) (hT : T = 31 ∨ T = 61) (a : Nat) : bRL (μ (T + 13) a) := bO_l (n := 3200) hb (by rcases hT with rfl | rfl <;> rfl)
theorem C_steady (hb : bOk μ) (h : cT T n m μ) (hr : ∀ q, T ≤ q → q ≤ T + 14 → ρ q = μ q) {e : Nat} (he : e < n) : F_X3_steadyValueBytes T e ρ = some (svs T μ e) := by
  have n4 := h.2.1.2
  have hT := h.1
  have a8 := (h.2.2.2.1 e he).2.2.2.1
  obtain ⟨A, hA⟩ : ∃ A : Nat, μ (T + 10) e = A := ⟨(μ (T + 10) e).toNat, by omega⟩
  have rg : ∀ j : Nat, j ≤ A → 0 ≤ sumI (fun k => svz T μ (8 * e + k)) j ∧ sumI (fun k => svz T μ (8 * e + k)) j ≤ 256 * j := fun j hj => by
    have := sumI_rg' (f := fun k => svz T μ (8 * e + k)) (lo := 0) (hi := 256) j (fun i hi => svz_rg hb h he (by omega))
    omega
  have L : ∀ k j : Nat, j + k = A → bLoop (fun z : Int × Int => F_X3_steadyValueBytes_4 T e ρ z.1 z.2) (sumI (fun k => svz T μ (8 * e + k)) j, (j : Int)) = some (sumI (fun k => svz T μ (8 * e + k)) A) := by
    intro k
    induction k with
    | zero =>
      intro j hj
      rw [show j = A by omega]
      refine bLoop_done ?_
      show F_X3_steadyValueBytes_4 T e ρ _ A = _
      unfold F_X3_steadyValueBytes_4
      rw [bG_pos (by omega), Int.toNat_natCast, hr (T + 10) (by omega) (by omega), if_pos (by omega)]
    | succ k ih =>
      intro j hj
      have rj := rg j (by omega)
      have sv := svz_rg hb h he (k := j) (by omega)
      have fm := form_any h he (k := j) (by omega)
      have hcl := (h.2.2.2.2.2.2.1 e he j (by omega)).2
      have ih := ih (j + 1) (by omega)
      rw [Int.natCast_succ, show sumI (fun k => svz T μ (8 * e + k)) (j + 1) = sumI (fun k => svz T μ (8 * e + k)) j + svz T μ (8 * e + j) from rfl] at ih
      refine (bLoop_step (f := fun z : Int × Int => F_X3_steadyValueBytes_4 T e ρ z.1 z.2) (s' := (sumI (fun k => svz T μ (8 * e + k)) j + svz T μ (8 * e + j), (j : Int) + 1)) ?_).trans ih
      show F_X3_steadyValueBytes_4 T e ρ _ j = _
      have hsz : F_X3_steadyValueBytes_4 T e ρ (sumI (fun k => svz T μ (8 * e + k)) j) j = if μ (T + 12) (8 * e + j) = 13 then (F_X6_signedRowSize (μ (T + 13) (8 * e + j)) ρ).bind fun w => bG (bR (sumI (fun k => svz T μ (8 * e + k)) j + w)) (bG (bR ((j : Int) + 1)) (some (.inl (sumI (fun k => svz T μ (8 * e + k)) j + w, (j : Int) + 1)))) else if μ (T + 12) (8 * e + j) = 15 then (F_X6_rowSize (μ (T + 13) (8 * e + j)) ρ).bind fun w => bG (bR (sumI (fun k => svz T μ (8 * e + k)) j + w)) (bG (bR ((j : Int) + 1)) (some (.inl (sumI (fun k => svz T μ (8 * e + k)) j + w, (j : Int) + 1)))) else if μ (T + 12) (8 * e + j) = 8 ∨ μ (T + 12) (8 * e + j) = 10 then F_X3_steadyValueBytes_108 T e (sumI (fun k => svz T μ (8 * e + k)) j) j ((8 * e + j : Nat) : Int) ρ else F_X3_steadyValueBytes_123 T e (sumI (fun k => svz T μ (8 * e + k)) j) j ((8 * e + j : Nat) : Int) ρ := by
        unfold F_X3_steadyValueBytes_4
        rw [bG_pos (by omega), Int.toNat_natCast, hr (T + 10) (by omega) (by omega), if_neg (by omega), C_slotAt (by omega) (by omega), Option.bind_some, bG_pos (by omega), t8, hr (T + 12) (by omega) (by omega), hr (T + 13) (by omega) (by omega), show ((e : Int) * 8 + (j : Int)) = ((8 * e + j : Nat) : Int) by omega]
        unfold isNum isLet isRef at fm
        by_cases c13 : μ (T + 12) (8 * e + j) = 13
        · simp (disch := first | omega | decide) only [bG_pos, bMm_some, bXm_inl, bXm_inr, Option.bind_some, bset_q, bset_k, bset_at, if_pos, if_neg, Int.toNat_natCast]
        · by_cases c15 : μ (T + 12) (8 * e + j) = 15
          · simp (disch := first | omega | decide) only [bG_pos, bMm_some, bXm_inl, bXm_inr, Option.bind_some, bset_q, bset_k, bset_at, if_pos, if_neg, Int.toNat_natCast]
          · by_cases c8 : μ (T + 12) (8 * e + j) = 8
            · simp (disch := first | omega | decide) only [bG_pos, bMm_some, bXm_inl, bXm_inr, Option.bind_some, bset_q, bset_k, bset_at, if_pos, if_neg, Int.toNat_natCast]
            · by_cases c10 : μ (T + 12) (8 * e + j) = 10
              · simp (disch := first | omega | decide) only [bG_pos, bMm_some, bXm_inl, bXm_inr, Option.bind_some, bset_q, bset_k, bset_at, if_pos, if_neg, Int.toNat_natCast]
              · simp (disch := first | omega | decide) only [bG_pos, bMm_some, bXm_inl, bXm_inr, Option.bind_some, bset_q, bset_k, bset_at, if_pos, if_neg, Int.toNat_natCast, ite_self]
      generalize sumI (fun k => svz T μ (8 * e + k)) j = X at rj hsz ⊢
      rw [hsz]
      unfold svz at sv ⊢
      by_cases c13 : μ (T + 12) (8 * e + j) = 13
      · rw [if_pos c13] at sv ⊢
        rw [(M_signed (val_L hb hT _)).2, Option.bind_some, bG_pos (by constructor <;> omega), bG_pos (by constructor <;> omega), if_pos c13]
      · rw [if_neg c13] at sv ⊢
        by_cases c15 : μ (T + 12) (8 * e + j) = 15
        · rw [if_pos c15] at sv ⊢
          have v0 : 0 ≤ μ (T + 13) (8 * e + j) := by
            rcases hcl with ⟨x, -⟩ | ⟨-, -, x, -⟩
            · unfold isLet at x; omega
            · exact x c15
          rw [C_rowSize ⟨v0, (val_L hb hT _).2⟩, Option.bind_some, bG_pos (by constructor <;> omega), bG_pos (by constructor <;> omega), if_neg c13, if_pos c15]
        · rw [if_neg c15] at sv ⊢
          by_cases c8 : μ (T + 12) (8 * e + j) = 8 ∨ μ (T + 12) (8 * e + j) = 10
          · rw [if_pos c8] at sv ⊢
            unfold F_X3_steadyValueBytes_108
            rw [bG_pos (by omega), Int.toNat_natCast, hr (T + 14) (by omega) (by omega), bG_pos (by constructor <;> omega), bG_pos (by constructor <;> omega), bG_pos (by constructor <;> omega), if_neg c13, if_neg c15, if_pos c8]
          · rw [if_neg c8] at sv ⊢
            unfold F_X3_steadyValueBytes_123
            rw [bG_pos (by omega), Int.toNat_natCast, hr (T + 12) (by omega) (by omega), C_width fm c13 c15 (by omega) (by omega), Option.bind_some, bG_pos (by constructor <;> omega), bG_pos (by constructor <;> omega), if_neg c13, if_neg c15, if_neg c8]
  unfold F_X3_steadyValueBytes svs
  rw [hA, Int.toNat_natCast]
  exact L A 0 (by omega)
theorem M_sizeOf (hb : bOk μ) (h : cT T n m μ) (hM : mA T b n m μ ρ) {e k : Nat} (he : e < n) (hk : (k : Int) < μ (T + 10) e) : F_X11_sizeOf ((3200 * b + (8 * e + k) : Nat) : Int) ρ = some (if μ (T + 12) (8 * e + k) = 21 then ρ 102 (8 * e + k) else svz T μ (8 * e + k)) := by
  have n4 := h.2.1.2
  have hT := h.1
  have a8 := (h.2.2.2.1 e he).2.2.2.1
  have fm := form_any h he hk
  have hcl := (h.2.2.2.2.2.2.1 e he k hk).2
  have hb01 := hM.1.1
  have e3 := hM.1.2.1
  obtain ⟨⟨r85, r86, r89⟩, r87, -⟩ := hM.2.2 e he k hk
  have h3 : 0 ≤ μ (T + 14) (8 * e + k) ∧ μ (T + 14) (8 * e + k) ≤ 255 := by
    rcases hcl with ⟨-, x, -⟩ | ⟨-, x, -⟩
    · exact x
    · omega
  unfold F_X11_sizeOf svz
  rw [bG_pos (by omega), Int.toNat_natCast, r86, r89]
  have : μ (T + 12) (8 * e + k) = 5 ∨ μ (T + 12) (8 * e + k) = 6 ∨ μ (T + 12) (8 * e + k) = 7 ∨ μ (T + 12) (8 * e + k) = 8 ∨ μ (T + 12) (8 * e + k) = 10 ∨ μ (T + 12) (8 * e + k) = 11 ∨ μ (T + 12) (8 * e + k) = 12 ∨ μ (T + 12) (8 * e + k) = 13 ∨ μ (T + 12) (8 * e + k) = 14 ∨ μ (T + 12) (8 * e + k) = 15 ∨ μ (T + 12) (8 * e + k) = 19 ∨ μ (T + 12) (8 * e + k) = 21 ∨ μ (T + 12) (8 * e + k) = 25 := by unfold isNum isLet isRef at fm; omega
  rcases this with c | c | c | c | c | c | c | c | c | c | c | c | c
  · simp (disch := first | omega | decide) only [bG_pos, bMm_some, bXm_inl, bXm_inr, Option.bind_some, bset_q, bset_k, bset_at, if_pos, if_neg, Int.toNat_natCast]
  · simp (disch := first | omega | decide) only [bG_pos, bMm_some, bXm_inl, bXm_inr, Option.bind_some, bset_q, bset_k, bset_at, if_pos, if_neg, Int.toNat_natCast]
  · simp (disch := first | omega | decide) only [bG_pos, bMm_some, bXm_inl, bXm_inr, Option.bind_some, bset_q, bset_k, bset_at, if_pos, if_neg, Int.toNat_natCast]
  · simp (disch := first | omega | decide) only [bG_pos, bMm_some, bXm_inl, bXm_inr, Option.bind_some, bset_q, bset_k, bset_at, if_pos, if_neg, Int.toNat_natCast]
  · simp (disch := first | omega | decide) only [bG_pos, bMm_some, bXm_inl, bXm_inr, Option.bind_some, bset_q, bset_k, bset_at, if_pos, if_neg, Int.toNat_natCast]
  · simp (disch := first | omega | decide) only [bG_pos, bMm_some, bXm_inl, bXm_inr, Option.bind_some, bset_q, bset_k, bset_at, if_pos, if_neg, Int.toNat_natCast]
  · simp (disch := first | omega | decide) only [bG_pos, bMm_some, bXm_inl, bXm_inr, Option.bind_some, bset_q, bset_k, bset_at, if_pos, if_neg, Int.toNat_natCast]
  · simp (disch := first | omega | decide) only [bG_pos, bMm_some, bXm_inl, bXm_inr, Option.bind_some, bset_q, bset_k, bset_at, if_pos, if_neg, Int.toNat_natCast]
    rw [r87 (Or.inl (by unfold isNum; omega)), (M_signed (val_L hb hT _)).1, Option.bind_some]
  · simp (disch := first | omega | decide) only [bG_pos, bMm_some, bXm_inl, bXm_inr, Option.bind_some, bset_q, bset_k, bset_at, if_pos, if_neg, Int.toNat_natCast]
  · simp (disch := first | omega | decide) only [bG_pos, bMm_some, bXm_inl, bXm_inr, Option.bind_some, bset_q, bset_k, bset_at, if_pos, if_neg, Int.toNat_natCast]
    have v0 : 0 ≤ μ (T + 13) (8 * e + k) := by
      rcases hcl with ⟨x, -⟩ | ⟨-, -, x, -⟩
      · unfold isLet at x; omega
      · exact x c
    rw [r87 (Or.inl (by unfold isNum; omega)), M_rowBytes ⟨v0, (val_L hb hT _).2⟩, Option.bind_some]
  · simp (disch := first | omega | decide) only [bG_pos, bMm_some, bXm_inl, bXm_inr, Option.bind_some, bset_q, bset_k, bset_at, if_pos, if_neg, Int.toNat_natCast]
  · simp (disch := first | omega | decide) only [bG_pos, bMm_some, bXm_inl, bXm_inr, Option.bind_some, bset_q, bset_k, bset_at, if_pos, if_neg, Int.toNat_natCast, e3]
    rw [show (((3200 * b + (8 * e + k) : Nat) : Int) - 3200 * (b : Int)).toNat = 8 * e + k by omega]
  · simp (disch := first | omega | decide) only [bG_pos, bMm_some, bXm_inl, bXm_inr, Option.bind_some, bset_q, bset_k, bset_at, if_pos, if_neg, Int.toNat_natCast]
end
end EJ
