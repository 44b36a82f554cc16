section EF
def sumI (f : Nat → Int) : Nat → Int
  | 0 => 0
  | k + 1 => sumI f k + f k
theorem sumI_congr {f g : Nat → Int} : ∀ k : Nat, (∀ i, i < k → f i = g i) → sumI f k = sumI g k
  | 0, _ => rfl
  | k + 1, h => by
    unfold sumI
    rw [sumI_congr k (fun i hi => h i (by omega)), h k (by omega)]
theorem sumI_rg {f : Nat → Int} {lo hi : Int} (h0 : ∀ i, lo ≤ f i ∧ f i ≤ hi) : ∀ k : Nat, lo * k ≤ sumI f k ∧ sumI f k ≤ hi * k
  | 0 => by unfold sumI; omega
  | k + 1 => by
    unfold sumI
    have := sumI_rg h0 k
    have := h0 k
    rw [Int.natCast_succ, Int.mul_add, Int.mul_add]
    omega
/-- the hash of a shape -/
def hsF (T : Nat) (μ : bM) (e : Nat) : Nat → Nat → Int → Int
  | 0, _, v => v
  | k + 1, j, v => hsF T μ e k (j + 1) (b32 ((b32 ((b32 ((b32 (v * 31)) + (μ (T + 11) (8 * e + j)))) * 31)) + (μ (T + 12) (8 * e + j))))
def hsh (T n : Nat) (μ : bM) (e : Nat) : Int := hsF T μ e (μ (T + 10) e).toNat 0 (b32 ((b32 (μ (T + 2) e * 2)) + (if scan (μ (T + 3)) e 0 n = -1 then 0 else 1)))
def szS (T : Nat) (μ : bM) (e : Nat) : Int := sumI (fun k => rb (μ (T + 11) (8 * e + k)) + rb (μ (T + 12) (8 * e + k))) (μ (T + 10) e).toNat
section
variable {T b n m : Nat} {μ ν ρ : bM}
theorem hsF_same {a e : Nat} : ∀ (k j : Nat) (v : Int), (∀ i, j ≤ i → i < j + k → μ (T + 11) (8 * a + i) = μ (T + 11) (8 * e + i) ∧ μ (T + 12) (8 * a + i) = μ (T + 12) (8 * e + i)) → hsF T μ a k j v = hsF T μ e k j v
  | 0, _, _, _ => rfl
  | k + 1, j, v, h => by
    unfold hsF
    rw [(h j (by omega) (by omega)).1, (h j (by omega) (by omega)).2]
    exact hsF_same k (j + 1) _ (fun i a b => h i (by omega) (by omega))
theorem hsh_same {a e : Nat} (h : same T n μ a e) : hsh T n μ a = hsh T n μ e := by
  obtain ⟨h1, h2, h3, h4⟩ := h
  unfold hsh
  rw [hsF_same _ _ _ (fun i _ hi => h4 i (by omega)), h1, h2]
  by_cases c : scan (μ (T + 3)) e 0 n = -1
  · rw [if_pos c, if_pos (h3.mpr c)]
  · rw [if_neg c, if_neg (fun x => c (h3.mp x))]
theorem C_hash (h : cT T n m μ) (hr : ∀ q, T ≤ q → q ≤ T + 14 → ρ q = μ q) {e : Nat} (he : e < n) : F_X3_shapeHash T e ρ = some (hsh T n μ e) := by
  have n4 := h.2.1.2
  obtain ⟨-, -, -, a8, -⟩ := h.2.2.2.1 e he
  have c1 := (h.2.2.2.2.2.1 e he).1
  obtain ⟨A, hA⟩ : ∃ A : Nat, μ (T + 10) e = A := ⟨(μ (T + 10) e).toNat, by omega⟩
  have L : ∀ (k j : Nat) (v : Int), j + k = A → bLoop (fun z : Int × Int => F_X3_shapeHash_26 T e ρ z.1 z.2) (v, (j : Int)) = some (hsF T μ e k j v) := by
    intro k
    induction k with
    | zero =>
      intro j v hj
      refine bLoop_done ?_
      show F_X3_shapeHash_26 T e ρ v j = _
      unfold F_X3_shapeHash_26
      rw [bG_pos (by omega), Int.toNat_natCast, hr (T + 10) (by omega) (by omega), if_pos (by omega)]
      rfl
    | succ k ih =>
      intro j v hj
      rw [bLoop_step (f := fun z : Int × Int => F_X3_shapeHash_26 T e ρ z.1 z.2) (s' := (b32 ((b32 ((b32 ((b32 (v * 31)) + (μ (T + 11) (8 * e + j)))) * 31)) + (μ (T + 12) (8 * e + j))), (j : Int) + 1))]
      · have := ih (j + 1) (b32 ((b32 ((b32 ((b32 (v * 31)) + (μ (T + 11) (8 * e + j)))) * 31)) + (μ (T + 12) (8 * e + j)))) (by omega)
        rw [Int.natCast_succ] at this
        exact this
      · show F_X3_shapeHash_26 T e ρ v j = _
        unfold F_X3_shapeHash_26
        rw [bG_pos (by omega), Int.toNat_natCast, hr (T + 10) (by omega) (by omega), if_neg (by omega), C_slotAt (by omega) (by omega), Option.bind_some, bG_pos (by omega), bG_pos (by omega), bG_pos (by constructor <;> omega), t8, hr (T + 11) (by omega) (by omega), hr (T + 12) (by omega) (by omega)]
  have s1 := cntC_scan (f := μ (T + 3)) (p := (e : Int)) n
  have p1 := cntC_0 (f := μ (T + 3)) (p := (e : Int)) n
  unfold F_X3_shapeHash hsh
  rw [bG_pos (by omega), bG_pos (by omega), Int.toNat_natCast, hr (T + 2) (by omega) (by omega), hr (T + 6) (by omega) (by omega), c1, hA, Int.toNat_natCast]
  by_cases c : cntC (μ (T + 3)) e n ≤ 0
  · rw [if_pos c, if_pos (s1.mp (Int.le_antisymm c p1))]
    exact L A 0 _ (by omega)
  · rw [if_neg c, if_neg (fun q => c (Int.le_of_eq (s1.mpr q)))]
    exact L A 0 _ (by omega)
theorem cAt_form (h : cT T n m μ) {e k : Nat} (he : e < n) (hk : (k : Int) < μ (T + 10) e) : (1 ≤ μ (T + 11) (8 * e + k) ∧ μ (T + 11) (8 * e + k) ≤ 16383) ∧ (5 ≤ μ (T + 12) (8 * e + k) ∧ μ (T + 12) (8 * e + k) ≤ 25) := by
  have := h.2.2.2.2.2.2.1 e he k hk
  refine ⟨this.1, ?_⟩
  rcases this.2 with ⟨x, -⟩ | ⟨x, -⟩
  · unfold isLet at x; omega
  · unfold isNum isRef at x; omega
theorem szS_rg (h : cT T n m μ) {e : Nat} (he : e < n) : 0 ≤ szS T μ e ∧ szS T μ e ≤ 160 := by
  obtain ⟨-, -, -, a8, -⟩ := h.2.2.2.1 e he
  have := sumI_rg (f := fun k => rb (μ (T + 11) (8 * e + k)) + rb (μ (T + 12) (8 * e + k))) (lo := 0) (hi := 20) (fun i => by
    have h1 := rb_1 (v := μ (T + 11) (8 * e + i))
    have h2 := rb_1 (v := μ (T + 12) (8 * e + i))
    (try simp only)
    omega) (μ (T + 10) e).toNat
  unfold szS
  omega
theorem C_shapeSize (h : cT T n m μ) (hr : ∀ q, T ≤ q → q ≤ T + 14 → ρ q = μ q) {e : Nat} (he : e < n) {s : Nat} (hs : s ≤ 400) : F_X3_shapeSize T e s ρ = some (rb s + rb (μ (T + 2) e) + 1 + szS T μ e + 2) := by
  have n4 := h.2.1.2
  obtain ⟨a2, -, -, a8, -⟩ := h.2.2.2.1 e he
  obtain ⟨A, hA⟩ : ∃ A : Nat, μ (T + 10) e = A := ⟨(μ (T + 10) e).toNat, by omega⟩
  have r1 := rb_1 (v := (s : Int))
  have r2 := rb_1 (v := μ (T + 2) e)
  have L : ∀ (k j : Nat), j + k = A → bLoop (fun z : Int × Int => F_X3_shapeSize_22 T e ρ z.1 z.2) (rb s + rb (μ (T + 2) e) + 1 + sumI (fun k => rb (μ (T + 11) (8 * e + k)) + rb (μ (T + 12) (8 * e + k))) j, (j : Int)) = some (rb s + rb (μ (T + 2) e) + 1 + sumI (fun k => rb (μ (T + 11) (8 * e + k)) + rb (μ (T + 12) (8 * e + k))) A + 2) := by
    intro k
    have rg : ∀ j : Nat, 0 ≤ sumI (fun k => rb (μ (T + 11) (8 * e + k)) + rb (μ (T + 12) (8 * e + k))) j ∧ sumI (fun k => rb (μ (T + 11) (8 * e + k)) + rb (μ (T + 12) (8 * e + k))) j ≤ 20 * j := fun j => by
      have := sumI_rg (f := fun k => rb (μ (T + 11) (8 * e + k)) + rb (μ (T + 12) (8 * e + k))) (lo := 0) (hi := 20) (fun i => by
        have h1 := rb_1 (v := μ (T + 11) (8 * e + i))
        have h2 := rb_1 (v := μ (T + 12) (8 * e + i))
        (try simp only)
        omega) j
      omega
    induction k with
    | zero =>
      intro j hj
      have := rg j
      have hjA : j = A := by omega
      subst hjA
      refine bLoop_done ?_
      show F_X3_shapeSize_22 T e ρ _ j = _
      unfold F_X3_shapeSize_22
      rw [bG_pos (by omega), Int.toNat_natCast, hr (T + 10) (by omega) (by omega), if_pos (by omega), bG_pos (by constructor <;> omega)]
    | succ k ih =>
      intro j hj
      have rj := rg j
      have fm := cAt_form h he (k := j) (by omega)
      have r3 := rb_1 (v := μ (T + 11) (8 * e + j))
      have r4 := rb_1 (v := μ (T + 12) (8 * e + j))
      rw [bLoop_step (f := fun z : Int × Int => F_X3_shapeSize_22 T e ρ z.1 z.2) (s' := (rb s + rb (μ (T + 2) e) + 1 + sumI (fun k => rb (μ (T + 11) (8 * e + k)) + rb (μ (T + 12) (8 * e + k))) j + (rb (μ (T + 11) (8 * e + j)) + rb (μ (T + 12) (8 * e + j))), (j : Int) + 1))]
      · have := ih (j + 1) (by omega)
        rw [Int.natCast_succ, show sumI (fun k => rb (μ (T + 11) (8 * e + k)) + rb (μ (T + 12) (8 * e + k))) (j + 1) = sumI (fun k => rb (μ (T + 11) (8 * e + k)) + rb (μ (T + 12) (8 * e + k))) j + (rb (μ (T + 11) (8 * e + j)) + rb (μ (T + 12) (8 * e + j))) from rfl, ← Int.add_assoc] at this
        exact this
      · show F_X3_shapeSize_22 T e ρ _ j = _
        unfold F_X3_shapeSize_22
        rw [bG_pos (by omega), Int.toNat_natCast, hr (T + 10) (by omega) (by omega), if_neg (by omega), C_slotAt (by omega) (by omega), Option.bind_some, bG_pos (by omega), t8, hr (T + 11) (by omega) (by omega), C_rowSize (by omega), Option.bind_some, bG_pos (by omega), hr (T + 12) (by omega) (by omega), C_rowSize (by omega), Option.bind_some, bG_pos (by constructor <;> omega), bG_pos (by constructor <;> omega), bG_pos (by constructor <;> omega)]
  unfold F_X3_shapeSize szS
  rw [C_rowSize (by omega), Option.bind_some, bG_pos (by omega), Int.toNat_natCast, hr (T + 2) (by omega) (by omega), C_rowSize (by omega), Option.bind_some, bG_pos (by constructor <;> omega), bG_pos (by constructor <;> omega), hA, Int.toNat_natCast]
  have := L A 0 (by omega)
  rw [show sumI (fun k => rb (μ (T + 11) (8 * e + k)) + rb (μ (T + 12) (8 * e + k))) 0 = 0 from rfl, Int.add_zero] at this
  exact this
/-- the shapes after i of the entries in their order: how many, and each one's first entry -/
noncomputable def shS (T : Nat) (μ : bM) (ord : Nat → Nat) : Nat → Nat × (Nat → Nat)
  | 0 => (0, fun _ => 0)
  | i + 1 => if scan (fun s => sm T μ ((shS T μ ord i).2 s) (ord i)) 1 0 (shS T μ ord i).1 = -1 then ((shS T μ ord i).1 + 1, fun s => if s = (shS T μ ord i).1 then ord i else (shS T μ ord i).2 s) else shS T μ ord i
noncomputable def shX (T : Nat) (μ : bM) (ord : Nat → Nat) (i : Nat) : Int := scan (fun s => sm T μ ((shS T μ ord i).2 s) (ord i)) 1 0 (shS T μ ord i).1
noncomputable def shI (T : Nat) (μ : bM) (ord : Nat → Nat) (i : Nat) : Int := if shX T μ ord i = -1 then ((shS T μ ord i).1 : Int) else shX T μ ord i
section
variable {ord : Nat → Nat}
theorem shS_new {i : Nat} (h : shX T μ ord i = -1) : shS T μ ord (i + 1) = ((shS T μ ord i).1 + 1, fun s => if s = (shS T μ ord i).1 then ord i else (shS T μ ord i).2 s) := by
  unfold shX at h
  rw [show shS T μ ord (i + 1) = if scan (fun s => sm T μ ((shS T μ ord i).2 s) (ord i)) 1 0 (shS T μ ord i).1 = -1 then ((shS T μ ord i).1 + 1, fun s => if s = (shS T μ ord i).1 then ord i else (shS T μ ord i).2 s) else shS T μ ord i from rfl, if_pos h]
theorem shS_old {i : Nat} (h : shX T μ ord i ≠ -1) : shS T μ ord (i + 1) = shS T μ ord i := by
  unfold shX at h
  rw [show shS T μ ord (i + 1) = if scan (fun s => sm T μ ((shS T μ ord i).2 s) (ord i)) 1 0 (shS T μ ord i).1 = -1 then ((shS T μ ord i).1 + 1, fun s => if s = (shS T μ ord i).1 then ord i else (shS T μ ord i).2 s) else shS T μ ord i from rfl, if_neg h]
theorem shS_ok (h : cT T n m μ) (ho : ∀ k, k < n → ord k < n) : ∀ i, i ≤ n → (shS T μ ord i).1 ≤ i ∧ (∀ s, s < (shS T μ ord i).1 → (shS T μ ord i).2 s < n) ∧ ∀ s s', s < s' → s' < (shS T μ ord i).1 → ¬ same T n μ ((shS T μ ord i).2 s) ((shS T μ ord i).2 s') := by
  intro i
  induction i with
  | zero => intro _; exact ⟨Nat.le_refl 0, fun s hs => absurd hs (Nat.not_lt_zero s), fun s s' _ hs => absurd hs (Nat.not_lt_zero s')⟩
  | succ i ih =>
    intro hi
    obtain ⟨h1, h2, h3⟩ := ih (by omega)
    by_cases c : shX T μ ord i = -1
    · rw [shS_new c]
      (try simp only)
      refine ⟨by omega, fun s hs => ?_, fun s s' hss hs' => ?_⟩
      · by_cases x : s = (shS T μ ord i).1
        · rw [if_pos x]; exact ho i (by omega)
        · rw [if_neg x]; exact h2 s (by omega)
      · rw [if_neg (by omega)]
        by_cases x : s' = (shS T μ ord i).1
        · rw [if_pos x]
          unfold shX at c
          rcases scan_spec (f := fun s => sm T μ ((shS T μ ord i).2 s) (ord i)) (p := 1) (shS T μ ord i).1 0 with ⟨_, g⟩ | ⟨g, g1, g2, g3, g4, g5⟩
          · intro hs
            exact g s (by omega) (by omega) ((sm_iff h (h2 s (by omega)) (ho i (by omega))).mpr hs)
          · rw [g4] at c; omega
        · rw [if_neg x]
          exact h3 s s' hss (by omega)
    · rw [shS_old c]
      exact ⟨by omega, h2, h3⟩
theorem shX_rg {i : Nat} : shX T μ ord i = -1 ∨ ∃ s : Nat, shX T μ ord i = s ∧ s < (shS T μ ord i).1 ∧ sm T μ ((shS T μ ord i).2 s) (ord i) = 1 := by
  unfold shX
  rcases scan_spec (f := fun s => sm T μ ((shS T μ ord i).2 s) (ord i)) (p := 1) (shS T μ ord i).1 0 with ⟨g, _⟩ | ⟨g, g1, g2, g3, g4, g5⟩
  · exact Or.inl g
  · exact Or.inr ⟨g, g4, by omega, g3⟩
theorem shI_lt {i : Nat} : 0 ≤ shI T μ ord i ∧ shI T μ ord i < (shS T μ ord (i + 1)).1 := by
  unfold shI
  rcases shX_rg (T := T) (μ := μ) (ord := ord) (i := i) with h | ⟨s, h1, h2, h3⟩
  · rw [if_pos h, shS_new h]
    (try simp only)
    omega
  · rw [if_neg (by omega), shS_old (by omega), h1]
    omega
theorem shS_mono : ∀ {i j : Nat}, i ≤ j → (shS T μ ord i).1 ≤ (shS T μ ord j).1 := by
  intro i j hij
  induction j with
  | zero => rw [show i = 0 by omega]; exact Nat.le_refl _
  | succ j ih =>
    by_cases c : i ≤ j
    · have := ih c
      by_cases d : shX T μ ord j = -1
      · rw [shS_new d]; (try simp only); omega
      · rw [shS_old d]; exact this
    · rw [show i = j + 1 by omega]; exact Nat.le_refl _
/-- what the class holds of shapes after i entries -/
def shC (T n : Nat) (μ : bM) (ord : Nat → Nat) (i : Nat) (ρ : bM) : Prop := ρ 13 0 = ((shS T μ ord i).1 : Int) ∧ (∀ s, s < (shS T μ ord i).1 → ρ 21 s = ((shS T μ ord i).2 s : Int)) ∧ chOk 24 (shS T μ ord i).1 (fun s => bkt (hsh T n μ ((shS T μ ord i).2 s))) ρ ∧
  (∀ j, j < i → ρ 20 (ord j) = shI T μ ord j + 1) ∧ ρ 13 3 = 1 + sumI (fun s => rb ((s : Int) + 1) + rb (μ (T + 2) ((shS T μ ord i).2 s)) + 1 + szS T μ ((shS T μ ord i).2 s) + 2) (shS T μ ord i).1
def frS (μ ρ : bM) : Prop := (∀ q, q ≠ 13 → q ≠ 20 → q ≠ 21 → q ≠ 25 → q ≠ 26 → ρ q = μ q) ∧ ∀ k, k ≠ 0 → k ≠ 3 → ρ 13 k = μ 13 k
theorem C_known (h : cT T n m μ) (ho : ∀ k, k < n → ord k < n) (hr : ∀ q, T ≤ q → q ≤ T + 14 → ρ q = μ q) {i : Nat} (hi : i < n) (hc : shC T n μ ord i ρ) : F_X3_knownShape T (ord i) (hsh T n μ (ord i)) ρ = some (shX T μ ord i) := by
  have n4 := h.2.1.2
  have hT := h.1
  obtain ⟨s1, s2, s3⟩ := shS_ok h ho i (by omega)
  obtain ⟨c1, c2, c3, c4, c5⟩ := hc
  obtain ⟨S, hS⟩ : ∃ S, S = (shS T μ ord i).1 := ⟨_, rfl⟩
  rw [← hS] at c1 c2 c3 s1 s2 s3
  have hoi := ho i hi
  have CF := chain_find (F := fun z : Int × Int => F_X3_knownShape_13 T (ord i) ρ z.1 z.2) (S := S) (bk := fun s => bkt (hsh T n μ ((shS T μ ord i).2 s))) (w := bkt (hsh T n μ (ord i))) (P := fun s => same T n μ ((shS T μ ord i).2 s) (ord i)) ?_ ?_ ?_ ?_
  · obtain ⟨r, r1, r2⟩ := CF
    unfold F_X3_knownShape
    rw [ch_first c3, Option.bind_some, r1]
    congr 1
    unfold shX
    rw [← hS]
    rcases r2 with ⟨x1, x2⟩ | ⟨s, x1, x2, x3, x4⟩
    · rw [x1]
      refine (scan_no fun s _ hs => fun hsm => ?_).symm
      have hsame := (sm_iff h (s2 s (by omega)) hoi).mp hsm
      exact x2 s (by omega) (by (try simp only); rw [hsh_same hsame]) hsame
    · rw [x2]
      refine (scan_is (f := fun s => sm T μ ((shS T μ ord i).2 s) (ord i)) (p := 1) (a := 0) (m := S) (c := s) (Nat.zero_le _) (by rw [Nat.zero_add]; exact x1) ((sm_iff h (s2 s x1) hoi).mpr x4) fun s' _ hs' hsm => ?_).symm
      have hsame := (sm_iff h (s2 s' (by omega)) hoi).mp hsm
      exact s3 s' s hs' x1 (same_trans hsame (same_symm x4))
  · intro v k hk
    show F_X3_knownShape_13 T (ord i) ρ v k = _
    unfold F_X3_knownShape_13
    rw [c1, if_pos (by omega)]
  · intro k k0 hk
    show F_X3_knownShape_13 T (ord i) ρ (-1) k = _
    unfold F_X3_knownShape_13
    rw [c1, if_neg (by omega), if_pos rfl]
  · intro s k hs k0 hk hP
    have e1 : sm T μ (ord i) ((shS T μ ord i).2 s) = 1 := (sm_iff h hoi (s2 s hs)).mpr (same_symm hP)
    show F_X3_knownShape_13 T (ord i) ρ s k = _
    unfold F_X3_knownShape_13
    rw [c1, if_neg (by omega), if_neg (by omega), bG_pos (by omega), Int.toNat_natCast, c2 s hs, C_sm h hr hoi (s2 s hs), Option.bind_some, e1, if_neg (by decide)]
  · intro s k hs k0 hk hP
    have e1 : sm T μ (ord i) ((shS T μ ord i).2 s) = 0 := (sm_is h hoi (s2 s hs)).2 (fun q => hP (same_symm q))
    show F_X3_knownShape_13 T (ord i) ρ s k = _
    unfold F_X3_knownShape_13
    rw [c1, if_neg (by omega), if_neg (by omega), bG_pos (by omega), Int.toNat_natCast, c2 s hs, C_sm h hr hoi (s2 s hs), Option.bind_some, e1, if_pos rfl, ch_after c3 (by rw [show bN (24 + 2) = 400 from rfl]; omega) hs, Option.bind_some, bG_pos (by constructor <;> omega)]
theorem C_shapes (h : cT T n m μ) (ho : ∀ k, k < n → ord k < n) (hinj : ∀ j k, j < n → k < n → ord j = ord k → j = k) {ρ0 : bM} (hr0 : ∀ q, T ≤ q → q ≤ T + 14 → ρ0 q = μ q) (h5 : ρ0 13 5 = n) (h14 : ∀ k, k < n → ρ0 14 k = ord k) :
    ∃ ρ', F_X3_numberShapes T ρ0 = some (0, ρ') ∧ frS ρ0 ρ' ∧ shC T n μ ord n ρ' := by
  have n4 := h.2.1.2
  have hT := h.1
  obtain ⟨ρ1, g1, g2, g3⟩ := ch_forget (c := 24) (ρ := bset (bset ρ0 13 0 0) 13 3 1) rfl (bk := fun s => bkt (hsh T n μ ((shS T μ ord 0).2 s)))
  have H := bLoop_inv (f := fun z : Int × bM => F_X3_numberShapes_19 T z.1 z.2) (fun z => ∃ i : Nat, i ≤ n ∧ z.1 = i ∧ frS ρ0 z.2 ∧ shC T n μ ord i z.2) (fun z => n - z.1.toNat) (fun r => ∃ ρ', r = (0, ρ') ∧ frS ρ0 ρ' ∧ shC T n μ ord n ρ') ?_ (0, ρ1) ⟨0, by omega, rfl, ⟨fun q q1 q2 q3 q4 q5 => by ((try simp only); rw [g3 q (by omega), bset_q q1, bset_q q1]), fun k k0 k3 => by ((try simp only); rw [g3 13 (by omega), bset_k k3, bset_k k0])⟩, by ((try simp only); rw [g3 13 (by omega), bset_k (by omega), bset_at]; rfl), fun s hs => absurd hs (Nat.not_lt_zero s), g2, fun j hj => by omega, by ((try simp only); rw [g3 13 (by omega), bset_at]; rfl)⟩
  · obtain ⟨r, x1, ρ', x2, x3, x4⟩ := H
    refine ⟨ρ', ?_, x3, x4⟩
    unfold F_X3_numberShapes
    rw [g1, bMm_some, x1, x2]
  · rintro ⟨z1, σ⟩ ⟨i, hi, y1, y2, y3⟩
    simp only at y1 y2 y3
    subst y1
    show (∃ s', F_X3_numberShapes_19 T i σ = some (Sum.inl s') ∧ _) ∨ ∃ r, F_X3_numberShapes_19 T i σ = some (Sum.inr r) ∧ _
    have hrσ : ∀ q, T ≤ q → q ≤ T + 14 → σ q = μ q := fun q q1 q2 => by rw [y2.1 q (by omega) (by omega) (by omega) (by omega) (by omega), hr0 q q1 q2]
    have e5 : σ 13 5 = n := by rw [y2.2 5 (by omega) (by omega), h5]
    unfold F_X3_numberShapes_19
    rw [e5]
    by_cases c : i < n
    · left
      have hoi := ho i c
      have e14 : σ 14 i = ord i := by rw [y2.1 14 (by omega) (by omega) (by omega) (by omega) (by omega), h14 i c]
      obtain ⟨s1, s2, s3⟩ := shS_ok h ho i (by omega)
      obtain ⟨c1, c2, c3, c4, c5⟩ := id y3
      rw [if_neg (by omega), bG_pos (by omega), Int.toNat_natCast, e14, C_hash h hrσ hoi, Option.bind_some, C_known h ho hrσ c y3, Option.bind_some]
      rcases shX_rg (T := T) (μ := μ) (ord := ord) (i := i) with hx | ⟨s, hx1, hx2, hx3⟩
      · rw [if_neg (by omega), c1, bG_pos (by omega), Int.toNat_natCast]
        obtain ⟨S, hS⟩ : ∃ S, S = (shS T μ ord i).1 := ⟨_, rfl⟩
        rw [← hS] at c1 c2 c3 s1 s2 s3 c5 ⊢
        -- the chain
        obtain ⟨ent', hent'⟩ : ∃ ent', ent' = fun s => if s = S then ord i else (shS T μ ord i).2 s := ⟨_, rfl⟩
        have hnew : shS T μ ord (i + 1) = (S + 1, ent') := by rw [shS_new hx, hent', ← hS]
        have hold : ∀ s, s < S → ent' s = (shS T μ ord i).2 s := fun s hs => by rw [hent']; exact if_neg (by omega)
        have hS' : ent' S = ord i := by rw [hent']; exact if_pos rfl
        have c3' : chOk 24 S (fun s => bkt (hsh T n μ (ent' s))) (bset σ 21 S (ord i)) := by
          refine ⟨fun w hw => ?_, fun s hs => ?_⟩
          · rw [bset_q (by omega), c3.1 w hw]
            exact lstC_congr S (fun k hk => by (try simp only); rw [hold k hk])
          · rw [bset_q (by omega), c3.2 s hs]
            (try simp only)
            rw [hold s hs]
            exact lstC_congr s (fun k hk => by (try simp only); rw [hold k (by omega)])
        obtain ⟨τ, t1, t2, t3⟩ := ch_add (h := hsh T n μ (ord i)) c3' (by rw [show bN (24 + 2) = 400 from rfl]; omega) (by (try simp only); rw [hS'])
        rw [t1, bMm_some]
        have τ0 : τ 13 0 = S := by rw [t3 13 (by omega) (by omega), bset_q (by omega), c1]
        have τT : ∀ q, T ≤ q → q ≤ T + 14 → bset τ 13 0 ((S : Int) + 1) q = μ q := fun q q1 q2 => by rw [bset_q (by omega), t3 q (by omega) (by omega), bset_q (by omega), hrσ q q1 q2]
        have τ3 : bset τ 13 0 ((S : Int) + 1) 13 3 = σ 13 3 := by rw [bset_k (by omega), t3 13 (by omega) (by omega), bset_q (by omega)]
        have sz := szS_rg h hoi
        have rr1 := rb_1 (v := (S : Int) + 1)
        have rr2 := rb_1 (v := μ (T + 2) (ord i))
        have sumrg := sumI_rg (f := fun s => if s < S then rb ((s : Int) + 1) + rb (μ (T + 2) ((shS T μ ord i).2 s)) + 1 + szS T μ ((shS T μ ord i).2 s) + 2 else 0) (lo := 0) (hi := 183) (fun s => by
          (try simp only)
          by_cases q : s < S
          · rw [if_pos q]
            have a1 := rb_1 (v := (s : Int) + 1)
            have a2 := rb_1 (v := μ (T + 2) ((shS T μ ord i).2 s))
            have a3 := szS_rg h (s2 s q)
            omega
          · rw [if_neg q]; omega) S
        rw [sumI_congr (g := fun s => rb ((s : Int) + 1) + rb (μ (T + 2) ((shS T μ ord i).2 s)) + 1 + szS T μ ((shS T μ ord i).2 s) + 2) S (fun s hs => if_pos hs)] at sumrg
        rw [τ0, bG_pos (by constructor <;> omega), bset_at, show ((S : Int) + 1) = ((S + 1 : Nat) : Int) by omega, C_shapeSize h (by rw [← show ((S : Int) + 1) = ((S + 1 : Nat) : Int) by omega]; exact τT) hoi (by omega), Option.bind_some, ← show ((S : Int) + 1) = ((S + 1 : Nat) : Int) by omega, τ3, c5]
        rw [bG_pos (by constructor <;> omega), bG_pos (by constructor <;> omega), bG_pos (by omega), bG_pos (by constructor <;> omega), Int.toNat_natCast]
        refine ⟨_, rfl, ⟨i + 1, by omega, by simp, ⟨fun q q1 q2 q3 q4 q5 => ?_, fun k k0 k3 => ?_⟩, ?_⟩, by (try simp only); omega⟩
        · (try simp only)
          rw [bset_q q2, bset_q q1, bset_q q1, t3 q q4 q5, bset_q q3, y2.1 q q1 q2 q3 q4 q5]
        · (try simp only)
          rw [bset_q (by omega), bset_k k3, bset_k k0, t3 13 (by omega) (by omega), bset_q (by omega), y2.2 k k0 k3]
        · (try simp only)
          unfold shC
          rw [hnew]
          (try simp only)
          refine ⟨?_, fun s hs => ?_, ⟨fun w hw => ?_, fun s hs => ?_⟩, fun j hj => ?_, ?_⟩
          · rw [bset_q (by omega), bset_k (by omega), bset_at]; omega
          · rw [bset_q (by omega), bset_q (by omega), bset_q (by omega), t3 21 (by omega) (by omega), bset_row]
            by_cases q : s = S
            · rw [if_pos q, q, hS']
            · rw [if_neg q, c2 s (by omega), hold s (by omega)]
          · rw [bset_q (by omega), bset_q (by omega), bset_q (by omega), t2.1 w hw]
          · rw [bset_q (by omega), bset_q (by omega), bset_q (by omega), t2.2 s hs]
          · rw [bset_row]
            by_cases q : j = i
            · rw [if_pos (by rw [q]), q]
              unfold shI
              rw [if_pos hx, ← hS]
            · rw [if_neg (fun hh => q (hinj j i (by omega) c hh)), bset_q (by omega), bset_q (by omega), t3 20 (by omega) (by omega), bset_q (by omega), c4 j (by omega)]
          · rw [bset_q (by omega), bset_at]
            rw [show sumI (fun s => rb ((s : Int) + 1) + rb (μ (T + 2) (ent' s)) + 1 + szS T μ (ent' s) + 2) (S + 1) = sumI (fun s => rb ((s : Int) + 1) + rb (μ (T + 2) (ent' s)) + 1 + szS T μ (ent' s) + 2) S + (rb ((S : Int) + 1) + rb (μ (T + 2) (ent' S)) + 1 + szS T μ (ent' S) + 2) from rfl, hS', sumI_congr (f := fun s => rb ((s : Int) + 1) + rb (μ (T + 2) (ent' s)) + 1 + szS T μ (ent' s) + 2) (g := fun s => rb ((s : Int) + 1) + rb (μ (T + 2) ((shS T μ ord i).2 s)) + 1 + szS T μ ((shS T μ ord i).2 s) + 2) S (fun s hs => by (try simp only); rw [hold s hs])]
            omega
      · rw [hx1, if_pos (by omega), bG_pos (by constructor <;> omega), bG_pos (by omega), bG_pos (by constructor <;> omega), Int.toNat_natCast]
        refine ⟨_, rfl, ⟨i + 1, by omega, by simp, ⟨fun q q1 q2 q3 q4 q5 => ?_, fun k k0 k3 => ?_⟩, ?_⟩, by (try simp only); omega⟩
        · (try simp only)
          rw [bset_q q2, y2.1 q q1 q2 q3 q4 q5]
        · (try simp only)
          rw [bset_q (by omega), y2.2 k k0 k3]
        · (try simp only)
          unfold shC
          rw [shS_old (by omega)]
          refine ⟨by rw [bset_q (by omega)]; exact c1, fun s hs => by rw [bset_q (by omega)]; exact c2 s hs, ⟨fun w hw => by rw [bset_q (by omega)]; exact c3.1 w hw, fun s hs => by rw [bset_q (by omega)]; exact c3.2 s hs⟩, fun j hj => ?_, by rw [bset_q (by omega)]; exact c5⟩
          rw [bset_row]
          by_cases q : j = i
          · rw [if_pos (by rw [q]), q]
            unfold shI
            rw [if_neg (by omega), hx1]
          · rw [if_neg (fun hh => q (hinj j i (by omega) c hh)), c4 j (by omega)]
    · right
      have : i = n := by omega
      subst this
      rw [if_pos (by omega)]
      exact ⟨_, rfl, _, rfl, y2, y3⟩
end
end
end EF
