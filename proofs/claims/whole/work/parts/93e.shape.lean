section EE
section
variable {T b n m : Nat} {μ ν ρ : bM}
/-- two entries of one shape -/
def same (T n : Nat) (μ : bM) (a e : Nat) : Prop := μ (T + 2) a = μ (T + 2) e ∧ μ (T + 10) a = μ (T + 10) e ∧ (scan (μ (T + 3)) a 0 n = -1 ↔ scan (μ (T + 3)) e 0 n = -1) ∧ ∀ k : Nat, (k : Int) < μ (T + 10) a → μ (T + 11) (8 * a + k) = μ (T + 11) (8 * e + k) ∧ μ (T + 12) (8 * a + k) = μ (T + 12) (8 * e + k)
theorem same_rfl {a : Nat} : same T n μ a a := ⟨rfl, rfl, Iff.rfl, fun _ _ => ⟨rfl, rfl⟩⟩
theorem same_symm {a e : Nat} (h : same T n μ a e) : same T n μ e a := ⟨h.1.symm, h.2.1.symm, h.2.2.1.symm, fun k hk => ⟨(h.2.2.2 k (by rw [h.2.1]; exact hk)).1.symm, (h.2.2.2 k (by rw [h.2.1]; exact hk)).2.symm⟩⟩
theorem same_trans {a e d : Nat} (h : same T n μ a e) (g : same T n μ e d) : same T n μ a d := ⟨h.1.trans g.1, h.2.1.trans g.2.1, h.2.2.1.trans g.2.2.1, fun k hk => ⟨(h.2.2.2 k hk).1.trans (g.2.2.2 k (by rw [← h.2.1]; exact hk)).1, (h.2.2.2 k hk).2.trans (g.2.2.2 k (by rw [← h.2.1]; exact hk)).2⟩⟩
theorem loop_all {F : Int → Option (Int ⊕ Int)} {P : Nat → Prop} {n : Nat} (hend : F (n : Int) = some (.inr 1)) (hyes : ∀ j : Nat, j < n → P j → F j = some (.inl ((j : Int) + 1))) (hno : ∀ j : Nat, j < n → ¬ P j → F j = some (.inr 0)) : ((∀ j, j < n → P j) → bLoop F 0 = some 1) ∧ (¬ (∀ j, j < n → P j) → bLoop F 0 = some 0) := by
  have H : ∀ k i : Nat, i + k = n → (((∀ j, i ≤ j → j < n → P j) → bLoop F (i : Int) = some 1) ∧ (¬ (∀ j, i ≤ j → j < n → P j) → bLoop F (i : Int) = some 0)) := by
    intro k
    induction k with
    | zero =>
      intro i hi
      rw [show i = n by omega]
      exact ⟨fun _ => bLoop_done hend, fun h => absurd (fun j a b => by omega) h⟩
    | succ k ih =>
      intro i hi
      have ih := ih (i + 1) (by omega)
      rw [Int.natCast_succ] at ih
      by_cases c : P i
      · rw [bLoop_step (hyes i (by omega) c)]
        refine ⟨fun h => ih.1 fun j a b => h j (by omega) b, fun h => ih.2 fun h' => h fun j a b => ?_⟩
        by_cases x : j = i
        · rw [x]; exact c
        · exact h' j (by omega) b
      · rw [bLoop_done (hno i (by omega) c)]
        exact ⟨fun h => absurd (h i (by omega) (by omega)) c, fun _ => rfl⟩
  have hh := H n 0 (by omega)
  exact ⟨fun h => hh.1 fun j _ b => h j b, fun h => hh.2 fun h' => h fun j b => h' j (by omega) b⟩
theorem C_sameShape (h : cT T n m μ) (hr : ∀ q, T ≤ q → q ≤ T + 14 → ρ q = μ q) {a e : Nat} (ha : a < n) (he : e < n) : (same T n μ a e → F_X3_sameShape T a e ρ = some 1) ∧ (¬ same T n μ a e → F_X3_sameShape T a e ρ = some 0) := by
  have n4 := h.2.1.2
  obtain ⟨-, -, -, a8, -⟩ := h.2.2.2.1 a ha
  have c1 := (h.2.2.2.2.2.1 a ha).1
  have c2 := (h.2.2.2.2.2.1 e he).1
  obtain ⟨A, hA⟩ : ∃ A : Nat, μ (T + 10) a = A := ⟨(μ (T + 10) a).toNat, by omega⟩
  have L := loop_all (F := fun z => F_X3_sameShape_65 T a e ρ z) (P := fun k => μ (T + 11) (8 * a + k) = μ (T + 11) (8 * e + k) ∧ μ (T + 12) (8 * a + k) = μ (T + 12) (8 * e + k)) (n := A) ?_ ?_ ?_
  · have LL : ((∀ k : Nat, (k : Int) < μ (T + 10) a → μ (T + 11) (8 * a + k) = μ (T + 11) (8 * e + k) ∧ μ (T + 12) (8 * a + k) = μ (T + 12) (8 * e + k)) → bLoop (fun z => F_X3_sameShape_65 T a e ρ z) 0 = some 1) ∧ (¬ (∀ k : Nat, (k : Int) < μ (T + 10) a → μ (T + 11) (8 * a + k) = μ (T + 11) (8 * e + k) ∧ μ (T + 12) (8 * a + k) = μ (T + 12) (8 * e + k)) → bLoop (fun z => F_X3_sameShape_65 T a e ρ z) 0 = some 0) :=
      ⟨fun q => L.1 fun k hk => q k (by omega), fun q => L.2 fun q' => q fun k hk => q' k (by omega)⟩
    have s1 := cntC_scan (f := μ (T + 3)) (p := (a : Int)) n
    have s2 := cntC_scan (f := μ (T + 3)) (p := (e : Int)) n
    have p1 := cntC_0 (f := μ (T + 3)) (p := (a : Int)) n
    have p2 := cntC_0 (f := μ (T + 3)) (p := (e : Int)) n
    have ga : cntC (μ (T + 3)) a n ≤ 0 → scan (μ (T + 3)) a 0 n = -1 := fun y => s1.mp (Int.le_antisymm y p1)
    have ge : cntC (μ (T + 3)) e n ≤ 0 → scan (μ (T + 3)) e 0 n = -1 := fun y => s2.mp (Int.le_antisymm y p2)
    have na : ¬ cntC (μ (T + 3)) a n ≤ 0 → scan (μ (T + 3)) a 0 n ≠ -1 := fun y q => y (Int.le_of_eq (s1.mpr q))
    have ne : ¬ cntC (μ (T + 3)) e n ≤ 0 → scan (μ (T + 3)) e 0 n ≠ -1 := fun y q => y (Int.le_of_eq (s2.mpr q))
    unfold F_X3_sameShape F_X3_sameShape_44
    rw [bG_pos (by omega), bG_pos (by omega), Int.toNat_natCast, Int.toNat_natCast, hr (T + 2) (by omega) (by omega), hr (T + 6) (by omega) (by omega), hr (T + 10) (by omega) (by omega), c1, c2]
    unfold same
    by_cases x1 : μ (T + 2) a = μ (T + 2) e
    · rw [if_neg (fun y => y x1), bG_pos (by omega), bG_pos (by omega)]
      by_cases x2 : μ (T + 10) a = μ (T + 10) e
      · rw [if_neg (fun y => y x2), bG_pos (by omega), bG_pos (by omega)]
        by_cases y1 : cntC (μ (T + 3)) a n ≤ 0
        · rw [if_pos y1]
          by_cases y2 : cntC (μ (T + 3)) e n ≤ 0
          · rw [if_pos y2, if_pos rfl]
            exact ⟨fun q => LL.1 q.2.2.2, fun q => LL.2 fun z => q ⟨x1, x2, ⟨fun _ => ge y2, fun _ => ga y1⟩, z⟩⟩
          · rw [if_neg y2, if_neg (by decide)]
            exact ⟨fun q => absurd (q.2.2.1.mp (ga y1)) (ne y2), fun _ => rfl⟩
        · rw [if_neg y1, bG_pos (by omega)]
          by_cases y2 : cntC (μ (T + 3)) e n ≤ 0
          · rw [if_pos y2, if_neg (by decide)]
            exact ⟨fun q => absurd (q.2.2.1.mpr (ge y2)) (na y1), fun _ => rfl⟩
          · rw [if_neg y2, if_pos rfl]
            exact ⟨fun q => LL.1 q.2.2.2, fun q => LL.2 fun z => q ⟨x1, x2, ⟨fun w => absurd w (na y1), fun w => absurd w (ne y2)⟩, z⟩⟩
      · rw [if_pos x2]
        exact ⟨fun q => absurd q.2.1 x2, fun _ => rfl⟩
    · rw [if_pos x1]
      exact ⟨fun q => absurd q.1 x1, fun _ => rfl⟩
  · show F_X3_sameShape_65 T a e ρ _ = _
    unfold F_X3_sameShape_65
    rw [bG_pos (by omega), Int.toNat_natCast, hr (T + 10) (by omega) (by omega), if_pos (by omega)]
  · intro j hj hp
    show F_X3_sameShape_65 T a e ρ j = _
    unfold F_X3_sameShape_65
    rw [bG_pos (by omega), Int.toNat_natCast, hr (T + 10) (by omega) (by omega), if_neg (by omega), C_slotAt (by omega) (by omega), Option.bind_some, C_slotAt (by omega) (by omega), Option.bind_some, bG_pos (by omega), bG_pos (by omega), t8, t8, hr (T + 11) (by omega) (by omega), hr (T + 12) (by omega) (by omega), if_neg (fun y => y hp.1), bG_pos (by omega), bG_pos (by omega), if_pos hp.2, bG_pos (by constructor <;> omega)]
  · intro j hj hp
    show F_X3_sameShape_65 T a e ρ j = _
    unfold F_X3_sameShape_65
    rw [bG_pos (by omega), Int.toNat_natCast, hr (T + 10) (by omega) (by omega), if_neg (by omega), C_slotAt (by omega) (by omega), Option.bind_some, C_slotAt (by omega) (by omega), Option.bind_some, bG_pos (by omega), bG_pos (by omega), t8, t8, hr (T + 11) (by omega) (by omega), hr (T + 12) (by omega) (by omega)]
    by_cases x1 : μ (T + 11) (8 * a + j) = μ (T + 11) (8 * e + j)
    · rw [if_neg (fun y => y x1), bG_pos (by omega), bG_pos (by omega), if_neg (fun y => hp ⟨x1, y⟩)]
    · rw [if_pos x1]
/-- the same, as a number -/
noncomputable def sm (T : Nat) (μ : bM) (a e : Nat) : Int := (F_X3_sameShape T a e μ).getD 0
theorem sm_is (h : cT T n m μ) {a e : Nat} (ha : a < n) (he : e < n) : (same T n μ a e → sm T μ a e = 1) ∧ (¬ same T n μ a e → sm T μ a e = 0) := by
  have := C_sameShape (ρ := μ) h (fun q _ _ => rfl) ha he
  unfold sm
  exact ⟨fun x => by rw [this.1 x]; rfl, fun x => by rw [this.2 x]; rfl⟩
theorem sm_iff (h : cT T n m μ) {a e : Nat} (ha : a < n) (he : e < n) : sm T μ a e = 1 ↔ same T n μ a e := by
  have := sm_is h ha he
  constructor
  · intro x
    by_cases y : same T n μ a e
    · exact y
    · rw [this.2 y] at x; omega
  · exact this.1
theorem C_sm (h : cT T n m μ) (hr : ∀ q, T ≤ q → q ≤ T + 14 → ρ q = μ q) {a e : Nat} (ha : a < n) (he : e < n) : F_X3_sameShape T a e ρ = some (sm T μ a e) := by
  have h1 := C_sameShape h hr ha he
  have h2 := sm_is h ha he
  by_cases x : same T n μ a e
  · rw [h1.1 x, h2.1 x]
  · rw [h1.2 x, h2.2 x]
theorem sm_symm (h : cT T n m μ) {a e : Nat} (ha : a < n) (he : e < n) : sm T μ a e = sm T μ e a := by
  have h1 := sm_is h ha he
  have h2 := sm_is h he ha
  by_cases x : same T n μ a e
  · rw [h1.1 x, h2.1 (same_symm x)]
  · rw [h1.2 x, h2.2 (fun y => x (same_symm y))]
/-- the model's bank, with all that the layout asks -/
def mA (T b n m : Nat) (μ ν : bM) : Prop := mP T b n m μ ν ∧ (∀ e : Nat, e < n → ν 81 (400 * b + e) = μ (T + 2) e ∧ ν 83 (400 * b + e) = μ (T + 4) e ∧ ν 84 (400 * b + e) = μ (T + 10) e) ∧
  ∀ e : Nat, e < n → ∀ k : Nat, (k : Int) < μ (T + 10) e → (ν 85 (3200 * b + (8 * e + k)) = μ (T + 11) (8 * e + k) ∧ ν 86 (3200 * b + (8 * e + k)) = μ (T + 12) (8 * e + k) ∧ ν 89 (3200 * b + (8 * e + k)) = μ (T + 14) (8 * e + k)) ∧
    (isNum (μ (T + 12) (8 * e + k)) ∨ isRef (μ (T + 12) (8 * e + k)) → ν 87 (3200 * b + (8 * e + k)) = μ (T + 13) (8 * e + k)) ∧
    (isLet (μ (T + 12) (8 * e + k)) → (90000 * (b : Int) ≤ ν 88 (3200 * b + (8 * e + k)) ∧ ν 88 (3200 * b + (8 * e + k)) + μ (T + 14) (8 * e + k) ≤ 90000 * b + 38000) ∧ ∀ i : Nat, (i : Int) < μ (T + 14) (8 * e + k) → ν 92 ((ν 88 (3200 * b + (8 * e + k))).toNat + i) = μ 5 ((μ (T + 13) (8 * e + k)).toNat + i))
theorem mA_congr {ν' : bM} (h : mA T b n m μ ν) (h1 : ν' 76 3 = ν 76 3) (h2 : ∀ q, 78 ≤ q → q ≤ 92 → ν' q = ν q) : mA T b n m μ ν' := by
  refine ⟨mP_congr h.1 h1 (fun q q1 q2 => h2 q q1 (by omega)), ?_⟩
  have h3 := h.2
  rw [h2 81 (by omega) (by omega), h2 83 (by omega) (by omega), h2 84 (by omega) (by omega), h2 85 (by omega) (by omega), h2 86 (by omega) (by omega), h2 87 (by omega) (by omega), h2 88 (by omega) (by omega), h2 89 (by omega) (by omega), h2 92 (by omega) (by omega)]
  exact h3
theorem mA_of (hN : iNum T b n m μ) (hTr : iTree T b μ) : mA T b n m μ μ := by
  obtain ⟨hT, hb, e15, e763, hn, hm, n4, m6, e78, e79⟩ := hN
  obtain ⟨tc, te, tr, tch, ta, tl, ty⟩ := hTr
  refine ⟨⟨hb, e763, e78, e79, fun i hi => (te i (by omega)).1.2.1, fun u hu => (tr u (by omega)).1⟩, fun e he => ?_, fun e he k hk => ?_⟩
  · obtain ⟨⟨p1, p2, p3, p4⟩, -⟩ := te e (by omega)
    exact ⟨p1, p3, p4⟩
  · obtain ⟨⟨p1, p2, p3⟩, -⟩ := ta e (by omega) k hk
    refine ⟨p1, fun hx => ?_, fun hx => ?_⟩
    · rcases p3 with ⟨x1, -⟩ | ⟨-, -, x3, -⟩
      · unfold isNum isRef at hx
        unfold isLet at x1
        omega
      · exact x3
    · rcases p3 with ⟨x1, x2, x3, x4, x5⟩ | ⟨x1, -⟩
      · have := tl.2
        exact ⟨by omega, x5⟩
      · unfold isNum isRef at x1
        unfold isLet at hx
        omega
theorem M_sameShape (h : cT T n m μ) (hM : mA T b n m μ ν) {a e : Nat} (ha : a < n) (he : e < n) : F_X11_sameShape a e ν = some (sm T μ a e) := by
  have n4 := h.2.1.2
  have S := sm_is h ha he
  obtain ⟨-, -, -, a8, -⟩ := h.2.2.2.1 a ha
  obtain ⟨-, -, -, e8, -⟩ := h.2.2.2.1 e he
  obtain ⟨hP, h2, h3⟩ := id hM
  obtain ⟨hb, e3, e78, e79, e82, e80⟩ := id hP
  obtain ⟨ra1, ra2, ra3⟩ := h2 a ha
  obtain ⟨re1, re2, re3⟩ := h2 e he
  obtain ⟨A, hA⟩ : ∃ A : Nat, μ (T + 10) a = A := ⟨(μ (T + 10) a).toNat, by omega⟩
  -- the loop over the attributes, begun with the flag y
  have F0 : bLoop (fun z : Int × Int => F_X11_sameShape_86 (400 * (b : Int) + a) (400 * (b : Int) + e) ν z.1 z.2) (0, 0) = some 0 := by
    refine bLoop_done ?_
    show F_X11_sameShape_86 (400 * (b : Int) + a) (400 * (b : Int) + e) ν 0 0 = _
    unfold F_X11_sameShape_86
    rw [bG_pos (by omega), t400, ra3, hA]
    by_cases x : (A : Int) ≤ 0
    · rw [if_pos x, bG_pos (by decide)]
    · rw [if_neg x, if_pos rfl, bG_pos (by decide)]
  have F1 : μ (T + 10) a = μ (T + 10) e → _ := fun hae => loop_flag (F := fun z : Int × Int => F_X11_sameShape_86 (400 * (b : Int) + a) (400 * (b : Int) + e) ν z.1 z.2) (n := A) (P := fun k => μ (T + 11) (8 * a + k) = μ (T + 11) (8 * e + k) ∧ μ (T + 12) (8 * a + k) = μ (T + 12) (8 * e + k))
    (by
      intro v hv
      show F_X11_sameShape_86 (400 * (b : Int) + a) (400 * (b : Int) + e) ν v A = _
      unfold F_X11_sameShape_86
      rw [bG_pos (by omega), t400, ra3, hA, if_pos (by omega), bG_pos (by omega)])
    (by
      intro k hk
      show F_X11_sameShape_86 (400 * (b : Int) + a) (400 * (b : Int) + e) ν 0 k = _
      unfold F_X11_sameShape_86
      rw [bG_pos (by omega), t400, ra3, hA, if_neg (by omega), if_pos rfl, bG_pos (by decide)])
    (by
      intro k hk hp
      obtain ⟨⟨x1, x2, -⟩, -⟩ := h3 a ha k (by omega)
      obtain ⟨⟨y1, y2, -⟩, -⟩ := h3 e he k (by omega)
      show F_X11_sameShape_86 (400 * (b : Int) + a) (400 * (b : Int) + e) ν 1 k = _
      unfold F_X11_sameShape_86
      rw [bG_pos (by omega), t400, ra3, hA, if_neg (by omega), if_neg (by decide)]
      simp (disch := first | omega | decide) only [bG_pos, bMm_some, bXm_inl, bXm_inr, Option.bind_some, bset_q, bset_k, bset_at, if_pos, if_neg, Int.toNat_natCast, t3200, x1, x2, y1, y2, hp.1, hp.2, not_true_eq_false, if_false])
    (by
      intro k hk hp
      obtain ⟨⟨x1, x2, -⟩, -⟩ := h3 a ha k (by omega)
      obtain ⟨⟨y1, y2, -⟩, -⟩ := h3 e he k (by omega)
      show F_X11_sameShape_86 (400 * (b : Int) + a) (400 * (b : Int) + e) ν 1 k = _
      unfold F_X11_sameShape_86
      rw [bG_pos (by omega), t400, ra3, hA, if_neg (by omega), if_neg (by decide)]
      simp (disch := first | omega | decide) only [bG_pos, bMm_some, bXm_inl, bXm_inr, Option.bind_some, bset_q, bset_k, bset_at, if_pos, if_neg, Int.toNat_natCast, t3200, x1, x2, y1, y2]
      by_cases z1 : μ (T + 11) (8 * a + k) = μ (T + 11) (8 * e + k)
      · rw [if_neg (fun y => y z1)] <;> first | rfl | rw [if_pos (fun z2 => hp ⟨z1, z2⟩)]
      · rw [if_pos z1])
  unfold F_X11_sameShape
  rw [M_at hb e3 (by omega), Option.bind_some, M_at hb e3 (by omega), Option.bind_some, bG_pos (by omega), bG_pos (by omega), t400, t400, ra1, re1]
  by_cases x1 : μ (T + 2) a = μ (T + 2) e
  · rw [if_neg (fun y => y x1), bG_pos (by omega), bG_pos (by omega), ra3, re3]
    by_cases x2 : μ (T + 10) a = μ (T + 10) e
    · have F1 := F1 x2
      have LL : ((scan (μ (T + 3)) a 0 n = -1 ↔ scan (μ (T + 3)) e 0 n = -1) → bLoop (fun z : Int × Int => F_X11_sameShape_86 (400 * (b : Int) + a) (400 * (b : Int) + e) ν z.1 z.2) (1, 0) = some (sm T μ a e)) := by
        intro x3
        by_cases x4 : ∀ k, k < A → μ (T + 11) (8 * a + k) = μ (T + 11) (8 * e + k) ∧ μ (T + 12) (8 * a + k) = μ (T + 12) (8 * e + k)
        · rw [F1.2.1 x4, S.1 ⟨x1, x2, x3, fun k hk => x4 k (by omega)⟩]
        · rw [F1.2.2 x4, S.2 (fun q => x4 fun k hk => q.2.2.2 k (by omega))]
      have LN : ¬ (scan (μ (T + 3)) a 0 n = -1 ↔ scan (μ (T + 3)) e 0 n = -1) → sm T μ a e = 0 := fun x3 => S.2 (fun q => x3 q.2.2.1)
      have K1 : F_X11_sameShape_59 e (400 * (b : Int) + a) (400 * (b : Int) + e) 1 ν = if scan (μ (T + 3)) e 0 n = -1 then bLoop (fun z : Int × Int => F_X11_sameShape_86 (400 * (b : Int) + a) (400 * (b : Int) + e) ν z.1 z.2) (1, 0) else some 0 := by
        unfold F_X11_sameShape_59
        rw [M_first hP n4, Option.bind_some, F0]
        by_cases z2 : scan (μ (T + 3)) e 0 n = -1
        · rw [if_neg (fun y => y z2), if_neg (by decide), if_pos z2]
        · rw [if_pos z2, if_pos (by decide), if_neg z2]
      have K0 : F_X11_sameShape_59 e (400 * (b : Int) + a) (400 * (b : Int) + e) 0 ν = if scan (μ (T + 3)) e 0 n = -1 then some 0 else bLoop (fun z : Int × Int => F_X11_sameShape_86 (400 * (b : Int) + a) (400 * (b : Int) + e) ν z.1 z.2) (1, 0) := by
        unfold F_X11_sameShape_59
        rw [M_first hP n4, Option.bind_some, F0]
        by_cases z2 : scan (μ (T + 3)) e 0 n = -1
        · rw [if_neg (fun y => y z2), if_pos (by decide), if_pos z2]
        · rw [if_pos z2, if_neg (by decide), if_neg z2]
      rw [if_neg (fun y => y x2), M_first hP n4, Option.bind_some, K0, K1]
      by_cases z1 : scan (μ (T + 3)) a 0 n = -1
      · rw [if_neg (fun y => y z1)]
        by_cases z2 : scan (μ (T + 3)) e 0 n = -1
        · rw [if_pos z2, LL ⟨fun _ => z2, fun _ => z1⟩]
        · rw [if_neg z2, LN (fun q => z2 (q.mp z1))]
      · rw [if_pos z1]
        by_cases z2 : scan (μ (T + 3)) e 0 n = -1
        · rw [if_pos z2, LN (fun q => z1 (q.mpr z2))]
        · rw [if_neg z2, LL ⟨fun q => absurd q z1, fun q => absurd q z2⟩]
    · rw [if_pos x2, F0, S.2 (fun q => x2 q.2.1)]
  · rw [if_pos x1, F0, S.2 (fun q => x1 q.1)]
/-! chains -/
def chOk (c S : Nat) (bk : Nat → Int) (ρ : bM) : Prop := (∀ w : Nat, w < 256 → ρ (c + 1) w = lstC bk w S) ∧ ∀ s : Nat, s < S → ρ (c + 2) s = lstC bk (bk s) s
theorem chain_find {F : Int × Int → Option ((Int × Int) ⊕ Int)} {S : Nat} {bk : Nat → Int} {w : Int} {P : Nat → Prop} (h0 : ∀ v i : Int, (S : Int) ≤ i → F (v, i) = some (.inr (-1))) (h1 : ∀ i : Int, 0 ≤ i → i < S → F (-1, i) = some (.inr (-1)))
    (h2 : ∀ (s : Nat) (i : Int), s < S → 0 ≤ i → i < S → P s → F ((s : Int), i) = some (.inr (s : Int))) (h3 : ∀ (s : Nat) (i : Int), s < S → 0 ≤ i → i < S → ¬ P s → F ((s : Int), i) = some (.inl (lstC bk (bk s) s, i + 1))) :
    ∃ r : Int, bLoop F (lstC bk w S, 0) = some r ∧ ((r = -1 ∧ ∀ s, s < S → bk s = w → ¬ P s) ∨ ∃ s : Nat, s < S ∧ r = s ∧ bk s = w ∧ P s) := by
  refine bLoop_inv (f := F) (fun z => 0 ≤ z.2 ∧ ∃ t : Nat, t ≤ S ∧ z.1 = lstC bk w t ∧ (∀ s, t ≤ s → s < S → bk s = w → ¬ P s) ∧ (t : Int) + z.2 ≤ S) (fun z => (z.1 + 1).toNat) (fun r => (r = -1 ∧ ∀ s, s < S → bk s = w → ¬ P s) ∨ ∃ s : Nat, s < S ∧ r = s ∧ bk s = w ∧ P s) ?_ (lstC bk w S, 0) ⟨Int.le_refl 0, S, Nat.le_refl S, rfl, fun s a b => by omega, by simp⟩
  rintro ⟨v, i⟩ ⟨g0, t, g1, g2, g3, g4⟩
  simp only at g0 g2 g4
  by_cases c : (S : Int) ≤ i
  · right
    exact ⟨-1, h0 v i c, Or.inl ⟨rfl, fun s hs hb => g3 s (by omega) hs hb⟩⟩
  · rcases lstC_spec (f := bk) (p := w) t with ⟨x1, x2⟩ | ⟨s, x1, x2, x3, x4⟩
    · right
      rw [g2, x1]
      refine ⟨-1, h1 i g0 (by omega), Or.inl ⟨rfl, fun s hs hb => ?_⟩⟩
      by_cases y : s < t
      · exact absurd hb (x2 s y)
      · exact g3 s (by omega) hs hb
    · rw [g2, x3]
      by_cases y : P s
      · right
        exact ⟨s, h2 s i (by omega) g0 (by omega) y, Or.inr ⟨s, by omega, rfl, x2, y⟩⟩
      · left
        rw [h3 s i (by omega) g0 (by omega) y, x2]
        refine ⟨_, rfl, ⟨by simp only; omega, s, by omega, rfl, fun s' a1 a2 hb => ?_, by simp only; omega⟩, ?_⟩
        · by_cases z : s' = s
          · rw [z]; exact y
          · by_cases z2 : s' < t
            · exact absurd hb (x4 s' (by omega) z2)
            · exact g3 s' (by omega) a2 hb
        · simp only
          rcases lstC_spec (f := bk) (p := w) s with ⟨u1, u2⟩ | ⟨u, u1, u2, u3, u4⟩
          · rw [u1]; omega
          · rw [u3]; omega
theorem bAnd255 (a : Int) : 0 ≤ bAnd a 255 ∧ bAnd a 255 < 256 := by
  unfold bAnd
  show 0 ≤ (Int32.ofInt a &&& Int32.ofInt 255).toBitVec.toInt ∧ (Int32.ofInt a &&& Int32.ofInt 255).toBitVec.toInt < 256
  rw [Int32.toBitVec_and, BitVec.toInt_and]
  have e1 : (Int32.ofInt 255).toBitVec.toNat = 255 := by decide +kernel
  rw [e1, show (255 : Nat) = 2 ^ 8 - 1 by decide, Nat.and_two_pow_sub_one_eq_mod]
  rw [Int.bmod_eq_of_le (by omega) (by omega)]
  omega
noncomputable def bkt (h : Int) : Int := (F_X0_bucket h (fun _ _ => 0)).getD 0
theorem C_bucket {h : Int} : F_X0_bucket h ρ = some (bkt h) ∧ 0 ≤ bkt h ∧ bkt h < 256 := by
  refine ⟨rfl, ?_⟩
  exact bAnd255 _
theorem ch_first {c S : Nat} {bk : Nat → Int} (hc : chOk c S bk ρ) {h : Int} : F_X0_first c h ρ = some (lstC bk (bkt h) S) := by
  have hb := C_bucket (ρ := ρ) (h := h)
  unfold F_X0_first
  rw [hb.1, Option.bind_some, bG_pos (by omega), hc.1 _ (by omega)]
  congr 2
  omega
theorem ch_after {c S : Nat} {bk : Nat → Int} (hc : chOk c S bk ρ) (hS : S ≤ bN (c + 2)) {s : Nat} (hs : s < S) : F_X0_after c s ρ = some (lstC bk (bk s) s) := by
  unfold F_X0_after
  rw [if_neg (by omega), if_neg (by omega), bG_pos (by omega), Int.toNat_natCast, hc.2 s hs]
theorem ch_add {c S : Nat} {bk : Nat → Int} (hc : chOk c S bk ρ) (hS : S < bN (c + 2)) {h : Int} (hh : bk S = bkt h) : ∃ ρ', F_X0_add c h S ρ = some (0, ρ') ∧ chOk c (S + 1) bk ρ' ∧ ∀ q, q ≠ c + 1 → q ≠ c + 2 → ρ' q = ρ q := by
  have hb := C_bucket (ρ := ρ) (h := h)
  obtain ⟨w, hw⟩ : ∃ w : Nat, bkt h = w := ⟨(bkt h).toNat, by omega⟩
  refine ⟨bset (bset ρ (c + 2) S (ρ (c + 1) w)) (c + 1) w S, ?_, ⟨fun x hx => ?_, fun s hs => ?_⟩, fun q q1 q2 => by rw [bset_q q1, bset_q q2]⟩
  · unfold F_X0_add
    rw [if_neg (by omega), if_neg (by omega), hb.1, Option.bind_some, hw, bG_pos (by omega), bG_pos (by omega), bG_pos (by omega), Int.toNat_natCast, Int.toNat_natCast]
  · rw [bset_row]
    show _ = if bk S = (x : Int) then (S : Int) else lstC bk x S
    by_cases y : x = w
    · rw [if_pos y, if_pos (by omega)]
    · rw [if_neg y, if_neg (by omega), bset_q (by omega), hc.1 x hx]
  · rw [bset_q (by omega), bset_row]
    by_cases y : s = S
    · rw [if_pos y, y, hc.1 w (by omega), hh, hw]
    · rw [if_neg y, hc.2 s (by omega)]
theorem ch_forget {c : Nat} (hc : bChn c) {bk : Nat → Int} : ∃ ρ', F_X0_forget c ρ = some (0, ρ') ∧ chOk c 0 bk ρ' ∧ ∀ q, q ≠ c + 1 → ρ' q = ρ q := by
  have hN : bN (c + 1) = 256 := by rcases bChn_is hc with rfl | rfl | rfl <;> rfl
  have H := bLoop_inv (f := fun z : Int × bM => F_J7_fill_53178_5 (c + 1) (-1) ((bN (c + 1) : Nat) : Int) z.1 z.2) (fun z => ∃ j : Nat, j ≤ 256 ∧ z.1 = j ∧ (∀ w : Nat, w < j → z.2 (c + 1) w = -1) ∧ ∀ q, q ≠ c + 1 → z.2 q = ρ q) (fun z => 256 - z.1.toNat) (fun r => ∃ ρ', r = (0, ρ') ∧ (∀ w : Nat, w < 256 → ρ' (c + 1) w = -1) ∧ ∀ q, q ≠ c + 1 → ρ' q = ρ q) ?_ (0, ρ) ⟨0, by omega, rfl, fun w hw => by omega, fun q _ => rfl⟩
  · obtain ⟨r, x1, ρ', x2, x3, x4⟩ := H
    refine ⟨ρ', ?_, ⟨fun w hw => x3 w hw, fun s hs => by omega⟩, x4⟩
    unfold F_X0_forget F_J7_fill_53178
    rw [x1, x2, bMm_some]
  · rintro ⟨z1, σ⟩ ⟨j, g1, g2, g3, g4⟩
    simp only at g2 g3 g4
    subst g2
    show (∃ s', F_J7_fill_53178_5 (c + 1) (-1) ((bN (c + 1) : Nat) : Int) j σ = some (Sum.inl s') ∧ _) ∨ ∃ r, F_J7_fill_53178_5 (c + 1) (-1) ((bN (c + 1) : Nat) : Int) j σ = some (Sum.inr r) ∧ _
    unfold F_J7_fill_53178_5
    rw [hN]
    by_cases x : j < 256
    · left
      rw [if_neg (by omega), bG_pos (by omega), bG_pos (by constructor <;> omega), Int.toNat_natCast]
      refine ⟨_, rfl, ⟨j + 1, by omega, by simp, fun w hw => ?_, fun q hq => ?_⟩, by simp only; omega⟩
      · simp only
        rw [bset_row]
        by_cases y : w = j
        · rw [if_pos y]
        · rw [if_neg y, g3 w (by omega)]
      · simp only
        rw [bset_q hq, g4 q hq]
    · right
      rw [if_pos (by omega)]
      exact ⟨_, rfl, _, rfl, fun w hw => g3 w (by omega), g4⟩
end
end EE
