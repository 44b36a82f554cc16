section EI
section
variable {T b n m : Nat} {μ ν ρ : bM} {ord : Nat → Nat}
/-- the slots of kept texts gone through before the attribute k of the i-th entry -/
def Vt (T : Nat) (μ : bM) (ord : Nat → Nat) (i k : Nat) (a : Nat) : Prop := (∃ j k' : Nat, j < i ∧ (k' : Int) < μ (T + 10) (ord j) ∧ a = 8 * ord j + k' ∧ μ (T + 12) a = 14) ∨ ∃ k' : Nat, k' < k ∧ a = 8 * ord i + k' ∧ μ (T + 12) a = 14
theorem Vt_yes {i k : Nat} (h : μ (T + 12) (8 * ord i + k) = 14) : (fun x => Vt T μ ord i k x ∨ x = 8 * ord i + k) = Vt T μ ord i (k + 1) := by
  funext x
  apply propext
  constructor
  · rintro ((hx | ⟨k', h1, h2, h3⟩) | hx)
    · exact Or.inl hx
    · exact Or.inr ⟨k', by omega, h2, h3⟩
    · exact Or.inr ⟨k, by omega, hx, by rw [hx]; exact h⟩
  · rintro (hx | ⟨k', h1, h2, h3⟩)
    · exact Or.inl (Or.inl hx)
    · by_cases q : k' = k
      · rw [q] at h2; exact Or.inr h2
      · exact Or.inl (Or.inr ⟨k', by omega, h2, h3⟩)
theorem Vt_no {i k : Nat} (h : ¬ μ (T + 12) (8 * ord i + k) = 14) : Vt T μ ord i k = Vt T μ ord i (k + 1) := by
  funext x
  apply propext
  constructor
  · rintro (hx | ⟨k', h1, h2, h3⟩)
    · exact Or.inl hx
    · exact Or.inr ⟨k', by omega, h2, h3⟩
  · rintro (hx | ⟨k', h1, h2, h3⟩)
    · exact Or.inl hx
    · by_cases q : k' = k
      · rw [q] at h2; rw [h2] at h3; exact absurd h3 h
      · exact Or.inr ⟨k', by omega, h2, h3⟩
theorem Vt_next {i : Nat} {A : Nat} (h : μ (T + 10) (ord i) = A) : Vt T μ ord i A = Vt T μ ord (i + 1) 0 := by
  funext x
  apply propext
  constructor
  · rintro (⟨j, k', h1, h2, h3, h4⟩ | ⟨k', h1, h2, h3⟩)
    · exact Or.inl ⟨j, k', by omega, h2, h3, h4⟩
    · exact Or.inl ⟨i, k', by omega, by omega, h2, h3⟩
  · rintro (⟨j, k', h1, h2, h3, h4⟩ | ⟨k', h1, -⟩)
    · by_cases q : j = i
      · rw [q] at h2 h3
        exact Or.inr ⟨k', by omega, h3, h4⟩
      · exact Or.inl ⟨j, k', by omega, h2, h3, h4⟩
    · omega
theorem Vt_new (h : cT T n m μ) (ho : ∀ k, k < n → ord k < n) (hinj : ∀ j k, j < n → k < n → ord j = ord k → j = k) {i k : Nat} (hi : i < n) (hk : k < 8) : ¬ Vt T μ ord i k (8 * ord i + k) := by
  rintro (⟨j, k', h1, h2, h3, h4⟩ | ⟨k', h1, h2, h3⟩)
  · have a8 := (h.2.2.2.1 (ord j) (ho j (by omega))).2.2.2.1
    have : ord j = ord i := by omega
    have := hinj j i (by omega) hi this
    omega
  · omega
theorem tStep_le {p : Nat × (Nat → Nat)} {a : Nat} : (tStep T μ p a).1 ≤ p.1 + 1 := by
  unfold tStep
  split
  · exact Nat.le_refl _
  · omega
theorem tE_le {e : Nat} {p : Nat × (Nat → Nat)} : ∀ k, (tE T μ e k p).1 ≤ p.1 + k
  | 0 => by unfold tE; omega
  | k + 1 => by
    unfold tE
    have := tE_le (e := e) (p := p) k
    split
    · have h2 := tStep_le (T := T) (μ := μ) (p := tE T μ e k p) (a := 8 * e + k)
      omega
    · omega
theorem tA_le (h : cT T n m μ) (ho : ∀ k, k < n → ord k < n) : ∀ i, i ≤ n → (tA T μ ord i).1 ≤ 8 * i
  | 0, _ => Nat.le_refl 0
  | i + 1, hi => by
    have h1 := tA_le h ho i (by omega)
    have a8 := (h.2.2.2.1 (ord i) (ho i (by omega))).2.2.2.1
    have h2 := tE_le (T := T) (μ := μ) (e := ord i) (p := tA T μ ord i) (μ (T + 10) (ord i)).toNat
    show (tE T μ (ord i) (μ (T + 10) (ord i)).toNat (tA T μ ord i)).1 ≤ _
    omega
theorem tE_ok (hb : bOk μ) (h : cT T n m μ) (ho : ∀ k, k < n → ord k < n) {i : Nat} (hi : i < n) (hp : tOk T n μ (Vt T μ ord i 0) (tA T μ ord i)) : ∀ k : Nat, (k : Int) ≤ μ (T + 10) (ord i) → tOk T n μ (Vt T μ ord i k) (tE T μ (ord i) k (tA T μ ord i))
  | 0, _ => hp
  | k + 1, hk => by
    have ih := tE_ok hb h ho hi hp k (by omega)
    unfold tE
    by_cases c : μ (T + 12) (8 * ord i + k) = 14
    · rw [if_pos c, ← Vt_yes c]
      exact tOk_step hb h ih ⟨ord i, k, ho i hi, by omega, rfl, c⟩
    · rw [if_neg c, ← Vt_no c]
      exact ih
theorem tA_ok (hb : bOk μ) (h : cT T n m μ) (ho : ∀ k, k < n → ord k < n) : ∀ i, i ≤ n → tOk T n μ (Vt T μ ord i 0) (tA T μ ord i)
  | 0, _ => ⟨fun t ht => absurd ht (Nat.not_lt_zero t), fun t t' _ ht => absurd ht (Nat.not_lt_zero t'), fun a ha => by rcases ha with ⟨j, k', h1, -⟩ | ⟨k', h1, -⟩ <;> omega⟩
  | i + 1, hi => by
    have a8 := (h.2.2.2.1 (ord i) (ho i (by omega))).2.2.2.1
    have := tE_ok hb h ho (by omega) (tA_ok hb h ho i (by omega)) (μ (T + 10) (ord i)).toNat (by omega)
    rw [Vt_next (show μ (T + 10) (ord i) = ((μ (T + 10) (ord i)).toNat : Nat) by omega)] at this
    exact this
theorem frT_trans {σ : bM} (h1 : frT μ ρ) (h2 : frT ρ σ) : frT μ σ := ⟨fun q q1 q2 q3 q4 q5 => by rw [h2.1 q q1 q2 q3 q4 q5, h1.1 q q1 q2 q3 q4 q5], fun k k1 k4 => by rw [h2.2 k k1 k4, h1.2 k k1 k4]⟩
theorem C_texts (hbμ : bOk μ) (h : cT T n m μ) (ho : ∀ k, k < n → ord k < n) (hinj : ∀ j k, j < n → k < n → ord j = ord k → j = k) {ρ0 : bM} (hb0 : bOk ρ0) (hr0 : ∀ q, (T ≤ q ∧ q ≤ T + 14 ∨ q = 4 ∨ q = 5) → ρ0 q = μ q) (h5 : ρ0 13 5 = n) (h14 : ∀ k, k < n → ρ0 14 k = ord k) :
    ∃ ρ', F_X3_placeTexts T 4 ρ0 = some (0, ρ') ∧ frT ρ0 ρ' ∧ txC T μ (Vt T μ ord n 0) (tA T μ ord n) ρ' := by
  have n4 := h.2.1.2
  have hT := h.1
  have hTb : bTree T := by rcases hT with rfl | rfl <;> rfl
  obtain ⟨ρ1, g1, g2, g3⟩ := ch_forget (c := 27) (ρ := bset (bset ρ0 13 1 0) 13 4 0) rfl (bk := fun t => bkt (txh T μ ((tA T μ ord 0).2 t)))
  have okr : bOk ρ1 := kp_X0_forget 27 rfl (bOk_set (bOk_set hb0 ((bIn_f (q := 13) (k := 1) (e := 0) (ci := 2) (n := 19) (p := 0) rfl rfl).mpr (show bR 0 by decide))) ((bIn_f (q := 13) (k := 4) (e := 0) (ci := 2) (n := 19) (p := 0) rfl rfl).mpr (show bR 0 by decide))) g1
  have fr1 : frT ρ0 ρ1 := ⟨fun q q1 q2 q3 q4 q5 => by rw [g3 q (by omega), bset_q q1, bset_q q1], fun k k1 k4 => by rw [g3 13 (by omega), bset_k k4, bset_k k1]⟩
  have H := bLoop_inv (f := fun z : Int × bM => F_X3_placeTexts_19 T 4 z.1 z.2) (fun z => ∃ i : Nat, i ≤ n ∧ z.1 = i ∧ bOk z.2 ∧ frT ρ0 z.2 ∧ txC T μ (Vt T μ ord i 0) (tA T μ ord i) z.2) (fun z => n - z.1.toNat) (fun r => ∃ ρ', r = (0, ρ') ∧ frT ρ0 ρ' ∧ txC T μ (Vt T μ ord n 0) (tA T μ ord n) ρ') ?_ (0, ρ1) ⟨0, by omega, rfl, okr, fr1, by (simp only; rw [g3 13 (by omega), bset_k (by omega), bset_at]; rfl), fun t ht => absurd ht (Nat.not_lt_zero t), g2, fun a ha t ht => absurd ht (Nat.not_lt_zero t), by (simp only; rw [g3 13 (by omega), bset_at]; rfl)⟩
  · obtain ⟨r, x1, ρ', x2, x3, x4⟩ := H
    refine ⟨ρ', ?_, x3, x4⟩
    unfold F_X3_placeTexts
    rw [g1, bMm_some, x1, x2]
  · rintro ⟨z1, σ⟩ ⟨i, hi, y1, y0, y2, y3⟩
    simp only at y1 y0 y2 y3
    subst y1
    show (∃ s', F_X3_placeTexts_19 T 4 i σ = some (Sum.inl s') ∧ _) ∨ ∃ r, F_X3_placeTexts_19 T 4 i σ = some (Sum.inr r) ∧ _
    have e5 : σ 13 5 = n := by rw [y2.2 5 (by omega) (by omega), h5]
    unfold F_X3_placeTexts_19
    rw [e5]
    by_cases c : i < n
    · left
      have hoi := ho i c
      have e14 : σ 14 i = ord i := by rw [y2.1 14 (by omega) (by omega) (by omega) (by omega) (by omega), h14 i c]
      have a8 := (h.2.2.2.1 (ord i) hoi).2.2.2.1
      obtain ⟨A, hA⟩ : ∃ A : Nat, μ (T + 10) (ord i) = A := ⟨(μ (T + 10) (ord i)).toNat, by omega⟩
      have hpA := tA_ok hbμ h ho i (by omega)
      have I := bLoop_inv (f := fun z : Int × bM => F_X3_placeTexts_38 T 4 i (ord i) z.1 z.2) (fun z => ∃ k : Nat, k ≤ A ∧ z.1 = k ∧ bOk z.2 ∧ frT ρ0 z.2 ∧ txC T μ (Vt T μ ord i k) (tE T μ (ord i) k (tA T μ ord i)) z.2) (fun z => A - z.1.toNat) (fun r => ∃ σ', r = .inl ((i : Int) + 1, σ') ∧ bOk σ' ∧ frT ρ0 σ' ∧ txC T μ (Vt T μ ord (i + 1) 0) (tA T μ ord (i + 1)) σ') ?_ (0, σ) ⟨0, by omega, rfl, y0, y2, y3⟩
      · obtain ⟨r, w1, σ', w2, w3, w4, w5⟩ := I
        rw [if_neg (by omega), bG_pos (by omega), Int.toNat_natCast, e14, w1, w2]
        exact ⟨_, rfl, ⟨i + 1, by omega, by simp, w3, w4, w5⟩, by simp only; omega⟩
      · rintro ⟨u1, τ⟩ ⟨k, hk, v1, v2, v3, v4⟩
        simp only at v1 v2 v3 v4
        subst v1
        show (∃ s', F_X3_placeTexts_38 T 4 i (ord i) k τ = some (Sum.inl s') ∧ _) ∨ ∃ r, F_X3_placeTexts_38 T 4 i (ord i) k τ = some (Sum.inr r) ∧ _
        have hrτ : ∀ q, (T ≤ q ∧ q ≤ T + 14 ∨ q = 4 ∨ q = 5) → τ q = μ q := fun q hq => by rw [v3.1 q (by omega) (by omega) (by omega) (by omega) (by omega), hr0 q hq]
        unfold F_X3_placeTexts_38
        rw [bG_pos (by omega), Int.toNat_natCast, hrτ (T + 10) (by omega), hA]
        by_cases ck : k < A
        · left
          rw [if_neg (by omega), C_slotAt (by omega) (by omega), Option.bind_some, bG_pos (by omega), t8, hrτ (T + 12) (by omega)]
          by_cases cf : μ (T + 12) (8 * ord i + k) = 14
          · have hle := tA_le h ho i (by omega)
            have hle2 := tE_le (T := T) (μ := μ) (e := ord i) (p := tA T μ ord i) k
            obtain ⟨τ', w1, w2, w3⟩ := C_placeText hbμ h v2 hrτ (tE_ok hbμ h ho c hpA k (by omega)) v4 (by omega) (a := 8 * ord i + k) ⟨ord i, k, hoi, by omega, rfl, cf⟩ (Vt_new h ho hinj c (by omega))
            rw [if_neg (fun q => q cf), show ((ord i : Int) * 8 + (k : Int)) = ((8 * ord i + k : Nat) : Int) by omega, w1, bMm_some, bG_pos (by constructor <;> omega)]
            refine ⟨_, rfl, ⟨k + 1, by omega, by simp, kp_X3_placeText T hTb 4 rfl _ (by constructor <;> omega) v2 w1, frT_trans v3 w2, ?_⟩, by simp only; omega⟩
            rw [Vt_yes cf] at w3
            rw [show tE T μ (ord i) (k + 1) (tA T μ ord i) = tStep T μ (tE T μ (ord i) k (tA T μ ord i)) (8 * ord i + k) by rw [tE, if_pos cf]]
            exact w3
          · rw [if_pos cf, bG_pos (by constructor <;> omega)]
            refine ⟨_, rfl, ⟨k + 1, by omega, by simp, v2, v3, ?_⟩, by simp only; omega⟩
            rw [show tE T μ (ord i) (k + 1) (tA T μ ord i) = tE T μ (ord i) k (tA T μ ord i) by rw [tE, if_neg cf], ← Vt_no cf]
            exact v4
        · right
          have : k = A := by omega
          subst this
          rw [if_pos (by omega), bG_pos (by constructor <;> omega)]
          refine ⟨_, rfl, τ, rfl, v2, v3, ?_⟩
          rw [← Vt_next hA]
          show txC T μ (Vt T μ ord i k) (tE T μ (ord i) (μ (T + 10) (ord i)).toNat (tA T μ ord i)) τ
          rw [hA, Int.toNat_natCast]
          exact v4
    · right
      have : i = n := by omega
      subst this
      rw [if_pos (by omega)]
      exact ⟨_, rfl, _, rfl, y2, y3⟩
/-! the model's -/
def txM (T b : Nat) (μ : bM) (p : Nat × (Nat → Nat)) (ρ : bM) : Prop := ρ 76 29 = (p.1 : Int) ∧ (∀ t, t < p.1 → ρ 99 t = ((3200 * b + p.2 t : Nat) : Int)) ∧ (∀ t, t < p.1 → ρ 100 t = tP T μ p t) ∧ ρ 76 32 = tP T μ p p.1
def frTM (μ ρ : bM) : Prop := (∀ q, q ≠ 76 → q ≠ 99 → q ≠ 100 → ρ q = μ q) ∧ ∀ k, k ≠ 29 → k ≠ 32 → ρ 76 k = μ 76 k
theorem M_sameText (hb : bOk μ) (h : cT T n m μ) (hM : mA T b n m μ ρ) {a c : Nat} (ha : slT T n μ a) (hc : slT T n μ c) : F_X11_sameText ((3200 * b + a : Nat) : Int) ((3200 * b + c : Nat) : Int) ρ = some (tm T μ a c) := by
  have S := tm_is hb h ha hc
  obtain ⟨a1, a2, a3, a4⟩ := slT_rg h ha
  obtain ⟨c1, c2, c3, c4⟩ := slT_rg h hc
  obtain ⟨e, k, he, hk, hak, haf⟩ := id ha
  obtain ⟨e', k', he', hk', hck, hcf⟩ := id hc
  obtain ⟨⟨x1, x2, x3⟩, x4, x5⟩ := hM.2.2 e he k hk
  obtain ⟨⟨y1, y2, y3⟩, y4, y5⟩ := hM.2.2 e' he' k' hk'
  rw [← hak] at x1 x2 x3 x4 x5
  rw [← hck] at y1 y2 y3 y4 y5
  obtain ⟨z1, z2⟩ := x5 (by unfold isLet; omega)
  obtain ⟨w1, w2⟩ := y5 (by unfold isLet; omega)
  have hb01 := hM.1.1
  obtain ⟨L, hL⟩ : ∃ L : Nat, μ (T + 14) a = L := ⟨(μ (T + 14) a).toNat, by omega⟩
  unfold F_X11_sameText
  rw [bG_pos (by omega), bG_pos (by omega), Int.toNat_natCast, Int.toNat_natCast, x3, y3]
  by_cases q : μ (T + 14) a = μ (T + 14) c
  · have F1 := loop_flag (F := fun z : Int × Int => F_X11_sameText_24 ((3200 * b + a : Nat) : Int) ((3200 * b + c : Nat) : Int) ρ z.1 z.2) (n := L) (P := fun i => ρ 92 ((ρ 88 (3200 * b + a)).toNat + i) = ρ 92 ((ρ 88 (3200 * b + c)).toNat + i))
      (by
        intro v hv
        show F_X11_sameText_24 _ _ ρ v L = _
        unfold F_X11_sameText_24
        rw [bG_pos (by omega), Int.toNat_natCast, x3, if_pos (by omega), bG_pos (by omega)])
      (by
        intro i hi
        show F_X11_sameText_24 _ _ ρ 0 i = _
        unfold F_X11_sameText_24
        rw [bG_pos (by omega), Int.toNat_natCast, x3, if_neg (by omega), if_pos rfl, bG_pos (by decide)])
      (by
        intro i hi hp
        show F_X11_sameText_24 _ _ ρ 1 i = _
        unfold F_X11_sameText_24
        rw [bG_pos (by omega), Int.toNat_natCast, Int.toNat_natCast, x3, if_neg (by omega), if_neg (by decide), bG_pos (by omega), bG_pos (by constructor <;> omega), bG_pos (by omega), bG_pos (by omega), bG_pos (by constructor <;> omega), bG_pos (by omega), show (ρ 88 (3200 * b + a) + (i : Int)).toNat = (ρ 88 (3200 * b + a)).toNat + i by omega, show (ρ 88 (3200 * b + c) + (i : Int)).toNat = (ρ 88 (3200 * b + c)).toNat + i by omega, if_neg (fun y => y hp), bG_pos (by constructor <;> omega)])
      (by
        intro i hi hp
        show F_X11_sameText_24 _ _ ρ 1 i = _
        unfold F_X11_sameText_24
        rw [bG_pos (by omega), Int.toNat_natCast, Int.toNat_natCast, x3, if_neg (by omega), if_neg (by decide), bG_pos (by omega), bG_pos (by constructor <;> omega), bG_pos (by omega), bG_pos (by omega), bG_pos (by constructor <;> omega), bG_pos (by omega), show (ρ 88 (3200 * b + a) + (i : Int)).toNat = (ρ 88 (3200 * b + a)).toNat + i by omega, show (ρ 88 (3200 * b + c) + (i : Int)).toNat = (ρ 88 (3200 * b + c)).toNat + i by omega, if_pos hp, bG_pos (by constructor <;> omega)])
    rw [if_neg (fun y => y q)]
    by_cases s : ∀ j, j < L → ρ 92 ((ρ 88 (3200 * b + a)).toNat + j) = ρ 92 ((ρ 88 (3200 * b + c)).toNat + j)
    · rw [F1.2.1 s, S.1 ⟨q, fun i hi => ?_⟩]
      rw [← z2 i hi, ← w2 i (by omega)]
      exact s i (by omega)
    · rw [F1.2.2 s, S.2 (fun hh => s fun i hi => ?_)]
      rw [z2 i (by omega), w2 i (by omega)]
      exact hh.2 i (by omega)
  · rw [if_pos q, S.2 (fun hh => q hh.1)]
    refine bLoop_done ?_
    show F_X11_sameText_24 _ _ ρ 0 0 = _
    unfold F_X11_sameText_24
    rw [bG_pos (by omega), Int.toNat_natCast, x3]
    by_cases u : μ (T + 14) a ≤ 0
    · rw [if_pos u, bG_pos (by decide)]
    · rw [if_neg u, if_pos rfl, bG_pos (by decide)]
theorem M_textOf (hb : bOk μ) (h : cT T n m μ) (hM : mA T b n m μ ρ) {p : Nat × (Nat → Nat)} (hp : ∀ t, t < p.1 → slT T n μ (p.2 t)) (hp3 : p.1 ≤ 3200) (hx : txM T b μ p ρ) {a : Nat} (ha : slT T n μ a) : F_X11_textOf ((3200 * b + a : Nat) : Int) ρ = some (scan (fun t => tm T μ (p.2 t) a) 1 0 p.1) := by
  obtain ⟨x1, x2, x3, x4⟩ := hx
  have L := loop_scan (F := fun z => F_X11_textOf_2 ((3200 * b + a : Nat) : Int) ρ z) (f := fun t => tm T μ (p.2 t) a) (w := 1) (non := (-1 : Int)) (fnd := fun j => (j : Int)) p.1 0 ?_ ?_
  · have E : F_X11_textOf ((3200 * b + a : Nat) : Int) ρ = bLoop (fun z => F_X11_textOf_2 ((3200 * b + a : Nat) : Int) ρ z) ((0 : Nat) : Int) := rfl
    rw [E, L]
    congr 1
    rcases scan_spec (f := fun t => tm T μ (p.2 t) a) (p := 1) p.1 0 with ⟨e, _⟩ | ⟨c, c1, c2, c3, c4, c5⟩
    · rw [e, if_pos rfl]
    · rw [c4, if_neg (by omega), Int.toNat_natCast]
  · show F_X11_textOf_2 ((3200 * b + a : Nat) : Int) ρ _ = _
    unfold F_X11_textOf_2
    rw [x1, if_pos (by omega)]
  · intro j h1 h2
    have t01 := tm_is hb h (hp j (by omega)) ha
    show F_X11_textOf_2 ((3200 * b + a : Nat) : Int) ρ j = _
    unfold F_X11_textOf_2
    rw [x1, if_neg (by omega), bG_pos (by omega), Int.toNat_natCast, x2 j (by omega), M_sameText hb h hM (hp j (by omega)) ha, Option.bind_some]
    by_cases q : stx T μ (p.2 j) a
    · rw [t01.1 q, if_neg (by decide), if_pos rfl]
    · rw [t01.2 q, if_pos rfl, bG_pos (by constructor <;> omega), if_neg (by decide)]
theorem M_texts (hbμ : bOk μ) (h : cT T n m μ) (ho : ∀ k, k < n → ord k < n) {ρ0 : bM} (hM : mA T b n m μ ρ0) (h5 : ρ0 76 23 = n) (h14 : ∀ k, k < n → ρ0 95 k = ord k) :
    ∃ ρ', F_X11_findTexts ρ0 = some (0, ρ') ∧ frTM ρ0 ρ' ∧ txM T b μ (tA T μ ord n) ρ' := by
  have n4 := h.2.1.2
  have hb01 := hM.1.1
  have H := bLoop_inv (f := fun z : Int × bM => F_X11_findTexts_12 z.1 z.2) (fun z => ∃ i : Nat, i ≤ n ∧ z.1 = i ∧ frTM ρ0 z.2 ∧ txM T b μ (tA T μ ord i) z.2) (fun z => n - z.1.toNat) (fun r => ∃ ρ', r = (0, ρ') ∧ frTM ρ0 ρ' ∧ txM T b μ (tA T μ ord n) ρ') ?_ (0, bset (bset ρ0 76 29 0) 76 32 0) ⟨0, by omega, rfl, ⟨fun q q1 q2 q3 => by (simp only; rw [bset_q q1, bset_q q1]), fun k k1 k2 => by (simp only; rw [bset_k k2, bset_k k1])⟩, by (simp only; rw [bset_k (by omega), bset_at]; rfl), fun t ht => absurd ht (Nat.not_lt_zero t), fun t ht => absurd ht (Nat.not_lt_zero t), by (simp only; rw [bset_at]; rfl)⟩
  · obtain ⟨r, x1, ρ', x2, x3, x4⟩ := H
    refine ⟨ρ', ?_, x3, x4⟩
    unfold F_X11_findTexts
    rw [x1, x2]
  · rintro ⟨z1, σ⟩ ⟨i, hi, y1, y2, y3⟩
    simp only at y1 y2 y3
    subst y1
    show (∃ s', F_X11_findTexts_12 i σ = some (Sum.inl s') ∧ _) ∨ ∃ r, F_X11_findTexts_12 i σ = some (Sum.inr r) ∧ _
    have e5 : σ 76 23 = n := by rw [y2.2 23 (by omega) (by omega), h5]
    unfold F_X11_findTexts_12
    rw [e5]
    by_cases c : i < n
    · left
      have hoi := ho i c
      have e14 : σ 95 i = ord i := by rw [y2.1 95 (by omega) (by omega) (by omega), h14 i c]
      have e3 : σ 76 3 = b := by rw [y2.2 3 (by omega) (by omega)]; exact hM.1.2.1
      have a8 := (h.2.2.2.1 (ord i) hoi).2.2.2.1
      obtain ⟨A, hA⟩ : ∃ A : Nat, μ (T + 10) (ord i) = A := ⟨(μ (T + 10) (ord i)).toNat, by omega⟩
      have hpA := tA_ok hbμ h ho i (by omega)
      have I := bLoop_inv (f := fun z : Int × bM => F_X11_findTexts_36 i (400 * (b : Int) + ord i) z.1 z.2) (fun z => ∃ k : Nat, k ≤ A ∧ z.1 = ((3200 * b + (8 * ord i + k) : Nat) : Int) ∧ frTM ρ0 z.2 ∧ txM T b μ (tE T μ (ord i) k (tA T μ ord i)) z.2) (fun z => 3200 * b + (8 * ord i + A) - z.1.toNat) (fun r => ∃ σ', r = .inl ((i : Int) + 1, σ') ∧ frTM ρ0 σ' ∧ txM T b μ (tA T μ ord (i + 1)) σ') ?_ (8 * (400 * (b : Int) + ord i), σ) ⟨0, by omega, by (simp only; omega), y2, y3⟩
      · obtain ⟨r, w1, σ', w2, w4, w5⟩ := I
        rw [if_neg (by omega), bG_pos (by omega), Int.toNat_natCast, e14, M_at hb01 e3 (by omega), Option.bind_some, bG_pos (by constructor <;> omega), w1, w2]
        exact ⟨_, rfl, ⟨i + 1, by omega, by simp, w4, w5⟩, by simp only; omega⟩
      · rintro ⟨u1, τ⟩ ⟨k, hk, v1, v3, v4⟩
        simp only at v1 v3 v4
        subst v1
        show (∃ s', F_X11_findTexts_36 i (400 * (b : Int) + ord i) ((3200 * b + (8 * ord i + k) : Nat) : Int) τ = some (Sum.inl s') ∧ _) ∨ ∃ r, F_X11_findTexts_36 i (400 * (b : Int) + ord i) ((3200 * b + (8 * ord i + k) : Nat) : Int) τ = some (Sum.inr r) ∧ _
        have hMτ : mA T b n m μ τ := mA_congr hM (v3.2 3 (by omega) (by omega)) (fun q q1 q2 => v3.1 q (by omega) (by omega) (by omega))
        have r84 := (hMτ.2.1 (ord i) hoi).2.2
        unfold F_X11_findTexts_36
        rw [bG_pos (by constructor <;> omega), bG_pos (by omega), t400, r84, hA, bG_pos (by constructor <;> omega)]
        by_cases ck : k < A
        · left
          obtain ⟨⟨r85, r86, r89⟩, -, -⟩ := hMτ.2.2 (ord i) hoi k (by omega)
          rw [if_neg (by omega), bG_pos (by omega), Int.toNat_natCast, r86]
          have hsucc : ((3200 * b + (8 * ord i + k) : Nat) : Int) + 1 = ((3200 * b + (8 * ord i + (k + 1)) : Nat) : Int) := by omega
          by_cases cf : μ (T + 12) (8 * ord i + k) = 14
          · have hsl : slT T n μ (8 * ord i + k) := ⟨ord i, k, hoi, by omega, rfl, cf⟩
            obtain ⟨s1, s2, s3, s4⟩ := slT_rg h hsl
            have hok := tE_ok hbμ h ho c hpA k (by omega)
            have hle := tA_le h ho i (by omega)
            have hle2 := tE_le (T := T) (μ := μ) (e := ord i) (p := tA T μ ord i) k
            obtain ⟨p, hp⟩ : ∃ p, p = tE T μ (ord i) k (tA T μ ord i) := ⟨_, rfl⟩
            have hps : tE T μ (ord i) (k + 1) (tA T μ ord i) = tStep T μ p (8 * ord i + k) := by rw [tE, if_pos cf, hp]
            rw [← hp] at v4 hok hle2
            rw [if_neg (fun q => q cf), M_textOf hbμ h hMτ (fun t ht => (hok.1 t ht).2) (by omega) v4 hsl, Option.bind_some]
            obtain ⟨x1, x2, x3, x4⟩ := v4
            rcases tStep_cases hbμ h hok hsl with ⟨y, g⟩ | ⟨t, g1, g2, g3, g4⟩
            · have tpr := tP_rg h (p := p) (fun t ht => (hok.1 t ht).2) p.1 (by omega)
              rw [y, if_neg (by decide)]
              simp (disch := first | omega | decide) only [bG_pos, bMm_some, bXm_inl, bXm_inr, Option.bind_some, bset_q, bset_k, bset_at, if_pos, if_neg, Int.toNat_natCast, x1, x4, r89]
              refine ⟨_, rfl, ⟨k + 1, by omega, hsucc, ⟨fun q q1 q2 q3 => ?_, fun q q1 q2 => ?_⟩, ?_⟩, by simp only; omega⟩
              · (try simp only)
                rw [bset_q q1, bset_q q1, bset_q q3, bset_q q2, v3.1 q q1 q2 q3]
              · (try simp only)
                rw [bset_k q1, bset_k q2, bset_q (by omega), bset_q (by omega), v3.2 q q1 q2]
              · rw [hps]
                unfold tStep
                rw [if_pos y]
                have hold : ∀ t, t ≤ p.1 → tP T μ (p.1 + 1, fun t => if t = p.1 then 8 * ord i + k else p.2 t) t = tP T μ p t := fun t ht => sumI_congr t (fun s hs => by (try simp only); rw [if_neg (by omega)])
                refine ⟨?_, fun t ht => ?_, fun t ht => ?_, ?_⟩
                · (try simp only)
                  rw [bset_at]; omega
                · (try simp only)
                  simp (disch := omega) only [bset_q]
                  rw [bset_row]
                  simp only at ht
                  by_cases u : t = p.1
                  · rw [if_pos u, if_pos u]
                  · rw [if_neg u, if_neg u, x2 t (by omega)]
                · (try simp only)
                  simp (disch := omega) only [bset_q]
                  rw [bset_row]
                  simp only at ht
                  rw [hold t (by omega)]
                  by_cases u : t = p.1
                  · rw [if_pos u, u]
                  · rw [if_neg u, bset_q (by omega), x3 t (by omega)]
                · (try simp only)
                  rw [bset_k (by omega), bset_at]
                  show _ = tP T μ (p.1 + 1, fun t => if t = p.1 then 8 * ord i + k else p.2 t) p.1 + (μ (T + 14) (if p.1 = p.1 then 8 * ord i + k else p.2 p.1) + 1)
                  rw [hold p.1 (by omega), if_pos rfl]
                  omega
            · rw [g2, if_pos (by omega), bG_pos (by constructor <;> omega)]
              refine ⟨_, rfl, ⟨k + 1, by omega, hsucc, v3, ?_⟩, by simp only; omega⟩
              rw [hps]
              unfold tStep
              rw [g2, if_neg (by omega)]
              exact ⟨x1, x2, x3, x4⟩
          · rw [if_pos cf, bG_pos (by constructor <;> omega)]
            refine ⟨_, rfl, ⟨k + 1, by omega, hsucc, v3, ?_⟩, by simp only; omega⟩
            rw [show tE T μ (ord i) (k + 1) (tA T μ ord i) = tE T μ (ord i) k (tA T μ ord i) by rw [tE, if_neg cf]]
            exact v4
        · right
          have : k = A := by omega
          subst this
          rw [if_pos (by omega), bG_pos (by constructor <;> omega)]
          refine ⟨_, rfl, τ, rfl, v3, ?_⟩
          show txM T b μ (tE T μ (ord i) (μ (T + 10) (ord i)).toNat (tA T μ ord i)) τ
          rw [hA, Int.toNat_natCast]
          exact v4
    · right
      have : i = n := by omega
      subst this
      rw [if_pos (by omega)]
      exact ⟨_, rfl, _, rfl, y2, y3⟩
end
end EI
