section EO
theorem sumI_strict {f g : Nat → Int} : ∀ k : Nat, (∀ i, i < k → f i ≤ g i) → (∃ i, i < k ∧ f i < g i) → sumI f k < sumI g k
  | 0, _, h => by obtain ⟨i, h1, -⟩ := h; omega
  | k + 1, h, hs => by
    unfold sumI
    have hm := sumI_mono k (fun i hi => h i (by omega))
    have hk := h k (by omega)
    obtain ⟨i, h1, h2⟩ := hs
    by_cases c : i = k
    · rw [c] at h2; omega
    · have := sumI_strict k (fun i hi => h i (by omega)) ⟨i, by omega, h2⟩
      omega
section
variable {T b n m : Nat} {μ ν ρ : bM} {ord : Nat → Nat}
/-- what the model's layout holds -/
def layM (T b n m : Nat) (μ : bM) (ord : Nat → Nat) (ρ : bM) : Prop := ρ 76 23 = n ∧ (∀ k, k < n → ρ 95 k = ord k) ∧ (∀ k, k < n → ρ 96 k = (nexE (μ (T + 3)) n (ord k)).2) ∧ shM T μ ord n ρ ∧ txM T b μ (tA T μ ord n) ρ ∧ post T n μ ord (stP T n μ ord) (ρ 101) (ρ 102) ∧ (∀ e, e < n → 11 ≤ ρ 101 e ∧ ρ 101 e ≤ 900000) ∧
  (∀ u, u < m → ρ 103 u = ρ 101 (ord ((startP T n m μ (u + 1)).toNat - 1)) + stP T n μ ord (ord ((startP T n m μ (u + 1)).toNat - 1)) + rrs T μ (ord ((startP T n m μ (u + 1)).toNat - 1)) (ρ 102)) ∧ ∀ X, isPl T n μ ord (stP T n μ ord) X (rowsOf T μ X) → ∀ a, rS T n μ a → ρ 102 a ≤ rowsOf T μ X a
theorem rS_at (h : cT T n m μ) {a : Nat} (ha : rS T n μ a) : ∃ e k : Nat, e < n ∧ (k : Int) < μ (T + 10) e ∧ a = 8 * e + k ∧ μ (T + 12) (8 * e + k) = 21 := by
  obtain ⟨h1, h2, h3⟩ := ha
  exact ⟨a / 8, a % 8, h1, h2, by omega, by rw [show 8 * (a / 8) + a % 8 = a by omega]; exact h3⟩
theorem M_layOut (hb : bOk μ) (h : cT T n m μ) (ho : ordOk (μ (T + 3)) n ord) {ρ0 : bM} (hM : mA T b n m μ ρ0) : ∃ ρ', F_X11_layOut ρ0 = some (0, ρ') ∧ (∀ q, (q < 95 ∨ 103 < q) → q ≠ 76 → ρ' q = ρ0 q) ∧ (∀ k, k ≠ 23 → k ≠ 26 → k ≠ 29 → k ≠ 32 → ρ' 76 k = ρ0 76 k) ∧ layM T b n m μ ord ρ' := by
  have n4 := h.2.1.2
  have ho' : ∀ k, k < n → ord k < n := fun k hk => (ho.1 k hk).1
  have hinj : ∀ j k, j < n → k < n → ord j = ord k → j = k := fun j k hj hk => ord_inj ho hj hk
  obtain ⟨ρ1, a1, a2, a3, a4⟩ := M_order h hM.1
  have hM1 : mA T b n m μ ρ1 := mA_congr hM (a2.2 3 (by omega)) (fun q q1 q2 => a2.1 q (by omega) (by omega) (by omega))
  have e95 : ∀ k, k < n → ρ1 95 k = ord k := fun k hk => by
    have ho2 : ordOk (μ (T + 3)) n (fun k => (ρ1 95 k).toNat) := ord_of (fun k hk => ⟨(a3 k (by omega)).1, (a3 k (by omega)).2.1⟩)
    have := ord_uni ho ho2 hk
    have h95 := (a3 k (by omega)).1
    have hu : ord k = (ρ1 95 k).toNat := this
    omega
  have e96 : ∀ k, k < n → ρ1 96 k = (nexE (μ (T + 3)) n (ord k)).2 := fun k hk => by
    have := (a3 k (by omega)).2.2
    rw [e95 k hk, Int.toNat_natCast] at this
    exact this
  obtain ⟨ρ2, b1, b2, b3⟩ := M_shapes h ho' hinj hM1 a4 e95
  have hM2 : mA T b n m μ ρ2 := mA_congr hM1 (b2.2 3 (by omega)) (fun q q1 q2 => b2.1 q (by omega) (by omega) (by omega))
  obtain ⟨ρ3, c1, c2, c3⟩ := M_texts hb h ho' hM2 (by rw [b2.2 23 (by omega)]; exact a4) (fun k hk => by rw [b2.1 95 (by omega) (by omega) (by omega)]; exact e95 k hk)
  have hM3 : mA T b n m μ ρ3 := mA_congr hM2 (c2.2 3 (by omega) (by omega)) (fun q q1 q2 => c2.1 q (by omega) (by omega) (by omega))
  have g23 : ρ3 76 23 = n := by rw [c2.2 23 (by omega) (by omega), b2.2 23 (by omega)]; exact a4
  have g95 : ∀ k, k < n → ρ3 95 k = ord k := fun k hk => by rw [c2.1 95 (by omega) (by omega) (by omega), b2.1 95 (by omega) (by omega) (by omega)]; exact e95 k hk
  have g96 : ∀ k, k < n → ρ3 96 k = (nexE (μ (T + 3)) n (ord k)).2 := fun k hk => by rw [c2.1 96 (by omega) (by omega) (by omega), b2.1 96 (by omega) (by omega) (by omega)]; exact e96 k hk
  have g97 : ∀ e, e < n → ρ3 97 e = shI T μ ord (posE (μ (T + 3)) n e).toNat + 1 := fun e he => by
    obtain ⟨k, k1, k2, k3⟩ := ho.2 e he
    rw [c2.1 97 (by omega) (by omega) (by omega), k3, Int.toNat_natCast, ← b3.2.2 k k1, k2]
  have g97r : ∀ e, e < n → 1 ≤ ρ3 97 e ∧ ρ3 97 e ≤ 400 := fun e he => by
    obtain ⟨k, k1, k2, k3⟩ := ho.2 e he
    rw [g97 e he, k3, Int.toNat_natCast]
    have := shI_rg h ho' k1
    omega
  have hstM : ∀ σ : bM, σ 97 = ρ3 97 → ∀ e, e < n → stM T μ σ (fun e => (nexE (μ (T + 3)) n e).2) e = stP T n μ ord e := fun σ hσ e he => by
    unfold stM stP
    rw [hσ, g97 e he]
  -- the rows of references, all 1 at first; then the rounds
  have Lp : ∀ σ : bM, (∀ q, q ≠ 101 → q ≠ 102 → q ≠ 103 → σ q = ρ3 q) → (∀ a, a < 3200 → σ 102 a = 1) → ∃ ρ', bLoop (fun z : Int × bM => F_X11_layOut_36 z.1 z.2) (1, σ) = some (0, ρ') ∧ (∀ q, q ≠ 101 → q ≠ 102 → q ≠ 103 → ρ' q = ρ3 q) ∧ post T n μ ord (stP T n μ ord) (ρ' 101) (ρ' 102) ∧ (∀ e, e < n → 11 ≤ ρ' 101 e ∧ ρ' 101 e ≤ 900000) ∧
      (∀ u, u < m → ρ' 103 u = ρ' 101 (ord ((startP T n m μ (u + 1)).toNat - 1)) + stP T n μ ord (ord ((startP T n m μ (u + 1)).toNat - 1)) + rrs T μ (ord ((startP T n m μ (u + 1)).toNat - 1)) (ρ' 102)) ∧ ∀ X, isPl T n μ ord (stP T n μ ord) X (rowsOf T μ X) → ∀ a, rS T n μ a → ρ' 102 a ≤ rowsOf T μ X a := by
    intro σ hσ hσ1
    have H := bLoop_inv (f := fun z : Int × bM => F_X11_layOut_36 z.1 z.2)
      (fun z => (z.1 = 0 ∨ z.1 = 1) ∧ (∀ q, q ≠ 101 → q ≠ 102 → q ≠ 103 → z.2 q = ρ3 q) ∧ (∀ a, a < 3200 → 1 ≤ z.2 102 a ∧ z.2 102 a ≤ 3) ∧ (∀ X, isPl T n μ ord (stP T n μ ord) X (rowsOf T μ X) → ∀ a, rS T n μ a → z.2 102 a ≤ rowsOf T μ X a) ∧
        (z.1 = 0 → post T n μ ord (stP T n μ ord) (z.2 101) (z.2 102) ∧ (∀ e, e < n → 11 ≤ z.2 101 e ∧ z.2 101 e ≤ 900000) ∧ ∀ u, u < m → z.2 103 u = z.2 101 (ord ((startP T n m μ (u + 1)).toNat - 1)) + stP T n μ ord (ord ((startP T n m μ (u + 1)).toNat - 1)) + rrs T μ (ord ((startP T n m μ (u + 1)).toNat - 1)) (z.2 102)))
      (fun z => 2 * (9600 - sumI (fun a => z.2 102 a) 3200).toNat + z.1.toNat)
      (fun r => ∃ ρ', r = (0, ρ') ∧ (∀ q, q ≠ 101 → q ≠ 102 → q ≠ 103 → ρ' q = ρ3 q) ∧ post T n μ ord (stP T n μ ord) (ρ' 101) (ρ' 102) ∧ (∀ e, e < n → 11 ≤ ρ' 101 e ∧ ρ' 101 e ≤ 900000) ∧
      (∀ u, u < m → ρ' 103 u = ρ' 101 (ord ((startP T n m μ (u + 1)).toNat - 1)) + stP T n μ ord (ord ((startP T n m μ (u + 1)).toNat - 1)) + rrs T μ (ord ((startP T n m μ (u + 1)).toNat - 1)) (ρ' 102)) ∧ ∀ X, isPl T n μ ord (stP T n μ ord) X (rowsOf T μ X) → ∀ a, rS T n μ a → ρ' 102 a ≤ rowsOf T μ X a) ?_ (1, σ) ⟨Or.inr rfl, hσ, fun a ha => by (simp only; rw [hσ1 a ha]; omega), fun X hX a ha => ?_, fun hh => by (simp only at hh; omega)⟩
    · obtain ⟨r, x1, ρ', x2, x3⟩ := H
      exact ⟨ρ', by rw [x1, x2], x3⟩
    · rintro ⟨v, τ⟩ ⟨j1, j2, j3, j4, j5⟩
      simp only at j1 j2 j3 j4 j5
      show (∃ s', F_X11_layOut_36 v τ = some (Sum.inl s') ∧ _) ∨ ∃ q, F_X11_layOut_36 v τ = some (Sum.inr q) ∧ _
      unfold F_X11_layOut_36
      by_cases c : v = 0
      · right
        obtain ⟨y1, y2, y3⟩ := j5 c
        rw [if_pos c]
        exact ⟨_, rfl, τ, rfl, j2, y1, y2, y3, j4⟩
      · left
        have hMτ : mA T b n m μ τ := mA_congr hM3 (by rw [j2 76 (by omega) (by omega) (by omega)]) (fun q q1 q2 => j2 q (by omega) (by omega) (by omega))
        obtain ⟨τ1, d1, d2, d3, d4, d5⟩ := M_reckon hb h ho hMτ (by rw [j2 76 (by omega) (by omega) (by omega)]; exact g23) (fun k hk => by rw [j2 95 (by omega) (by omega) (by omega)]; exact g95 k hk) (clo := fun e => (nexE (μ (T + 3)) n e).2) (fun k hk => by rw [j2 96 (by omega) (by omega) (by omega)]; exact g96 k hk) (fun e he => nex_cnt h he) (fun e he => by rw [j2 97 (by omega) (by omega) (by omega)]; exact g97r e he) j3
        have hst := hstM τ (j2 97 (by omega) (by omega) (by omega))
        have hM4 : mA T b n m μ τ1 := mA_congr hMτ (by rw [d2 76 (by omega) (by omega)]) (fun q q1 q2 => d2 q (by omega) (by omega))
        obtain ⟨mo, τ2, f1, f2, f3, f4, f5⟩ := M_grow h hM4 (fun e he => by have := d4 e he; omega)
        have t102 : τ1 102 = τ 102 := d2 102 (by omega) (by omega)
        rw [t102] at f4 f5
        have hpl : isPl T n μ ord (stP T n μ ord) (τ1 101) (τ 102) := isPl_st ho' hst d3
        have hW3 : ∀ a, rS T n μ a → 1 ≤ rowsOf T μ (τ1 101) a ∧ rowsOf T μ (τ1 101) a ≤ 3 := fun a ha => by
          obtain ⟨e, k, h1, h2, h3, h4⟩ := rS_at h ha
          obtain ⟨w, w1, w2, -⟩ := ref_to h h1 h2 h4
          rw [h3]
          unfold rowsOf
          rw [w1, Int.toNat_natCast]
          exact ⟨rb_1.1, rb_small (by have := d4 w w2; omega)⟩
        have hW : ∀ X, isPl T n μ ord (stP T n μ ord) X (rowsOf T μ X) → ∀ a, rS T n μ a → rowsOf T μ (τ1 101) a ≤ rowsOf T μ X a := fun X hX a ha => by
          obtain ⟨e, k, h1, h2, h3, h4⟩ := rS_at h ha
          obtain ⟨w, w1, w2, -⟩ := ref_to h h1 h2 h4
          have hk8 : k < 8 := by have := (h.2.2.2.1 e h1).2.2.2.1; omega
          have hle := isPl_mono h ho hpl hX (fun e' k' he' hk' hf' => j4 X hX _ ((rS_of (by have := (h.2.2.2.1 e' he').2.2.2.1; omega)).mpr ⟨he', hk', hf'⟩)) w w2
          rw [h3]
          unfold rowsOf
          rw [w1, Int.toNat_natCast]
          exact rb_mono hle
        have R3 : ∀ a, a < 3200 → 1 ≤ τ2 102 a ∧ τ2 102 a ≤ 3 := fun a ha => by
          rw [f4 a]
          by_cases x : rS T n μ a ∧ τ 102 a < rowsOf T μ (τ1 101) a
          · rw [if_pos x]; exact hW3 a x.1
          · rw [if_neg x]; exact j3 a ha
        have Rge : ∀ a, τ 102 a ≤ τ2 102 a := fun a => by
          rw [f4 a]
          by_cases x : rS T n μ a ∧ τ 102 a < rowsOf T μ (τ1 101) a
          · rw [if_pos x]; exact Int.le_of_lt x.2
          · rw [if_neg x]; exact Int.le_refl _
        rw [if_neg c, d1, bMm_some, f1]
        refine ⟨_, rfl, ⟨f3, fun q q1 q2 q3 => ?_, R3, fun X hX a ha => ?_, fun hh => ?_⟩, ?_⟩
        · simp only
          rw [f2 q q2, d2 q q1 q3, j2 q q1 q2 q3]
        · simp only
          rw [f4 a]
          by_cases x : rS T n μ a ∧ τ 102 a < rowsOf T μ (τ1 101) a
          · rw [if_pos x]; exact hW X hX a ha
          · rw [if_neg x]; exact j4 X hX a ha
        · simp only at hh ⊢
          have hno : ∀ a, rS T n μ a → rowsOf T μ (τ1 101) a ≤ τ 102 a := fun a ha => Int.not_lt.mp (fun hlt => by
            have := f5.mpr ⟨a, ha, hlt⟩
            rw [hh] at this
            exact absurd this (by decide))
          have e102 : τ2 102 = τ 102 := by
            funext a
            rw [f4 a, if_neg (fun x => absurd (hno a x.1) (Int.not_le.mpr x.2))]
          rw [e102, f2 101 (by decide), f2 103 (by decide)]
          refine ⟨⟨hpl, fun e k he hk hf => hno _ ((rS_of (by have := (h.2.2.2.1 e he).2.2.2.1; omega)).mpr ⟨he, hk, hf⟩)⟩, d4, fun u hu => ?_⟩
          have su := start_rg h hu
          rw [d5 u hu, hst _ (ho' _ (by omega))]
        · simp only
          have s1 := sumI_rg' (f := fun a => τ 102 a) (lo := 1) (hi := 3) 3200 j3
          have s2 := sumI_rg' (f := fun a => τ2 102 a) (lo := 1) (hi := 3) 3200 R3
          rcases f3 with m0 | m1
          · have s3 := sumI_mono (f := fun a => τ 102 a) (g := fun a => τ2 102 a) 3200 (fun a _ => Rge a)
            rw [m0]
            omega
          · obtain ⟨a, y1, y2⟩ := f5.mp m1
            have s3 := sumI_strict (f := fun a => τ 102 a) (g := fun a => τ2 102 a) 3200 (fun a _ => Rge a) ⟨a, by have := y1.1; omega, by (try simp only); rw [f4 a, if_pos ⟨y1, y2⟩]; exact y2⟩
            rw [m1]
            omega
    · simp only
      have := rS_at h ha
      obtain ⟨e, k, h1, h2, h3, h4⟩ := this
      have hk8 := (h.2.2.2.1 e h1).2.2.2.1
      rw [hσ1 a (by omega)]
      exact rb_1.1
  have H14 := bLoop_inv (f := fun z : Int × bM => F_X11_layOut_14 z.1 z.2) (fun z => ∃ k : Nat, k ≤ 3200 ∧ z.1 = k ∧ (∀ q, q ≠ 102 → z.2 q = ρ3 q) ∧ ∀ a, a < k → z.2 102 a = 1) (fun z => 3200 - z.1.toNat)
    (fun r => ∃ ρ', r = (0, ρ') ∧ (∀ q, q ≠ 101 → q ≠ 102 → q ≠ 103 → ρ' q = ρ3 q) ∧ post T n μ ord (stP T n μ ord) (ρ' 101) (ρ' 102) ∧ (∀ e, e < n → 11 ≤ ρ' 101 e ∧ ρ' 101 e ≤ 900000) ∧
      (∀ u, u < m → ρ' 103 u = ρ' 101 (ord ((startP T n m μ (u + 1)).toNat - 1)) + stP T n μ ord (ord ((startP T n m μ (u + 1)).toNat - 1)) + rrs T μ (ord ((startP T n m μ (u + 1)).toNat - 1)) (ρ' 102)) ∧ ∀ X, isPl T n μ ord (stP T n μ ord) X (rowsOf T μ X) → ∀ a, rS T n μ a → ρ' 102 a ≤ rowsOf T μ X a) ?_ (0, ρ3) ⟨0, by omega, rfl, fun q _ => rfl, fun a ha => by omega⟩
  · obtain ⟨r, x1, ρ', x2, x3, x4, x5, x6, x7⟩ := H14
    refine ⟨ρ', ?_, fun q hq q76 => ?_, fun k k1 k2 k3 k4 => ?_, ?_, fun k hk => ?_, fun k hk => ?_, ?_, ?_, x4, x5, x6, x7⟩
    · unfold F_X11_layOut
      rw [a1, bMm_some, b1, bMm_some, c1, bMm_some, x1, x2]
    · rw [x3 q (by omega) (by omega) (by omega), c2.1 q q76 (by omega) (by omega), b2.1 q q76 (by omega) (by omega), a2.1 q q76 (by omega) (by omega)]
    · rw [x3 76 (by omega) (by omega) (by omega), c2.2 k k3 k4, b2.2 k k2, a2.2 k k1]
    · rw [x3 76 (by omega) (by omega) (by omega)]; exact g23
    · rw [x3 95 (by omega) (by omega) (by omega)]; exact g95 k hk
    · rw [x3 96 (by omega) (by omega) (by omega)]; exact g96 k hk
    · obtain ⟨s1, s2, s3⟩ := b3
      refine ⟨by rw [x3 76 (by omega) (by omega) (by omega), c2.2 26 (by omega) (by omega)]; exact s1, fun s hs => ?_, fun j hj => ?_⟩
      · rw [x3 98 (by omega) (by omega) (by omega), c2.1 98 (by omega) (by omega) (by omega)]; exact s2 s hs
      · rw [x3 97 (by omega) (by omega) (by omega), c2.1 97 (by omega) (by omega) (by omega)]; exact s3 j hj
    · obtain ⟨s1, s2, s3, s4⟩ := c3
      refine ⟨by rw [x3 76 (by omega) (by omega) (by omega)]; exact s1, fun t ht => ?_, fun t ht => ?_, by rw [x3 76 (by omega) (by omega) (by omega)]; exact s4⟩
      · rw [x3 99 (by omega) (by omega) (by omega)]; exact s2 t ht
      · rw [x3 100 (by omega) (by omega) (by omega)]; exact s3 t ht
  · rintro ⟨z1, σ⟩ ⟨k, k1, k2, k3, k4⟩
    simp only at k2 k3 k4
    subst k2
    show (∃ s', F_X11_layOut_14 k σ = some (Sum.inl s') ∧ _) ∨ ∃ q, F_X11_layOut_14 k σ = some (Sum.inr q) ∧ _
    unfold F_X11_layOut_14
    by_cases c : k < 3200
    · left
      rw [if_neg (by omega), bG_pos (by omega), bG_pos (by constructor <;> omega), Int.toNat_natCast]
      refine ⟨_, rfl, ⟨k + 1, by omega, by simp, fun q hq => by (simp only; rw [bset_q hq, k3 q hq]), fun a ha => ?_⟩, by simp only; omega⟩
      simp only
      rw [bset_row]
      by_cases x : a = k
      · rw [if_pos x]
      · rw [if_neg x, k4 a (by omega)]
    · right
      rw [if_pos (by omega)]
      obtain ⟨ρ', x1, x2⟩ := Lp σ (fun q q1 q2 q3 => k3 q q2) (fun a ha => k4 a (by omega))
      rw [x1]
      exact ⟨_, rfl, ρ', rfl, x2⟩
/-- class and model have the same places -/
theorem lay_place (h : cT T n m μ) (ho : ordOk (μ (T + 3)) n ord) {ρ ρ' : bM} (hC : layC T n m μ ord ρ) (hM : layM T b n m μ ord ρ') : (∀ e, e < n → ρ 19 e = ρ' 101 e) ∧ ∀ u, u < m → ρ 16 u = ρ' 103 u := by
  obtain ⟨-, -, -, -, -, -, -, -, c9, c10, c11⟩ := hC
  obtain ⟨-, -, -, -, -, m6, m7, m8, m9⟩ := hM
  have ho' : ∀ k, k < n → ord k < n := fun k hk => (ho.1 k hk).1
  have hX := fix_isPl h ho c10
  have le1 := c11 _ _ m6
  have le2 := isPl_mono h ho m6.1 hX (fun e k he hk hf => m9 _ hX _ ((rS_of (by have := (h.2.2.2.1 e he).2.2.2.1; omega)).mpr ⟨he, hk, hf⟩))
  have eq : ∀ e, e < n → ρ 19 e = ρ' 101 e := fun e he => Int.le_antisymm (le1 e he) (le2 e he)
  refine ⟨eq, fun u hu => ?_⟩
  have su := start_rg h hu
  have hl := (c10 u hu).2 ((startP T n m μ (u + 1)).toNat - 1) (by omega) (by omega)
  rw [if_neg (by omega)] at hl
  obtain ⟨e, he⟩ : ∃ e, e = ord ((startP T n m μ (u + 1)).toNat - 1) := ⟨_, rfl⟩
  have hen : e < n := by rw [he]; exact ho' _ (by omega)
  rw [m8 u hu, hl, ← he, eq e hen]
  have : rrs T μ e (rowsOf T μ (ρ 19)) = rrs T μ e (ρ' 102) := by
    refine rrs_congr (fun k hk hf => ?_)
    have hrs : rS T n μ (8 * e + k) := (rS_of (by have := (h.2.2.2.1 e hen).2.2.2.1; omega)).mpr ⟨hen, hk, hf⟩
    have a1 := m6.2 e k hen hk hf
    have a2 := m9 _ hX _ hrs
    obtain ⟨w, w1, w2, -⟩ := ref_to h hen hk hf
    have a3 : rowsOf T μ (ρ 19) (8 * e + k) = rowsOf T μ (ρ' 101) (8 * e + k) := by
      unfold rowsOf
      rw [w1, Int.toNat_natCast, eq w w2]
    rw [a3] at a2 ⊢
    exact Int.le_antisymm a1 a2
  rw [this]
end
end EO
