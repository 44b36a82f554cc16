section FH
section
variable {T b n m : Nat} {μ σ lm : bM} {ord : Nat → Nat}
theorem Q_shapes (h : cT T n m μ) (hM : mA T b n m μ lm) {S : Nat} {ent : Nat → Nat} (h26 : lm 76 26 = S) (hS : S ≤ 400) (h98 : ∀ s, s < S → lm 98 s = ent s ∧ ent s < n) (hN : (preS T n μ ent S).length + 1 ≤ 8000) {ans : Int} {LE : List Int} (K : ∀ σ1, wM lm σ1 → σ1 76 36 = 0 → ∃ ρ', bLoop (fun z : Int × bM => F_X11_write_295 z.1 z.2) (0, σ1) = some (ans, ρ') ∧ AppL 76 36 93 σ1 ρ' LE)
    (hw : wM lm σ) (h0 : σ 76 36 = 24000) : ∃ σ1 ρ', bLoop (fun z : Int × bM => F_X11_write_149 z.1 z.2) (0, σ) = some (ans, ρ') ∧ wM lm σ1 ∧ AppL 76 36 93 σ σ1 (preS T n μ ent S ++ [b8 0]) ∧ AppL 76 36 93 (bset σ1 76 36 0) ρ' LE := by
  have n4 := h.2.1.2
  have hb01 := hM.1.1
  have H := bLoop_inv (f := fun z : Int × bM => F_X11_write_149 z.1 z.2) (fun z => ∃ s : Nat, s ≤ S ∧ z.1 = s ∧ AppL 76 36 93 σ z.2 (preS T n μ ent s)) (fun z => S - z.1.toNat) (fun r => ∃ σ1 ρ', r = (ans, ρ') ∧ wM lm σ1 ∧ AppL 76 36 93 σ σ1 (preS T n μ ent S ++ [b8 0]) ∧ AppL 76 36 93 (bset σ1 76 36 0) ρ' LE) ?_ (0, σ) ⟨0, by omega, rfl, AppL.nil⟩
  · obtain ⟨r, x1, σ1, ρ', x2, x3⟩ := H
    exact ⟨σ1, ρ', by rw [x1, x2], x3⟩
  · rintro ⟨z1, τ⟩ ⟨s, s1, s2, s4⟩
    simp only at s2 s4
    subst s2
    show (∃ s', F_X11_write_149 s τ = some (Sum.inl s') ∧ _) ∨ ∃ q, F_X11_write_149 s τ = some (Sum.inr q) ∧ _
    have cs := s4.cnt
    have hwτ := wM_app hw s4
    have hMτ := wM_mA hM hwτ
    unfold F_X11_write_149
    rw [hwτ.2 26 (by omega), h26]
    by_cases c : s < S
    · left
      obtain ⟨e98, een⟩ := h98 s c
      obtain ⟨e, he⟩ : ∃ e, e = ent s := ⟨_, rfl⟩
      rw [← he] at e98 een
      obtain ⟨t2, -, -, a8, -⟩ := h.2.2.2.1 e een
      obtain ⟨A, hA⟩ : ∃ A : Nat, μ (T + 10) e = A := ⟨(μ (T + 10) e).toNat, by omega⟩
      have lm1 := preS_mono (T := T) (n := n) (μ := μ) (ent := ent) (show s + 1 ≤ S by omega)
      have hsp : preS T n μ ent (s + 1) = preS T n μ ent s ++ shpL T n μ s e := by rw [he]; rfl
      rw [hsp, List.length_append] at lm1
      have hshp : shpL T n μ s e = rowL ((s : Int) + 1) ++ (rowL (μ (T + 2) e) ++ ([b8 (kdB T n μ e)] ++ (prsF T μ e A 0 ++ lowL 0 2))) := by unfold shpL; rw [hA, Int.toNat_natCast]
      have hlen : (shpL T n μ s e).length = (rowL ((s : Int) + 1)).length + ((rowL (μ (T + 2) e)).length + (1 + ((prsF T μ e A 0).length + 2))) := by
        rw [hshp, List.length_append, List.length_append, List.length_append, List.length_append, lowL_len]
        rfl
      have r1 := rowL_len (v := (s : Int) + 1)
      have r2 := rowL_len (v := μ (T + 2) e)
      obtain ⟨τ1, p1, q1⟩ := Q_row (ρ := τ) (v := (s : Int) + 1) (by omega) (by omega) (by omega)
      have c1 := q1.cnt
      have w1 := wM_app hwτ q1
      have m1 := wM_mA hM w1
      obtain ⟨τ2, p2, q2⟩ := Q_row (ρ := τ1) (v := μ (T + 2) e) (by omega) (by omega) (by omega)
      have c2 := q2.cnt
      have w2 := wM_app w1 q2
      have m2 := wM_mA hM w2
      obtain ⟨τ3, p3, q3⟩ := Q_put (ρ := τ2) (v := kdB T n μ e) (by omega) (by omega)
      have c3 := q3.cnt
      simp only [List.length_cons, List.length_nil] at c3
      have w3 := wM_app w2 q3
      have I : ∀ (k j : Nat) (ω : bM), j + k = A → wM lm ω → 0 ≤ ω 76 36 → ω 76 36 + ((prsF T μ e k j).length : Int) + 2 ≤ 40000 → ∃ ρ', bLoop (fun z : Int × bM => F_X11_write_219 s (400 * (b : Int) + e) z.1 z.2) (((3200 * b + (8 * e + j) : Nat) : Int), ω) = some (.inl ((s : Int) + 1, ρ')) ∧ AppL 76 36 93 ω ρ' (prsF T μ e k j ++ lowL 0 2) := by
        intro k
        induction k with
        | zero =>
          intro j ω hj hwω z0 z1
          unfold prsF at z1 ⊢
          simp only [List.length_nil] at z1
          obtain ⟨ω1, b1, d1⟩ := Q_put (ρ := ω) (v := 0) z0 (by omega)
          have k1 := d1.cnt
          simp only [List.length_cons, List.length_nil] at k1
          obtain ⟨ω2, b2, d2⟩ := Q_put (ρ := ω1) (v := 0) (by omega) (by omega)
          refine ⟨ω2, bLoop_done ?_, ?_⟩
          · show F_X11_write_219 s (400 * (b : Int) + e) _ ω = _
            unfold F_X11_write_219
            have r84 := ((wM_mA hM hwω).2.1 e een).2.2
            rw [bG_pos (by constructor <;> omega), bG_pos (by omega), t400, r84, bG_pos (by constructor <;> omega), if_pos (by omega), b1, bMm_some, b2, bMm_some, bG_pos (by constructor <;> omega)]
          · rw [List.nil_append]
            unfold lowL
            rw [low0]
            exact d1.trans d2 z0
        | succ k ih =>
          intro j ω hj hwω z0 z1
          unfold prsF at z1 ⊢
          rw [List.length_append, List.length_append] at z1
          have fm := cAt_form h een (k := j) (by omega)
          have g1 := rowL_len (v := μ (T + 11) (8 * e + j))
          have g2 := rowL_len (v := μ (T + 12) (8 * e + j))
          have mω := wM_mA hM hwω
          obtain ⟨⟨r85, r86, -⟩, -⟩ := mω.2.2 e een j (by omega)
          obtain ⟨ω1, b1, d1⟩ := Q_row (ρ := ω) (v := μ (T + 11) (8 * e + j)) (by omega) z0 (by omega)
          have k1 := d1.cnt
          have v1 := wM_app hwω d1
          obtain ⟨ω2, b2, d2⟩ := Q_row (ρ := ω1) (v := μ (T + 12) (8 * e + j)) (by omega) (by omega) (by omega)
          have k2 := d2.cnt
          obtain ⟨ρ', f1, f3⟩ := ih (j + 1) ω2 (by omega) (wM_app v1 d2) (by omega) (by omega)
          refine ⟨ρ', ?_, by rw [List.append_assoc, List.append_assoc]; exact d1.trans (d2.trans f3 (by omega)) z0⟩
          rw [← f1]
          refine bLoop_step (f := fun z : Int × bM => F_X11_write_219 s (400 * (b : Int) + e) z.1 z.2) ?_
          show F_X11_write_219 s (400 * (b : Int) + e) _ ω = _
          unfold F_X11_write_219
          have r84 := (mω.2.1 e een).2.2
          have o86 : ω1 86 (3200 * b + (8 * e + j)) = μ (T + 12) (8 * e + j) := by rw [d1.row (by decide) (by decide)]; exact r86
          rw [bG_pos (by constructor <;> omega), bG_pos (by omega), t400, r84, bG_pos (by constructor <;> omega), if_neg (by omega), bG_pos (by omega), Int.toNat_natCast, r85, b1, bMm_some, bG_pos (by omega), o86, b2, bMm_some, bG_pos (by constructor <;> omega), show ((3200 * b + (8 * e + j) : Nat) : Int) + 1 = ((3200 * b + (8 * e + (j + 1)) : Nat) : Int) by omega]
      obtain ⟨ρ', f1, f3⟩ := I A 0 τ3 (by omega) w3 (by omega) (by omega)
      have hfin : AppL 76 36 93 σ ρ' (preS T n μ ent (s + 1)) := by
        rw [hsp, hshp]
        exact s4.trans (q1.trans (q2.trans (q3.trans f3 (by omega)) (by omega)) (by omega)) (by omega)
      have e3 : τ 76 3 = b := hMτ.1.2.1
      rw [if_neg (by omega), bG_pos (by omega), Int.toNat_natCast, hwτ.1 98 (by omega) (by omega), e98, M_at hb01 e3 (by omega), Option.bind_some, bG_pos (by constructor <;> omega), p1, bMm_some, bG_pos (by omega), t400, (m1.2.1 e een).1, p2, bMm_some, bG_pos (by omega), w2.1 98 (by omega) (by omega), e98, M_first m2.1 n4, Option.bind_some, show 8 * (400 * (b : Int) + e) = ((3200 * b + (8 * e + 0) : Nat) : Int) by omega]
      unfold kdB at p3
      by_cases x : scan (μ (T + 3)) e 0 n = -1
      · rw [if_pos x] at p3
        rw [if_neg (fun q => q x), p3, bMm_some, bG_pos (by constructor <;> omega)]
        exact ⟨_, f1, ⟨s + 1, by omega, by simp, hfin⟩, by simp only; omega⟩
      · rw [if_neg x] at p3
        rw [if_pos x, p3, bMm_some, bG_pos (by constructor <;> omega)]
        exact ⟨_, f1, ⟨s + 1, by omega, by simp, hfin⟩, by simp only; omega⟩
    · right
      have : s = S := by omega
      subst this
      obtain ⟨τ1, p1, q1⟩ := Q_put (ρ := τ) (v := 0) (by omega) (by omega)
      have w1 := wM_app hwτ q1
      obtain ⟨ρ', y1, y2⟩ := K (bset τ1 76 36 0) (wM_at w1) bset_at
      rw [if_pos (by omega), p1, bMm_some, y1]
      exact ⟨_, rfl, τ1, ρ', rfl, w1, s4.trans q1 (by omega), y2⟩
theorem Q_texts (hbμ : bOk μ) (h : cT T n m μ) (hM : mA T b n m μ lm) {p : Nat × (Nat → Nat)} (hp : ∀ t, t < p.1 → slT T n μ (p.2 t)) (hp3 : p.1 ≤ 3200) (hx : txM T b μ p lm) (hN : tP T μ p p.1 ≤ 8000) {ans : Int} {LS LE : List Int} (K : ∀ σ1, wM lm σ1 → σ1 76 36 = 24000 → ∃ σ2 ρ', bLoop (fun z : Int × bM => F_X11_write_149 z.1 z.2) (0, σ1) = some (ans, ρ') ∧ wM lm σ2 ∧ AppL 76 36 93 σ1 σ2 LS ∧ AppL 76 36 93 (bset σ2 76 36 0) ρ' LE)
    (hw : wM lm σ) (h0 : σ 76 36 = 32000) : ∃ σ1 σ2 ρ', bLoop (fun z : Int × bM => F_X11_write_110 z.1 z.2) (0, σ) = some (ans, ρ') ∧ AppL 76 36 93 σ σ1 (preT T μ p.2 p.1) ∧ AppL 76 36 93 (bset σ1 76 36 24000) σ2 LS ∧ AppL 76 36 93 (bset σ2 76 36 0) ρ' LE := by
  have hb01 := hM.1.1
  have H := bLoop_inv (f := fun z : Int × bM => F_X11_write_110 z.1 z.2) (fun z => ∃ t : Nat, t ≤ p.1 ∧ z.1 = t ∧ AppL 76 36 93 σ z.2 (preT T μ p.2 t)) (fun z => p.1 - z.1.toNat) (fun r => ∃ σ1 σ2 ρ', r = (ans, ρ') ∧ AppL 76 36 93 σ σ1 (preT T μ p.2 p.1) ∧ AppL 76 36 93 (bset σ1 76 36 24000) σ2 LS ∧ AppL 76 36 93 (bset σ2 76 36 0) ρ' LE) ?_ (0, σ) ⟨0, by omega, rfl, AppL.nil⟩
  · obtain ⟨r, x1, σ1, σ2, ρ', x2, x3⟩ := H
    exact ⟨σ1, σ2, ρ', by rw [x1, x2], x3⟩
  · rintro ⟨z1, τ⟩ ⟨t, t1, t2, t4⟩
    simp only at t2 t4
    subst t2
    show (∃ s', F_X11_write_110 t τ = some (Sum.inl s') ∧ _) ∨ ∃ q, F_X11_write_110 t τ = some (Sum.inr q) ∧ _
    have ct := t4.cnt
    have lt := preT_len h hp t t1
    have lt0 := tP_mono h hp t1 (Nat.le_refl _)
    have hwτ := wM_app hw t4
    have hMτ := wM_mA hM hwτ
    unfold F_X11_write_110
    rw [hwτ.2 29 (by omega), hx.1]
    by_cases c : t < p.1
    · left
      obtain ⟨a1, a2, a3, a4⟩ := slT_rg h (hp t c)
      have lt1 := tP_mono h hp (show t + 1 ≤ p.1 by omega) (Nat.le_refl _)
      have lt2 : tP T μ p (t + 1) = tP T μ p t + (μ (T + 14) (p.2 t) + 1) := rfl
      have e99 := hx.2.1 t c
      obtain ⟨a, ha⟩ : ∃ a, a = p.2 t := ⟨_, rfl⟩
      obtain ⟨e, k, ee, ek, eak, ef⟩ := hp t c
      rw [← ha] at a1 a2 a3 a4 lt2 e99 eak ef
      obtain ⟨⟨r85, r86, r89⟩, -, r88⟩ := hMτ.2.2 e ee k ek
      rw [← eak] at r89 r88
      obtain ⟨x1, x2⟩ := r88 (by unfold isLet; omega)
      obtain ⟨τ1, p1, q1⟩ := Q_text (ρ := τ) (a := 3200 * b + a) (len := (μ (T + 14) a).toNat) (f := txtF T μ a) (by omega) (by rw [r89]; omega) (by omega) (fun i hi => ⟨x2 i (by omega), by unfold txtF; exact bO_b (q := 5) (n := 30000) hbμ rfl⟩) (by omega) (by omega)
      have c1 := q1.cnt
      rw [cpL_len] at c1
      obtain ⟨τ2, p2, q2⟩ := Q_put (ρ := τ1) (v := 0) (by omega) (by omega)
      rw [if_neg (by omega), bG_pos (by omega), Int.toNat_natCast, hwτ.1 99 (by omega) (by omega), e99, p1, bMm_some, p2, bMm_some, bG_pos (by constructor <;> omega)]
      refine ⟨_, rfl, ⟨t + 1, by omega, by simp, ?_⟩, by simp only; omega⟩
      show AppL 76 36 93 σ τ2 (preT T μ p.2 t ++ (cpL (txtF T μ (p.2 t)) (μ (T + 14) (p.2 t)).toNat ++ [b8 0]))
      rw [← ha]
      exact t4.trans (q1.trans q2 (by omega)) (by omega)
    · right
      have : t = p.1 := by omega
      subst this
      obtain ⟨σ2, ρ', y1, y2, y3, y4⟩ := K (bset τ 76 36 24000) (wM_at hwτ) bset_at
      rw [if_pos (by omega), show F_X11_from 1 τ = some 24000 from rfl, Option.bind_some, y1]
      exact ⟨_, rfl, τ, σ2, ρ', rfl, t4, y3, y4⟩
theorem M_shapeBytes (h : cT T n m μ) (hM : mA T b n m μ lm) {S : Nat} {ent : Nat → Nat} (h26 : lm 76 26 = S) (hS : S ≤ 400) (h98 : ∀ s, s < S → lm 98 s = ent s ∧ ent s < n) : F_X11_shapeBytes lm = some (1 + sumI (fun s => rb ((s : Int) + 1) + rb (μ (T + 2) (ent s)) + 1 + szS T μ (ent s) + 2) S) := by
  have n4 := h.2.1.2
  have hb01 := hM.1.1
  have e3 : lm 76 3 = b := hM.1.2.1
  obtain ⟨f, hf⟩ : ∃ f : Nat → Int, f = fun (s : Nat) => rb ((s : Int) + 1) + rb (μ (T + 2) (ent s)) + 1 + szS T μ (ent s) + 2 := ⟨_, rfl⟩
  rw [← hf]
  have frg : ∀ s, s ≤ S → 0 ≤ sumI f s ∧ sumI f s ≤ 200 * s := fun s hs => by
    have := sumI_rg' (f := f) (lo := 0) (hi := 200) s (fun i hi => by
      have a1 := rb_1 (v := (i : Int) + 1)
      have a2 := rb_1 (v := μ (T + 2) (ent i))
      have a3 := szS_rg h (h98 i (by omega)).2
      rw [hf]
      (try simp only)
      omega)
    omega
  have H := bLoop_inv (f := fun z : Int × Int => F_X11_shapeBytes_4 lm z.1 z.2) (fun z => ∃ s : Nat, s ≤ S ∧ z.2 = s ∧ z.1 = 1 + sumI f s) (fun z => S - z.2.toNat) (fun r => r = 1 + sumI f S) ?_ (1, 0) ⟨0, by omega, rfl, rfl⟩
  · obtain ⟨r, x1, x2⟩ := H
    unfold F_X11_shapeBytes
    rw [x1, x2]
  · rintro ⟨z1, z2⟩ ⟨s, s1, s2, s3⟩
    simp only at s2 s3
    subst s2
    show (∃ s', F_X11_shapeBytes_4 lm z1 s = some (Sum.inl s') ∧ _) ∨ ∃ q, F_X11_shapeBytes_4 lm z1 s = some (Sum.inr q) ∧ _
    have fs := frg s s1
    unfold F_X11_shapeBytes_4
    rw [h26]
    by_cases c : s < S
    · left
      obtain ⟨e98, een⟩ := h98 s c
      obtain ⟨e, he⟩ : ∃ e, e = ent s := ⟨_, rfl⟩
      rw [← he] at e98 een
      obtain ⟨t2, -, -, a8, -⟩ := h.2.2.2.1 e een
      obtain ⟨A, hA⟩ : ∃ A : Nat, μ (T + 10) e = A := ⟨(μ (T + 10) e).toNat, by omega⟩
      have r1 := rb_1 (v := (s : Int) + 1)
      have r2 := rb_1 (v := μ (T + 2) e)
      obtain ⟨g, hg⟩ : ∃ g : Nat → Int, g = fun k => rb (μ (T + 11) (8 * e + k)) + rb (μ (T + 12) (8 * e + k)) := ⟨_, rfl⟩
      have hsz : szS T μ e = sumI g A := by unfold szS; rw [hg, hA, Int.toNat_natCast]
      have grg : ∀ j : Nat, 0 ≤ sumI g j ∧ sumI g j ≤ 20 * j := fun j => by
        have := sumI_rg (f := g) (lo := 0) (hi := 20) (fun i => by
          have h1 := rb_1 (v := μ (T + 11) (8 * e + i))
          have h2 := rb_1 (v := μ (T + 12) (8 * e + i))
          rw [hg]
          (try simp only)
          omega) j
        omega
      have L : ∀ k j : Nat, j + k = A → bLoop (fun z : Int × Int => F_X11_shapeBytes_52 s (400 * (b : Int) + e) lm z.1 z.2) (z1 + rb ((s : Int) + 1) + rb (μ (T + 2) e) + 3 + sumI g j, ((3200 * b + (8 * e + j) : Nat) : Int)) = some (.inl (z1 + rb ((s : Int) + 1) + rb (μ (T + 2) e) + 3 + sumI g A, (s : Int) + 1)) := by
        intro k
        induction k with
        | zero =>
          intro j hj
          rw [show j = A by omega]
          refine bLoop_done ?_
          show F_X11_shapeBytes_52 s (400 * (b : Int) + e) lm _ _ = _
          unfold F_X11_shapeBytes_52
          rw [bG_pos (by constructor <;> omega), bG_pos (by omega), t400, (hM.2.1 e een).2.2, bG_pos (by constructor <;> omega), if_pos (by omega), bG_pos (by constructor <;> omega)]
        | succ k ih =>
          intro j hj
          have gj := grg j
          have fm := cAt_form h een (k := j) (by omega)
          have x1 := rb_1 (v := μ (T + 11) (8 * e + j))
          have x2 := rb_1 (v := μ (T + 12) (8 * e + j))
          obtain ⟨⟨r85, r86, -⟩, -⟩ := hM.2.2 e een j (by omega)
          have hgs : sumI g (j + 1) = sumI g j + (rb (μ (T + 11) (8 * e + j)) + rb (μ (T + 12) (8 * e + j))) := by
            show sumI g j + g j = _
            rw [hg]
          have ih := ih (j + 1) (by omega)
          rw [hgs] at ih
          refine (bLoop_step (f := fun z : Int × Int => F_X11_shapeBytes_52 s (400 * (b : Int) + e) lm z.1 z.2) (s' := (z1 + rb ((s : Int) + 1) + rb (μ (T + 2) e) + 3 + (sumI g j + (rb (μ (T + 11) (8 * e + j)) + rb (μ (T + 12) (8 * e + j)))), ((3200 * b + (8 * e + (j + 1)) : Nat) : Int))) ?_).trans ih
          show F_X11_shapeBytes_52 s (400 * (b : Int) + e) lm _ _ = _
          unfold F_X11_shapeBytes_52
          rw [bG_pos (by constructor <;> omega), bG_pos (by omega), t400, (hM.2.1 e een).2.2, bG_pos (by constructor <;> omega), if_neg (by omega), bG_pos (by omega), Int.toNat_natCast, r85, M_rowBytes (by omega), Option.bind_some, bG_pos (by constructor <;> omega), bG_pos (by omega), r86, M_rowBytes (by omega), Option.bind_some, bG_pos (by constructor <;> omega), bG_pos (by constructor <;> omega), show z1 + rb ((s : Int) + 1) + rb (μ (T + 2) e) + 3 + sumI g j + rb (μ (T + 11) (8 * e + j)) + rb (μ (T + 12) (8 * e + j)) = z1 + rb ((s : Int) + 1) + rb (μ (T + 2) e) + 3 + (sumI g j + (rb (μ (T + 11) (8 * e + j)) + rb (μ (T + 12) (8 * e + j)))) by omega, show ((3200 * b + (8 * e + j) : Nat) : Int) + 1 = ((3200 * b + (8 * e + (j + 1)) : Nat) : Int) by omega]
      have L0 := L A 0 (by omega)
      rw [show sumI g 0 = 0 from rfl, Int.add_zero] at L0
      rw [if_neg (by omega), bG_pos (by omega), Int.toNat_natCast, e98, M_at hb01 e3 (by omega), Option.bind_some, bG_pos (by constructor <;> omega), M_rowBytes (by omega), Option.bind_some, bG_pos (by constructor <;> omega), bG_pos (by omega), t400, (hM.2.1 e een).1, M_rowBytes (by omega), Option.bind_some, bG_pos (by constructor <;> omega), bG_pos (by constructor <;> omega), bG_pos (by constructor <;> omega), show 8 * (400 * (b : Int) + e) = ((3200 * b + (8 * e + 0) : Nat) : Int) by omega, L0]
      refine ⟨_, rfl, ⟨s + 1, by omega, by simp, ?_⟩, by simp only; omega⟩
      simp only
      have hfs : sumI f (s + 1) = sumI f s + (rb ((s : Int) + 1) + rb (μ (T + 2) e) + 1 + szS T μ e + 2) := by
        show sumI f s + f s = _
        simp only [hf, ← he]
      rw [hfs, hsz]
      omega
    · right
      have : s = S := by omega
      subst this
      rw [if_pos (by omega)]
      exact ⟨_, rfl, s3⟩
end
end FH
