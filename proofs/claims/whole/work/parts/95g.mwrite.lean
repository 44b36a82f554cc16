section FG
section
variable {T b n m : Nat} {μ σ lm : bM} {X tp sh clo tot : Nat → Int} {ord : Nat → Nat}
/-- the model, while it writes: all stands but the bytes and the place where the next goes -/
def wM (lm σ : bM) : Prop := (∀ q, q ≠ 76 → q ≠ 93 → σ q = lm q) ∧ ∀ k, k ≠ 36 → σ 76 k = lm 76 k
theorem wM_app {ρ' : bM} {L : List Int} (h : wM lm σ) (ha : AppL 76 36 93 σ ρ' L) : wM lm ρ' := ⟨fun q q1 q2 => by rw [ha.row q1 q2, h.1 q q1 q2], fun k hk => by rw [ha.2.2.1 k hk, h.2 k hk]⟩
theorem wM_at {p : Int} (h : wM lm σ) : wM lm (bset σ 76 36 p) := ⟨fun q q1 q2 => by rw [bset_q q1, h.1 q q1 q2], fun k hk => by rw [bset_k hk, h.2 k hk]⟩
theorem wM_mA (hM : mA T b n m μ lm) (h : wM lm σ) : mA T b n m μ σ := mA_congr hM (h.2 3 (by omega)) (fun q q1 q2 => h.1 q (by omega) (by omega))
theorem wM_tx {p : Nat × (Nat → Nat)} (hx : txM T b μ p lm) (h : wM lm σ) : txM T b μ p σ := by
  obtain ⟨x1, x2, x3, x4⟩ := hx
  exact ⟨by rw [h.2 29 (by omega)]; exact x1, fun t ht => by rw [h.1 99 (by omega) (by omega)]; exact x2 t ht, fun t ht => by rw [h.1 100 (by omega) (by omega)]; exact x3 t ht, by rw [h.2 32 (by omega)]; exact x4⟩
theorem Q_entry (hbμ : bOk μ) (h : cT T n m μ) (ho : ∀ k, k < n → ord k < n) (hM : mA T b n m μ lm) (hX : ∀ e, e < n → lm 101 e = X e ∧ 0 ≤ X e ∧ X e ≤ 900000) (hx : txM T b μ (tA T μ ord n) lm) (htp : ∀ a, slT T n μ a → ∃ t : Nat, t < (tA T μ ord n).1 ∧ scan (fun t => tm T μ ((tA T μ ord n).2 t) a) 1 0 (tA T μ ord n).1 = t ∧ tp a = tP T μ (tA T μ ord n) t)
    (h97 : ∀ e, e < n → lm 97 e = sh e ∧ 1 ≤ sh e ∧ sh e ≤ 400) {o e : Nat} (ho4 : o < 400) (he : e < n) (h96 : lm 96 o = clo e ∧ 0 ≤ clo e ∧ clo e ≤ 30) (hw : wM lm σ) (h0 : 0 ≤ σ 76 36) (hr : σ 76 36 + (entL T μ X tp sh clo e).length ≤ 40000) :
    ∃ ρ', F_X11_write_370 o e (400 * (b : Int) + e) σ = some (.inl ((o : Int) + 1, ρ')) ∧ AppL 76 36 93 σ ρ' (entL T μ X tp sh clo e) := by
  have n4 := h.2.1.2
  have hb01 := hM.1.1
  have a8 := (h.2.2.2.1 e he).2.2.2.1
  obtain ⟨A, hA⟩ : ∃ A : Nat, μ (T + 10) e = A := ⟨(μ (T + 10) e).toNat, by omega⟩
  obtain ⟨s97, s971, s972⟩ := h97 e he
  unfold entL at hr ⊢
  rw [hA, Int.toNat_natCast] at hr ⊢
  rw [List.length_append, List.length_append, lowL_len] at hr
  have h2 := rowL_len (v := sh e)
  obtain ⟨σ1, a1, a2⟩ := Q_row (ρ := σ) (v := sh e) (by omega) h0 (by omega)
  have w1 := wM_app hw a2
  have c1 := a2.cnt
  -- the ends
  have Z : ∀ (k j : Nat) (τ : bM), j + k = (clo e).toNat → wM lm τ → 0 ≤ τ 76 36 → τ 76 36 + k ≤ 40000 → ∃ ρ', bLoop (fun z : Int × bM => F_X11_write_422 o z.1 z.2) ((j : Int), τ) = some (.inl ((o : Int) + 1, ρ')) ∧ AppL 76 36 93 τ ρ' (List.replicate k 0) := by
    intro k
    induction k with
    | zero =>
      intro j τ hj hwτ _ _
      refine ⟨τ, bLoop_done ?_, AppL.nil⟩
      show F_X11_write_422 o j τ = _
      unfold F_X11_write_422
      rw [bG_pos (by omega), Int.toNat_natCast, hwτ.1 96 (by omega) (by omega), h96.1, if_pos (by omega), bG_pos (by constructor <;> omega)]
    | succ k ih =>
      intro j τ hj hwτ t0 t1
      obtain ⟨τ1, b1, b2⟩ := Q_put (ρ := τ) (v := 0) t0 (by omega)
      have c2 := b2.cnt
      simp only [List.length_cons, List.length_nil] at c2
      obtain ⟨ρ', d1, d2⟩ := ih (j + 1) τ1 (by omega) (wM_app hwτ b2) (by omega) (by omega)
      refine ⟨ρ', ?_, ?_⟩
      · rw [Int.natCast_succ] at d1
        rw [← d1]
        refine bLoop_step (f := fun z : Int × bM => F_X11_write_422 o z.1 z.2) ?_
        show F_X11_write_422 o j τ = _
        unfold F_X11_write_422
        rw [bG_pos (by omega), Int.toNat_natCast, hwτ.1 96 (by omega) (by omega), h96.1, if_neg (by omega), b1, bMm_some, bG_pos (by constructor <;> omega)]
      · exact b2.trans d2 t0
  have H : ∀ (k j : Nat) (τ : bM), j + k = A → wM lm τ → 0 ≤ τ 76 36 → τ 76 36 + ((valsF T μ X tp e k j).length : Int) + ((clo e).toNat : Int) ≤ 40000 → ∃ ρ', bLoop (fun z : Int × bM => F_X11_write_389 o (400 * (b : Int) + e) z.1 z.2) (((3200 * b + (8 * e + j) : Nat) : Int), τ) = some (.inl ((o : Int) + 1, ρ')) ∧ AppL 76 36 93 τ ρ' (valsF T μ X tp e k j ++ lowL 0 (clo e).toNat) := by
    intro k
    induction k with
    | zero =>
      intro j τ hj hwτ t0 t1
      unfold valsF at t1 ⊢
      simp only [List.length_nil] at t1
      obtain ⟨ρ', z1, z2⟩ := Z (clo e).toNat 0 τ (by omega) hwτ t0 (by omega)
      refine ⟨ρ', bLoop_done ?_, by rw [List.nil_append]; unfold lowL; rw [low0]; exact z2⟩
      show F_X11_write_389 o (400 * (b : Int) + e) _ τ = _
      unfold F_X11_write_389
      have r84 := ((wM_mA hM hwτ).2.1 e he).2.2
      rw [bG_pos (by constructor <;> omega), bG_pos (by omega), t400, r84, bG_pos (by constructor <;> omega), if_pos (by omega)]
      have z1' : bLoop (fun z : Int × bM => F_X11_write_422 o z.1 z.2) (0, τ) = some (.inl ((o : Int) + 1, ρ')) := z1
      rw [z1']
      rfl
    | succ k ih =>
      intro j τ hj hwτ t0 t1
      unfold valsF at t1 ⊢
      rw [List.length_append] at t1
      have hMτ := wM_mA hM hwτ
      obtain ⟨τ1, b1, b2⟩ := Q_value (X := X) (tp := tp) hbμ h ho hMτ (fun e he => by rw [hwτ.1 101 (by omega) (by omega)]; exact hX e he) (wM_tx hx hwτ) htp he (k := j) (by omega) t0 (by omega)
      have c2 := b2.cnt
      obtain ⟨ρ', d1, d2⟩ := ih (j + 1) τ1 (by omega) (wM_app hwτ b2) (by omega) (by omega)
      refine ⟨ρ', ?_, by rw [List.append_assoc]; exact b2.trans d2 t0⟩
      rw [← d1]
      refine bLoop_step (f := fun z : Int × bM => F_X11_write_389 o (400 * (b : Int) + e) z.1 z.2) ?_
      show F_X11_write_389 o (400 * (b : Int) + e) _ τ = _
      unfold F_X11_write_389
      have r84 := (hMτ.2.1 e he).2.2
      rw [bG_pos (by constructor <;> omega), bG_pos (by omega), t400, r84, bG_pos (by constructor <;> omega), if_neg (by omega), b1, bMm_some, bG_pos (by constructor <;> omega), show ((3200 * b + (8 * e + j) : Nat) : Int) + 1 = ((3200 * b + (8 * e + (j + 1)) : Nat) : Int) by omega]
  obtain ⟨ρ', d1, d2⟩ := H A 0 σ1 (by omega) w1 (by omega) (by omega)
  refine ⟨ρ', ?_, a2.trans d2 h0⟩
  unfold F_X11_write_370
  rw [bG_pos (by omega), Int.toNat_natCast, hw.1 97 (by omega) (by omega), s97, a1, bMm_some, bG_pos (by constructor <;> omega), show 8 * (400 * (b : Int) + e) = ((3200 * b + (8 * e + 0) : Nat) : Int) by omega]
  exact d1
/-- all entries -/
theorem Q_entries (hbμ : bOk μ) (h : cT T n m μ) (ho : ordOk (μ (T + 3)) n ord) (hM : mA T b n m μ lm) (hX : ∀ e, e < n → lm 101 e = X e ∧ 0 ≤ X e ∧ X e ≤ 900000) (hx : txM T b μ (tA T μ ord n) lm) (htp : ∀ a, slT T n μ a → ∃ t : Nat, t < (tA T μ ord n).1 ∧ scan (fun t => tm T μ ((tA T μ ord n).2 t) a) 1 0 (tA T μ ord n).1 = t ∧ tp a = tP T μ (tA T μ ord n) t)
    (h97 : ∀ e, e < n → lm 97 e = sh e ∧ 1 ≤ sh e ∧ sh e ≤ 400) (h96 : ∀ k, k < n → lm 96 k = clo (ord k) ∧ 0 ≤ clo (ord k) ∧ clo (ord k) ≤ 30) (h23 : lm 76 23 = n) (h95 : ∀ k, k < n → lm 95 k = ord k) (h103 : ∀ u, u < m → lm 103 u = tot u ∧ 0 ≤ tot u ∧ tot u ≤ 900000) (h94 : ∀ k, k < 3 → 0 ≤ lm 94 k ∧ lm 94 k ≤ 40000)
    (hN : (preL T μ X tp sh clo tot ord n).length ≤ 24000) (hw : wM lm σ) (h0 : σ 76 36 = 0) :
    ∃ ρ', bLoop (fun z : Int × bM => F_X11_write_295 z.1 z.2) (0, σ) = some (lm 94 0 + lm 94 1 + lm 94 2, ρ') ∧ AppL 76 36 93 σ ρ' (preL T μ X tp sh clo tot ord n) := by
  have n4 := h.2.1.2
  have m6 := h.2.2.1.2
  have hb01 := hM.1.1
  obtain ⟨PR, hPR⟩ : ∃ PR : Nat → List Int, PR = preL T μ X tp sh clo tot ord := ⟨_, rfl⟩
  rw [← hPR] at hN ⊢
  have hsuc : ∀ i, PR (i + 1) = PR i ++ entU T μ X tp sh clo tot ord i := fun i => by rw [hPR]; rfl
  have hmono : ∀ i j, i ≤ j → (PR i).length ≤ (PR j).length := fun i j hij => by rw [hPR]; exact preL_mono hij
  have hP0 : PR 0 = [] := by rw [hPR]; rfl
  have H := bLoop_inv (f := fun z : Int × bM => F_X11_write_295 z.1 z.2) (fun z => ∃ o : Nat, o ≤ n ∧ z.1 = o ∧ AppL 76 36 93 σ z.2 (PR o)) (fun z => n - z.1.toNat) (fun r => ∃ ρ', r = (lm 94 0 + lm 94 1 + lm 94 2, ρ') ∧ AppL 76 36 93 σ ρ' (PR n)) ?_ (0, σ) ⟨0, by omega, rfl, by (simp only; rw [hP0]; exact AppL.nil)⟩
  · obtain ⟨r, x1, ρ', x2, x3⟩ := H
    exact ⟨ρ', by rw [x1, x2], x3⟩
  · rintro ⟨z1, τ⟩ ⟨o, o1, o2, o3⟩
    simp only at o2 o3
    subst o2
    show (∃ s', F_X11_write_295 o τ = some (Sum.inl s') ∧ _) ∨ ∃ q, F_X11_write_295 o τ = some (Sum.inr q) ∧ _
    have hwτ := wM_app hw o3
    have co := o3.cnt
    unfold F_X11_write_295
    rw [hwτ.2 23 (by omega), h23]
    by_cases c : o < n
    · left
      have hoi := (ho.1 o c).1
      obtain ⟨e, he⟩ : ∃ e, e = ord o := ⟨_, rfl⟩
      have hen : e < n := by rw [he]; exact hoi
      have hMτ := wM_mA hM hwτ
      have e3 : τ 76 3 = b := hMτ.1.2.1
      have hu0 := (h.2.2.2.1 e hen).2.2.1
      obtain ⟨u, hu⟩ : ∃ u : Nat, μ (T + 4) e = u := ⟨(μ (T + 4) e).toNat, by omega⟩
      have hum : u < m := by omega
      have t103 := h103 u hum
      have l1 := hmono (o + 1) n (by omega)
      rw [hsuc o, List.length_append] at l1
      have hEL : ∀ (τ1 : bM), wM lm τ1 → 0 ≤ τ1 76 36 → τ1 76 36 + (entL T μ X tp sh clo e).length ≤ 40000 → ∃ ρ', F_X11_write_370 o e (400 * (b : Int) + e) τ1 = some (.inl ((o : Int) + 1, ρ')) ∧ AppL 76 36 93 τ1 ρ' (entL T μ X tp sh clo e) := fun τ1 hw1 t0 t1 => Q_entry hbμ h (fun k hk => (ho.1 k hk).1) hM hX hx htp h97 (by omega) hen (by rw [he]; exact h96 o c) hw1 t0 t1
      rw [if_neg (by omega), bG_pos (by omega), Int.toNat_natCast, hwτ.1 95 (by omega) (by omega), h95 o c, ← he, M_at hb01 e3 (by omega), Option.bind_some, bG_pos (by omega), t400, hMτ.1.2.2.2.2.1 e hen, (hMτ.2.1 e hen).2.1, hu, Int.toNat_natCast]
      by_cases x : μ (T + 3) e = -1
      · have eU : entU T μ X tp sh clo tot ord o = hdrL (tot u) ++ entL T μ X tp sh clo e := by unfold entU; rw [← he, if_pos x, hu, Int.toNat_natCast]
        rw [eU, List.length_append, hdrL_len] at l1
        obtain ⟨τ1, p1, q1⟩ := Q_low (ρ := τ) (v := tot u - 4) (w := 4) (by omega) (by omega) (by omega)
        have c1 := q1.cnt
        rw [lowL_len] at c1
        obtain ⟨τ2, p2, q2⟩ := Q_low (ρ := τ1) (v := 4) (w := 2) (by omega) (by omega) (by omega)
        have c2 := q2.cnt
        rw [lowL_len] at c2
        obtain ⟨τ3, p3, q3⟩ := Q_low (ρ := τ2) (v := 0) (w := 4) (by omega) (by omega) (by omega)
        have c3 := q3.cnt
        rw [lowL_len] at c3
        obtain ⟨τ4, p4, q4⟩ := Q_put (ρ := τ3) (v := 8) (by omega) (by omega)
        have c4 := q4.cnt
        simp only [List.length_cons, List.length_nil] at c4
        have hw4 : wM lm τ4 := wM_app (wM_app (wM_app (wM_app hwτ q1) q2) q3) q4
        obtain ⟨ρ', y1, y2⟩ := hEL τ4 hw4 (by omega) (by omega)
        have hq : AppL 76 36 93 τ ρ' (entU T μ X tp sh clo tot ord o) := by
          rw [eU]
          unfold hdrL
          rw [List.append_assoc, List.append_assoc, List.append_assoc]
          exact q1.trans (q2.trans (q3.trans (q4.trans y2 (by omega)) (by omega)) (by omega)) (by omega)
        rw [if_neg (fun q => q x), bG_pos (by omega), bG_pos (by omega), hwτ.1 103 (by omega) (by omega), t103.1, bG_pos (by constructor <;> omega)]
        rw [show (4 : Int) = ((4 : Nat) : Int) from rfl] at *
        rw [p1, bMm_some]
        rw [show (2 : Int) = ((2 : Nat) : Int) from rfl] at *
        rw [p2, bMm_some, p3, bMm_some, p4, bMm_some, y1]
        refine ⟨_, rfl, ⟨o + 1, by omega, by simp, ?_⟩, by simp only; omega⟩
        simp only
        rw [hsuc o]
        exact o3.trans hq (by omega)
      · have eU : entU T μ X tp sh clo tot ord o = entL T μ X tp sh clo e := by unfold entU; rw [← he, if_neg x, List.nil_append]
        rw [eU] at l1
        obtain ⟨ρ', y1, y2⟩ := hEL τ hwτ (by omega) (by omega)
        rw [if_pos x, y1]
        refine ⟨_, rfl, ⟨o + 1, by omega, by simp, ?_⟩, by simp only; omega⟩
        simp only
        rw [hsuc o, eU]
        exact o3.trans y2 (by omega)
    · right
      have : o = n := by omega
      subst this
      have s0 := h94 0 (by omega)
      have s1 := h94 1 (by omega)
      have s2 := h94 2 (by omega)
      unfold F_X11_write_450
      rw [if_pos (by omega), hwτ.1 94 (by omega) (by omega), bG_pos (by constructor <;> omega), bG_pos (by constructor <;> omega)]
      exact ⟨_, rfl, τ, rfl, o3⟩
end
end FG
