section GF
/-! the letters kept -/
theorem sumI_le {f : Nat → Int} : ∀ n i : Nat, i ≤ n → (∀ k, k < n → 0 ≤ f k) → sumI f i ≤ sumI f n
  | 0, i, h, _ => by
    have : i = 0 := by omega
    subst this
    omega
  | n + 1, i, h, h0 => by
    by_cases c : i = n + 1
    · rw [c]; omega
    · have := sumI_le n i (by omega) (fun k hk => h0 k (by omega))
      have h2 := h0 n (by omega)
      show sumI f i ≤ sumI f n + f n
      omega
theorem sumI_0 {f : Nat → Int} {n : Nat} (h0 : ∀ k, k < n → 0 ≤ f k) : 0 ≤ sumI f n := sumI_le n 0 (by omega) h0
section
variable {r : Nat → Nat → Int} {sz : Nat → Nat} {μ μ0 μ' : bM} {T n e k D L : Nat}
theorem A_src {sec a len : Nat} (hs : Src r sz) (hc : CSrc r sz μ) (hsec : sec < 3) (h0 : 0 ≤ μ 4 1) (ha : a + len ≤ sz sec) (hr : μ 4 1 + len ≤ 30000) :
    ∃ μ', F_X6_addFrom 4 (7 + 2 * sec) a len μ = some (0, μ') ∧ App 4 1 5 μ μ' len (fun j => r sec (a + j)) := by
  have hz : sz sec ≤ 24000 := by
    obtain ⟨s0, s1, s2, s3⟩ := hs
    have : sec = 0 ∨ sec = 1 ∨ sec = 2 := by omega
    rcases this with c | c | c <;> subst c <;> omega
  have L := App.loop (q1 := 4) (k1 := 1) (q2 := 5) (μ := μ) (F := fun z => F_X6_addFrom_3 4 (7 + 2 * sec) a len z.1 z.2) (N := len) (f := fun j => r sec (a + j)) (fin := fun ν => ((0 : Int), ν)) h0 ?_ ?_
  · exact L
  · intro j ν hj hA
    have hcν : CSrc r sz ν := CSrc_cong hc fun q x y => hA.2.1 q (by omega) (by omega)
    have hat := C_oct hs hcν hsec (i := a + j) (by omega)
    have e1 := hA.1
    obtain ⟨ν', f1, f2⟩ := A_add (s := 4) (μ := ν) ⟨by omega, by show _ ≤ ((30000 : Nat) : Int); omega⟩ (by show _ < ((30000 : Nat) : Int); omega) (oc (r sec) (a + j) : Int)
    refine ⟨ν', ?_, f2.congr rfl (fun i hi => by
      show b8 (oc (r sec) (a + j) : Int) = r sec (a + j)
      rw [← oc_eq]
      exact b8_mod (hs.2.2.2 sec (a + j)))⟩
    show F_X6_addFrom_3 4 (7 + 2 * sec) a len j ν = _
    unfold F_X6_addFrom_3
    rw [if_neg (by omega), bG_pos (by constructor <;> omega), show (a : Int) + (j : Int) = ((a + j : Nat) : Int) from rfl, hat, Option.bind_some, f1, bMm_some, bG_pos (by constructor <;> omega)]
  · intro ν hA
    show F_X6_addFrom_3 4 (7 + 2 * sec) a len len ν = _
    unfold F_X6_addFrom_3
    rw [if_pos (by omega)]
/-- what the reader left -/
def KG (r : Nat → Nat → Int) (sz : Nat → Nat) (T n L : Nat) (μ0 : bM) : Prop := CSrc r sz μ0 ∧ μ0 1 5 = (T : Int) ∧ μ0 T 1 = (n : Int) ∧ n ≤ 400 ∧ (∀ e, e < n → 0 ≤ μ0 (T + 10) e ∧ μ0 (T + 10) e ≤ 8) ∧ (L : Int) = sumI (fun e => sumI (fun k => μ0 (T + 14) (8 * e + k)) (μ0 (T + 10) e).toNat) n ∧ L ≤ 30000 ∧
  ∀ e, e < n → ∀ k : Nat, (k : Int) < μ0 (T + 10) e → (isLet (μ0 (T + 12) (8 * e + k)) ∧ ∃ st len : Nat, μ0 (T + 13) (8 * e + k) = (st : Int) ∧ μ0 (T + 14) (8 * e + k) = (len : Int) ∧ st + len ≤ sz (secN (μ0 (T + 12) (8 * e + k)))) ∨ (¬ isLet (μ0 (T + 12) (8 * e + k)) ∧ μ0 (T + 14) (8 * e + k) = 0)
/-- what has been kept of the slots before Z -/
def KS (r : Nat → Nat → Int) (T n Z D : Nat) (μ0 μ : bM) : Prop :=
  (∀ q, q ≠ 4 → q ≠ 5 → q ≠ T + 13 → μ q = μ0 q) ∧ μ 4 1 = (D : Int) ∧ (∀ j, Z ≤ j → μ (T + 13) j = μ0 (T + 13) j) ∧
  ∀ e, e < n → ∀ k : Nat, (k : Int) < μ0 (T + 10) e → 8 * e + k < Z → (¬ isLet (μ0 (T + 12) (8 * e + k)) → μ (T + 13) (8 * e + k) = μ0 (T + 13) (8 * e + k)) ∧
    (isLet (μ0 (T + 12) (8 * e + k)) → ∃ st : Nat, μ (T + 13) (8 * e + k) = (st : Int) ∧ (st : Int) + μ0 (T + 14) (8 * e + k) ≤ D ∧ ∀ i : Nat, (i : Int) < μ0 (T + 14) (8 * e + k) → μ 5 (st + i) = r (secN (μ0 (T + 12) (8 * e + k))) ((μ0 (T + 13) (8 * e + k)).toNat + i))
def kpre (T : Nat) (μ0 : bM) (e k : Nat) : Int := sumI (fun e => sumI (fun k => μ0 (T + 14) (8 * e + k)) (μ0 (T + 10) e).toNat) e + sumI (fun k => μ0 (T + 14) (8 * e + k)) k
theorem kpre_le (h : KG r sz T n L μ0) (he : e < n) (hk : (k : Int) ≤ μ0 (T + 10) e) : kpre T μ0 e k ≤ L := by
  obtain ⟨g1, g2, g3, g4, g5, g6, g7, g8⟩ := h
  have nn : ∀ e, e < n → ∀ k : Nat, (k : Int) < μ0 (T + 10) e → 0 ≤ μ0 (T + 14) (8 * e + k) := fun e he k hk => by
    rcases g8 e he k hk with ⟨_, st, len, _, h2, _⟩ | ⟨_, h2⟩ <;> omega
  have a5 := g5 e he
  have s1 := sumI_le (f := fun k => μ0 (T + 14) (8 * e + k)) (μ0 (T + 10) e).toNat k (by omega) (fun i hi => nn e he i (by omega))
  have s2 := sumI_le (f := fun e => sumI (fun k => μ0 (T + 14) (8 * e + k)) (μ0 (T + 10) e).toNat) n (e + 1) (by omega) (fun i hi => sumI_0 fun k hk => nn i hi k (by have := g5 i hi; omega))
  have s3 : sumI (fun e => sumI (fun k => μ0 (T + 14) (8 * e + k)) (μ0 (T + 10) e).toNat) (e + 1) = sumI (fun e => sumI (fun k => μ0 (T + 14) (8 * e + k)) (μ0 (T + 10) e).toNat) e + sumI (fun k => μ0 (T + 14) (8 * e + k)) (μ0 (T + 10) e).toNat := rfl
  unfold kpre
  omega
theorem K_in (hs : Src r sz) (hT : T = 31 ∨ T = 61) (hg : KG r sz T n L μ0) (he : e < n) : ∀ (d k D : Nat) (μ : bM), (k : Int) + d = μ0 (T + 10) e → KS r T n (8 * e + k) D μ0 μ → (D : Int) = kpre T μ0 e k →
    ∃ (D' : Nat) (μ' : bM), bLoop (fun z : Int × bM => F_X10_keepLetters_23 e z.1 z.2) ((k : Int), μ) = some (.inl ((e : Int) + 1, μ')) ∧ KS r T n (8 * (e + 1)) D' μ0 μ' ∧ (D' : Int) = kpre T μ0 (e + 1) 0 := by
  obtain ⟨g1, g2, g3, g4, g5, g6, g7, g8⟩ := id hg
  have A8 := g5 e he
  intro d
  induction d with
  | zero =>
    intro k D μ hd hk hD
    obtain ⟨k1, k2, k3, k4⟩ := id hk
    refine ⟨D, μ, bLoop_done ?_, ⟨k1, k2, fun j hj => k3 j (by omega), fun e' he' k' hk' hz => k4 e' he' k' hk' ?_⟩, ?_⟩
    · show F_X10_keepLetters_23 e k μ = _
      unfold F_X10_keepLetters_23
      rw [bG_pos (by omega), k1 1 (by omega) (by omega) (by omega), g2, Int.toNat_natCast, Int.toNat_natCast, k1 (T + 10) (by omega) (by omega) (by omega), if_pos (by omega), bG_pos (by constructor <;> omega)]
    · by_cases w : e' = e
      · subst w; omega
      · have := g5 e' he'
        omega
    · rw [hD]
      unfold kpre
      have x : sumI (fun e => sumI (fun k => μ0 (T + 14) (8 * e + k)) (μ0 (T + 10) e).toNat) (e + 1) = sumI (fun e => sumI (fun k => μ0 (T + 14) (8 * e + k)) (μ0 (T + 10) e).toNat) e + sumI (fun k => μ0 (T + 14) (8 * e + k)) (μ0 (T + 10) e).toNat := rfl
      have y : sumI (fun k => μ0 (T + 14) (8 * (e + 1) + k)) 0 = 0 := rfl
      rw [x, y, show (μ0 (T + 10) e).toNat = k by omega, Int.add_zero]
  | succ d ih =>
    intro k D μ hd hk hD
    obtain ⟨k1, k2, k3, k4⟩ := id hk
    have e10 := k1 (T + 10) (by omega) (by omega) (by omega)
    have e12 := k1 (T + 12) (by omega) (by omega) (by omega)
    have e14 := k1 (T + 14) (by omega) (by omega) (by omega)
    have hlt : (k : Int) < μ0 (T + 10) e := by omega
    have pS : kpre T μ0 e (k + 1) = kpre T μ0 e k + μ0 (T + 14) (8 * e + k) := by
      unfold kpre
      have x : sumI (fun k => μ0 (T + 14) (8 * e + k)) (k + 1) = sumI (fun k => μ0 (T + 14) (8 * e + k)) k + μ0 (T + 14) (8 * e + k) := rfl
      rw [x]
      omega
    have C0 : F_X10_keepLetters_23 e k μ = (F_X2_isLetters (μ0 (T + 12) (8 * e + k)) μ).bind fun w4 => if w4 = 0 then some (.inl (((k : Int) + 1), μ)) else if ¬ (μ0 (T + 12) (8 * e + k)) = 14 then F_X10_keepLetters_88 e k ((8 * e + k : Nat) : Int) 7 μ else F_X10_keepLetters_88 e k ((8 * e + k : Nat) : Int) 11 μ := by
      unfold F_X10_keepLetters_23
      rw [bG_pos (by omega), k1 1 (by omega) (by omega) (by omega), g2, Int.toNat_natCast, Int.toNat_natCast, e10, if_neg (by omega), C_slotAt (by omega) (by omega), Option.bind_some, bG_pos (by omega), t8, e12, bG_pos (by constructor <;> omega), bG_pos (by omega), show (e : Int) * 8 + (k : Int) = ((8 * e + k : Nat) : Int) by omega]
    rcases g8 e he k hlt with ⟨c1, st, len, c2, c3, c4⟩ | ⟨c1, c2⟩
    · rw [C_isLetters.1 c1, Option.bind_some, if_neg (by decide)] at C0
      have hDL := kpre_le hg he (show ((k + 1 : Nat) : Int) ≤ μ0 (T + 10) e by omega)
      have hsz : sz (secN (μ0 (T + 12) (8 * e + k))) ≤ 24000 := by
        unfold secN
        obtain ⟨s0, s1, s2, s3⟩ := hs
        split <;> omega
      have hsec : secN (μ0 (T + 12) (8 * e + k)) < 3 := by unfold secN; split <;> omega
      have hcμ : CSrc r sz μ := CSrc_cong g1 fun q x y => k1 q (by omega) (by omega) (by omega)
      obtain ⟨μ1, a1, a2⟩ := A_src (sec := secN (μ0 (T + 12) (8 * e + k))) (a := st) (len := len) hs hcμ hsec (by omega) c4 (by omega)
      obtain ⟨μ2, hμ2⟩ : ∃ μ2, μ2 = bset μ1 (T + 13) (8 * e + k) (D : Int) := ⟨_, rfl⟩
      have m1 : ∀ q, q ≠ 4 → q ≠ 5 → μ1 q = μ q := fun q x y => a2.2.1 q x y
      have hst : μ (T + 13) (8 * e + k) = (st : Int) := by rw [k3 _ (by omega)]; exact c2
      have C88 : F_X10_keepLetters_88 e k ((8 * e + k : Nat) : Int) (7 + 2 * secN (μ0 (T + 12) (8 * e + k))) μ = some (.inl ((k : Int) + 1, μ2)) := by
        unfold F_X10_keepLetters_88 F_X6_used F_X8_start
        rw [Option.bind_some, k1 1 (by omega) (by omega) (by omega), g2, Int.toNat_natCast, bG_pos (by omega), Int.toNat_natCast, Option.bind_some, bG_pos (by omega), hst, b32_n (by omega), e14, c3, a1, bMm_some, bG_pos (by omega), bG_pos (by constructor <;> omega), m1 1 (by omega) (by omega), k1 1 (by omega) (by omega) (by omega), g2, Int.toNat_natCast, k2, hμ2]
      have C1 : F_X10_keepLetters_23 e k μ = some (.inl (((k + 1 : Nat) : Int), μ2)) := by
        rw [C0, Int.natCast_succ, ← C88]
        unfold secN
        by_cases x : μ0 (T + 12) (8 * e + k) = 14
        · rw [if_neg (fun hh => hh x), if_pos x]
        · rw [if_pos x, if_neg x]
      have ks : KS r T n (8 * e + (k + 1)) (D + len) μ0 μ2 := by
        have f5 : ∀ i : Nat, i < D → μ2 5 i = μ 5 i := fun i hi => by
          rw [hμ2, bset_q (by omega)]
          exact a2.old (by omega)
        refine ⟨fun q x y z => ?_, ?_, fun j hj => ?_, fun e' he' k' hk' hz => ?_⟩
        · rw [hμ2, bset_q z, m1 q x y, k1 q x y z]
        · rw [hμ2, bset_q (by omega), a2.1, k2]
          rfl
        · rw [hμ2, bset_k (by omega), m1 (T + 13) (by omega) (by omega), k3 j (by omega)]
        · by_cases w : 8 * e' + k' = 8 * e + k
          · rw [w]
            refine ⟨fun hh => absurd c1 hh, fun _ => ⟨D, by rw [hμ2, bset_at], by omega, fun i hi => ?_⟩⟩
            have := a2.new (by omega) (j := i) (by omega)
            rw [hμ2, bset_q (by omega), c2, Int.toNat_natCast, ← this, k2, Int.toNat_natCast]
          · obtain ⟨x1, x2⟩ := k4 e' he' k' hk' (by omega)
            have q13 : μ2 (T + 13) (8 * e' + k') = μ (T + 13) (8 * e' + k') := by rw [hμ2, bset_k w, m1 (T + 13) (by omega) (by omega)]
            rw [q13]
            refine ⟨x1, fun hh => ?_⟩
            obtain ⟨s', y1, y2, y3⟩ := x2 hh
            refine ⟨s', y1, by omega, fun i hi => ?_⟩
            rw [f5 _ (by omega)]
            exact y3 i hi
      obtain ⟨D', μ', z1, z2, z3⟩ := ih (k + 1) (D + len) μ2 (by omega) ks (by omega)
      exact ⟨D', μ', (bLoop_step (f := fun z : Int × bM => F_X10_keepLetters_23 e z.1 z.2) (s := ((k : Int), μ)) C1).trans z1, z2, z3⟩
    · rw [C_isLetters.2 c1, Option.bind_some, if_pos rfl] at C0
      have ks : KS r T n (8 * e + (k + 1)) D μ0 μ := by
        refine ⟨k1, k2, fun j hj => k3 j (by omega), fun e' he' k' hk' hz => ?_⟩
        by_cases w : 8 * e' + k' = 8 * e + k
        · rw [w]
          exact ⟨fun _ => k3 _ (by omega), fun hh => absurd hh c1⟩
        · exact k4 e' he' k' hk' (by omega)
      obtain ⟨D', μ', z1, z2, z3⟩ := ih (k + 1) D μ (by omega) ks (by omega)
      exact ⟨D', μ', (bLoop_step (f := fun z : Int × bM => F_X10_keepLetters_23 e z.1 z.2) (s := ((k : Int), μ)) C0).trans z1, z2, z3⟩
theorem K_out (hs : Src r sz) (hT : T = 31 ∨ T = 61) (hg : KG r sz T n L μ0) : ∀ (d e D : Nat) (μ : bM), e + d = n → KS r T n (8 * e) D μ0 μ → (D : Int) = kpre T μ0 e 0 →
    ∃ μ' : bM, bLoop (fun z : Int × bM => F_X10_keepLetters_10 z.1 z.2) ((e : Int), μ) = some (0, μ') ∧ KS r T n (8 * n) L μ0 μ' := by
  obtain ⟨g1, g2, g3, g4, g5, g6, g7, g8⟩ := id hg
  intro d
  induction d with
  | zero =>
    intro e D μ hd hk hD
    have : e = n := by omega
    subst this
    obtain ⟨k1, k2, k3, k4⟩ := id hk
    have hDL : D = L := by
      have : kpre T μ0 e 0 = sumI (fun e => sumI (fun k => μ0 (T + 14) (8 * e + k)) (μ0 (T + 10) e).toNat) e + 0 := rfl
      omega
    subst hDL
    refine ⟨μ, bLoop_done ?_, hk⟩
    show F_X10_keepLetters_10 e μ = _
    unfold F_X10_keepLetters_10
    rw [k1 1 (by omega) (by omega) (by omega), g2, Int.toNat_natCast, k1 T (by omega) (by omega) (by omega), g3, if_pos (by omega)]
  | succ d ih =>
    intro e D μ hd hk hD
    obtain ⟨k1, k2, k3, k4⟩ := id hk
    have A8 := g5 e (by omega)
    obtain ⟨D1, μ1, x1, x2, x3⟩ := K_in hs hT hg (show e < n by omega) (μ0 (T + 10) e).toNat 0 D μ (by omega) hk hD
    obtain ⟨μ', y1, y2⟩ := ih (e + 1) D1 μ1 (by omega) x2 x3
    refine ⟨μ', ?_, y2⟩
    rw [← y1]
    refine bLoop_step (f := fun z : Int × bM => F_X10_keepLetters_10 z.1 z.2) ?_
    show F_X10_keepLetters_10 e μ = _
    unfold F_X10_keepLetters_10
    rw [k1 1 (by omega) (by omega) (by omega), g2, Int.toNat_natCast, k1 T (by omega) (by omega) (by omega), g3, if_neg (by omega)]
    exact x1
theorem C_keepLetters (hs : Src r sz) (hT : T = 31 ∨ T = 61) (hg : KG r sz T n L μ) (h4 : 0 ≤ μ 4 1) : ∃ μ' : bM, F_X10_keepLetters μ = some (0, μ') ∧ KS r T n (8 * n) L μ μ' := by
  have K0 : ∀ ρ : bM, (∀ q, q ≠ 4 → ρ q = μ q) → ρ 4 1 = 0 → KS r T n (8 * 0) 0 μ ρ := fun ρ h1 h2 =>
    ⟨fun q x y z => h1 q x, h2, fun j hj => by rw [h1 (T + 13) (by omega)], fun e he k hk hz => by omega⟩
  unfold F_X10_keepLetters F_X6_cut
  rw [if_neg (by omega)]
  by_cases c : μ 4 1 ≤ 0
  · rw [if_pos c, bMm_some]
    exact K_out hs hT hg n 0 0 μ (by omega) (K0 μ (fun _ _ => rfl) (by omega)) rfl
  · rw [if_neg c, bMm_some]
    exact K_out hs hT hg n 0 0 _ (by omega) (K0 _ (fun q x => bset_q x) bset_at) rfl
end
end GF
