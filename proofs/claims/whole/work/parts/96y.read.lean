section GH
section
variable {r : Nat → Nat → Int} {sz : Nat → Nat} {μ ν ρ μ' ν' σ : bM} {T b b' n m : Nat}
/-- the model's memory where reading begins -/
def rs (ρ : bM) (b : Nat) : bM := bset (bset (bset (bset (bset (bset (bset ρ 76 0 0) 76 3 (b : Int)) 78 b 0) 79 b 0) 91 b 0) 90 b 0) 76 37 (-1)
theorem M_read (hb : b = 0 ∨ b = 1) (h3 : ρ 76 3 = (b : Int)) (hb' : b + b' = 1) (h94 : ρ 94 2 = (n : Int)) (hn : n ≤ 8000) : F_X11_read ρ = bLoop (fun z : Int × bM => F_X11_read_77 z.1 z.2) (((0 : Nat) : Int), kpM (rs ρ b') b' 0 32000 n) := by
  have e1 : (1 : Int) - (b : Int) = (b' : Int) := by omega
  have K := M_keep (ν := rs ρ b') (b := b') (P := 0) (off := 32000) (n := n) (by omega) (by unfold rs; simp (disch := first | omega | decide) only [bset_q, bset_k, bset_at]) (by unfold rs; simp (disch := first | omega | decide) only [bset_q, bset_k, bset_at]; rfl) (by omega) (by omega)
  have e94 : rs ρ b' 94 2 = (n : Int) := by unfold rs; simp (disch := first | omega | decide) only [bset_q, bset_k, bset_at, h94]
  unfold F_X11_read
  have q3 : (bset ρ 76 0 0) 76 3 = (b : Int) := by simp (disch := first | omega | decide) only [bset_q, bset_k, bset_at, h3]
  rw [q3, e1]
  simp (disch := first | omega | decide) only [bG_pos, bMm_some, bXm_inl, bXm_inr, Option.bind_some, bset_q, bset_k, bset_at, if_pos, if_neg, Int.toNat_natCast]
  rw [show bset (bset (bset (bset (bset (bset (bset ρ 76 0 0) 76 3 (b' : Int)) 78 b' 0) 79 b' 0) 91 b' 0) 90 b' 0) 76 37 (-1) = rs ρ b' from rfl]
  have e2 : F_X11_from 2 (rs ρ b') = some ((32000 : Nat) : Int) := rfl
  rw [e2, Option.bind_some, h94, K, bMm_some]
  rfl
theorem ms_q {q k : Nat} (h : ¬ (q = 76 ∧ (k = 0 ∨ k = 3 ∨ k = 37) ∨ (q = 78 ∨ q = 79 ∨ q = 90 ∨ q = 91) ∧ k = b ∨ q = 92 ∧ 90000 * b ≤ k ∧ k < 90000 * b + 90000)) (hn : n ≤ 8000) : kpM (rs ρ b) b 0 32000 n q k = ρ q k := by
  have K := kpM_fr (ν := rs ρ b) (b := b) (s := 0) (P := 0) (off := 32000) (n := n) (by omega)
  by_cases c : q = 76 ∧ 37 ≤ k ∧ k ≤ 40 ∨ 88 ≤ q ∧ q ≤ 89 ∧ k = 0
  · have e : kpM (rs ρ b) b 0 32000 n q = rs ρ b q := by
      unfold kpM
      rw [bset_q (by omega)]
      funext k'
      unfold bcp
      rw [if_neg (by omega)]
    rw [e]
    unfold rs
    rcases c with c | c
    · rw [c.1, bset_k (by omega)]
      simp (disch := first | omega | decide) only [bset_q, bset_k, bset_at]
    · simp (disch := first | omega | decide) only [bset_q, bset_k, bset_at]
  · rw [K q k (by unfold sVm; omega)]
    unfold rs
    by_cases c1 : q = 76
    · rw [c1, bset_k (by omega)]
      simp (disch := first | omega | decide) only [bset_q, bset_k, bset_at]
    · by_cases c2 : q = 78 ∨ q = 79 ∨ q = 90 ∨ q = 91
      · rw [bset_q c1]
        rcases c2 with c2 | c2 | c2 | c2 <;> rw [c2] <;> simp (disch := first | omega | decide) only [bset_q, bset_k, bset_at]
      · simp (disch := first | omega | decide) only [bset_q, bset_k, bset_at]
theorem ms_76 : kpM (rs ρ b) b 0 32000 n 76 0 = 0 ∧ kpM (rs ρ b) b 0 32000 n 76 3 = (b : Int) ∧ kpM (rs ρ b) b 0 32000 n 76 37 = -1 ∧ kpM (rs ρ b) b 0 32000 n 78 b = 0 ∧ kpM (rs ρ b) b 0 32000 n 79 b = 0 ∧ kpM (rs ρ b) b 0 32000 n 90 b = 0 ∧ kpM (rs ρ b) b 0 32000 n 91 b = (n : Int) := by
  have e : ∀ q, q ≠ 91 → q ≠ 92 → kpM (rs ρ b) b 0 32000 n q = rs ρ b q := fun q x y => by
    unfold kpM
    rw [bset_q x]
    funext k'
    unfold bcp
    rw [if_neg (by omega)]
  refine ⟨?_, ?_, ?_, ?_, ?_, ?_, ?_⟩
  · rw [e _ (by decide) (by decide)]; unfold rs; simp (disch := first | omega | decide) only [bset_q, bset_k, bset_at]
  · rw [e _ (by decide) (by decide)]; unfold rs; simp (disch := first | omega | decide) only [bset_q, bset_k, bset_at]
  · rw [e _ (by decide) (by decide)]; unfold rs; simp (disch := first | omega | decide) only [bset_q, bset_k, bset_at]
  · rw [e _ (by decide) (by decide)]; unfold rs; simp (disch := first | omega | decide) only [bset_q, bset_k, bset_at]
  · rw [e _ (by decide) (by decide)]; unfold rs; simp (disch := first | omega | decide) only [bset_q, bset_k, bset_at]
  · rw [e _ (by decide) (by decide)]; unfold rs; simp (disch := first | omega | decide) only [bset_q, bset_k, bset_at]
  · unfold kpM
    rw [bset_at, Nat.zero_add]
/-- read -/
theorem st_read (h : Inv μ) : ∃ (k : Int) (μ1 μ2 : bM) (n1 : Nat), F_X10_read μ = some (k, μ1, n1) ∧ n1 ≤ 1 ∧ F_X11_read μ1 = some (k, μ2) ∧ Inv μ2 := by
  obtain ⟨hok, h1, h2, h3, h4⟩ := id h
  obtain ⟨T0, b0, n, m, hN, hB, hTr⟩ := iMain_view h4
  obtain ⟨hT0, hb0, e15, e763, hn, hm, n4, m6, e78, e79⟩ := id hN
  obtain ⟨T, h30, hT, hTT⟩ : ∃ T : Nat, μ 30 0 = (T : Int) ∧ (T = 31 ∨ T = 61) ∧ T + T0 = 92 := by
    rcases hB.1 with ⟨x, y⟩ | ⟨x, y⟩
    · exact ⟨61, y, Or.inr rfl, by omega⟩
    · exact ⟨31, y, Or.inl rfl, by omega⟩
  obtain ⟨b, hb, hbb⟩ : ∃ b : Nat, (b = 0 ∨ b = 1) ∧ b0 + b = 1 := ⟨1 - b0, by omega, by omega⟩
  obtain ⟨⟨s1, s2, s3, s4⟩, ⟨s5, s6, s7, s8⟩, ⟨s9, s10, s11, s12⟩⟩ := id h2
  obtain ⟨r, hr⟩ : ∃ r : Nat → Nat → Int, r = fun j i => if j = 0 then μ 8 i else if j = 1 then μ 10 i else μ 12 i := ⟨_, rfl⟩
  obtain ⟨sz, hsz⟩ : ∃ sz : Nat → Nat, sz = fun j => if j = 0 then (μ 7 1).toNat else if j = 1 then (μ 9 1).toNat else (μ 11 1).toNat := ⟨_, rfl⟩
  have z0 : sz 0 = (μ 7 1).toNat := by rw [hsz]; rfl
  have z1 : sz 1 = (μ 9 1).toNat := by rw [hsz]; rfl
  have z2 : sz 2 = (μ 11 1).toNat := by rw [hsz]; rfl
  have r0 : r 0 = μ 8 := by rw [hr]; rfl
  have r1 : r 1 = μ 10 := by rw [hr]; rfl
  have r2 : r 2 = μ 12 := by rw [hr]; rfl
  have hs : Src r sz := by
    refine ⟨by omega, by omega, by omega, fun j i => ?_⟩
    rw [hr]
    simp only
    split
    · exact bO_b hok (bStore_d (q := 7) rfl)
    · split
      · exact bO_b hok (bStore_d (q := 9) rfl)
      · exact bO_b hok (bStore_d (q := 11) rfl)
  have CS : CSrc r sz μ := fun j hj => by
    have : j = 0 ∨ j = 1 ∨ j = 2 := by omega
    rcases this with c | c | c <;> subst c
    · exact ⟨by show μ 7 1 = _; omega, fun i hi => by show μ 8 i = _; rw [r0]⟩
    · exact ⟨by show μ 9 1 = _; omega, fun i hi => by show μ 10 i = _; rw [r1]⟩
    · exact ⟨by show μ 11 1 = _; omega, fun i hi => by show μ 12 i = _; rw [r2]⟩
  have MS : MSrc r sz μ := fun j hj => by
    have : j = 0 ∨ j = 1 ∨ j = 2 := by omega
    rcases this with c | c | c <;> subst c
    · exact ⟨by omega, fun i hi => by rw [r0]; exact s4 i (by omega)⟩
    · exact ⟨by omega, fun i hi => by rw [r1]; exact s8 i (by omega)⟩
    · exact ⟨by omega, fun i hi => by rw [r2]; exact s12 i (by omega)⟩
  have hz2 : sz 2 ≤ 8000 := hs.2.2.1
  obtain ⟨μs, hμs⟩ : ∃ μs, μs = bset (bset (bset (bset (bset (bset (bset μ 46 2 0) 46 3 0) 46 4 0) T 0 0) T 1 0) 30 3 (-1)) 30 4 0 := ⟨_, rfl⟩
  have C1 : F_X4_readUnits μ = bLoop (fun z : Int × Int × bM => F_X4_readUnits_37 (sz 0) z.1 z.2.1 z.2.2) (((0 : Nat) : Int), ((0 : Nat) : Int), μs) := by
    unfold F_X4_readUnits F_X1_forgetFault F_X8_forget F_X6_used
    rw [bMm_some, bset_q (q' := 30) (by decide), bset_q (q' := 30) (by decide), bset_q (q' := 30) (by decide), h30, Int.toNat_natCast, bMm_some, Option.bind_some, ← hμs, show μs 7 1 = (sz 0 : Int) by rw [hμs]; simp (disch := first | omega | decide) only [bset_q, bset_k, bset_at]; omega]
    rfl
  have fs : Fr (sWc T) μ μs := by
    rw [hμs]
    exact Fr_tr (Fr_tr (Fr_tr (Fr_tr (Fr_tr (Fr_tr (Fr_b (by unfold sWc sRc; omega)) (Fr_b (by unfold sWc sRc; omega))) (Fr_b (by unfold sWc sRc; omega))) (Fr_b (by unfold sWc sRc; omega))) (Fr_b (by unfold sWc sRc; omega))) (Fr_b (by unfold sWc sRc; omega))) (Fr_b (by unfold sWc sRc; omega))
  have WSs : ∀ ρ : bM, (∀ q, 76 ≤ q → ρ q = μ q) → WS r sz T b 0 0 0 (sz 2) 0 μs (kpM (rs ρ b) b 0 32000 (sz 2)) := fun ρ hρ => by
    have M := ms_76 (ρ := ρ) (b := b) (n := sz 2)
    refine WS_start hT hs (CSrc_fr CS fs fun q k x y => by unfold sWc sRc; omega) ?_ (by rw [fs 30 0 (by unfold sWc sRc; omega)]; exact h30) M.2.1 ⟨by rw [hμs]; simp (disch := first | omega | decide) only [bset_q, bset_k, bset_at], by rw [hμs]; simp (disch := first | omega | decide) only [bset_q, bset_k, bset_at]⟩ ⟨M.2.2.2.1, M.2.2.2.2.1, M.2.2.2.2.2.1, M.2.2.2.2.2.2⟩ ⟨by rw [hμs]; simp (disch := first | omega | decide) only [bset_q, bset_k, bset_at], by rw [hμs]; simp (disch := first | omega | decide) only [bset_q, bset_k, bset_at]⟩ (fun i hi => ?_) ⟨M.2.2.1, by rw [hμs]; simp (disch := first | omega | decide) only [bset_q, bset_k, bset_at], by rw [hμs]; simp (disch := first | omega | decide) only [bset_q, bset_k, bset_at]⟩
    · refine MSrc_cong MS fun q x y => funext fun k => ?_
      rw [ms_q (by omega) hz2, hρ q (by omega)]
    · have := kpM_in (ν := rs ρ b) (b := b) (P := 0) (off := 32000) (n := sz 2) (i := i) hi
      rw [show 90000 * b + 0 + i = 90000 * b + i by omega] at this
      rw [this, show rs ρ b 93 = μ 93 by unfold rs; simp (disch := first | omega | decide) only [bset_q, bset_k, bset_at]; exact hρ 93 (by omega), r2]
      exact s12 i (by omega)
  have MR : ∀ ρ : bM, (∀ q, 76 ≤ q → ρ q = μ q) → F_X11_read ρ = bLoop (fun z : Int × bM => F_X11_read_77 z.1 z.2) (((0 : Nat) : Int), kpM (rs ρ b) b 0 32000 (sz 2)) := fun ρ hρ =>
    M_read hb0 (by rw [hρ 76 (by omega)]; exact e763) hbb (by rw [hρ 94 (by omega)]; omega) hz2
  have cU : ∀ (μ' : bM), Fr (sWc T) μs μ' → ∀ q k, ¬ sWc T q k → μ' q k = μ q k := fun μ' hf q k x => (hf q k x).trans (fs q k x)
  rcases J_all hs hT hb (sz 0) 0 0 0 (sz 2) 0 μs _ (by omega) (by omega) (WSs μ fun _ _ => rfl) with ⟨n', m', L', P', μ', ν', _, x1, _, W, f1, _⟩ | ⟨μ', ν', x1, _, _, f1, _⟩
  · have c' := cU μ' f1
    obtain ⟨μk, hμk⟩ : ∃ μk, μk = bset (bset μ' 1 5 (T : Int)) 30 0 (T0 : Int) := ⟨_, rfl⟩
    have k0 : ∀ q, q ≠ 1 → q ≠ 30 → μk q = μ' q := fun q x y => by rw [hμk, bset_q y, bset_q x]
    have k15 : μk 1 5 = (T : Int) := by rw [hμk]; simp (disch := first | omega | decide) only [bset_q, bset_k, bset_at]
    have KGk := KG_of hT W k0 k15
    obtain ⟨μ7, y1, y2⟩ := C_keepLetters hs hT KGk (by rw [k0 4 (by omega) (by omega), c' 4 1 (by unfold sWc sRc; omega)]; exact hTr.2.2.2.2.2.1.2.1.1)
    obtain ⟨μ10, hμ10⟩ : ∃ μ10, μ10 = bset μ7 13 6 0 := ⟨_, rfl⟩
    have m10 : ∀ q, q ≠ 4 → q ≠ 5 → q ≠ T + 13 → q ≠ 13 → μ10 q = μk q := fun q x y z w => by rw [hμ10, bset_q w]; exact y2.1 q x y z
    have mn : μ10 T 1 = (n' : Int) := by rw [m10 T (by omega) (by omega) (by omega) (by omega)]; exact KGk.2.2.1
    have m15 : μ10 1 5 = (T : Int) := by rw [m10 1 (by omega) (by omega) (by omega) (by omega)]; exact k15
    have hi : ∀ q, 76 ≤ q → μ10 q = μ q := fun q hq => by
      rw [m10 q (by omega) (by omega) (by omega) (by omega), k0 q (by omega) (by omega)]
      exact funext fun k => c' q k (by unfold sWc sRc; omega)
    have E1 : F_X10_read μ = some ((n' : Int), μ10, 0) := by
      unfold F_X10_read F_X3_forget
      rw [C1, x1, bXm_inl, W.1.1.2.2.1, Int.toNat_natCast, c' 1 5 (by unfold sWc sRc; omega), e15, Int.toNat_natCast, ← hμk, y1, bMm_some, bMm_some, ← hμ10, m15, Int.toNat_natCast, mn]
    have ok1 := kp_X10_read hok E1
    rcases J_all hs hT hb (sz 0) 0 0 0 (sz 2) 0 μs _ (by omega) (by omega) (WSs μ10 hi) with ⟨n2, m2, L2, P2, μ2, ν2, w0, w1, w2, w3, w4, w5⟩ | ⟨μ2, ν2, w1, w2, w3, w4, w5⟩
    · rw [x1] at w1
      have e2 : μ' = μ2 := by
        have := Option.some.inj w1
        exact congrArg Prod.snd this
      subst e2
      have en : n2 = n' := by
        have a1 := w3.1.2.2.1.1
        have a2 := W.1.2.2.1.1
        omega
      have eL : L2 = L' := by
        have a1 := w3.1.2.2.2.1.1
        have a2 := W.1.2.2.2.1.1
        omega
      subst en
      subst eL
      obtain ⟨σ, hσ⟩ : ∃ σ, σ = bset (bset ν2 76 21 0) 76 22 0 := ⟨_, rfl⟩
      have q3 : ν2 76 3 = (b : Int) := w3.1.1.2.2.2
      have q37 : ν2 76 37 = -1 := w3.2.2.2.2.1.1
      have q78 : ν2 78 b = (n2 : Int) := by
        have a1 := ((Sk_iff hT).mp w3.1.2.1).1.2.2
        have a2 := w3.1.2.2.1.1
        omega
      have E2 : F_X11_read μ10 = some ((n2 : Int), σ) := by
        rw [MR μ10 hi, w2]
        unfold F_X11_read_108
        rw [if_pos q37, ← hσ, show σ 76 3 = (b : Int) by rw [hσ]; simp (disch := first | omega | decide) only [bset_q, bset_k, bset_at, q3], bG_pos (by omega), Int.toNat_natCast, show σ 78 b = (n2 : Int) by rw [hσ]; simp (disch := first | omega | decide) only [bset_q, bset_k, bset_at, q78]]
      have g77 : ∀ q, q ≠ 76 → σ q = ν2 q := fun q x => by rw [hσ, bset_q x, bset_q x]
      have fr : ∀ q k, ¬ sWm b q k → ¬ (q = 76 ∧ (k = 0 ∨ k = 3 ∨ k = 37)) → ν2 q k = μ10 q k := fun q k x y => by
        rw [w5 q k x, ms_q (by unfold sWm sRm at x; omega) hz2]
      have lo : ∀ q, q < 76 → σ q = μ10 q := fun q hq => by
        rw [g77 q (by omega)]
        exact funext fun k => fr q k (by unfold sWm sRm; omega) (by omega)
      have mo : ∀ q, q = 77 ∨ q = 93 ∨ q = 94 → σ q = μ q := fun q hq => by
        rw [g77 q (by omega), ← hi q (by omega)]
        exact funext fun k => fr q k (by unfold sWm sRm; omega) (by omega)
      have lo2 : ∀ q, q < 13 → q ≠ 1 → q ≠ 4 → q ≠ 5 → σ q = μ q := fun q x y z w => by
        rw [lo q (by omega), m10 q (by omega) (by omega) (by omega) (by omega), k0 q (by omega) (by omega)]
        exact funext fun k => c' q k (by unfold sWc sRc; omega)
      have s762 : σ 76 2 = μ 76 2 := by
        rw [hσ, bset_k (by omega), bset_k (by omega), fr 76 2 (by unfold sWm sRm; omega) (by omega), hi 76 (by omega)]
      have s30 : σ 30 0 = (T0 : Int) := by
        rw [lo 30 (by omega), m10 30 (by omega) (by omega) (by omega) (by omega), hμk]
        simp (disch := first | omega | decide) only [bset_q, bset_k, bset_at]
      refine ⟨_, μ10, σ, 0, E1, by omega, E2, kp_X11_read ok1 E2, iTape_congr h1 s762 (by rw [lo2 2 (by omega) (by omega) (by omega) (by omega)]) (lo2 3 (by omega) (by omega) (by omega) (by omega)) (mo 77 (by omega)), iSec_congr h2 (fun q x y => lo2 q (by omega) (by omega) (by omega) (by omega)) (mo 93 (by omega)) (mo 94 (by omega)), ⟨?_, ?_⟩, T, b, ⟨?_, ?_, hb, ?_⟩, ?_⟩
      · rw [lo 46 (by omega), m10 46 (by omega) (by omega) (by omega) (by omega), k0 46 (by omega) (by omega), w3.2.2.2.2.1.2.1, hσ]
        simp (disch := first | omega | decide) only [bset_q, bset_k, bset_at]
      · rw [lo 46 (by omega), m10 46 (by omega) (by omega) (by omega) (by omega), k0 46 (by omega) (by omega), w3.2.2.2.2.1.2.2, hσ]
        simp (disch := first | omega | decide) only [bset_q, bset_k, bset_at]
      · rw [s30]; omega
      · rw [lo 1 (by omega)]; exact m15
      · rw [hσ, bset_k (by omega), bset_k (by omega)]; exact q3
      · refine iTree_read hT hb w3 y2 k0 (fun q x y => ?_) ?_ (fun q x => g77 q (by omega))
        · rw [lo q x, hμ10, bset_q y]
        · rw [lo 13 (by omega), hμ10, bset_at]
    · rw [x1] at w1
      have := congrArg Prod.fst (Option.some.inj w1)
      cases this
  · have c' := cU μ' f1
    have hi : ∀ q, 76 ≤ q → μ' q = μ q := fun q hq => funext fun k => c' q k (by unfold sWc sRc; omega)
    rcases J_all hs hT hb (sz 0) 0 0 0 (sz 2) 0 μs _ (by omega) (by omega) (WSs μ' hi) with ⟨n2, m2, L2, P2, μ2, ν2, w0, w1, w2, w3, w4, w5⟩ | ⟨μ2, ν2, w1, w2, w3, w4, w5⟩
    · rw [x1] at w1
      have := congrArg Prod.fst (Option.some.inj w1)
      cases this
    · rw [x1] at w1
      have e2 : μ' = μ2 := congrArg Prod.snd (Option.some.inj w1)
      subst e2
      obtain ⟨v1, v2, v3, v4, v5⟩ := id w3
      have E1 : F_X10_read μ = some ((-1) - μ' 46 4, μ', 1) := by
        unfold F_X10_read
        rw [C1, x1, bXm_inr, if_pos (by rfl)]
        show (bG (bR ((-1) - μ' 46 4)) (some ((-1) - μ' 46 4, μ'))).bind (fun r => some (r.1, r.2, 1)) = _
        rw [bG_pos (by constructor <;> omega)]
        rfl
      have ok1 := kp_X10_read hok E1
      have q3 : ν2 76 3 = (b : Int) := by
        rw [w5 76 3 (by unfold sWm sRm; omega)]
        exact ms_76.2.1
      obtain ⟨σ, hσ⟩ : ∃ σ, σ = bset (bset (bset ν2 76 3 (b0 : Int)) 76 21 (ν2 76 38)) 76 22 (ν2 76 39) := ⟨_, rfl⟩
      have E2 : F_X11_read μ' = some ((-1) - μ' 46 4, σ) := by
        rw [MR μ' hi, w2]
        unfold F_X11_read_108
        rw [if_neg (BadP_ne w3), q3, show (1 : Int) - (b : Int) = (b0 : Int) by omega, bG_pos (by constructor <;> omega)]
        have a1 : (bset ν2 76 3 (b0 : Int)) 76 38 = ν2 76 38 := by simp (disch := first | omega | decide) only [bset_q, bset_k, bset_at]
        have a2 : (bset (bset ν2 76 3 (b0 : Int)) 76 21 (ν2 76 38)) 76 39 = ν2 76 39 := by simp (disch := first | omega | decide) only [bset_q, bset_k, bset_at]
        have a3 : σ 76 37 = μ' 46 4 := by rw [hσ, ← v1]; simp (disch := first | omega | decide) only [bset_q, bset_k, bset_at]
        rw [a1, a2, ← hσ, a3, bG_pos (by constructor <;> omega)]
      have g77 : ∀ q, q ≠ 76 → σ q = ν2 q := fun q x => by rw [hσ, bset_q x, bset_q x, bset_q x]
      have fr : ∀ q k, ¬ sWm b q k → ¬ (q = 76 ∧ (k = 0 ∨ k = 3 ∨ k = 37)) → ν2 q k = μ' q k := fun q k x y => by
        rw [w5 q k x, ms_q (by unfold sWm sRm at x; omega) hz2]
      have lo : ∀ q, q < 76 → σ q = μ' q := fun q hq => by
        rw [g77 q (by omega)]
        exact funext fun k => fr q k (by unfold sWm sRm; omega) (by omega)
      have lo2 : ∀ q, q < 76 → q ≠ 46 → q ≠ 30 → ¬ (49 ≤ q ∧ q ≤ 60) → ¬ (T ≤ q ∧ q ≤ T + 14) → σ q = μ q := fun q x y z w u => by
        rw [lo q x]
        exact funext fun k => c' q k (by unfold sWc sRc; omega)
      have mo : ∀ q, q = 77 ∨ q = 93 ∨ q = 94 → σ q = μ q := fun q hq => by
        rw [g77 q (by omega), ← hi q (by omega)]
        exact funext fun k => fr q k (by unfold sWm sRm; omega) (by omega)
      have s762 : σ 76 2 = μ 76 2 := by
        rw [hσ, bset_k (by omega), bset_k (by omega), bset_k (by omega), fr 76 2 (by unfold sWm sRm; omega) (by omega), hi 76 (by omega)]
      have s30 : σ 30 0 = (T : Int) := by
        rw [lo 30 (by omega), c' 30 0 (by unfold sWc sRc; omega)]; exact h30
      refine ⟨_, μ', σ, 1, E1, by omega, E2, kp_X11_read ok1 E2, iTape_congr h1 s762 (by rw [lo2 2 (by omega) (by omega) (by omega) (by omega) (by omega)]) (lo2 3 (by omega) (by omega) (by omega) (by omega) (by omega)) (mo 77 (by omega)), iSec_congr h2 (fun q x y => lo2 q (by omega) (by omega) (by omega) (by omega) (by omega)) (mo 93 (by omega)) (mo 94 (by omega)), ⟨?_, ?_⟩, T0, b0, ⟨?_, ?_, hb0, ?_⟩, iTree_pt hT0 hb0 hTr (fun q hq => lo2 q (by omega) (by omega) (by omega) (by omega) (by omega)) (fun q k hk => ?_)⟩
      · rw [lo 46 (by omega), ← v2, hσ]
        simp (disch := first | omega | decide) only [bset_q, bset_k, bset_at]
      · rw [lo 46 (by omega), ← v3, hσ]
        simp (disch := first | omega | decide) only [bset_q, bset_k, bset_at]
      · rw [s30]; omega
      · rw [lo2 1 (by omega) (by omega) (by omega) (by omega) (by omega)]; exact e15
      · rw [hσ]; simp (disch := first | omega | decide) only [bset_q, bset_k, bset_at]
      · rw [g77 q (by omega), fr q k (by unfold sWm sRm; omega) (by omega), hi q (by omega)]
end
end GH
