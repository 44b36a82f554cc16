section DM
theorem Inv_addE {T b n m : Nat} {μ σ : bM} {tag par u d : Int} (h : Inv μ) (hN : iNum T b n m μ) (hB : iBank T b μ) (hTr : iTree T b μ) (n4 : n < 400) (ht : 1 ≤ tag ∧ tag ≤ 16383)
    (hp : par = -1 ∧ u = m ∧ d = 0 ∧ m < 6 ∨ (0 ≤ par ∧ par < n) ∧ u = μ (T + 4) par.toNat ∧ d = μ (T + 5) par.toNat + 1 ∧ d ≤ 30) (ha : addE T b n m tag par u d μ σ) (hok : bOk σ) (h13 : σ 13 6 = 0)
    (s1 : ∀ q, q ≠ 112 → q ≠ 13 → q ≠ 76 → (q < T ∨ T + 10 < q) → (q < 78 ∨ 85 ≤ q) → σ q = μ q) (s76 : ∀ k, k ≠ 0 → σ 76 k = μ 76 k) : Inv σ := by
  obtain ⟨-, h1, h2, h3, -⟩ := h
  obtain ⟨hT, hb, e15, e763, hn, hm, n4', m6, e78, e79⟩ := id hN
  obtain ⟨tc, te, tr, tch, ta, tl, ty⟩ := hTr
  have hsk : iSkel T b σ := skel_add ⟨tc, te, tr, tch⟩ hn hm n4 m6 ht hp ha
  refine ⟨hok, iTape_congr h1 (s76 2 (by omega)) ?_ (s1 3 (by omega) (by omega) (by omega) (by omega) (by omega)) (s1 77 (by omega) (by omega) (by omega) (by omega) (by omega)), iSec_congr h2 (fun q _ _ => s1 q (by omega) (by omega) (by omega) (by omega) (by omega)) (s1 93 (by omega) (by omega) (by omega) (by omega) (by omega)) (s1 94 (by omega) (by omega) (by omega) (by omega) (by omega)), iFault_congr h3 (s1 46 (by omega) (by omega) (by omega) (by omega) (by omega)) (s76 21 (by omega)) (s76 22 (by omega)), T, b, ?_, hsk.1, hsk.2.1, hsk.2.2.1, hsk.2.2.2, ?_, iLet_congr tl (s1 90 (by omega) (by omega) (by omega) (by omega) (by omega)) (s1 91 (by omega) (by omega) (by omega) (by omega) (by omega)) (s1 4 (by omega) (by omega) (by omega) (by omega) (by omega)), Or.inl h13⟩
  · rw [s1 2 (by omega) (by omega) (by omega) (by omega) (by omega)]
  · unfold iBank at hB ⊢
    rw [s1 1 (by omega) (by omega) (by omega) (by omega) (by omega), s1 30 (by omega) (by omega) (by omega) (by omega) (by omega), s76 3 (by omega)]
    exact hB
  · refine iAtt_add ta hn ha.1.1 ha.2.2.2.2.2.2.2.2.2.2.1 (fun e he => ?_) (fun q hq => s1 q (by omega) (by omega) (by omega) (by omega) (by omega))
    rw [ha.2.2.2.2.1 e, if_neg (by omega)]
theorem st_entry {μ : bM} (h : Inv μ) {a v : Int} (hA : bR a) (hv : bR v) : Step (F_L_entry a v μ) (F_X11_entry a v) := by
  obtain ⟨hok, h1, h2, h3, h4⟩ := id h
  obtain ⟨T, b, n, m, hN, hB, hTr⟩ := iMain_view h4
  obtain ⟨hT, hb, e15, e763, hn, hm, n4, m6, e78, e79⟩ := id hN
  have thr : ∀ k : Int, 0 < k → F_X11_entry_54 a v k μ = some (0, bset μ 76 0 k) := fun k hk => by
    unfold F_X11_entry_54
    rw [bset_at, if_neg (by omega)]
  by_cases c0 : 0 ≤ a ∧ a < n
  · obtain ⟨p, hp⟩ : ∃ p : Nat, a = p := ⟨a.toNat, by omega⟩
    subst hp
    have hpn : p < n := by omega
    obtain ⟨⟨p1, p2, p3, p4⟩, p5, p6, p7, p8, p9, p10, p11⟩ := hTr.2.1 p (by omega)
    obtain ⟨q1, q2, q3, q4, q5⟩ := hTr.2.2.2.1 p (by omega)
    rw [show (μ T 1).toNat = n by omega] at q1 q2 q3
    by_cases c : 1 ≤ v ∧ v ≤ 16383
    · by_cases c2 : n = 400 ∨ μ (T + 5) p = 30
      · refine St_thr2 h (k := 3) (r := 0) (by decide) (by decide) ?_ ?_
        · have E0 : F_X10_entry p v μ = some (.inr "java/lang/UnsupportedOperationException", μ) := by
            unfold F_X10_entry
            rw [C_needEntry hN, if_pos c0, bXm_inl, C_needCode, if_pos c, bXm_inl, e15, Int.toNat_natCast, hn]
            by_cases c3 : (n : Int) = 400
            · rw [if_pos c3]
            · rw [if_neg c3, bG_pos (by omega), Int.toNat_natCast, if_neg (by omega)]
          unfold F_L_entry
          rw [E0]
          rfl
        · unfold F_X11_entry F_X11_entry_49
          rw [M_isEntry hN, b01_1 c0, Option.bind_some, if_pos (by decide), M_isName, b01_1 c, Option.bind_some, if_pos (by decide), e763, bG_pos (by omega), Int.toNat_natCast, e78, M_depth hN hTr.2.1 hpn, Option.bind_some, thr 3 (by decide)]
          by_cases c3 : (n : Int) = 400
          · rw [if_pos c3]
          · rw [if_neg c3, if_neg (by omega)]
      · have f0 : ∀ q, q ≠ 13 → bset μ 13 6 0 q = μ q := fun q hq => bset_q hq
        have f0T : ∀ k, bset μ 13 6 0 (T + k) = μ (T + k) := fun k => f0 (T + k) (by omega)
        obtain ⟨ν, a1, a2, a3⟩ := C_addChild (T := T) (n := n) (m := m) (p := p) (μ := bset μ 13 6 0) (tag := v) (by rw [f0 T (by omega)]; exact hn) (by omega) (by rw [f0 T (by omega)]; exact hm) hpn (by
            rw [f0T, q1]
            have := cntC_0 (f := μ (T + 3)) (p := (p : Int)) n
            have := cntC_le (f := μ (T + 3)) (p := (p : Int)) n
            omega) (by
            rw [f0T, f0T, q1, q3]
            intro hne
            rcases lstC_spec (f := μ (T + 3)) (p := (p : Int)) n with ⟨x1, x2⟩ | ⟨x, x1, x2, x3, x4⟩
            · exfalso
              apply hne
              exact (cntC_scan n).mpr (scan_no fun k _ hk => x2 k (by omega))
            · rw [x3]; omega) (by rw [f0T]; exact p9)
        have E0 : F_X10_entry p v μ = some (.inl (n : Int), ν) := by
          unfold F_X10_entry F_X3_forget
          rw [C_needEntry hN, if_pos c0, bXm_inl, C_needCode, if_pos c, bXm_inl, e15, Int.toNat_natCast, hn, if_neg (by omega), bG_pos (by omega), Int.toNat_natCast, if_pos (by omega), bMm_some, f0 1 (by omega), e15, Int.toNat_natCast, a1, bMm_some]
        have E1 : F_L_entry p v μ = some (0, bset ν 112 0 n, 0) := by unfold F_L_entry; rw [E0]; rfl
        have ok1 := kp_L_entry p hA v hv hok E1
        obtain ⟨μ1, hμ1⟩ : ∃ μ1, μ1 = bset ν 112 0 n := ⟨_, rfl⟩
        rw [← hμ1] at E1 ok1
        have g1 : ∀ q, q ≠ 112 → q ≠ 13 → (q < T ∨ T + 10 < q) → μ1 q = μ q := fun q q1 q2 q3 => by rw [hμ1, bset_q q1, a3 q q3, f0 q q2]
        have gT : ∀ q, T ≤ q → q ≤ T + 10 → μ1 q = ν q := fun q q1 q2 => by rw [hμ1, bset_q (by omega)]
        obtain ⟨μ2, hμ2⟩ : ∃ μ2, μ2 = bset μ1 76 0 0 := ⟨_, rfl⟩
        have k76 : ∀ k, k ≠ 0 → μ2 76 k = μ 76 k := fun k k0 => by rw [hμ2, bset_k k0, g1 76 (by omega) (by omega) (by omega)]
        have g2 : ∀ q, q ≠ 112 → q ≠ 13 → q ≠ 76 → (q < T ∨ T + 10 < q) → μ2 q = μ q := fun q q1 q2 q3 q4 => by rw [hμ2, bset_q q3, g1 q q1 q2 q4]
        obtain ⟨ρ, b1, b2, b3, b4, b5, b6, b7⟩ := M_make (b := b) (n := n) (μ := μ2) (tag := v) (par := p) (u := μ (T + 4) p) hb (by rw [k76 3 (by omega)]; exact e763) (by rw [g2 78 (by omega) (by omega) (by omega) (by omega)]; exact e78) (by omega)
        -- the model's own depth and unit are those of before
        have hdep : F_X11_depth p μ1 = some (μ (T + 5) p) := by
          have hx := M_depth hN hTr.2.1 hpn
          unfold F_X11_depth F_X11_depth_13 F_X11_at at hx ⊢
          rw [g1 76 (by omega) (by omega) (by omega), g1 82 (by omega) (by omega) (by omega)]
          exact hx
        have hent : ∀ w, F_X11_isEntry w μ1 = F_X11_isEntry w μ := fun w => by
          unfold F_X11_isEntry F_X11_in
          rw [g1 76 (by omega) (by omega) (by omega), g1 78 (by omega) (by omega) (by omega)]
        have E2 : F_X11_entry p v μ1 = some ((n : Int), ρ) := by
          unfold F_X11_entry F_X11_entry_54
          rw [hent, M_isEntry hN, b01_1 c0, Option.bind_some, if_pos (by decide), M_isName, b01_1 c, Option.bind_some, if_pos (by decide), ← hμ2, hdep, g1 76 (by omega) (by omega) (by omega), g1 78 (by omega) (by omega) (by omega), e763, bG_pos (by omega), Int.toNat_natCast, e78, if_neg (by omega), Option.bind_some, if_pos (by omega)]
          rw [show μ2 76 0 = 0 by rw [hμ2, bset_at], if_pos (by decide), M_at hb (by rw [k76 3 (by omega)]; exact e763) (by omega), Option.bind_some, bG_pos (by omega), t400, g2 83 (by omega) (by omega) (by omega) (by omega), p3, b1, bMm_some]
        have ok2 := kp_X11_entry p hA v hv ok1 E2
        have s1 : ∀ q, q ≠ 112 → q ≠ 13 → q ≠ 76 → (q < T ∨ T + 10 < q) → (q < 78 ∨ 85 ≤ q) → ρ q = μ q := fun q q1 q2 q3 q4 q5 => by rw [b7 q (by omega), g2 q q1 q2 q3 q4]
        have s76 : ∀ k, k ≠ 0 → ρ 76 k = μ 76 k := fun k k0 => by rw [b7 76 (by omega), k76 k k0]
        have sT : ∀ q, T ≤ q → q ≤ T + 10 → ρ q = ν q := fun q q1 q2 => by rw [b7 q (by omega), hμ2, bset_q (by omega), gT q q1 q2]
        have o8 : ∀ q, 79 ≤ q → q ≤ 84 → μ2 q = μ q := fun q q1 q2 => g2 q (by omega) (by omega) (by omega) (by omega)
        have np : ¬ ((p : Int) = -1) := by omega
        have hadd : addE T b n m v p (μ (T + 4) p) (μ (T + 5) p + 1) μ ρ := by
          obtain ⟨⟨x1, x2⟩, x3, x4, x5, x6, x7, x8, x9, x10, x11, x12⟩ := a2
          simp only [f0T] at x3 x4 x5 x6 x7 x8 x9 x10 x11 x12
          refine ⟨⟨by rw [sT T (by omega) (by omega)]; exact x1, by rw [sT T (by omega) (by omega)]; exact x2, b2, ?_⟩, ?_, ?_, ?_, ?_, ?_, ?_, ?_, ?_, ?_, ?_, fun j hj => ?_, fun j hj => ?_, fun j hj => ?_, fun j hj => ?_, fun j hj => ?_⟩
          · rw [b7 79 (by omega), o8 79 (by omega) (by omega), e79, if_neg np, Int.add_zero]
          · rw [sT (T + 1) (by omega) (by omega)]; exact x3
          · rw [sT (T + 2) (by omega) (by omega)]; exact x4
          · rw [sT (T + 3) (by omega) (by omega)]; exact x5
          · rw [sT (T + 4) (by omega) (by omega)]; exact x6
          · rw [sT (T + 5) (by omega) (by omega)]; exact x7
          · rw [sT (T + 6) (by omega) (by omega)]; exact x8
          · rw [sT (T + 7) (by omega) (by omega)]; exact x9
          · rw [sT (T + 8) (by omega) (by omega)]; exact x10
          · rw [sT (T + 9) (by omega) (by omega)]; exact x11
          · rw [sT (T + 10) (by omega) (by omega)]; exact x12
          · rw [b7 80 (by omega), o8 80 (by omega) (by omega), if_neg (fun h => np h.1)]
          · rw [b3 j, o8 81 (by omega) (by omega)]
          · rw [b4 j, o8 82 (by omega) (by omega)]
          · rw [b5 j, o8 83 (by omega) (by omega)]
          · rw [b6 j, o8 84 (by omega) (by omega)]
        refine ⟨0, n, μ1, ρ, 0, E1, by omega, E2, ?_, fun _ => ?_, Inv_addE h hN hB hTr (by omega) c (Or.inr ⟨by omega, by rw [Int.toNat_natCast], by rw [Int.toNat_natCast], by omega⟩) hadd ok2 ?_ s1 s76⟩
        · rw [b7 76 (by omega), hμ2, bset_at]
        · rw [b7 112 (by omega), hμ2, bset_q (by omega), hμ1, bset_at]
        · rw [b7 13 (by omega), hμ2, bset_q (by omega), hμ1, bset_q (by omega), a3 13 (by omega), bset_at]
    · refine St_thr2 h (k := 2) (r := 0) (by decide) (by decide) ?_ ?_
      · have E0 : F_X10_entry p v μ = some (.inr "java/lang/IllegalArgumentException", μ) := by
          unfold F_X10_entry
          rw [C_needEntry hN, if_pos c0, bXm_inl, C_needCode, if_neg c]
          rfl
        unfold F_L_entry
        rw [E0]
        rfl
      · unfold F_X11_entry
        rw [M_isEntry hN, b01_1 c0, Option.bind_some, if_pos (by decide), M_isName, b01_0 c, Option.bind_some, if_neg (by decide), thr 2 (by decide)]
  · refine St_thr2 h (k := 1) (r := 0) (by decide) (by decide) ?_ ?_
    · have E0 : F_X10_entry a v μ = some (.inr "java/lang/IndexOutOfBoundsException", μ) := by
        unfold F_X10_entry
        rw [C_needEntry hN, if_neg c0]
        rfl
      unfold F_L_entry
      rw [E0]
      rfl
    · unfold F_X11_entry
      rw [M_isEntry hN, b01_0 c0, Option.bind_some, if_neg (by decide), thr 1 (by decide)]
end DM
