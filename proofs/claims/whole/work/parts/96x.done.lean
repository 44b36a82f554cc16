section GG
/-! the end of reading -/
section
variable {r : Nat → Nat → Int} {sz : Nat → Nat} {μ ν μ' ν' σ μ0 : bM} {T b n m L P a k e : Nat}
/-- the main tree stands, where only the other one was touched -/
theorem iTree_pt (hT : T = 31 ∨ T = 61) (hb : b = 0 ∨ b = 1) (h : iTree T b μ) (hC : ∀ q, T ≤ q ∧ q ≤ T + 14 ∨ q = 4 ∨ q = 5 ∨ 13 ≤ q ∧ q ≤ 29 → σ q = μ q)
    (hM : ∀ q k, (q = 78 ∨ q = 79 ∨ q = 90 ∨ q = 91) ∧ k = b ∨ q = 80 ∧ 6 * b ≤ k ∧ k < 6 * b + 6 ∨ 81 ≤ q ∧ q ≤ 84 ∧ 400 * b ≤ k ∧ k < 400 * b + 400 ∨ 85 ≤ q ∧ q ≤ 89 ∧ 3200 * b ≤ k ∧ k < 3200 * b + 3200 ∨ q = 92 ∧ 90000 * b ≤ k ∧ k < 90000 * b + 90000 → σ q k = μ q k) : iTree T b σ := by
  obtain ⟨hc, he, hr, hch, ha, hl, hy⟩ := h
  have t0 := hC T (by omega)
  have t1 := hC (T + 1) (by omega)
  have t2 := hC (T + 2) (by omega)
  have t3 := hC (T + 3) (by omega)
  have t4 := hC (T + 4) (by omega)
  have t5 := hC (T + 5) (by omega)
  have t6 := hC (T + 6) (by omega)
  have t7 := hC (T + 7) (by omega)
  have t8 := hC (T + 8) (by omega)
  have t9 := hC (T + 9) (by omega)
  have t10 := hC (T + 10) (by omega)
  have t11 := hC (T + 11) (by omega)
  have t12 := hC (T + 12) (by omega)
  have t13 := hC (T + 13) (by omega)
  have t14 := hC (T + 14) (by omega)
  have c4 := hC 4 (by omega)
  have c5 := hC 5 (by omega)
  have m78 := hM 78 b (by omega)
  have m79 := hM 79 b (by omega)
  have m90 := hM 90 b (by omega)
  have m91 := hM 91 b (by omega)
  have n4 := hc.1.2
  have m6 := hc.2.1.2
  refine ⟨?_, fun e h => ?_, fun u h => ?_, ?_, fun e h k hk => ?_, ?_, ?_⟩
  · unfold iCnt at hc ⊢; rw [t0, m78, m79]; exact hc
  · rw [t0] at h
    rw [t0, t1, t2, t3, t4, t5, t10, hM 81 _ (by omega), hM 82 _ (by omega), hM 83 _ (by omega), hM 84 _ (by omega)]
    exact he e h
  · rw [t0] at h
    rw [t0, t1, t3, t4, hM 80 _ (by omega)]
    exact hr u h
  · unfold iChl at hch ⊢; rw [t0, t3, t6, t7, t8, t9]; exact hch
  · rw [t0] at h
    rw [t10] at hk
    have k8 := (he e h).2.2.2.2.1
    obtain ⟨⟨x1, x2, x3⟩, x4⟩ := ha e h k hk
    rw [t11]
    refine ⟨?_, x4⟩
    unfold iAt1
    rw [t0, t4, t11, t12, t13, t14, c4, c5, m91, hM 85 _ (by omega), hM 86 _ (by omega), hM 87 _ (by omega), hM 88 _ (by omega), hM 89 _ (by omega)]
    refine ⟨x1, x2, ?_⟩
    rcases x3 with ⟨y1, y2, y3, y4, y5⟩ | y
    · refine Or.inl ⟨y1, y2, y3, y4, fun i hi => ?_⟩
      have := hl.2.2
      have := hl.2.1
      rw [hM 92 _ (by omega)]
      exact y5 i hi
    · exact Or.inr y
  · unfold iLet at hl ⊢; rw [m90, m91, c4]; exact hl
  · unfold iLay at hy ⊢
    rw [hC 13 (by omega)]
    rcases hy with hy | ⟨h1, μ0, μ1, g1, g2, g3, g4, g5⟩
    · exact Or.inl hy
    · refine Or.inr ⟨h1, μ0, μ1, g1, fun q hq => ?_, g3, g4, fun q h1 h2 => ?_⟩
      · rw [g2 q hq]
        refine (hC q ?_).symm
        unfold iTids at hq
        omega
      · rw [g5 q h1 h2, hC q (by omega)]
/-- the tree that was read is the main tree now -/
theorem iTree_read (hT : T = 31 ∨ T = 61) (hb : b = 0 ∨ b = 1) (hW : WS r sz T b n m L P a μ ν) (hK : KS r T n (8 * n) L μ0 μ') (h0 : ∀ q, q ≠ 1 → q ≠ 30 → μ0 q = μ q)
    (hC : ∀ q, q < 76 → q ≠ 13 → σ q = μ' q) (h13 : σ 13 6 = 0) (hM : ∀ q, 77 ≤ q → σ q = ν q) : iTree T b σ := by
  obtain ⟨⟨⟨r1, r2, r3, r4⟩, r6, ⟨r7, r8⟩, ⟨r9, r10, r11, r12, r13, r14, r15⟩, r16, r17⟩, h79, hO, hRR, h37, hd, _⟩ := hW
  obtain ⟨k1, k2, k3, k4⟩ := hK
  obtain ⟨⟨s1, s2, s3⟩, s4, s5, s6⟩ := (Sk_iff hT).mp r6
  have t : ∀ i, i ≤ 14 → i ≠ 13 → σ (T + i) = μ (T + i) := fun i x y => by rw [hC (T + i) (by omega) (by omega), k1 (T + i) (by omega) (by omega) (by omega), h0 (T + i) (by omega) (by omega)]
  have t0 : σ T = μ T := t 0 (by omega) (by omega)
  have t1 := t 1 (by omega) (by omega)
  have t2 := t 2 (by omega) (by omega)
  have t3 := t 3 (by omega) (by omega)
  have t4 := t 4 (by omega) (by omega)
  have t5 := t 5 (by omega) (by omega)
  have t6 := t 6 (by omega) (by omega)
  have t7 := t 7 (by omega) (by omega)
  have t8 := t 8 (by omega) (by omega)
  have t9 := t 9 (by omega) (by omega)
  have t10 := t 10 (by omega) (by omega)
  have t11 := t 11 (by omega) (by omega)
  have t12 := t 12 (by omega) (by omega)
  have t14 := t 14 (by omega) (by omega)
  have t13 : σ (T + 13) = μ' (T + 13) := hC (T + 13) (by omega) (by omega)
  have c4 : σ 4 1 = (L : Int) := by rw [hC 4 (by omega) (by omega)]; exact k2
  have c5 : σ 5 = μ' 5 := hC 5 (by omega) (by omega)
  refine ⟨?_, fun e h => ?_, fun u h => ?_, ?_, fun e h k hk => ?_, ?_, Or.inl h13⟩
  · unfold iCnt
    rw [t0, hM 78 (by omega), hM 79 (by omega)]
    exact ⟨s1, s2, s3, by rw [h79, r8]⟩
  · rw [t0] at h
    rw [t0, t1, t2, t3, t4, t5, t10, hM 81 (by omega), hM 82 (by omega), hM 83 (by omega), hM 84 (by omega)]
    exact s4 e h
  · rw [t0] at h
    rw [t0, t1, t3, t4, hM 80 (by omega)]
    exact ⟨hO u (by omega), s5 u h⟩
  · unfold iChl at s6 ⊢; rw [t0, t3, t6, t7, t8, t9]; exact s6
  · rw [t0] at h
    rw [t10] at hk
    have he : e < n := by omega
    have k8 := (s4 e h).2.2.2.2.1
    obtain ⟨⟨x1, x2, x3⟩, x4⟩ := r17 e he k hk
    have q10 : μ0 (T + 10) = μ (T + 10) := h0 _ (by omega) (by omega)
    have q12 : μ0 (T + 12) = μ (T + 12) := h0 _ (by omega) (by omega)
    have q13 : μ0 (T + 13) = μ (T + 13) := h0 _ (by omega) (by omega)
    have q14 : μ0 (T + 14) = μ (T + 14) := h0 _ (by omega) (by omega)
    obtain ⟨w1, w2⟩ := k4 e he k (by rw [q10]; exact hk) (by omega)
    rw [q12, q13] at w1
    rw [q12, q13, q14] at w2
    rw [t11]
    refine ⟨?_, x4⟩
    unfold iAt1
    rw [t0, t4, t11, t12, t13, t14, c4, c5, hM 85 (by omega), hM 86 (by omega), hM 87 (by omega), hM 88 (by omega), hM 89 (by omega), hM 91 (by omega), hM 92 (by omega)]
    refine ⟨x1, x2, ?_⟩
    rcases x3 with ⟨y1, st, len, y2, y3, y4, y5, y6, y7⟩ | ⟨y1, y2, y3, y4, y5⟩
    · left
      obtain ⟨s', z1, z2, z3⟩ := w2 y1
      rw [y3] at z2 z3 ⊢
      rw [z1]
      refine ⟨y1, by omega, by omega, by omega, fun i hi => ?_⟩
      rw [y7 i (by omega), Int.toNat_natCast, z3 i hi, y2, Int.toNat_natCast]
    · right
      have nl : ¬ isLet (μ (T + 12) (8 * e + k)) := fun hh => by
        unfold isLet at hh
        rcases y1 with y1 | y1
        · unfold isNum at y1; omega
        · unfold isRef at y1; omega
      rw [w1 nl]
      refine ⟨y1, y2, y3, y4, fun hh => ?_⟩
      obtain ⟨z1, z2⟩ := (hRR e he).2 k hk hh
      exact ⟨by omega, z2⟩
  · unfold iLet
    rw [hM 90 (by omega), hM 91 (by omega), c4, r10, r12]
    exact ⟨rfl, by omega, by omega⟩
theorem WS_start (hT : T = 31 ∨ T = 61) (hs : Src r sz) (h1 : CSrc r sz μ) (h2 : MSrc r sz ν) (h3 : μ 30 0 = (T : Int)) (h4 : ν 76 3 = (b : Int)) (h5 : μ T 1 = 0 ∧ μ T 0 = 0) (h6 : ν 78 b = 0 ∧ ν 79 b = 0 ∧ ν 90 b = 0 ∧ ν 91 b = (sz 2 : Int)) (h7 : μ 30 3 = -1 ∧ μ 30 4 = 0) (h8 : ∀ i, i < sz 2 → ν 92 (90000 * b + i) = r 2 i)
    (h9 : ν 76 37 = -1 ∧ μ 46 2 = 0 ∧ μ 46 3 = 0) : WS r sz T b 0 0 0 (sz 2) 0 μ ν := by
  have hz := hs.2.2.1
  refine ⟨⟨⟨h1, h2, h3, h4⟩, ?_, ⟨h5.1, h5.2⟩, ⟨h7.2, h6.2.2.1, by omega, h6.2.2.2, by omega, by omega, h8⟩, rfl, fun e he => by omega⟩, h6.2.1, fun u hu => by omega, fun e he => by omega, h9, Or.inl ⟨rfl, h7.1⟩, by omega⟩
  rw [Sk_iff hT]
  refine ⟨⟨by omega, by omega, by omega⟩, fun e he => by omega, fun u hu => by omega, fun e he => by omega⟩
theorem KG_of (hT : T = 31 ∨ T = 61) (hW : WS r sz T b n m L P a μ ν) (h0 : ∀ q, q ≠ 1 → q ≠ 30 → μ0 q = μ q) (h15 : μ0 1 5 = (T : Int)) : KG r sz T n L μ0 := by
  obtain ⟨⟨⟨r1, r2, r3, r4⟩, r6, ⟨r7, r8⟩, ⟨r9, r10, r11, r12, r13, r14, r15⟩, r16, r17⟩, h79, hO, hRR, h37, hd, _⟩ := hW
  obtain ⟨⟨s1, s2, s3⟩, s4, s5, s6⟩ := (Sk_iff hT).mp r6
  have q10 : μ0 (T + 10) = μ (T + 10) := h0 _ (by omega) (by omega)
  have q12 : μ0 (T + 12) = μ (T + 12) := h0 _ (by omega) (by omega)
  have q13 : μ0 (T + 13) = μ (T + 13) := h0 _ (by omega) (by omega)
  have q14 : μ0 (T + 14) = μ (T + 14) := h0 _ (by omega) (by omega)
  unfold KG
  rw [q10, q12, q13, q14]
  refine ⟨CSrc_cong r1 fun q x y => h0 q (by omega) (by omega), h15, by rw [h0 T (by omega) (by omega)]; exact r7, by omega, fun e he => (s4 e (by omega)).2.2.2.2.1, r16, r11, fun e he k hk => ?_⟩
  obtain ⟨⟨x1, x2, x3⟩, x4⟩ := r17 e he k hk
  rcases x3 with ⟨y1, st, len, y2, y3, y4, y5, y6, y7⟩ | ⟨y1, y2, y3, y4, y5⟩
  · exact Or.inl ⟨y1, st, len, y2, y3, y5⟩
  · refine Or.inr ⟨fun hh => ?_, y2⟩
    unfold isLet at hh
    rcases y1 with y1 | y1
    · unfold isNum at y1; omega
    · unfold isRef at y1; omega
end
end GG
