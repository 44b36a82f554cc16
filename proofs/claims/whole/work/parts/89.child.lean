section DT
theorem b32i {a : Int} (h : bR a) : b32 a = a := by unfold b32; omega
/-- the k-th from a on, of m, where f is p; -1 -/
def kth (f : Nat → Int) (p : Int) : Nat → Nat → Nat → Int
  | _, 0, _ => -1
  | a, m + 1, k => if f a = p then (if k = 0 then (a : Int) else kth f p (a + 1) m (k - 1)) else kth f p (a + 1) m k
section
variable {f : Nat → Int} {p : Int}
theorem kth_0 : ∀ m a : Nat, kth f p a m 0 = scan f p a m
  | 0, a => rfl
  | m + 1, a => by
    unfold kth scan
    rw [kth_0 m (a + 1)]
    by_cases c : f a = p
    · rw [if_pos c, if_pos c, if_pos rfl]
    · rw [if_neg c, if_neg c]
theorem kth_spec : ∀ m a k : Nat, kth f p a m k = -1 ∨ ∃ c : Nat, kth f p a m k = c ∧ a ≤ c ∧ c < a + m ∧ f c = p ∧ cntC f p c = cntC f p a + k
  | 0, a, k => Or.inl rfl
  | m + 1, a, k => by
    unfold kth
    by_cases c : f a = p
    · rw [if_pos c]
      by_cases k0 : k = 0
      · rw [if_pos k0]
        exact Or.inr ⟨a, rfl, by omega, by omega, c, by omega⟩
      · rw [if_neg k0]
        have hc : cntC f p (a + 1) = cntC f p a + 1 := by rw [cntC, if_pos c]
        rcases kth_spec m (a + 1) (k - 1) with h | ⟨d, h1, h2, h3, h4, h5⟩
        · exact Or.inl h
        · exact Or.inr ⟨d, h1, by omega, by omega, h4, by rw [h5, hc]; omega⟩
    · rw [if_neg c]
      have hc : cntC f p (a + 1) = cntC f p a := by rw [cntC, if_neg c]; omega
      rcases kth_spec m (a + 1) k with h | ⟨d, h1, h2, h3, h4, h5⟩
      · exact Or.inl h
      · exact Or.inr ⟨d, h1, by omega, by omega, h4, by rw [h5, hc]⟩
theorem kth_next : ∀ m a k c : Nat, kth f p a m k = c → kth f p a m (k + 1) = scan f p (c + 1) (a + m - (c + 1))
  | 0, a, k, c, h => by unfold kth at h; omega
  | m + 1, a, k, c, h => by
    have hk := kth_spec (f := f) (p := p) (m + 1) a k
    unfold kth at h ⊢
    by_cases x : f a = p
    · rw [if_pos x] at h ⊢
      rw [if_neg (by omega), Nat.add_sub_cancel]
      by_cases k0 : k = 0
      · rw [if_pos k0] at h
        have : c = a := by omega
        subst this
        subst k0
        rw [kth_0]
        congr 1
        omega
      · rw [if_neg k0] at h
        have := kth_next m (a + 1) (k - 1) c h
        rw [show k - 1 + 1 = k by omega] at this
        rw [this]
        congr 1
        omega
    · rw [if_neg x] at h ⊢
      rw [kth_next m (a + 1) k c h]
      congr 1
      omega
theorem kth_end : ∀ m a k : Nat, kth f p a m k = -1 → kth f p a m (k + 1) = -1
  | 0, a, k, h => rfl
  | m + 1, a, k, h => by
    unfold kth at h ⊢
    by_cases x : f a = p
    · rw [if_pos x] at h ⊢
      rw [if_neg (by omega), Nat.add_sub_cancel]
      by_cases k0 : k = 0
      · rw [if_pos k0] at h; omega
      · rw [if_neg k0] at h
        have := kth_end m (a + 1) (k - 1) h
        rw [show k - 1 + 1 = k by omega] at this
        exact this
    · rw [if_neg x] at h ⊢
      exact kth_end m (a + 1) k h
theorem kth_end' {m a k j : Nat} (h : kth f p a m k = -1) (hj : k ≤ j) : kth f p a m j = -1 := by
  induction j with
  | zero => rw [show 0 = k by omega]; exact h
  | succ j ih =>
    by_cases c : k ≤ j
    · exact kth_end m a j (ih c)
    · rw [show j + 1 = k by omega]; exact h
theorem cntC_mono : ∀ {a n : Nat}, a ≤ n → cntC f p a ≤ cntC f p n := by
  intro a n h
  induction n with
  | zero => rw [show a = 0 by omega]; omega
  | succ n ih =>
    by_cases c : a ≤ n
    · have := ih c
      show _ ≤ cntC f p n + _
      split <;> omega
    · rw [show a = n + 1 by omega]; omega
theorem kth_out {n k : Nat} (h : cntC f p n ≤ k) : kth f p 0 n k = -1 := by
  rcases kth_spec (f := f) (p := p) n 0 k with h1 | ⟨c, h1, h2, h3, h4, h5⟩
  · exact h1
  · exfalso
    have := cntC_mono (f := f) (p := p) (show c + 1 ≤ n by omega)
    have e : cntC f p (c + 1) = cntC f p c + 1 := by rw [cntC, if_pos h4]
    have e0 : cntC f p 0 = 0 := rfl
    omega
end
section
variable {T b n m : Nat} {μ : bM}
theorem st_child (h : Inv μ) {a k : Int} (ha : bR a) (hk : bR k) : Step (F_L_child a k μ) (F_X11_child a k) := by
  obtain ⟨hok, h1, h2, h3, h4⟩ := id h
  obtain ⟨T, b, n, m, hN, hB, hTr⟩ := iMain_view h4
  obtain ⟨hT, hb, e15, e763, hn, hm, n4, m6, e78, e79⟩ := id hN
  have hnn : (μ T 1).toNat = n := by omega
  by_cases c : 0 ≤ a ∧ a < n
  · obtain ⟨e, rfl⟩ : ∃ u : Nat, a = u := ⟨a.toNat, by omega⟩
    have hen : e < n := by omega
    obtain ⟨q1, q2, q3, q4, q5⟩ := hTr.2.2.2.1 e (by omega)
    rw [hnn] at q1 q2
    have hres : ∃ w : Int, w = (if k < 0 then -1 else kth (μ (T + 3)) e 0 n k.toNat) := ⟨_, rfl⟩
    obtain ⟨w, hw⟩ := hres
    have hwr : -1 ≤ w ∧ w < 400 := by
      rw [hw]
      split
      · omega
      · rcases kth_spec (f := μ (T + 3)) (p := (e : Int)) n 0 k.toNat with x | ⟨x, x1, x2, x3, -⟩ <;> omega
    have eC : F_X10_child e k μ = some (.inl w, μ) := by
      unfold F_X10_child
      rw [C_needEntry hN, if_pos c, bXm_inl]
      by_cases k0 : k < 0
      · rw [if_pos k0, hw, if_pos k0]
      · rw [if_neg k0] at hw
        obtain ⟨j, rfl⟩ : ∃ u : Nat, k = u := ⟨k.toNat, by omega⟩
        rw [Int.toNat_natCast] at hw
        rw [if_neg k0, bG_pos (by omega), e15, Int.toNat_natCast, Int.toNat_natCast, q1]
        by_cases ck : (j : Int) < cntC (μ (T + 3)) e n
        · rw [if_pos ck]
          have H := bLoop_inv (f := fun z : Int × Int => F_X8_childAt_10 T j μ z.1 z.2) (fun z => ∃ i : Nat, i ≤ j ∧ z.2 = i ∧ z.1 = kth (μ (T + 3)) e 0 n i) (fun z => j - z.2.toNat) (fun r => r = kth (μ (T + 3)) e 0 n j) ?_ (μ (T + 7) e, 0) ⟨0, by omega, rfl, by rw [kth_0, q2]⟩
          · obtain ⟨r, r1, r2⟩ := H
            unfold F_X8_childAt
            rw [bG_pos (by omega), Int.toNat_natCast, r1, Option.bind_some, r2, hw]
          · rintro ⟨z1, z2⟩ ⟨i, hi, g1, g2⟩
            simp only at g1 g2
            subst g1
            subst g2
            by_cases ci : i < j
            · rcases kth_spec (f := μ (T + 3)) (p := (e : Int)) n 0 i with x | ⟨x, x1, x2, x3, x4, x5⟩
              · right
                refine ⟨-1, ?_, (kth_end' x (by omega)).symm⟩
                show F_X8_childAt_10 T j μ (kth (μ (T + 3)) e 0 n i) i = _
                unfold F_X8_childAt_10
                rw [if_neg (by omega), x, if_pos rfl]
              · left
                have p4 := (hTr.2.2.2.1 x (by omega)).2.2.2.1 (by omega)
                rw [hnn, x4] at p4
                refine ⟨(kth (μ (T + 3)) e 0 n (i + 1), (i : Int) + 1), ?_, ⟨i + 1, by omega, by simp, rfl⟩, by simp only; omega⟩
                show F_X8_childAt_10 T j μ (kth (μ (T + 3)) e 0 n i) i = _
                unfold F_X8_childAt_10
                rw [if_neg (by omega), x1, if_neg (by omega), bG_pos (by omega), bG_pos (by constructor <;> omega), Int.toNat_natCast, p4, kth_next n 0 i x x1, Nat.zero_add]
            · right
              have : i = j := by omega
              subst this
              refine ⟨_, ?_, rfl⟩
              show F_X8_childAt_10 T i μ (kth (μ (T + 3)) e 0 n i) i = _
              unfold F_X8_childAt_10
              rw [if_pos (by omega)]
        · rw [if_neg ck, hw, kth_out (by omega)]
    refine St_tell2 h (w := w) (by constructor <;> omega) ?_ ?_
    · unfold F_L_child
      rw [eC]
      rfl
    · unfold F_X11_child
      rw [M_isEntry (iNum_out hN), b01_1 c, Option.bind_some, goes_1, bMm_some, if_pos (by decide)]
      obtain ⟨ν, hν⟩ : ∃ ν, ν = bset (bset μ 112 0 w) 76 0 0 := ⟨_, rfl⟩
      rw [← hν]
      have v3 : ν 76 3 = b := by rw [hν]; simp (disch := first | omega | decide) only [bset_q, bset_k, bset_at, e763]
      have v78 : ν 78 b = n := by rw [hν]; simp (disch := first | omega | decide) only [bset_q, bset_k, bset_at, e78]
      have v82 : ∀ i : Nat, i < n → ν 82 (400 * b + i) = μ (T + 3) i := fun i hi => by rw [hν]; simp (disch := first | omega | decide) only [bset_q, bset_k, bset_at]; exact (hTr.2.1 i (by omega)).1.2.1
      have H := bLoop_inv (f := fun z : Int × Int => F_X11_child_19 e ν z.1 z.2) (fun z => ∃ i : Nat, i ≤ n ∧ z.2 = i ∧ -2147483648 ≤ z.1 ∧ z.1 ≤ 2147483647 ∧ w = (if z.1 < 0 then -1 else kth (μ (T + 3)) e i (n - i) z.1.toNat)) (fun z => n - z.2.toNat) (fun r => r = (w, ν)) ?_ (k, 0) ⟨0, by omega, rfl, hk.1, hk.2, hw⟩
      · obtain ⟨r, r1, r2⟩ := H
        rw [r1, r2]
      · rintro ⟨z1, z2⟩ ⟨i, hi, g1, g2, g3, g4⟩
        simp only at g1 g2 g3 g4
        subst g1
        show (∃ s', F_X11_child_19 e ν z1 i = some (Sum.inl s') ∧ _) ∨ ∃ r, F_X11_child_19 e ν z1 i = some (Sum.inr r) ∧ _
        unfold F_X11_child_19
        rw [v3, bG_pos (by omega), Int.toNat_natCast, v78]
        by_cases ci : i < n
        · rw [if_neg (by omega)]
          by_cases z0 : z1 < 0
          · right
            rw [if_pos z0] at g4
            exact ⟨_, by rw [if_pos z0], by rw [g4]⟩
          · rw [if_neg z0, M_at hb v3 (by omega), Option.bind_some, bG_pos (by omega), t400, v82 i ci]
            rw [if_neg z0, show n - i = (n - (i + 1)) + 1 by omega] at g4
            unfold kth at g4
            by_cases x : μ (T + 3) i = e
            · rw [if_pos x] at g4
              rw [if_neg (fun y => y x)]
              by_cases y : z1 = 0
              · right
                rw [if_pos (by omega)] at g4
                exact ⟨_, by rw [if_neg (fun q => q y)], by rw [g4]⟩
              · left
                rw [if_neg (by omega)] at g4
                rw [if_pos y, bG_pos (by constructor <;> omega), bG_pos (by constructor <;> omega)]
                refine ⟨_, rfl, ⟨i + 1, by omega, by simp, by simp only; omega, by simp only; omega, ?_⟩, by simp only; omega⟩
                simp only
                rw [if_neg (by omega), g4]
                congr 1
                omega
            · left
              rw [if_neg x] at g4
              rw [if_pos x, bG_pos (by constructor <;> omega)]
              refine ⟨_, rfl, ⟨i + 1, by omega, by simp, g2, g3, ?_⟩, by simp only; omega⟩
              simp only
              rw [if_neg z0, g4]
        · right
          have : i = n := by omega
          subst this
          rw [if_pos (by omega)]
          refine ⟨_, rfl, ?_⟩
          rw [g4]
          by_cases z0 : z1 < 0
          · rw [if_pos z0]
          · rw [if_neg z0, Nat.sub_self]
            rfl
  · refine St_thr2 h (k := 1) (r := 0) (by decide) (by decide) ?_ ?_
    · have E0 : F_X10_child a k μ = some (.inr "java/lang/IndexOutOfBoundsException", μ) := by
        unfold F_X10_child
        rw [C_needEntry hN, if_neg c, bXm_inr]
      unfold F_L_child
      rw [E0]
      rfl
    · unfold F_X11_child
      rw [M_isEntry hN, b01_0 c, Option.bind_some, goes_0, bMm_some, if_neg (by decide)]
theorem st_letter (h : Inv μ) {e k i : Int} (he : bR e) (hk : bR k) (hi : bR i) : Step (F_L_letter e k i μ) (F_X11_letter e k i) := by
  obtain ⟨hok, h1, h2, h3, h4⟩ := id h
  obtain ⟨T, b, n, m, hN, hB, hTr⟩ := iMain_view h4
  obtain ⟨hT, hb, e15, e763, hn, hm, n4, m6, e78, e79⟩ := id hN
  have tl := hTr.2.2.2.2.2.1
  have t0 : F_X11_letter_41 e k i μ = some (0, bset μ 76 0 1) := by
    unfold F_X11_letter_41 F_X11_letter_42
    rw [goes_0, bMm_some, if_neg (by decide)]
  by_cases c : (0 ≤ e ∧ e < n) ∧ 0 ≤ k ∧ k < μ (T + 10) e.toNat
  · obtain ⟨e, rfl⟩ : ∃ u : Nat, e = u := ⟨e.toNat, by omega⟩
    obtain ⟨k, rfl⟩ : ∃ u : Nat, k = u := ⟨k.toNat, by omega⟩
    have p8 := (hTr.2.1 e (by omega)).2.2.2.2.1
    rw [Int.toNat_natCast] at c
    obtain ⟨a1, a2, a3⟩ := (hTr.2.2.2.2.1 e (by omega) k c.2.2).1
    have hk8 : k < 8 := by omega
    have Cs : F_X10_neededSlot e k μ = some (.inl ((8 * e + k : Nat) : Int), μ) := by rw [C_neededSlot hN hTr.2.1, Int.toNat_natCast, Int.toNat_natCast, if_pos c]
    have Ms : ∀ x : Int, F_X11_isAttribute e k (bset μ 112 0 x) = some 1 := fun x => by
      rw [M_isAtt (T := T) (b := b) (n := n) (m := m) (iNum_out hN), Int.toNat_natCast, bset_q (by omega), if_pos c]
      unfold iEnt
      simp (disch := omega) only [bset_q]
      exact hTr.2.1
    have Ms0 : F_X11_isAttribute e k μ = some 1 := by rw [M_isAtt hN hTr.2.1, Int.toNat_natCast, if_pos c]
    have l14 : 0 ≤ μ (T + 14) (8 * e + k) ∧ μ (T + 14) (8 * e + k) ≤ 255 := by
      rcases a3 with x | x
      · exact x.2.1
      · have := x.2.1; omega
    by_cases ci : 0 ≤ i ∧ i < μ (T + 14) (8 * e + k)
    · obtain ⟨i, rfl⟩ : ∃ u : Nat, i = u := ⟨i.toNat, by omega⟩
      rcases a3 with ⟨x1, x2, x3, x4, x5⟩ | x
      · have t4 := tl.2.1
        have t91 := tl.2.2
        have hby := bO_b (k := (μ (T + 13) (8 * e + k)).toNat + i) hok (show bSh 5 = (0, 30000) from rfl)
        refine St_tell2 h (w := μ 5 ((μ (T + 13) (8 * e + k)).toNat + i) % 256) (by constructor <;> omega) ?_ ?_
        · have E0 : F_X10_letter e k i μ = some (.inl (μ 5 ((μ (T + 13) (8 * e + k)).toNat + i) % 256), μ) := by
            unfold F_X10_letter F_X8_start
            rw [Cs, bXm_inl, if_neg (by omega), bG_pos (by omega), e15, Int.toNat_natCast, Int.toNat_natCast, if_pos ci.2, bG_pos (by omega), Option.bind_some, b32i (by constructor <;> omega), bG_pos (by constructor <;> omega), S_at hok bSt4 ⟨t4.1, t4.2⟩, Option.bind_some]
            unfold sAt
            rw [if_pos (by omega)]
            congr 5
            omega
          unfold F_L_letter
          rw [E0]
          rfl
        · unfold F_X11_letter F_X11_letter_42
          rw [Ms, Option.bind_some, if_neg (by decide), M_at hb (by simp (disch := first | omega | decide) only [bset_q, bset_k, bset_at, e763]) (by omega), Option.bind_some]
          have z : μ 92 ((μ 88 (3200 * b + (8 * e + k))).toNat + i) = μ 5 ((μ (T + 13) (8 * e + k)).toNat + i) := x5 i ci.2
          simp (disch := first | omega | decide) only [bG_pos, bMm_some, bXm_inl, bXm_inr, Option.bind_some, bset_q, bset_k, bset_at, if_pos, if_neg, Int.toNat_natCast, t3200, a1.2.2, M_in]
          rw [b01_1 (by omega), if_neg (by decide), goes_1, bMm_some, if_pos (by decide), M_at hb (by simp (disch := first | omega | decide) only [bset_q, bset_k, bset_at, e763]) (by omega)]
          simp (disch := first | omega | decide) only [bG_pos, bMm_some, bXm_inl, bXm_inr, Option.bind_some, bset_q, bset_k, bset_at, if_pos, if_neg, Int.toNat_natCast, t3200]
          rw [show (μ 88 (3200 * b + (8 * e + k)) + (i : Int)).toNat = (μ 88 (3200 * b + (8 * e + k))).toNat + i by omega, z, bAnd_b hby]
      · have := x.2.1
        omega
    · refine St_thr2 h (k := 1) (r := 0) (by decide) (by decide) ?_ ?_
      · have E0 : F_X10_letter e k i μ = some (.inr "java/lang/IndexOutOfBoundsException", μ) := by
          unfold F_X10_letter
          rw [Cs, bXm_inl]
          by_cases i0 : i < 0
          · rw [if_pos i0]
          · rw [if_neg i0, bG_pos (by omega), e15, Int.toNat_natCast, Int.toNat_natCast, if_neg (by omega)]
        unfold F_L_letter
        rw [E0]
        rfl
      · unfold F_X11_letter
        rw [Ms0, Option.bind_some, if_neg (by decide), M_at hb e763 (by omega), Option.bind_some]
        simp (disch := first | omega | decide) only [bG_pos, bMm_some, bXm_inl, bXm_inr, Option.bind_some, bset_q, bset_k, bset_at, if_pos, if_neg, Int.toNat_natCast, t3200, a1.2.2, M_in]
        rw [b01_0 (by omega), if_pos rfl, t0]
  · refine St_thr2 h (k := 1) (r := 0) (by decide) (by decide) ?_ ?_
    · have E0 : F_X10_letter e k i μ = some (.inr "java/lang/IndexOutOfBoundsException", μ) := by
        unfold F_X10_letter
        rw [C_neededSlot hN hTr.2.1, if_neg c, bXm_inr]
      unfold F_L_letter
      rw [E0]
      rfl
    · unfold F_X11_letter
      rw [M_isAtt hN hTr.2.1, if_neg c, Option.bind_some, if_pos rfl, t0]
end
end DT
