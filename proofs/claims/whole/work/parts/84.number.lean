section DO
theorem Inv_att {T b n m e A : Nat} {μ σ : bM} (h : Inv μ) (hN : iNum T b n m μ) (hB : iBank T b μ) (hTr : iTree T b μ) (he : e < n) (hA : μ (T + 10) e = A) (hA8 : A < 8) (hok : bOk σ) (h13 : σ 13 6 = 0)
    (s1 : ∀ q, q ≠ 112 → q ≠ 13 → q ≠ 76 → q ≠ 2 → q ≠ 4 → q ≠ 5 → (q < T + 10 ∨ T + 14 < q) → (q < 84 ∨ 92 < q) → σ q = μ q) (s76 : ∀ k, k ≠ 0 → k ≠ 2 → σ 76 k = μ 76 k)
    (x10 : ∀ j, σ (T + 10) j = if j = e then (A : Int) + 1 else μ (T + 10) j) (xs : ∀ q, T + 11 ≤ q → q ≤ T + 14 → ∀ j, j ≠ 8 * e + A → σ q j = μ q j)
    (y84 : ∀ j, σ 84 (400 * b + j) = if j = e then (A : Int) + 1 else μ 84 (400 * b + j)) (ys : ∀ q, 85 ≤ q → q ≤ 89 → ∀ j, j ≠ 8 * e + A → σ q (3200 * b + j) = μ q (3200 * b + j))
    (hnm : ∀ i, i < A → μ (T + 11) (8 * e + i) ≠ σ (T + 11) (8 * e + A)) (hnew : iAt1 T b σ e (8 * e + A))
    (h4 : μ 4 1 ≤ σ 4 1) (h5 : ∀ i : Nat, (i : Int) < μ 4 1 → σ 5 i = μ 5 i) (h91 : μ 91 b ≤ σ 91 b) (h92 : ∀ i : Nat, (i : Int) < 90000 * b + μ 91 b → σ 92 i = μ 92 i) (hlet : iLet b σ) (htape : iTape σ) : Inv σ := by
  obtain ⟨-, -, h2, h3, -⟩ := h
  obtain ⟨hT, hb, e15, e763, hn, hm, n4, m6, e78, e79⟩ := id hN
  obtain ⟨tc, te, tr, tch, ta, tl, ty⟩ := hTr
  have rT : ∀ k, k ≤ 9 → σ (T + k) = μ (T + k) := fun k hk => s1 (T + k) (by omega) (by omega) (by omega) (by omega) (by omega) (by omega) (by omega) (by omega)
  have rT0 : σ T = μ T := rT 0 (by omega)
  have rM : ∀ q, 78 ≤ q → q ≤ 83 → σ q = μ q := fun q h1 h2 => s1 q (by omega) (by omega) (by omega) (by omega) (by omega) (by omega) (by omega) (by omega)
  have r8 : ∀ j, σ (T + 10) j = μ (T + 10) j ∧ j ≠ e ∨ j = e ∧ σ (T + 10) j = (A : Int) + 1 := fun j => by
    rw [x10 j]
    by_cases c : j = e
    · rw [if_pos c]; exact Or.inr ⟨c, rfl⟩
    · rw [if_neg c]; exact Or.inl ⟨rfl, c⟩
  refine ⟨hok, htape, iSec_congr h2 (fun q _ _ => s1 q (by omega) (by omega) (by omega) (by omega) (by omega) (by omega) (by omega) (by omega)) (s1 93 (by omega) (by omega) (by omega) (by omega) (by omega) (by omega) (by omega) (by omega)) (s1 94 (by omega) (by omega) (by omega) (by omega) (by omega) (by omega) (by omega) (by omega)), iFault_congr h3 (s1 46 (by omega) (by omega) (by omega) (by omega) (by omega) (by omega) (by omega) (by omega)) (s76 21 (by omega) (by omega)) (s76 22 (by omega) (by omega)), T, b, ?_, ?_, ?_, ?_, ?_, ?_, hlet, Or.inl h13⟩
  · unfold iBank at hB ⊢
    rw [s1 1 (by omega) (by omega) (by omega) (by omega) (by omega) (by omega) (by omega) (by omega), s1 30 (by omega) (by omega) (by omega) (by omega) (by omega) (by omega) (by omega) (by omega), s76 3 (by omega) (by omega)]
    exact hB
  · unfold iCnt at tc ⊢
    rw [rT0, rM 78 (by omega) (by omega), rM 79 (by omega) (by omega)]
    exact tc
  · intro k hk
    rw [rT0] at hk
    obtain ⟨⟨p1, p2, p3, p4⟩, p5, p6, p7, p8, p9, p10, p11⟩ := te k hk
    rw [rT0, rT 1 (by omega), rT 2 (by omega), rT 3 (by omega), rT 4 (by omega), rT 5 (by omega), rM 81 (by omega) (by omega), rM 82 (by omega) (by omega), rM 83 (by omega) (by omega), y84 k, x10 k]
    by_cases c : k = e
    · rw [if_pos c, if_pos c]
      exact ⟨⟨p1, p2, p3, rfl⟩, p5, p6, p7, by omega, p9, p10, p11⟩
    · rw [if_neg c, if_neg c]
      exact ⟨⟨p1, p2, p3, p4⟩, p5, p6, p7, p8, p9, p10, p11⟩
  · unfold iRoot at tr ⊢
    rw [rT0, rT 1 (by omega), rT 3 (by omega), rT 4 (by omega), rM 80 (by omega) (by omega)]
    exact tr
  · unfold iChl at tch ⊢
    rw [rT0, rT 3 (by omega), rT 6 (by omega), rT 7 (by omega), rT 8 (by omega), rT 9 (by omega)]
    exact tch
  · intro e' he' k hk
    rw [rT0] at he'
    by_cases cn : e' = e ∧ k = A
    · obtain ⟨c1, c2⟩ := cn
      subst c1
      subst c2
      refine ⟨hnew, fun i hi => ?_⟩
      rw [xs (T + 11) (by omega) (by omega) _ (by omega)]
      exact hnm i hi
    · have hA' : (A : Int) = μ (T + 10) e := hA.symm
      have hk' : (k : Int) < μ (T + 10) e' := by
        rcases r8 e' with ⟨h1, h2⟩ | ⟨h1, h2⟩
        · rw [h1] at hk; exact hk
        · rw [h2] at hk
          subst h1
          omega
      obtain ⟨g1, g2⟩ := ta e' he' k hk'
      have ek8 : k < 8 := by
        have := (te e' he').2.2.2.2.1
        omega
      have hkA : e' = e → k < A := fun hh => by subst hh; omega
      have hne : 8 * e' + k ≠ 8 * e + A := by omega
      unfold iAt1 at g1 ⊢
      rw [xs (T + 11) (by omega) (by omega) _ hne, xs (T + 12) (by omega) (by omega) _ hne, xs (T + 13) (by omega) (by omega) _ hne, xs (T + 14) (by omega) (by omega) _ hne, ys 85 (by omega) (by omega) _ hne, ys 86 (by omega) (by omega) _ hne, ys 87 (by omega) (by omega) _ hne, ys 88 (by omega) (by omega) _ hne, ys 89 (by omega) (by omega) _ hne, rT0, rT 4 (by omega)]
      refine ⟨⟨g1.1, g1.2.1, ?_⟩, fun i hi => ?_⟩
      · rcases g1.2.2 with ⟨l1, l2, l3, l4, l5⟩ | g
        · refine Or.inl ⟨l1, l2, by omega, by omega, fun i hi => ?_⟩
          rw [h92 _ (by omega), h5 _ (by omega)]
          exact l5 i hi
        · exact Or.inr g
      · rw [xs (T + 11) (by omega) (by omega) (8 * e' + i) (by omega)]
        exact g2 i hi
/-- the name is told: class and model see the same -/
theorem told_eq {T b n m e : Nat} {μ : bM} {w : Int} (hN : iNum T b n m μ) (hTr : iTree T b μ) (he : e < n) : F_X11_isTold e w μ = some (if nmS T μ e w = -1 then 0 else 1) := by
  obtain ⟨hT, hb, e15, e763, hn, hm, n4, m6, e78, e79⟩ := hN
  obtain ⟨⟨p1, p2, p3, p4⟩, p5, p6, p7, p8, p9, p10, p11⟩ := hTr.2.1 e (by omega)
  rw [M_isTold (A := (μ (T + 10) e).toNat) hb e763 (by omega) (by omega) (by omega)]
  unfold nmS
  rw [scan_congr (g := fun k => μ (T + 11) (8 * e + k))]
  intro k _ hk
  exact (hTr.2.2.2.2.1 e (by omega) k (by omega)).1.1.1
theorem C_needNew {T b n m e : Nat} {μ : bM} {w : Int} (hN : iNum T b n m μ) (hTr : iTree T b μ) (he : e < n) : F_X10_needNewName e w μ = if (1 ≤ w ∧ w ≤ 16383) ∧ nmS T μ e w = -1 then some (.inl 0, μ) else some (.inr "java/lang/IllegalArgumentException", μ) := by
  obtain ⟨hT, hb, e15, e763, hn, hm, n4, m6, e78, e79⟩ := hN
  obtain ⟨⟨p1, p2, p3, p4⟩, p5, p6, p7, p8, p9, p10, p11⟩ := hTr.2.1 e (by omega)
  unfold F_X10_needNewName
  rw [C_needCode]
  by_cases c : 1 ≤ w ∧ w ≤ 16383
  · rw [if_pos c, bXm_inl, e15, Int.toNat_natCast, C_slotOf (by omega) p8, Option.bind_some]
    by_cases d : nmS T μ e w = -1
    · rw [if_pos d, if_pos rfl, if_pos ⟨c, d⟩]
    · rw [if_neg d, if_neg (by omega), if_neg (fun h => d h.2)]
  · rw [if_neg c, if_neg (fun h => c h.1)]
    rfl
theorem C_needRoom {T b n m e : Nat} {μ : bM} {l : Int} (hN : iNum T b n m μ) (he : e < n) (hl : iLet b μ) (hl0 : 0 ≤ l ∧ l ≤ 12000) : F_X10_needRoom e l μ = if μ (T + 10) e = 8 ∨ 30000 < μ 4 1 + l then some (.inr "java/lang/UnsupportedOperationException", μ) else some (.inl 0, μ) := by
  obtain ⟨hT, hb, e15, e763, hn, hm, n4, m6, e78, e79⟩ := hN
  have h4 := hl.2.1
  have hroom : F_X6_room 4 μ = some (30000 - μ 4 1) := by
    unfold F_X6_room
    rw [show ((bN (4 + 1) : Nat) : Int) = 30000 by decide]
    exact bG_mk (by constructor <;> omega) rfl
  unfold F_X10_needRoom
  rw [bG_pos (by omega), e15, Int.toNat_natCast, Int.toNat_natCast, hroom, Option.bind_some]
  by_cases c : μ (T + 10) e = 8
  · rw [if_pos c, if_pos (Or.inl c)]
  · rw [if_neg c]
    by_cases d : l ≤ 30000 - μ 4 1
    · rw [if_pos d, if_neg (by omega)]
    · rw [if_neg d, if_pos (by omega)]
/-- the class's and the model's step behind all tests: one attribute, a number or a reference -/
theorem st_plain {T b n m e A : Nat} {μ : bM} {nm fo va : Int} (h : Inv μ) (hN : iNum T b n m μ) (hB : iBank T b μ) (hTr : iTree T b μ) (he : e < n) (hA : μ (T + 10) e = A) (hA8 : A < 8) (hnm : 1 ≤ nm ∧ nm ≤ 16383) (hnew : nmS T μ e nm = -1)
    (hfo : isNum fo ∨ isRef fo) (hva : (fo = 15 → 0 ≤ va) ∧ (isRef fo → (0 ≤ va ∧ va < n) ∧ μ (T + 4) va.toNat = μ (T + 4) e)) :
    ∃ ν σ, F_X8_addAttribute T e nm fo va 0 (bset μ 13 6 0) = some ((A : Int) + 1, ν) ∧ F_X11_add e nm fo va (bset (bset ν 112 0 ((A : Int) + 1)) 76 0 0) = some ((A : Int) + 1, σ) ∧ σ 76 0 = 0 ∧ σ 112 0 = (A : Int) + 1 ∧ (bOk σ → Inv σ) := by
  obtain ⟨hT, hb, e15, e763, hn, hm, n4, m6, e78, e79⟩ := id hN
  obtain ⟨⟨p1, p2, p3, p4⟩, p5, p6, p7, p8, p9, p10, p11⟩ := hTr.2.1 e (by omega)
  have f0 : ∀ q, q ≠ 13 → bset μ 13 6 0 q = μ q := fun q hq => bset_q hq
  obtain ⟨ν, a1, a2, a3, a4, a5, a6, a7⟩ := C_addAtt (T := T) (e := e) (A := A) (μ := bset μ 13 6 0) (nm := nm) (fo := fo) (va := va) (ln := 0) (by omega) (by rw [f0 _ (by omega)]; exact hA) hA8
  obtain ⟨μ2, hμ2⟩ : ∃ μ2, μ2 = bset (bset ν 112 0 ((A : Int) + 1)) 76 0 0 := ⟨_, rfl⟩
  have g2 : ∀ q, q ≠ 112 → q ≠ 13 → q ≠ 76 → (q < T + 10 ∨ T + 14 < q) → μ2 q = μ q := fun q q1 q2 q3 q4 => by rw [hμ2, bset_q q3, bset_q q1, a7 q q4, f0 q q2]
  have k76 : ∀ k, k ≠ 0 → μ2 76 k = μ 76 k := fun k k0 => by rw [hμ2, bset_k k0, bset_q (by omega), a7 76 (by omega), f0 76 (by omega)]
  obtain ⟨σ, b1, b2, b3, b4, b5, b6, b7, b8⟩ := M_add (b := b) (e := e) (A := A) (μ := μ2) (nm := nm) (fo := fo) (va := va) hb (by rw [k76 3 (by omega)]; exact e763) (by omega) (by rw [g2 84 (by omega) (by omega) (by omega) (by omega), p4]; exact hA) hA8
  have gM : ∀ q, 84 ≤ q → q ≤ 92 → μ2 q = μ q := fun q h1 h2 => g2 q (by omega) (by omega) (by omega) (by omega)
  have sT : ∀ q, T + 10 ≤ q → q ≤ T + 14 → σ q = ν q := fun q h1 h2 => by rw [b8 q (by omega), hμ2, bset_q (by omega), bset_q (by omega)]
  have s1 : ∀ q, q ≠ 112 → q ≠ 13 → q ≠ 76 → (q < T + 10 ∨ T + 14 < q) → (q < 84 ∨ 89 < q) → σ q = μ q := fun q q1 q2 q3 q4 q5 => by rw [b8 q q5, g2 q q1 q2 q3 q4]
  have s76 : ∀ k, k ≠ 0 → σ 76 k = μ 76 k := fun k k0 => by rw [b8 76 (by omega), k76 k k0]
  have nT : ∀ q, T + 10 ≤ q → q ≤ T + 14 → bset μ 13 6 0 q = μ q := fun q h1 h2 => f0 q (by omega)
  refine ⟨ν, σ, a1, by rw [← hμ2]; exact b1, by rw [b8 76 (by omega), hμ2, bset_at], by rw [b8 112 (by omega), hμ2, bset_q (by omega), bset_at], fun hok => ?_⟩
  have r4 := s1 4 (by omega) (by omega) (by omega) (by omega) (by omega)
  have r5 := s1 5 (by omega) (by omega) (by omega) (by omega) (by omega)
  have r91 := s1 91 (by omega) (by omega) (by omega) (by omega) (by omega)
  have r92 := s1 92 (by omega) (by omega) (by omega) (by omega) (by omega)
  have n11 : σ (T + 11) (8 * e + A) = nm := by rw [sT _ (by omega) (by omega), a3, if_pos rfl]
  have n12 : σ (T + 12) (8 * e + A) = fo := by rw [sT _ (by omega) (by omega), a4, if_pos rfl]
  have n13 : σ (T + 13) (8 * e + A) = va := by rw [sT _ (by omega) (by omega), a5, if_pos rfl]
  have n14 : σ (T + 14) (8 * e + A) = 0 := by rw [sT _ (by omega) (by omega), a6, if_pos rfl]
  refine Inv_att h hN hB hTr he hA hA8 hok ?_ (fun q q1 q2 q3 _ _ _ q7 q8 => s1 q q1 q2 q3 q7 (by omega)) (fun k k0 _ => s76 k k0) ?_ (fun q h1 h2 j hj => ?_) ?_ (fun q h1 h2 j hj => ?_) (fun i hi => ?_) ?_ (by rw [r4]; omega) (fun i _ => by rw [r5]) (by rw [r91]; omega) (fun i _ => by rw [r92]) (iLet_congr hTr.2.2.2.2.2.1 (s1 90 (by omega) (by omega) (by omega) (by omega) (by omega)) r91 r4) (iTape_congr h.2.1 (s76 2 (by omega)) (by rw [s1 2 (by omega) (by omega) (by omega) (by omega) (by omega)]) (s1 3 (by omega) (by omega) (by omega) (by omega) (by omega)) (s1 77 (by omega) (by omega) (by omega) (by omega) (by omega)))
  · rw [b8 13 (by omega), hμ2, bset_q (by omega), bset_q (by omega), a7 13 (by omega), bset_at]
  · intro j
    rw [sT _ (by omega) (by omega), a2 j, nT _ (by omega) (by omega)]
  · rw [sT q (by omega) h2]
    have hq : q = T + 11 ∨ q = T + 12 ∨ q = T + 13 ∨ q = T + 14 := by omega
    rcases hq with rfl | rfl | rfl | rfl
    · rw [a3 j, if_neg hj, nT _ (by omega) (by omega)]
    · rw [a4 j, if_neg hj, nT _ (by omega) (by omega)]
    · rw [a5 j, if_neg hj, nT _ (by omega) (by omega)]
    · rw [a6 j, if_neg hj, nT _ (by omega) (by omega)]
  · intro j
    rw [b2 j, gM 84 (by omega) (by omega)]
  · have hq : q = 85 ∨ q = 86 ∨ q = 87 ∨ q = 88 ∨ q = 89 := by omega
    rcases hq with rfl | rfl | rfl | rfl | rfl
    · rw [b3 j, if_neg hj, gM _ (by omega) (by omega)]
    · rw [b4 j, if_neg hj, gM _ (by omega) (by omega)]
    · rw [b5 j, if_neg hj, gM _ (by omega) (by omega)]
    · rw [b6 j, if_neg hj, gM _ (by omega) (by omega)]
    · rw [b7 j, if_neg hj, gM _ (by omega) (by omega)]
  · rw [n11]
    unfold nmS at hnew
    rcases scan_spec (f := fun k => μ (T + 11) (8 * e + k)) (p := nm) (μ (T + 10) e).toNat 0 with ⟨_, g⟩ | ⟨g, g1, g2, g3, g4, g5⟩
    · exact g i (by omega) (by omega)
    · rw [g4] at hnew; omega
  · unfold iAt1
    rw [n11, n12, n13, n14, b3 _, b4 _, b5 _, b7 _, if_pos rfl, if_pos rfl, if_pos rfl, if_pos rfl, s1 T (by omega) (by omega) (by omega) (by omega) (by omega), s1 (T + 4) (by omega) (by omega) (by omega) (by omega) (by omega), hn]
    exact ⟨⟨rfl, rfl, rfl⟩, hnm, Or.inr ⟨hfo, rfl, rfl, hva.1, hva.2⟩⟩
end DO
