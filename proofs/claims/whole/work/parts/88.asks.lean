section DS
section
variable {T b n m : Nat} {μ : bM}
theorem iNum_out {w : Int} (h : iNum T b n m μ) : iNum T b n m (bset μ 112 0 w) := iNum_congr h (by rw [bset_q (by omega)]) (by rw [bset_q (by omega)]) (bset_q (by have := h.1; omega)) (bset_q (by omega)) (bset_q (by omega))
theorem iNum_76 {w : Int} (h : iNum T b n m μ) : iNum T b n m (bset μ 76 0 w) := iNum_congr h (by rw [bset_q (by omega)]) (by rw [bset_k (by omega)]) (bset_q (by have := h.1; omega)) (bset_q (by omega)) (bset_q (by omega))
theorem bRtoL {a : Int} (h : bR a) : bRL a := ⟨by have := h.1; omega, by have := h.2; omega⟩
theorem st_clear (h : Inv μ) : ∃ (k : Int) (μ1 μ2 : bM), F_X10_clear μ = some (k, μ1) ∧ F_X11_clear μ1 = some (k, μ2) ∧ Inv μ2 := by
  obtain ⟨hok, h1, h2, h3, h4⟩ := id h
  obtain ⟨T, b, n, m, hN, hB, hTr⟩ := iMain_view h4
  obtain ⟨hT, hb, e15, e763, hn, hm, n4, m6, e78, e79⟩ := id hN
  have tl := hTr.2.2.2.2.2.1
  obtain ⟨μ1, hμ1⟩ : ∃ μ1, μ1 = bset (bset (bset (bset μ T 0 0) T 1 0) 4 1 0) 13 6 0 := ⟨_, rfl⟩
  have E1 : F_X10_clear μ = some ((n : Int), μ1) := by
    unfold F_X10_clear F_X8_forget F_X3_forget
    rw [bMm_some, e15, Int.toNat_natCast, S_cut (s := 4) (by decide) (by have := tl.2.1; rw [bset_q (by omega), bset_q (by omega)]; omega), bMm_some, bMm_some, hn, hμ1]
  have f1 : ∀ q, q ≠ 13 → q ≠ 4 → q ≠ T → μ1 q = μ q := fun q q1 q2 q3 => by rw [hμ1, bset_q q1, bset_q q2, bset_q q3, bset_q q3]
  have f76 : ∀ k, μ1 76 k = μ 76 k := fun k => by rw [f1 76 (by omega) (by omega) (by omega)]
  have f78 : μ1 78 b = n := by rw [f1 78 (by omega) (by omega) (by omega)]; exact e78
  have f3 : μ1 76 3 = b := by rw [f76]; exact e763
  obtain ⟨μ2, hμ2⟩ : ∃ μ2, μ2 = bset (bset (bset (bset (bset μ1 76 0 0) 78 b 0) 79 b 0) 91 b 0) 90 b 0 := ⟨_, rfl⟩
  have E2 : F_X11_clear μ1 = some ((n : Int), μ2) := by
    unfold F_X11_clear
    simp (disch := first | omega | decide) only [bG_pos, bMm_some, bXm_inl, bXm_inr, Option.bind_some, bset_q, bset_k, bset_at, if_pos, if_neg, Int.toNat_natCast, f3, f78]
    rw [hμ2]
  have ok1 := kp_X10_clear hok E1
  have ok2 := kp_X11_clear ok1 E2
  have s1 : ∀ q, q ≠ 13 → q ≠ 4 → q ≠ T → q ≠ 76 → q ≠ 78 → q ≠ 79 → q ≠ 90 → q ≠ 91 → μ2 q = μ q := fun q q1 q2 q3 q4 q5 q6 q7 q8 => by rw [hμ2, bset_q q7, bset_q q8, bset_q q6, bset_q q5, bset_q q4, f1 q q1 q2 q3]
  have s76 : ∀ k, k ≠ 0 → μ2 76 k = μ 76 k := fun k k0 => by rw [hμ2, bset_q (by omega), bset_q (by omega), bset_q (by omega), bset_q (by omega), bset_k k0, f76]
  have T0 : μ2 T 0 = 0 := by rw [hμ2]; simp (disch := first | omega | decide) only [bset_q, bset_k, bset_at]; rw [hμ1]; simp (disch := first | omega | decide) only [bset_q, bset_k, bset_at]
  have T1 : μ2 T 1 = 0 := by rw [hμ2]; simp (disch := first | omega | decide) only [bset_q, bset_k, bset_at]; rw [hμ1]; simp (disch := first | omega | decide) only [bset_q, bset_k, bset_at]
  have Q78 : μ2 78 b = 0 := by rw [hμ2]; simp (disch := first | omega | decide) only [bset_q, bset_k, bset_at]
  have Q79 : μ2 79 b = 0 := by rw [hμ2]; simp (disch := first | omega | decide) only [bset_q, bset_k, bset_at]
  have Q90 : μ2 90 b = 0 := by rw [hμ2]; simp (disch := first | omega | decide) only [bset_q, bset_k, bset_at]
  have Q91 : μ2 91 b = 0 := by rw [hμ2]; simp (disch := first | omega | decide) only [bset_q, bset_k, bset_at]
  have Q4 : μ2 4 1 = 0 := by rw [hμ2]; simp (disch := first | omega | decide) only [bset_q, bset_k, bset_at]; rw [hμ1]; simp (disch := first | omega | decide) only [bset_q, bset_k, bset_at]
  have Q13 : μ2 13 6 = 0 := by rw [hμ2]; simp (disch := first | omega | decide) only [bset_q, bset_k, bset_at]; rw [hμ1]; simp (disch := first | omega | decide) only [bset_q, bset_k, bset_at]
  refine ⟨n, μ1, μ2, E1, E2, ok2, iTape_congr h1 (s76 2 (by omega)) (by rw [s1 2 (by omega) (by omega) (by omega) (by omega) (by omega) (by omega) (by omega) (by omega)]) (s1 3 (by omega) (by omega) (by omega) (by omega) (by omega) (by omega) (by omega) (by omega)) (s1 77 (by omega) (by omega) (by omega) (by omega) (by omega) (by omega) (by omega) (by omega)), iSec_congr h2 (fun q _ _ => s1 q (by omega) (by omega) (by omega) (by omega) (by omega) (by omega) (by omega) (by omega)) (s1 93 (by omega) (by omega) (by omega) (by omega) (by omega) (by omega) (by omega) (by omega)) (s1 94 (by omega) (by omega) (by omega) (by omega) (by omega) (by omega) (by omega) (by omega)), iFault_congr h3 (s1 46 (by omega) (by omega) (by omega) (by omega) (by omega) (by omega) (by omega) (by omega)) (s76 21 (by omega)) (s76 22 (by omega)), T, b, ?_, ⟨by omega, by omega, by omega, by omega⟩, fun e he => by omega, fun e he => by omega, fun e he => by omega, fun e he => by omega, ⟨by omega, by omega, by omega⟩, Or.inl Q13⟩
  unfold iBank at hB ⊢
  rw [s1 1 (by omega) (by omega) (by omega) (by omega) (by omega) (by omega) (by omega) (by omega), s1 30 (by omega) (by omega) (by omega) (by omega) (by omega) (by omega) (by omega) (by omega), s76 3 (by omega)]
  exact hB
theorem st_root (h : Inv μ) {v : Int} (hv : bR v) : Step (F_L_root v μ) (F_X11_root v) := by
  obtain ⟨hok, h1, h2, h3, h4⟩ := id h
  obtain ⟨T, b, n, m, hN, hB, hTr⟩ := iMain_view h4
  obtain ⟨hT, hb, e15, e763, hn, hm, n4, m6, e78, e79⟩ := id hN
  by_cases c : 0 ≤ v ∧ v < m
  · obtain ⟨u, hu⟩ : ∃ u : Nat, v = u := ⟨v.toNat, by omega⟩
    subst hu
    obtain ⟨r1, r2, -⟩ := hTr.2.2.1 u (by omega)
    refine St_tell2 h (w := μ (T + 1) u) (by constructor <;> omega) ?_ ?_
    · have E0 : F_X10_root u μ = some (.inl (μ (T + 1) u), μ) := by
        unfold F_X10_root
        simp (disch := first | omega | decide) only [bG_pos, bMm_some, bXm_inl, bXm_inr, Option.bind_some, bset_q, bset_k, bset_at, if_pos, if_neg, Int.toNat_natCast, e15, hm]
      unfold F_L_root
      rw [E0]
      rfl
    · unfold F_X11_root
      simp (disch := first | omega | decide) only [bG_pos, bMm_some, bXm_inl, bXm_inr, Option.bind_some, bset_q, bset_k, bset_at, if_pos, if_neg, Int.toNat_natCast, e763, e79, M_in]
      rw [b01_1 (by omega), goes_1]
      simp (disch := first | omega | decide) only [bG_pos, bMm_some, bXm_inl, bXm_inr, Option.bind_some, bset_q, bset_k, bset_at, if_pos, if_neg, Int.toNat_natCast, e763, t6, r1]
  · refine St_thr2 h (k := 1) (r := 0) (by decide) (by decide) ?_ ?_
    · have E0 : F_X10_root v μ = some (.inr "java/lang/IndexOutOfBoundsException", μ) := by
        unfold F_X10_root
        rw [e15, Int.toNat_natCast, hm]
        by_cases c1 : v < 0
        · rw [if_pos c1]
        · rw [if_neg c1, if_neg (by omega)]
      unfold F_L_root
      rw [E0]
      rfl
    · unfold F_X11_root
      simp (disch := first | omega | decide) only [bG_pos, bMm_some, bXm_inl, bXm_inr, Option.bind_some, bset_q, bset_k, bset_at, if_pos, if_neg, Int.toNat_natCast, e763, e79, M_in]
      rw [b01_0 (by omega), goes_0]
      rfl
theorem M_isAtt (hN : iNum T b n m μ) (hTr : iEnt T b μ) {e k : Int} : F_X11_isAttribute e k μ = some (if (0 ≤ e ∧ e < n) ∧ 0 ≤ k ∧ k < μ (T + 10) e.toNat then 1 else 0) := by
  obtain ⟨hT, hb, e15, e763, hn, hm, n4, m6, e78, e79⟩ := id hN
  unfold F_X11_isAttribute
  rw [M_isEntry hN]
  by_cases c : 0 ≤ e ∧ e < n
  · obtain ⟨e, rfl⟩ : ∃ u : Nat, e = u := ⟨e.toNat, by omega⟩
    obtain ⟨⟨p1, p2, p3, p4⟩, p5, p6, p7, p8, p9, p10, p11⟩ := hTr e (by omega)
    rw [b01_1 c, Option.bind_some, if_neg (by decide), M_at hb e763 (by omega), Option.bind_some, bG_pos (by omega), t400, p4, bG_pos (by constructor <;> omega), M_in, Option.bind_some, Int.toNat_natCast]
    by_cases d : 0 ≤ k ∧ k < μ (T + 10) e
    · rw [b01_1 (by omega), if_neg (by decide), if_pos ⟨c, d⟩]
    · rw [b01_0 (by omega), if_pos rfl, if_neg (fun h => d h.2)]
  · rw [b01_0 c, Option.bind_some, if_pos rfl, if_neg (fun h => c h.1)]
theorem C_neededSlot (hN : iNum T b n m μ) (hTr : iEnt T b μ) {e k : Int} : F_X10_neededSlot e k μ = if (0 ≤ e ∧ e < n) ∧ 0 ≤ k ∧ k < μ (T + 10) e.toNat then some (.inl ((8 * e.toNat + k.toNat : Nat) : Int), μ) else some (.inr "java/lang/IndexOutOfBoundsException", μ) := by
  obtain ⟨hT, hb, e15, e763, hn, hm, n4, m6, e78, e79⟩ := id hN
  unfold F_X10_neededSlot
  rw [C_needEntry hN]
  by_cases c : 0 ≤ e ∧ e < n
  · obtain ⟨e, rfl⟩ : ∃ u : Nat, e = u := ⟨e.toNat, by omega⟩
    obtain ⟨⟨p1, p2, p3, p4⟩, p5, p6, p7, p8, p9, p10, p11⟩ := hTr e (by omega)
    rw [if_pos c, bXm_inl, Int.toNat_natCast]
    by_cases c1 : k < 0
    · rw [if_pos c1, if_neg (by omega)]
    · obtain ⟨k, rfl⟩ : ∃ u : Nat, k = u := ⟨k.toNat, by omega⟩
      rw [if_neg c1, bG_pos (by omega), e15, Int.toNat_natCast]
      by_cases d : (k : Int) < μ (T + 10) e
      · rw [if_pos d, C_slotAt (by omega) (by omega), Option.bind_some, if_pos ⟨c, by omega, d⟩]
        congr 3
        omega
      · rw [if_neg d, if_neg (fun h => d h.2.2)]
  · rw [if_neg c, bXm_inr, if_neg (fun h => c h.1)]
theorem st_attribute (h : Inv μ) {e k w : Int} (he : bR e) (hk : bR k) (hw : bR w) : Step (F_L_attribute e k w μ) (F_X11_attribute e k w) := by
  obtain ⟨hok, h1, h2, h3, h4⟩ := id h
  obtain ⟨T, b, n, m, hN, hB, hTr⟩ := iMain_view h4
  obtain ⟨hT, hb, e15, e763, hn, hm, n4, m6, e78, e79⟩ := id hN
  by_cases c : ((0 ≤ e ∧ e < n) ∧ 0 ≤ k ∧ k < μ (T + 10) e.toNat) ∧ 0 ≤ w ∧ w ≤ 2
  · obtain ⟨c, cw⟩ := c
    obtain ⟨e, rfl⟩ : ∃ u : Nat, e = u := ⟨e.toNat, by omega⟩
    obtain ⟨k, rfl⟩ : ∃ u : Nat, k = u := ⟨k.toNat, by omega⟩
    have p8 := (hTr.2.1 e (by omega)).2.2.2.2.1
    rw [Int.toNat_natCast] at c
    have ha := (hTr.2.2.2.2.1 e (by omega) k c.2.2).1
    have hk8 : k < 8 := by omega
    obtain ⟨a1, a2, a3⟩ := ha
    have hcs : w = 0 ∨ w = 1 ∨ w = 2 := by omega
    have key : ∀ q, (q = 11 ∨ q = 12 ∨ q = 14) → bRL (μ (T + q) (8 * e + k)) := fun q hq => by
      refine bRtoL (bO_i (n := 3200) hok ?_)
      rcases hq with rfl | rfl | rfl <;> rcases hT with rfl | rfl <;> rfl
    have C : ∀ x : Int, F_X10_attribute e k w μ = some (.inl x, μ) → F_L_attribute e k w μ = some (0, bset μ 112 0 x, 0) := fun x hx => by
      unfold F_L_attribute
      rw [hx]
      rfl
    have Cs : F_X10_neededSlot e k μ = some (.inl ((8 * e + k : Nat) : Int), μ) := by rw [C_neededSlot hN hTr.2.1, Int.toNat_natCast, Int.toNat_natCast, if_pos c]
    have Ms : ∀ x : Int, F_X11_isAttribute e k (bset μ 112 0 x) = some 1 := fun x => by
      rw [M_isAtt (T := T) (b := b) (n := n) (m := m) (iNum_out hN), Int.toNat_natCast, bset_q (by omega), if_pos c]
      unfold iEnt
      simp (disch := omega) only [bset_q]
      exact hTr.2.1
    rcases hcs with rfl | rfl | rfl
    · refine St_tell2 h (w := μ (T + 11) (8 * e + k)) (key 11 (by omega)) (C _ ?_) ?_
      · unfold F_X10_attribute
        rw [Cs, bXm_inl]
        simp (disch := first | omega | decide) only [bG_pos, bMm_some, bXm_inl, bXm_inr, Option.bind_some, bset_q, bset_k, bset_at, if_pos, if_neg, Int.toNat_natCast, e15]
      · unfold F_X11_attribute F_X11_attribute_27
        rw [Ms, Option.bind_some, if_neg (by decide), M_in, b01_1 (by decide), Option.bind_some, if_neg (by decide), goes_1, bMm_some, if_pos (by decide), M_at hb (by simp (disch := first | omega | decide) only [bset_q, bset_k, bset_at, e763]) (by omega)]
        simp (disch := first | omega | decide) only [bG_pos, bMm_some, bXm_inl, bXm_inr, Option.bind_some, bset_q, bset_k, bset_at, if_pos, if_neg, Int.toNat_natCast, t3200, a1.1]
    · refine St_tell2 h (w := μ (T + 12) (8 * e + k)) (key 12 (by omega)) (C _ ?_) ?_
      · unfold F_X10_attribute
        rw [Cs, bXm_inl]
        simp (disch := first | omega | decide) only [bG_pos, bMm_some, bXm_inl, bXm_inr, Option.bind_some, bset_q, bset_k, bset_at, if_pos, if_neg, Int.toNat_natCast, e15]
      · unfold F_X11_attribute F_X11_attribute_27
        rw [Ms, Option.bind_some, if_neg (by decide), M_in, b01_1 (by decide), Option.bind_some, if_neg (by decide), goes_1, bMm_some, if_pos (by decide), M_at hb (by simp (disch := first | omega | decide) only [bset_q, bset_k, bset_at, e763]) (by omega)]
        simp (disch := first | omega | decide) only [bG_pos, bMm_some, bXm_inl, bXm_inr, Option.bind_some, bset_q, bset_k, bset_at, if_pos, if_neg, Int.toNat_natCast, t3200, a1.2.1]
    · refine St_tell2 h (w := μ (T + 14) (8 * e + k)) (key 14 (by omega)) (C _ ?_) ?_
      · unfold F_X10_attribute
        rw [Cs, bXm_inl]
        simp (disch := first | omega | decide) only [bG_pos, bMm_some, bXm_inl, bXm_inr, Option.bind_some, bset_q, bset_k, bset_at, if_pos, if_neg, Int.toNat_natCast, e15]
      · unfold F_X11_attribute F_X11_attribute_27
        rw [Ms, Option.bind_some, if_neg (by decide), M_in, b01_1 (by decide), Option.bind_some, if_neg (by decide), goes_1, bMm_some, if_pos (by decide), M_at hb (by simp (disch := first | omega | decide) only [bset_q, bset_k, bset_at, e763]) (by omega)]
        simp (disch := first | omega | decide) only [bG_pos, bMm_some, bXm_inl, bXm_inr, Option.bind_some, bset_q, bset_k, bset_at, if_pos, if_neg, Int.toNat_natCast, t3200, a1.2.2]
  · refine St_thr2 h (k := 1) (r := 0) (by decide) (by decide) ?_ ?_
    · have E0 : F_X10_attribute e k w μ = some (.inr "java/lang/IndexOutOfBoundsException", μ) := by
        unfold F_X10_attribute
        rw [C_neededSlot hN hTr.2.1]
        by_cases d : (0 ≤ e ∧ e < n) ∧ 0 ≤ k ∧ k < μ (T + 10) e.toNat
        · rw [if_pos d, bXm_inl, if_neg (by omega), if_neg (by omega), if_neg (by omega)]
        · rw [if_neg d, bXm_inr]
      unfold F_L_attribute
      rw [E0]
      rfl
    · have t0 : F_X11_attribute_26 e k w μ = some (0, bset μ 76 0 1) := by
        unfold F_X11_attribute_26 F_X11_attribute_27
        rw [goes_0, bMm_some, if_neg (by decide)]
      unfold F_X11_attribute
      rw [M_isAtt hN hTr.2.1, Option.bind_some, t0]
      by_cases d : (0 ≤ e ∧ e < n) ∧ 0 ≤ k ∧ k < μ (T + 10) e.toNat
      · rw [if_pos d, if_neg (by decide), M_in, b01_0 (fun x => c ⟨d, x⟩), Option.bind_some, if_pos rfl]
      · rw [if_neg d, if_pos rfl]
theorem st_value (h : Inv μ) {e k : Int} (he : bR e) (hk : bR k) : Step (F_L_value e k μ) (F_X11_value e k) := by
  obtain ⟨hok, h1, h2, h3, h4⟩ := id h
  obtain ⟨T, b, n, m, hN, hB, hTr⟩ := iMain_view h4
  obtain ⟨hT, hb, e15, e763, hn, hm, n4, m6, e78, e79⟩ := id hN
  by_cases c : (0 ≤ e ∧ e < n) ∧ 0 ≤ k ∧ k < μ (T + 10) e.toNat
  · obtain ⟨e, rfl⟩ : ∃ u : Nat, e = u := ⟨e.toNat, by omega⟩
    obtain ⟨k, rfl⟩ : ∃ u : Nat, k = u := ⟨k.toNat, by omega⟩
    have p8 := (hTr.2.1 e (by omega)).2.2.2.2.1
    rw [Int.toNat_natCast] at c
    obtain ⟨a1, a2, a3⟩ := (hTr.2.2.2.2.1 e (by omega) k c.2.2).1
    have hk8 : k < 8 := by omega
    have Cs : F_X10_neededSlot e k μ = some (.inl ((8 * e + k : Nat) : Int), μ) := by rw [C_neededSlot hN hTr.2.1, Int.toNat_natCast, Int.toNat_natCast, if_pos c]
    have Ms : ∀ x : Int, F_X11_isAttribute e k (bset μ 112 0 x) = some 1 := fun x => by
      rw [M_isAtt (T := T) (b := b) (n := n) (m := m) (iNum_out hN), Int.toNat_natCast, bset_q (by omega), if_pos c]
      unfold iEnt
      simp (disch := omega) only [bset_q]
      exact hTr.2.1
    by_cases cl : isLet (μ (T + 12) (8 * e + k))
    · refine St_tell2 h (w := 0) (by decide) ?_ ?_
      · have E0 : F_X10_value e k μ = some (.inl 0, μ) := by
          unfold F_X10_value
          rw [Cs, bXm_inl, bG_pos (by omega), e15, Int.toNat_natCast, Int.toNat_natCast, (C_isLetters (μ := μ)).1 cl, Option.bind_some, if_neg (by decide)]
        unfold F_L_value
        rw [E0]
        rfl
      · unfold F_X11_value
        rw [Ms, Option.bind_some, goes_1, bMm_some, if_pos (by decide), M_at hb (by simp (disch := first | omega | decide) only [bset_q, bset_k, bset_at, e763]) (by omega)]
        simp (disch := first | omega | decide) only [bG_pos, bMm_some, bXm_inl, bXm_inr, Option.bind_some, bset_q, bset_k, bset_at, if_pos, if_neg, Int.toNat_natCast, t3200, a1.2.1, M_isText]
        unfold isLet at cl
        by_cases x : μ (T + 12) (8 * e + k) = 8 ∨ μ (T + 12) (8 * e + k) = 14
        · rw [if_pos x, if_pos (by decide)]
        · rw [if_neg x, if_neg (by decide), if_neg (by omega)]
    · have cl' : ¬ (μ (T + 12) (8 * e + k) = 8 ∨ μ (T + 12) (8 * e + k) = 14) ∧ ¬ μ (T + 12) (8 * e + k) = 10 := by unfold isLet at cl; omega
      have a87 : μ 87 (3200 * b + (8 * e + k)) = μ (T + 13) (8 * e + k) := by
        rcases a3 with x | x
        · exact absurd x.1 cl
        · exact x.2.2.1
      refine St_tell2 h (w := μ (T + 13) (8 * e + k)) (bO_l (n := 3200) hok (by rcases hT with rfl | rfl <;> rfl)) ?_ ?_
      · have E0 : F_X10_value e k μ = some (.inl (μ (T + 13) (8 * e + k)), μ) := by
          unfold F_X10_value
          rw [Cs, bXm_inl, bG_pos (by omega), e15, Int.toNat_natCast, Int.toNat_natCast, (C_isLetters (μ := μ)).2 cl, Option.bind_some, if_pos rfl, bG_pos (by omega)]
        unfold F_L_value
        rw [E0]
        rfl
      · unfold F_X11_value
        rw [Ms, Option.bind_some, goes_1, bMm_some, if_pos (by decide), M_at hb (by simp (disch := first | omega | decide) only [bset_q, bset_k, bset_at, e763]) (by omega)]
        simp (disch := first | omega | decide) only [bG_pos, bMm_some, bXm_inl, bXm_inr, Option.bind_some, bset_q, bset_k, bset_at, if_pos, if_neg, Int.toNat_natCast, t3200, a1.2.1, M_isText, a87]
  · refine St_thr2 h (k := 1) (r := 0) (by decide) (by decide) ?_ ?_
    · have E0 : F_X10_value e k μ = some (.inr "java/lang/IndexOutOfBoundsException", μ) := by
        unfold F_X10_value
        rw [C_neededSlot hN hTr.2.1, if_neg c, bXm_inr]
      unfold F_L_value
      rw [E0]
      rfl
    · unfold F_X11_value
      rw [M_isAtt hN hTr.2.1, if_neg c, Option.bind_some, goes_0, bMm_some, if_neg (by decide)]
end
end DS
