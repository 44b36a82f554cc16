section DP
theorem st_number {μ : bM} (h : Inv μ) {a w f v : Int} (hA' : bR a) (hw : bR w) (hf : bR f) (hv : bRL v) : Step (F_L_number a w f v μ) (F_X11_number a w f v) := by
  obtain ⟨hok, h1, h2, h3, h4⟩ := id h
  obtain ⟨T, b, n, m, hN, hB, hTr⟩ := iMain_view h4
  obtain ⟨hT, hb, e15, e763, hn, hm, n4, m6, e78, e79⟩ := id hN
  have thr : ∀ k : Int, 0 < k → F_X11_number_62 a w f v k μ = some (0, bset μ 76 0 k) := fun k hk => by
    unfold F_X11_number_62
    rw [bset_at, if_neg (by omega)]
  have thr2 : F_X11_number_45 a w f v μ = some (0, bset μ 76 0 2) := thr 2 (by decide)
  by_cases c0 : 0 ≤ a ∧ a < n
  · obtain ⟨e, he⟩ : ∃ e : Nat, a = e := ⟨a.toNat, by omega⟩
    subst he
    have hen : e < n := by omega
    obtain ⟨⟨p1, p2, p3, p4⟩, p5, p6, p7, p8, p9, p10, p11⟩ := hTr.2.1 e (by omega)
    have tl := hTr.2.2.2.2.2.1
    have M1 : F_X11_isEntry e μ = some 1 := by rw [M_isEntry hN, b01_1 c0]
    obtain ⟨x, X1, X2⟩ := fits_01 (μ := μ) (f := f) (v := v)
    have X1' : F_X2_holds f v μ = some x := by rw [← X1]; exact fits_eq
    by_cases c1 : (1 ≤ w ∧ w ≤ 16383) ∧ nmS T μ e w = -1
    · by_cases c2 : isNum f ∧ x ≠ 0
      · have N1 := (C_isNumber (μ := μ)).1 c2.1
        have N2 := (M_isNumber (μ := μ)).1 c2.1
        by_cases c3 : μ (T + 10) e = 8
        · refine St_thr2 h (k := 3) (r := 0) (by decide) (by decide) ?_ ?_
          · have E0 : F_X10_number e w f v μ = some (.inr "java/lang/UnsupportedOperationException", μ) := by
              unfold F_X10_number
              rw [C_needEntry hN, if_pos c0, bXm_inl, C_needNew hN hTr hen, if_pos c1, bXm_inl, N1, Option.bind_some, if_neg (by decide), X1', Option.bind_some, if_pos c2.2, C_needRoom hN hen tl (by decide), if_pos (Or.inl c3), bXm_inr]
            unfold F_L_number
            rw [E0]
            rfl
          · unfold F_X11_number
            rw [M1, Option.bind_some, if_pos (by decide), M_isName, b01_1 c1.1, Option.bind_some, if_neg (by decide), N2, Option.bind_some, if_neg (by decide), X1, Option.bind_some, if_neg c2.2, told_eq hN hTr hen, if_pos c1.2, Option.bind_some, if_pos rfl, M_isFull hb e763 (by omega), p4, if_pos c3, Option.bind_some, if_neg (by decide), thr 3 (by decide)]
        · obtain ⟨A, hA⟩ : ∃ A : Nat, μ (T + 10) e = A := ⟨(μ (T + 10) e).toNat, by omega⟩
          have nref : ¬ isRef f := fun hr => by
            have := c2.1
            unfold isNum at this
            unfold isRef at hr
            omega
          obtain ⟨ν, σ, a1, a2, a3, a4, a5⟩ := st_plain (nm := w) (fo := f) (va := v) h hN hB hTr hen hA (by omega) c1.1 c1.2 (Or.inl c2.1) ⟨fun h15 => X2 h15 c2.2, fun hr => absurd hr nref⟩
          have E0 : F_X10_number e w f v μ = some (.inl ((A : Int) + 1), ν) := by
            unfold F_X10_number F_X3_forget
            rw [C_needEntry hN, if_pos c0, bXm_inl, C_needNew hN hTr hen, if_pos c1, bXm_inl, N1, Option.bind_some, if_neg (by decide), X1', Option.bind_some, if_pos c2.2, C_needRoom hN hen tl (by decide), if_neg (by have := tl.2.1; omega), bXm_inl, bMm_some, bset_q (show 1 ≠ 13 by decide), e15, Int.toNat_natCast, a1, bMm_some]
          have E1 : F_L_number e w f v μ = some (0, bset ν 112 0 ((A : Int) + 1), 0) := by unfold F_L_number; rw [E0]; rfl
          have ok1 := kp_L_number e hA' w hw f hf v hv hok E1
          obtain ⟨μ1, hμ1⟩ : ∃ μ1, μ1 = bset ν 112 0 ((A : Int) + 1) := ⟨_, rfl⟩
          rw [← hμ1] at E1 ok1 a2
          have fr : ∀ q, q ≠ 112 → q ≠ 13 → (q < T + 10 ∨ T + 14 < q) → μ1 q = μ q := fun q q1 q2 q3 => by
            obtain ⟨ν', y1, -, -, -, -, -, y7⟩ := C_addAtt (T := T) (e := e) (A := A) (μ := bset μ 13 6 0) (nm := w) (fo := f) (va := v) (ln := 0) (by omega) (by rw [bset_q (by omega)]; exact hA) (by omega)
            rw [a1] at y1
            cases y1
            rw [hμ1, bset_q q1, y7 q q3, bset_q q2]
          have hN1 : iNum T b n m μ1 := iNum_congr hN (by rw [fr 1 (by omega) (by omega) (by omega)]) (by rw [fr 76 (by omega) (by omega) (by omega)]) (fr T (by omega) (by omega) (by omega)) (fr 78 (by omega) (by omega) (by omega)) (fr 79 (by omega) (by omega) (by omega))
          have told1 : F_X11_isTold e w μ1 = F_X11_isTold e w μ := by
            unfold F_X11_isTold F_X11_isTold_12 F_X11_at
            rw [fr 76 (by omega) (by omega) (by omega), fr 84 (by omega) (by omega) (by omega), fr 85 (by omega) (by omega) (by omega)]
          obtain ⟨x', Z1, -⟩ := fits_01 (μ := μ1) (f := f) (v := v)
          have Z2 : F_X11_fits f v μ1 = some x := by rw [← X1', fits_eq]
          have E2 : F_X11_number e w f v μ1 = some ((A : Int) + 1, σ) := by
            unfold F_X11_number F_X11_number_62
            rw [M_isEntry hN1, b01_1 c0, Option.bind_some, if_pos (by decide), M_isName, b01_1 c1.1, Option.bind_some, if_neg (by decide), (M_isNumber (μ := μ1)).1 c2.1, Option.bind_some, if_neg (by decide), Z2, Option.bind_some, if_neg c2.2, told1, told_eq hN hTr hen, if_pos c1.2, Option.bind_some, if_pos rfl, M_isFull hb (by rw [fr 76 (by omega) (by omega) (by omega)]; exact e763) (by omega), fr 84 (by omega) (by omega) (by omega), p4, if_neg c3, Option.bind_some, if_pos rfl, bset_at, if_pos (by decide), a2, bMm_some]
          exact ⟨0, _, μ1, σ, 0, E1, by omega, E2, a3, fun _ => a4, a5 (kp_X11_number e hA' w hw f hf v hv ok1 E2)⟩
      · refine St_thr2 h (k := 2) (r := 0) (by decide) (by decide) ?_ ?_
        · have E0 : F_X10_number e w f v μ = some (.inr "java/lang/IllegalArgumentException", μ) := by
            unfold F_X10_number
            rw [C_needEntry hN, if_pos c0, bXm_inl, C_needNew hN hTr hen, if_pos c1, bXm_inl]
            by_cases c3 : isNum f
            · rw [(C_isNumber (μ := μ)).1 c3, Option.bind_some, if_neg (by decide), X1', Option.bind_some, if_neg (fun h => c2 ⟨c3, h⟩)]
            · rw [(C_isNumber (μ := μ)).2 c3, Option.bind_some, if_pos rfl]
          unfold F_L_number
          rw [E0]
          rfl
        · unfold F_X11_number
          rw [M1, Option.bind_some, if_pos (by decide), M_isName, b01_1 c1.1, Option.bind_some, if_neg (by decide)]
          by_cases c3 : isNum f
          · rw [(M_isNumber (μ := μ)).1 c3, Option.bind_some, if_neg (by decide), X1, Option.bind_some, if_pos (Classical.byContradiction fun h => c2 ⟨c3, h⟩), thr2]
          · rw [(M_isNumber (μ := μ)).2 c3, Option.bind_some, if_pos rfl, thr2]
    · refine St_thr2 h (k := 2) (r := 0) (by decide) (by decide) ?_ ?_
      · have E0 : F_X10_number e w f v μ = some (.inr "java/lang/IllegalArgumentException", μ) := by
          unfold F_X10_number
          rw [C_needEntry hN, if_pos c0, bXm_inl, C_needNew hN hTr hen, if_neg c1]
          rfl
        unfold F_L_number
        rw [E0]
        rfl
      · unfold F_X11_number
        rw [M1, Option.bind_some, if_pos (by decide), M_isName, Option.bind_some]
        by_cases d1 : 1 ≤ w ∧ w ≤ 16383
        · rw [b01_1 d1, if_neg (by decide)]
          by_cases c3 : isNum f
          · rw [(M_isNumber (μ := μ)).1 c3, Option.bind_some, if_neg (by decide), X1, Option.bind_some]
            by_cases c4 : x = 0
            · rw [if_pos c4, thr2]
            · rw [if_neg c4, told_eq hN hTr hen, if_neg (fun h => c1 ⟨d1, h⟩), Option.bind_some, if_neg (by decide), thr2]
          · rw [(M_isNumber (μ := μ)).2 c3, Option.bind_some, if_pos rfl, thr2]
        · rw [b01_0 d1, if_pos rfl, thr2]
  · refine St_thr2 h (k := 1) (r := 0) (by decide) (by decide) ?_ ?_
    · have E0 : F_X10_number a w f v μ = some (.inr "java/lang/IndexOutOfBoundsException", μ) := by
        unfold F_X10_number
        rw [C_needEntry hN, if_neg c0]
        rfl
      unfold F_L_number
      rw [E0]
      rfl
    · unfold F_X11_number
      rw [M_isEntry hN, b01_0 c0, Option.bind_some, if_neg (by decide), thr 1 (by decide)]
theorem st_reference {μ : bM} (h : Inv μ) {a w f v : Int} (hA' : bR a) (hw : bR w) (hf : bR f) (hv : bR v) : Step (F_L_reference a w f v μ) (F_X11_reference a w f v) := by
  obtain ⟨hok, h1, h2, h3, h4⟩ := id h
  obtain ⟨T, b, n, m, hN, hB, hTr⟩ := iMain_view h4
  obtain ⟨hT, hb, e15, e763, hn, hm, n4, m6, e78, e79⟩ := id hN
  have thr : ∀ k : Int, 0 < k → F_X11_reference_90 a w f v k μ = some (0, bset μ 76 0 k) := fun k hk => by
    unfold F_X11_reference_90
    rw [bset_at, if_neg (by omega)]
  have thr1 : F_X11_reference_18 a w f v μ = some (0, bset μ 76 0 1) := thr 1 (by decide)
  have thr3 : F_X11_reference_73 a w f v μ = some (0, bset μ 76 0 3) := thr 3 (by decide)
  by_cases c0 : 0 ≤ a ∧ a < n
  · by_cases c9 : 0 ≤ v ∧ v < n
    · obtain ⟨e, he⟩ : ∃ e : Nat, a = e := ⟨a.toNat, by omega⟩
      subst he
      obtain ⟨t, ht⟩ : ∃ t : Nat, v = t := ⟨v.toNat, by omega⟩
      subst ht
      have hen : e < n := by omega
      have htn : t < n := by omega
      obtain ⟨⟨p1, p2, p3, p4⟩, p5, p6, p7, p8, p9, p10, p11⟩ := hTr.2.1 e (by omega)
      obtain ⟨⟨q1, q2, q3, q4⟩, -⟩ := hTr.2.1 t (by omega)
      have tl := hTr.2.2.2.2.2.1
      have M1 : F_X11_isEntry e μ = some 1 := by rw [M_isEntry hN, b01_1 c0]
      have M2 : F_X11_isEntry t μ = some 1 := by rw [M_isEntry hN, b01_1 c9]
      by_cases cu : μ (T + 4) e = μ (T + 4) t
      · by_cases c1 : (1 ≤ w ∧ w ≤ 16383) ∧ nmS T μ e w = -1
        · by_cases c2 : isRef f
          · have N1 := (C_isReference (μ := μ)).1 c2
            have N2 := (M_isReference (μ := μ)).1 c2
            by_cases c3 : μ (T + 10) e = 8
            · refine St_thr2 h (k := 4) (r := 0) (by decide) (by decide) ?_ ?_
              · have E0 : F_X10_reference e w f t μ = some (.inr "java/lang/UnsupportedOperationException", μ) := by
                  unfold F_X10_reference
                  rw [C_needEntry hN, if_pos c0, bXm_inl, C_needEntry hN, if_pos c9, bXm_inl, bG_pos (by omega), bG_pos (by omega), e15]
                  rw [Int.toNat_natCast, Int.toNat_natCast, Int.toNat_natCast, if_pos cu, C_needNew hN hTr hen, if_pos c1, bXm_inl, N1, Option.bind_some, if_pos (by decide), C_needRoom hN hen tl (by decide), if_pos (Or.inl c3), bXm_inr]
                unfold F_L_reference
                rw [E0]
                rfl
              · unfold F_X11_reference
                rw [M1, Option.bind_some, if_neg (by decide), M2, Option.bind_some, if_pos (by decide), M_at hb e763 (by omega), Option.bind_some, bG_pos (by omega), M_at hb e763 (by omega), Option.bind_some, bG_pos (by omega), t400, t400, p3, q3, if_pos cu, M_isName, b01_1 c1.1, Option.bind_some, if_neg (by decide), N2, Option.bind_some, if_neg (by decide), told_eq hN hTr hen, if_pos c1.2, Option.bind_some, if_pos rfl, M_isFull hb e763 (by omega), p4, if_pos c3, Option.bind_some, if_neg (by decide), thr 4 (by decide)]
            · obtain ⟨A, hA⟩ : ∃ A : Nat, μ (T + 10) e = A := ⟨(μ (T + 10) e).toNat, by omega⟩
              obtain ⟨ν, σ, a1, a2, a3, a4, a5⟩ := st_plain (nm := w) (fo := f) (va := t) h hN hB hTr hen hA (by omega) c1.1 c1.2 (Or.inr c2) ⟨fun _ => by omega, fun _ => ⟨by omega, by rw [Int.toNat_natCast]; exact cu.symm⟩⟩
              have E0 : F_X10_reference e w f t μ = some (.inl ((A : Int) + 1), ν) := by
                unfold F_X10_reference F_X3_forget
                rw [C_needEntry hN, if_pos c0, bXm_inl, C_needEntry hN, if_pos c9, bXm_inl, bG_pos (by omega), bG_pos (by omega), e15]
                rw [Int.toNat_natCast, Int.toNat_natCast, Int.toNat_natCast, if_pos cu, C_needNew hN hTr hen, if_pos c1, bXm_inl, N1, Option.bind_some, if_pos (by decide), C_needRoom hN hen tl (by decide), if_neg (by have := tl.2.1; omega), bXm_inl, bMm_some, bset_q (show 1 ≠ 13 by decide), e15, Int.toNat_natCast, a1, bMm_some]
              have E1 : F_L_reference e w f t μ = some (0, bset ν 112 0 ((A : Int) + 1), 0) := by unfold F_L_reference; rw [E0]; rfl
              have ok1 := kp_L_reference e hA' w hw f hf t hv hok E1
              obtain ⟨μ1, hμ1⟩ : ∃ μ1, μ1 = bset ν 112 0 ((A : Int) + 1) := ⟨_, rfl⟩
              rw [← hμ1] at E1 ok1 a2
              have fr : ∀ q, q ≠ 112 → q ≠ 13 → (q < T + 10 ∨ T + 14 < q) → μ1 q = μ q := fun q q1 q2 q3 => by
                obtain ⟨ν', y1, -, -, -, -, -, y7⟩ := C_addAtt (T := T) (e := e) (A := A) (μ := bset μ 13 6 0) (nm := w) (fo := f) (va := t) (ln := 0) (by omega) (by rw [bset_q (by omega)]; exact hA) (by omega)
                rw [a1] at y1
                cases y1
                rw [hμ1, bset_q q1, y7 q q3, bset_q q2]
              have hN1 : iNum T b n m μ1 := iNum_congr hN (by rw [fr 1 (by omega) (by omega) (by omega)]) (by rw [fr 76 (by omega) (by omega) (by omega)]) (fr T (by omega) (by omega) (by omega)) (fr 78 (by omega) (by omega) (by omega)) (fr 79 (by omega) (by omega) (by omega))
              have told1 : F_X11_isTold e w μ1 = F_X11_isTold e w μ := by
                unfold F_X11_isTold F_X11_isTold_12 F_X11_at
                rw [fr 76 (by omega) (by omega) (by omega), fr 84 (by omega) (by omega) (by omega), fr 85 (by omega) (by omega) (by omega)]
              have e763' : μ1 76 3 = b := by rw [fr 76 (by omega) (by omega) (by omega)]; exact e763
              have E2 : F_X11_reference e w f t μ1 = some ((A : Int) + 1, σ) := by
                unfold F_X11_reference F_X11_reference_90
                rw [M_isEntry hN1, b01_1 c0, Option.bind_some, if_neg (by decide), M_isEntry hN1, b01_1 c9, Option.bind_some, if_pos (by decide), M_at hb e763' (by omega), Option.bind_some, bG_pos (by omega), M_at hb e763' (by omega), Option.bind_some, bG_pos (by omega), t400, t400, fr 83 (by omega) (by omega) (by omega), p3, q3, if_pos cu, M_isName, b01_1 c1.1, Option.bind_some, if_neg (by decide), (M_isReference (μ := μ1)).1 c2, Option.bind_some, if_neg (by decide), told1, told_eq hN hTr hen, if_pos c1.2, Option.bind_some, if_pos rfl, M_isFull hb e763' (by omega), fr 84 (by omega) (by omega) (by omega), p4, if_neg c3, Option.bind_some, if_pos rfl, bset_at, if_pos (by decide), a2, bMm_some]
              exact ⟨0, _, μ1, σ, 0, E1, by omega, E2, a3, fun _ => a4, a5 (kp_X11_reference e hA' w hw f hf t hv ok1 E2)⟩
          · refine St_thr2 h (k := 3) (r := 0) (by decide) (by decide) ?_ ?_
            · have E0 : F_X10_reference e w f t μ = some (.inr "java/lang/IllegalArgumentException", μ) := by
                unfold F_X10_reference
                rw [C_needEntry hN, if_pos c0, bXm_inl, C_needEntry hN, if_pos c9, bXm_inl, bG_pos (by omega), bG_pos (by omega), e15]
                rw [Int.toNat_natCast, Int.toNat_natCast, Int.toNat_natCast, if_pos cu, C_needNew hN hTr hen, if_pos c1, bXm_inl, (C_isReference (μ := μ)).2 c2, Option.bind_some, if_neg (by decide)]
              unfold F_L_reference
              rw [E0]
              rfl
            · unfold F_X11_reference
              rw [M1, Option.bind_some, if_neg (by decide), M2, Option.bind_some, if_pos (by decide), M_at hb e763 (by omega), Option.bind_some, bG_pos (by omega), M_at hb e763 (by omega), Option.bind_some, bG_pos (by omega), t400, t400, p3, q3, if_pos cu, M_isName, b01_1 c1.1, Option.bind_some, if_neg (by decide), (M_isReference (μ := μ)).2 c2, Option.bind_some, if_pos rfl, thr3]
        · refine St_thr2 h (k := 3) (r := 0) (by decide) (by decide) ?_ ?_
          · have E0 : F_X10_reference e w f t μ = some (.inr "java/lang/IllegalArgumentException", μ) := by
              unfold F_X10_reference
              rw [C_needEntry hN, if_pos c0, bXm_inl, C_needEntry hN, if_pos c9, bXm_inl, bG_pos (by omega), bG_pos (by omega), e15]
              rw [Int.toNat_natCast, Int.toNat_natCast, Int.toNat_natCast, if_pos cu, C_needNew hN hTr hen, if_neg c1, bXm_inr]
            unfold F_L_reference
            rw [E0]
            rfl
          · unfold F_X11_reference
            rw [M1, Option.bind_some, if_neg (by decide), M2, Option.bind_some, if_pos (by decide), M_at hb e763 (by omega), Option.bind_some, bG_pos (by omega), M_at hb e763 (by omega), Option.bind_some, bG_pos (by omega), t400, t400, p3, q3, if_pos cu, M_isName, Option.bind_some]
            by_cases d1 : 1 ≤ w ∧ w ≤ 16383
            · rw [b01_1 d1, if_neg (by decide)]
              by_cases c3 : isRef f
              · rw [(M_isReference (μ := μ)).1 c3, Option.bind_some, if_neg (by decide), told_eq hN hTr hen, if_neg (fun h => c1 ⟨d1, h⟩), Option.bind_some, if_neg (by decide), thr3]
              · rw [(M_isReference (μ := μ)).2 c3, Option.bind_some, if_pos rfl, thr3]
            · rw [b01_0 d1, if_pos rfl, thr3]
      · refine St_thr2 h (k := 2) (r := 0) (by decide) (by decide) ?_ ?_
        · have E0 : F_X10_reference e w f t μ = some (.inr "java/lang/IllegalStateException", μ) := by
            unfold F_X10_reference
            rw [C_needEntry hN, if_pos c0, bXm_inl, C_needEntry hN, if_pos c9, bXm_inl, bG_pos (by omega), bG_pos (by omega), e15]
            rw [Int.toNat_natCast, Int.toNat_natCast, Int.toNat_natCast, if_neg cu]
          unfold F_L_reference
          rw [E0]
          rfl
        · unfold F_X11_reference
          rw [M1, Option.bind_some, if_neg (by decide), M2, Option.bind_some, if_pos (by decide), M_at hb e763 (by omega), Option.bind_some, bG_pos (by omega), M_at hb e763 (by omega), Option.bind_some, bG_pos (by omega), t400, t400, p3, q3, if_neg cu, thr 2 (by decide)]
    · refine St_thr2 h (k := 1) (r := 0) (by decide) (by decide) ?_ ?_
      · have E0 : F_X10_reference a w f v μ = some (.inr "java/lang/IndexOutOfBoundsException", μ) := by
          unfold F_X10_reference
          rw [C_needEntry hN, if_pos c0, bXm_inl, C_needEntry hN, if_neg c9]
          rfl
        unfold F_L_reference
        rw [E0]
        rfl
      · unfold F_X11_reference
        rw [M_isEntry hN, b01_1 c0, Option.bind_some, if_neg (by decide), M_isEntry hN, b01_0 c9, Option.bind_some, if_neg (by decide), thr1]
  · refine St_thr2 h (k := 1) (r := 0) (by decide) (by decide) ?_ ?_
    · have E0 : F_X10_reference a w f v μ = some (.inr "java/lang/IndexOutOfBoundsException", μ) := by
        unfold F_X10_reference
        rw [C_needEntry hN, if_neg c0]
        rfl
      unfold F_L_reference
      rw [E0]
      rfl
    · unfold F_X11_reference
      rw [M_isEntry hN, b01_0 c0, Option.bind_some, if_pos rfl, thr1]
end DP
