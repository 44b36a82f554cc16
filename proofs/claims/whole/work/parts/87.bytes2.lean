section DR
theorem C_needLetters {μ : bM} {f : Int} {L : Nat} (hok : bOk μ) (ht : iTape μ) (hL : μ 2 1 = L) : (isLet f ∧ L ≤ 255 ∧ (f = 10 ∨ scan (μ 3) 0 0 L = -1) → F_X10_needLetters f μ = some (.inl 0, μ)) ∧ (¬ (isLet f ∧ L ≤ 255 ∧ (f = 10 ∨ scan (μ 3) 0 0 L = -1)) → F_X10_needLetters f μ = some (.inr "java/lang/IllegalArgumentException", μ)) := by
  have hu : F_X6_used 2 μ = some (L : Int) := by unfold F_X6_used; rw [hL]
  have hz : F_X6_zeroFrom 2 0 L μ = some (scan (μ 3) 0 0 L) := C_zero (a := 0) (l := L) hok bSt2 (sOk2 ht) (by omega) (by omega)
  unfold F_X10_needLetters
  rw [hu, C_isText]
  constructor
  · rintro ⟨h1, h2, h3⟩
    rw [(C_isLetters (μ := μ)).1 h1, Option.bind_some, if_neg (by decide), Option.bind_some, if_neg (by omega), Option.bind_some]
    by_cases c : f = 8 ∨ f = 14
    · rw [if_pos c, if_neg (by decide), Option.bind_some, hz, Option.bind_some]
      rcases h3 with h3 | h3
      · omega
      · rw [if_pos h3]
    · rw [if_neg c, if_pos rfl]
  · intro h
    by_cases h1 : isLet f
    · rw [(C_isLetters (μ := μ)).1 h1, Option.bind_some, if_neg (by decide), Option.bind_some]
      by_cases h2 : L ≤ 255
      · rw [if_neg (by omega), Option.bind_some]
        have h3 : ¬ (f = 10 ∨ scan (μ 3) 0 0 L = -1) := fun h3 => h ⟨h1, h2, h3⟩
        have c : f = 8 ∨ f = 14 := by unfold isLet at h1; omega
        rw [if_pos c, if_neg (by decide), Option.bind_some, hz, Option.bind_some, if_neg (fun x => h3 (Or.inr x))]
      · rw [if_pos (by omega)]
    · rw [(C_isLetters (μ := μ)).2 h1, Option.bind_some, if_pos rfl]
theorem st_bytes {μ : bM} (h : Inv μ) {a w f : Int} (hA' : bR a) (hw : bR w) (hf : bR f) : Step (F_L_bytes a w f μ) (F_X11_bytes a w f) := by
  obtain ⟨hok, h1, h2, h3, h4⟩ := id h
  obtain ⟨T, b, n, m, hN, hB, hTr⟩ := iMain_view h4
  obtain ⟨hT, hb, e15, e763, hn, hm, n4, m6, e78, e79⟩ := id hN
  obtain ⟨L, hL⟩ : ∃ L : Nat, μ 2 1 = L := ⟨(μ 2 1).toNat, by have := h1.2.1; omega⟩
  have hL2 : L ≤ 12000 := by have := h1.2.2.1; omega
  have hLm : μ 76 2 = L := by rw [h1.1, hL]
  have hsc : scan (μ 77) 0 0 L = scan (μ 3) 0 0 L := scan_congr fun k _ hk => h1.2.2.2 k (by omega)
  have thr : ∀ k : Int, 0 < k → F_X11_bytes_87 a w f k μ = some (0, bset μ 76 0 k) := fun k hk => by
    unfold F_X11_bytes_87
    rw [bset_at, if_neg (by omega)]
  have thr2 : F_X11_bytes_50 a w f μ = some (0, bset μ 76 0 2) := thr 2 (by decide)
  have thr3 : F_X11_bytes_82 a w f μ = some (0, bset μ 76 0 3) := thr 3 (by decide)
  have NL := C_needLetters (f := f) hok h1 hL
  have AB : F_X11_areBytes f μ = some (if L ≤ 255 ∧ (f = 10 ∨ scan (μ 3) 0 0 L = -1) then 1 else 0) := by rw [M_areBytes hLm hL2, hsc]
  by_cases c0 : 0 ≤ a ∧ a < n
  · obtain ⟨e, he⟩ : ∃ e : Nat, a = e := ⟨a.toNat, by omega⟩
    subst he
    have hen : e < n := by omega
    obtain ⟨⟨p1, p2, p3, p4⟩, p5, p6, p7, p8, p9, p10, p11⟩ := hTr.2.1 e (by omega)
    have tl := hTr.2.2.2.2.2.1
    have M1 : F_X11_isEntry e μ = some 1 := by rw [M_isEntry hN, b01_1 c0]
    have usd : F_X6_used 2 μ = some (L : Int) := by unfold F_X6_used; rw [hL]
    by_cases c1 : (1 ≤ w ∧ w ≤ 16383) ∧ nmS T μ e w = -1
    · by_cases c2 : isLet f ∧ L ≤ 255 ∧ (f = 10 ∨ scan (μ 3) 0 0 L = -1)
      · have S33 : ∀ ν, F_X11_bytes e w f ν = (F_X11_isEntry e ν).bind fun w1 => if ¬ w1 = 0 then F_X11_bytes_33 e w f ν else F_X11_bytes_87 e w f 1 ν := fun ν => by
          unfold F_X11_bytes
          rw [M_isName, b01_1 c1.1, Option.bind_some, if_neg (by decide), M_isText, Option.bind_some]
          congr 1
          funext w1
          by_cases x : ¬ w1 = 0
          · rw [if_pos x, if_pos x]
            by_cases c : f = 8 ∨ f = 14
            · rw [if_pos c, if_pos (by decide)]
            · rw [if_neg c, if_neg (by decide), if_neg (by have := c2.1; unfold isLet at this; omega)]
          · rw [if_neg x, if_neg x]
        by_cases c3 : μ (T + 10) e = 8 ∨ 30000 < μ 4 1 + L
        · refine St_thr2 h (k := 3) (r := 0) (by decide) (by decide) ?_ ?_
          · have E0 : F_X10_bytes e w f μ = some (.inr "java/lang/UnsupportedOperationException", μ) := by
              unfold F_X10_bytes
              rw [C_needEntry hN, if_pos c0, bXm_inl, C_needNew hN hTr hen, if_pos c1, bXm_inl, NL.1 c2, bXm_inl, usd, Option.bind_some, C_needRoom hN hen tl (by omega), if_pos c3, bXm_inr]
            unfold F_L_bytes
            rw [E0]
            rfl
          · rw [S33, M1, Option.bind_some, if_pos (by decide)]
            unfold F_X11_bytes_33
            rw [AB, if_pos c2.2, Option.bind_some, if_neg (by decide), told_eq hN hTr hen, if_pos c1.2, Option.bind_some, if_pos rfl, M_isFull hb e763 (by omega), p4, Option.bind_some, thr3]
            by_cases c4 : μ (T + 10) e = 8
            · rw [if_pos c4, if_pos (by decide)]
            · have := tl.2.1
              have := tl.1
              rw [if_neg c4, if_neg (by decide), e763, bG_pos (by omega), Int.toNat_natCast, tl.1, hLm, bG_pos (by constructor <;> omega), if_neg (by omega)]
        · obtain ⟨A, hA⟩ : ∃ A : Nat, μ (T + 10) e = A := ⟨(μ (T + 10) e).toNat, by omega⟩
          have hA8 : A < 8 := by omega
          have t4 := tl.2.1
          have t91 := tl.2.2
          obtain ⟨st, hst⟩ : ∃ st : Nat, μ 4 1 = st := ⟨(μ 4 1).toNat, by omega⟩
          obtain ⟨P, hP⟩ : ∃ P : Nat, μ 91 b = P := ⟨(μ 91 b).toNat, by omega⟩
          have N5 : ((bN (4 + 1) : Nat) : Int) = 30000 := by decide
          have N3 : ((bN (2 + 1) : Nat) : Int) = 12000 := by decide
          obtain ⟨ν1, a1, a2⟩ := A_from (s := 4) (s2 := 2) (μ := μ) (a := 0) (n := L) hok bSt2 ⟨by omega, by omega⟩ (sOk2 h1) (by omega) (by decide) (by omega) (by omega)
          have i2 : ν1 2 = μ 2 := a2.2.1 2 (by omega) (by omega)
          have cut : F_X6_cut 2 0 ν1 = some (0, bset ν1 2 1 0) := S_cut (by decide) (by rw [i2]; omega)
          obtain ⟨ν2, hν2⟩ : ∃ ν2, ν2 = bset (bset ν1 2 1 0) 13 6 0 := ⟨_, rfl⟩
          have f2 : ∀ q, q ≠ 13 → q ≠ 2 → q ≠ 4 → q ≠ 5 → ν2 q = μ q := fun q q1 q2 q3 q4 => by rw [hν2, bset_q q1, bset_q q2, a2.2.1 q q3 q4]
          obtain ⟨ν, x1, x2, x3, x4, x5, x6, x7⟩ := C_addAtt (T := T) (e := e) (A := A) (μ := ν2) (nm := w) (fo := f) (va := st) (ln := L) (by omega) (by rw [f2 _ (by omega) (by omega) (by omega) (by omega)]; exact hA) hA8
          have E0 : F_X10_bytes e w f μ = some (.inl ((A : Int) + 1), ν) := by
            unfold F_X10_bytes
            rw [C_needEntry hN, if_pos c0, bXm_inl, C_needNew hN hTr hen, if_pos c1, bXm_inl, NL.1 c2, bXm_inl, usd, Option.bind_some, C_needRoom hN hen tl (by omega), if_neg c3, bXm_inl, show F_X6_used 4 μ = some (st : Int) by unfold F_X6_used; rw [hst], Option.bind_some, a1, bMm_some, cut, bMm_some]
            unfold F_X3_forget
            rw [bMm_some, ← hν2, f2 1 (by omega) (by omega) (by omega) (by omega), e15, Int.toNat_natCast, x1, bMm_some]
          have E1 : F_L_bytes e w f μ = some (0, bset ν 112 0 ((A : Int) + 1), 0) := by unfold F_L_bytes; rw [E0]; rfl
          have ok1 := kp_L_bytes e hA' w hw f hf hok E1
          obtain ⟨μ1, hμ1⟩ : ∃ μ1, μ1 = bset ν 112 0 ((A : Int) + 1) := ⟨_, rfl⟩
          rw [← hμ1] at E1 ok1
          have fr : ∀ q, q ≠ 112 → q ≠ 13 → q ≠ 2 → q ≠ 4 → q ≠ 5 → (q < T + 10 ∨ T + 14 < q) → μ1 q = μ q := fun q q1 q2 q3 q4 q5 q6 => by rw [hμ1, bset_q q1, x7 q q6, f2 q q2 q3 q4 q5]
          have fr' : ∀ q, 76 ≤ q → q ≠ 112 → μ1 q = μ q := fun q q1 q2 => fr q q2 (by omega) (by omega) (by omega) (by omega) (by omega)
          have hN1 : iNum T b n m μ1 := iNum_congr hN (by rw [fr 1 (by omega) (by omega) (by omega) (by omega) (by omega) (by omega)]) (by rw [fr' 76 (by omega) (by omega)]) (fr T (by omega) (by omega) (by omega) (by omega) (by omega) (by omega)) (fr' 78 (by omega) (by omega)) (fr' 79 (by omega) (by omega))
          have told1 : F_X11_isTold e w μ1 = F_X11_isTold e w μ := by
            unfold F_X11_isTold F_X11_isTold_12 F_X11_at
            rw [fr' 76 (by omega) (by omega), fr' 84 (by omega) (by omega), fr' 85 (by omega) (by omega)]
          have are1 : F_X11_areBytes f μ1 = F_X11_areBytes f μ := by
            unfold F_X11_areBytes F_X11_areBytes_18
            rw [fr' 76 (by omega) (by omega), fr' 77 (by omega) (by omega)]
          have e763' : μ1 76 3 = b := by rw [fr' 76 (by omega) (by omega)]; exact e763
          obtain ⟨σ, b1, b2, b3, b4, b5, b6, b7, b8, b9, b10, b11, b12, b13, b14⟩ := M_bytes (b := b) (e := e) (A := A) (P := P) (L := L) (al := st) (μ := μ1) (nm := w) (fo := f) hb e763' (by omega) (by rw [fr' 84 (by omega) (by omega), p4]; exact hA) hA8 (by rw [fr' 91 (by omega) (by omega)]; exact hP) (by omega) (by rw [fr' 76 (by omega) (by omega)]; exact hLm) hL2 (by rw [fr' 90 (by omega) (by omega), tl.1]; exact hst) (by omega)
          have E2 : F_X11_bytes e w f μ1 = some ((A : Int) + 1, σ) := by
            rw [S33, M_isEntry hN1, b01_1 c0, Option.bind_some, if_pos (by decide)]
            unfold F_X11_bytes_33
            rw [are1, AB, if_pos c2.2, Option.bind_some, if_neg (by decide), told1, told_eq hN hTr hen, if_pos c1.2, Option.bind_some, if_pos rfl, M_isFull hb e763' (by omega), fr' 84 (by omega) (by omega), p4, if_neg (by omega), Option.bind_some, if_neg (by decide), e763', bG_pos (by omega), Int.toNat_natCast, fr' 90 (by omega) (by omega), tl.1, fr' 76 (by omega) (by omega), hLm, bG_pos (by constructor <;> omega), if_pos (by omega), b1]
          have ok2 := kp_X11_bytes e hA' w hw f hf ok1 E2
          have sT : ∀ q, T + 10 ≤ q → q ≤ T + 14 → σ q = ν q := fun q q1 q2 => by rw [b14 q (by omega) (by omega), hμ1, bset_q (by omega)]
          have nT : ∀ q, T + 10 ≤ q → q ≤ T + 14 → ν2 q = μ q := fun q h1 h2 => f2 q (by omega) (by omega) (by omega) (by omega)
          have s1 : ∀ q, q ≠ 112 → q ≠ 13 → q ≠ 76 → q ≠ 2 → q ≠ 4 → q ≠ 5 → (q < T + 10 ∨ T + 14 < q) → (q < 84 ∨ 92 < q) → σ q = μ q := fun q q1 q2 q3 q4 q5 q6 q7 q8 => by rw [b14 q q8 q3, fr q q1 q2 q4 q5 q6 q7]
          have n11 : σ (T + 11) (8 * e + A) = w := by rw [sT _ (by omega) (by omega), x3, if_pos rfl]
          have n12 : σ (T + 12) (8 * e + A) = f := by rw [sT _ (by omega) (by omega), x4, if_pos rfl]
          have n13 : σ (T + 13) (8 * e + A) = st := by rw [sT _ (by omega) (by omega), x5, if_pos rfl]
          have n14 : σ (T + 14) (8 * e + A) = L := by rw [sT _ (by omega) (by omega), x6, if_pos rfl]
          have z4 : σ 4 = ν1 4 := by rw [b14 4 (by omega) (by omega), hμ1, bset_q (by omega), x7 4 (by omega), hν2, bset_q (by omega), bset_q (by omega)]
          have z5 : σ 5 = ν1 5 := by rw [b14 5 (by omega) (by omega), hμ1, bset_q (by omega), x7 5 (by omega), hν2, bset_q (by omega), bset_q (by omega)]
          have z41 : σ 4 1 = (st : Int) + L := by rw [z4, a2.1, hst]
          have z2 : σ 2 1 = 0 := by rw [b14 2 (by omega) (by omega), hμ1, bset_q (by omega), x7 2 (by omega), hν2, bset_q (by omega), bset_at]
          refine ⟨0, _, μ1, σ, 0, E1, by omega, E2, b11, fun _ => by rw [b14 112 (by omega) (by omega), hμ1, bset_at], ?_⟩
          refine Inv_att h hN hB hTr hen hA hA8 ok2 ?_ s1 (fun k k0 k2 => by rw [b13 k k0 k2, fr' 76 (by omega) (by omega)]) ?_ (fun q h1 h2 j hj => ?_) ?_ (fun q h1 h2 j hj => ?_) (fun i hi => ?_) ?_ (by rw [z41]; omega) (fun i hi => ?_) (by rw [b9]; omega) (fun i hi => ?_) ?_ ?_
          · rw [b14 13 (by omega) (by omega), hμ1, bset_q (by omega), x7 13 (by omega), hν2, bset_at]
          · intro j
            rw [sT _ (by omega) (by omega), x2 j, nT _ (by omega) (by omega)]
          · rw [sT q (by omega) h2]
            have hq : q = T + 11 ∨ q = T + 12 ∨ q = T + 13 ∨ q = T + 14 := by omega
            rcases hq with rfl | rfl | rfl | rfl
            · rw [x3 j, if_neg hj, nT _ (by omega) (by omega)]
            · rw [x4 j, if_neg hj, nT _ (by omega) (by omega)]
            · rw [x5 j, if_neg hj, nT _ (by omega) (by omega)]
            · rw [x6 j, if_neg hj, nT _ (by omega) (by omega)]
          · intro j
            rw [b2 j, fr' 84 (by omega) (by omega)]
          · have hq : q = 85 ∨ q = 86 ∨ q = 87 ∨ q = 88 ∨ q = 89 := by omega
            rcases hq with rfl | rfl | rfl | rfl | rfl
            · rw [b3 j, if_neg hj, fr' _ (by omega) (by omega)]
            · rw [b4 j, if_neg hj, fr' _ (by omega) (by omega)]
            · rw [b5 j, if_neg hj, fr' _ (by omega) (by omega)]
            · rw [b6 j, if_neg hj, fr' _ (by omega) (by omega)]
            · rw [b7 j, if_neg hj, fr' _ (by omega) (by omega)]
          · rw [n11]
            have c12 := c1.2
            unfold nmS at c12
            rcases scan_spec (f := fun k => μ (T + 11) (8 * e + k)) (p := w) (μ (T + 10) e).toNat 0 with ⟨_, g⟩ | ⟨g, g1, g2, g3, g4, g5⟩
            · exact g i (by omega) (by omega)
            · rw [g4] at c12; omega
          · unfold iAt1
            rw [n11, n12, n13, n14, b3 _, b4 _, b6 _, b7 _, if_pos rfl, if_pos rfl, if_pos rfl, if_pos rfl, z41, b9]
            refine ⟨⟨rfl, rfl, rfl⟩, c1.1, Or.inl ⟨c2.1, by omega, by omega, by omega, fun i hi => ?_⟩⟩
            have := a2.new (by omega) (show i < L by omega)
            rw [hst, Int.toNat_natCast] at this
            rw [Int.toNat_natCast, z5, this, b10, if_pos (by omega), fr' 77 (by omega) (by omega), show (90000 * (b : Int) + (P : Int)).toNat + i - (90000 * b + P) = i by omega]
            show μ 77 i = μ 3 (0 + i)
            rw [Nat.zero_add]
            exact h1.2.2.2 i (by omega)
          · rw [z5]; exact a2.old hi
          · rw [b10, if_neg (by omega), fr' 92 (by omega) (by omega)]
          · exact ⟨by rw [b8, z41], by omega, by omega⟩
          · exact ⟨by rw [b12, z2], by omega, by omega, fun k hk => by omega⟩
      · refine St_thr2 h (k := 2) (r := 0) (by decide) (by decide) ?_ ?_
        · have E0 : F_X10_bytes e w f μ = some (.inr "java/lang/IllegalArgumentException", μ) := by
            unfold F_X10_bytes
            rw [C_needEntry hN, if_pos c0, bXm_inl, C_needNew hN hTr hen, if_pos c1, bXm_inl, NL.2 c2, bXm_inr]
          unfold F_L_bytes
          rw [E0]
          rfl
        · have B33 : isLet f → F_X11_bytes_33 e w f μ = some (0, bset μ 76 0 2) := fun hl => by
            unfold F_X11_bytes_33
            rw [AB, if_neg (fun x => c2 ⟨hl, x⟩), Option.bind_some, if_pos rfl, thr2]
          unfold F_X11_bytes
          rw [M1, Option.bind_some, if_pos (by decide), M_isName, b01_1 c1.1, Option.bind_some, if_neg (by decide), M_isText, Option.bind_some]
          by_cases c : f = 8 ∨ f = 14
          · rw [if_pos c, if_pos (by decide), B33 (by unfold isLet; omega)]
          · rw [if_neg c, if_neg (by decide)]
            by_cases d : f = 10
            · rw [if_neg (fun x => x d), B33 (by unfold isLet; omega)]
            · rw [if_pos d, thr2]
    · refine St_thr2 h (k := 2) (r := 0) (by decide) (by decide) ?_ ?_
      · have E0 : F_X10_bytes e w f μ = some (.inr "java/lang/IllegalArgumentException", μ) := by
          unfold F_X10_bytes
          rw [C_needEntry hN, if_pos c0, bXm_inl, C_needNew hN hTr hen, if_neg c1, bXm_inr]
        unfold F_L_bytes
        rw [E0]
        rfl
      · unfold F_X11_bytes
        rw [M1, Option.bind_some, if_pos (by decide), M_isName, Option.bind_some]
        by_cases d1 : 1 ≤ w ∧ w ≤ 16383
        · have B33 : F_X11_bytes_33 e w f μ = some (0, bset μ 76 0 2) := by
            unfold F_X11_bytes_33
            rw [AB, Option.bind_some]
            by_cases x : L ≤ 255 ∧ (f = 10 ∨ scan (μ 3) 0 0 L = -1)
            · rw [if_pos x, if_neg (by decide), told_eq hN hTr hen, if_neg (fun h => c1 ⟨d1, h⟩), Option.bind_some, if_neg (by decide), thr2]
            · rw [if_neg x, if_pos rfl, thr2]
          rw [b01_1 d1, if_neg (by decide), M_isText, Option.bind_some]
          by_cases c : f = 8 ∨ f = 14
          · rw [if_pos c, if_pos (by decide), B33]
          · rw [if_neg c, if_neg (by decide)]
            by_cases d : f = 10
            · rw [if_neg (fun x => x d), B33]
            · rw [if_pos d, thr2]
        · rw [b01_0 d1, if_pos rfl, thr2]
  · refine St_thr2 h (k := 1) (r := 0) (by decide) (by decide) ?_ ?_
    · have E0 : F_X10_bytes a w f μ = some (.inr "java/lang/IndexOutOfBoundsException", μ) := by
        unfold F_X10_bytes
        rw [C_needEntry hN, if_neg c0]
        rfl
      unfold F_L_bytes
      rw [E0]
      rfl
    · unfold F_X11_bytes
      rw [M_isEntry hN, b01_0 c0, Option.bind_some, if_neg (by decide), thr 1 (by decide)]
end DR
