section FQ
/-! the table of shapes -/
section
variable {r : Nat → Nat → Int} {sz : Nat → Nat} {μ ν μ' ν' : bM} {S A p E : Nat}
theorem Row1_cong {s : Nat} (h : Row1 s μ ν) (h1 : μ' 50 s = μ 50 s ∧ μ' 51 s = μ 51 s ∧ μ' 52 s = μ 52 s) (h2 : ∀ k, 8 * s ≤ k → k < 8 * s + 8 → μ' 53 k = μ 53 k ∧ μ' 54 k = μ 54 k)
    (h3 : ν' 105 s = ν 105 s ∧ ν' 106 s = ν 106 s ∧ ν' 107 s = ν 107 s) (h4 : ∀ k, 8 * s ≤ k → k < 8 * s + 8 → ν' 108 k = ν 108 k ∧ ν' 109 k = ν 109 k) : Row1 s μ' ν' := by
  obtain ⟨a1, a2, A, a3, a4, a5, a6⟩ := h
  unfold Row1
  rw [h1.1, h1.2.1, h1.2.2, h3.1, h3.2.1, h3.2.2]
  refine ⟨a1, a2, A, a3, a4, a5, fun k hk => ?_⟩
  obtain ⟨⟨x1, x2⟩, x3, x4, x5⟩ := a6 k hk
  have y := h2 (8 * s + k) (by omega) (by omega)
  have z := h4 (8 * s + k) (by omega) (by omega)
  rw [y.1, y.2, z.1, z.2]
  refine ⟨⟨x1, x2⟩, x3, x4, fun i hi => ?_⟩
  rw [(h4 (8 * s + i) (by omega) (by omega)).1]
  exact x5 i hi
def TB (S : Nat) (μ ν : bM) : Prop := S ≤ 200 ∧ μ 49 5 = (S : Int) ∧ ν 76 43 = (S : Int) ∧ chOk 56 S (fun s => bkt (μ 55 s)) μ ∧ (∀ s, s < S → Row1 s μ ν ∧ μ 55 s = ν 104 s ∧ 1 ≤ ν 104 s) ∧ ∀ s, s < S → ∀ t, t < s → ν 104 t ≠ ν 104 s
theorem chOk_cong {S : Nat} {bk bk' : Nat → Int} {c : Nat} {ρ ρ' : bM} (h : chOk c S bk ρ) (h1 : ρ' (c + 1) = ρ (c + 1)) (h2 : ρ' (c + 2) = ρ (c + 2)) (h3 : ∀ s, s < S → bk' s = bk s) : chOk c S bk' ρ' := by
  obtain ⟨a, b⟩ := h
  refine ⟨fun w hw => ?_, fun s hs => ?_⟩
  · rw [h1, a w hw]
    exact lstC_congr S fun k hk => (h3 k hk).symm
  · rw [h2, b s hs, h3 s hs]
    exact lstC_congr s fun k hk => (h3 k (by omega)).symm
theorem C_indexOf (h : TB S μ ν) {w : Int} : F_X7_indexOf w μ = some (scan (ν 104) w 0 S) := by
  obtain ⟨h1, h2, h3, h4, h5, h6⟩ := h
  unfold F_X7_indexOf
  rw [ch_first h4, Option.bind_some]
  obtain ⟨x, hx, hx2⟩ := chain_find (F := fun z : Int × Int => F_X7_indexOf_11 w μ z.1 z.2) (S := S) (bk := fun s => bkt (μ 55 s)) (w := bkt w) (P := fun s => μ 55 s = w)
    (fun v i hi => by show F_X7_indexOf_11 w μ v i = _; unfold F_X7_indexOf_11; rw [h2, if_pos hi])
    (fun i i1 i2 => by show F_X7_indexOf_11 w μ (-1) i = _; unfold F_X7_indexOf_11; rw [h2, if_neg (by omega), if_pos rfl])
    (fun s i s1 i1 i2 hP => by show F_X7_indexOf_11 w μ s i = _; unfold F_X7_indexOf_11; rw [h2, if_neg (by omega), if_neg (by omega), bG_pos (by omega), Int.toNat_natCast, if_neg (fun hh => hh hP)])
    (fun s i s1 i1 i2 hP => by
      show F_X7_indexOf_11 w μ s i = _
      unfold F_X7_indexOf_11
      rw [h2, if_neg (by omega), if_neg (by omega), bG_pos (by omega), Int.toNat_natCast, if_pos hP, ch_after h4 (by show S ≤ 200; exact h1) s1, Option.bind_some, bG_pos (by constructor <;> omega)])
  rw [hx]
  rcases hx2 with ⟨e, he⟩ | ⟨s, s1, s2, s3, s4⟩
  · rw [e, scan_no fun k _ hk hh => he k (by omega) (by show bkt (μ 55 k) = _; rw [(h5 k (by omega)).2.1, hh]) (by show μ 55 k = w; rw [(h5 k (by omega)).2.1, hh])]
  · have s4' : ν 104 s = w := by rw [← (h5 s s1).2.1]; exact s4
    rw [s2, scan_is (f := ν 104) (p := w) (a := 0) (m := S) (c := s) (by omega) (by omega) s4' fun k _ hk hh => h6 s s1 k hk (by rw [hh, s4'])]
theorem M_numbered {w : Int} (h1 : S ≤ 200) (h2 : ν 76 43 = (S : Int)) : F_X11_shapeNumbered w ν = some (scan (ν 104) w 0 S) := by
  unfold F_X11_shapeNumbered
  have L := loop_scan (F := fun z => F_X11_shapeNumbered_2 w ν z) (f := ν 104) (w := w) (non := (-1 : Int)) (fnd := fun k : Nat => (k : Int)) S 0 ?_ fun j j1 j2 => ?_
  · refine L.trans ?_
    by_cases c : scan (ν 104) w 0 S = -1
    · rw [if_pos c, c]
    · rw [if_neg c]
      rcases scan_spec (f := ν 104) (p := w) S 0 with ⟨e, _⟩ | ⟨d, d1, d2, d3, d4, d5⟩
      · exact absurd e c
      · rw [d4, Int.toNat_natCast]
  · show F_X11_shapeNumbered_2 w ν ((0 + S : Nat) : Int) = _
    unfold F_X11_shapeNumbered_2
    rw [h2, if_pos (by omega)]
  · show F_X11_shapeNumbered_2 w ν (j : Int) = _
    unfold F_X11_shapeNumbered_2
    rw [h2, if_neg (by omega), bG_pos (by omega), Int.toNat_natCast]
    by_cases c : ν 104 j = w
    · rw [if_neg (fun hh => hh (bC0.mpr c)), if_pos c]
    · rw [if_pos (fun hh => c (bC0.mp hh)), if_neg c, bG_pos (by constructor <;> omega)]
/-- what reading the table leaves -/
def FTc (μ μ' : bM) : Prop := ∀ q, q ≠ 46 → q < 49 ∨ 58 < q → μ' q = μ q
def FTm (ν ν' : bM) : Prop := (∀ q, q ≠ 76 → q < 104 ∨ 109 < q → ν' q = ν q) ∧ ∀ k, k < 37 ∨ 43 < k → ν' 76 k = ν 76 k
theorem FTc_tr {a b c : bM} (h : FTc a b) (h' : FTc b c) : FTc a c := fun q x y => (h' q x y).trans (h q x y)
theorem FTm_tr {a b c : bM} (h : FTm a b) (h' : FTm b c) : FTm a c := ⟨fun q x y => (h'.1 q x y).trans (h.1 q x y), fun k hk => (h'.2 k hk).trans (h.2 k hk)⟩
theorem FTc_S (h : FSc S μ μ') : FTc μ μ' := fun q x y => h.1 q x (by omega)
theorem FTm_S (h : FSm S ν ν') : FTm ν ν' := ⟨h.1, h.2.2.2⟩
theorem M_shape_w {v1 v2 : Int} {w : bM} (hw : w 76 37 ≠ -1) : F_X11_readShape_62 v1 v2 w = some (0, w) := by
  unfold F_X11_readShape_62 F_X11_readShape_79
  rw [M_badno hw, bMm_some, if_neg hw]
  split <;> rfl
theorem J_tstep (hs : Src r sz) (hE : E ≤ sz 1) (hp : p ≤ E) (hc : CSrc r sz μ) (hm : MSrc r sz ν) (h : Cur 1 p E μ) (h' : Mur 1 p E ν) (hT : TB S μ ν) :
    (∃ p' : Nat, p < p' ∧ p' ≤ E ∧ F_X7_readFrom_14 S μ = some (.inr (.inl 0, bset μ 46 0 (p' : Int))) ∧ F_X11_readShape ν = some (0, bset ν 76 40 (p' : Int))) ∨
    (∃ (p' : Nat) (μ' ν' : bM), p < p' ∧ p' ≤ E ∧ F_X7_readFrom_14 S μ = some (.inl ((S : Int) + 1, μ')) ∧ F_X11_readShape ν = some (1, ν') ∧ Cur 1 p' E μ' ∧ Mur 1 p' E ν' ∧ TB (S + 1) μ' ν' ∧ FTc μ μ' ∧ FTm ν ν') ∨
    (∃ (μ' ν' : bM) (v' : Int), F_X7_readFrom_14 S μ = some (.inr (.inr ISE, μ')) ∧ F_X11_readShape ν = some (v', ν') ∧ BadP μ' ν' ∧ FTc μ μ' ∧ FTm ν ν') := by
  have hz := sz_le hs (j := 1) (by omega)
  have hS : S ≤ 200 := hT.1
  have h43 : ν 76 43 = (S : Int) := hT.2.2.1
  unfold F_X7_readFrom_14 F_X11_readShape
  rw [if_neg (by omega), h.2.2.1, h'.2.1]
  rcases J_small hs hc hm (by omega) h h' hp hE with ⟨num, p1, q1, q2, q3, q4, q5⟩ | ⟨μ', ν', v', q1, q2, q3⟩
  rotate_left
  · right; right
    rw [q1, bXm_inr, q2, bMm_some, if_pos (c := ¬ ν' 76 37 = -1) (BadP_ne q3.1)]
    exact ⟨μ', ν', 0, rfl, rfl, q3.1, FTc_S (S := S) (FSc_bad q3), FTm_S (S := S) (FSm_bad q3)⟩
  · have k37 : bset ν 76 40 (p1 : Int) 76 37 = -1 := by simp (disch := first | omega | decide) only [bset_q, bset_k, bset_at, h'.2.2.2]
    have k43 : bset ν 76 40 (p1 : Int) 76 43 = (S : Int) := by simp (disch := first | omega | decide) only [bset_q, bset_k, bset_at, h43]
    have kw : wr (bset ν 76 40 (p1 : Int)) 3 1 p 76 37 ≠ -1 := by rw [wr_37]; omega
    rw [q4, bXm_inl, q5, bMm_some, if_neg (c := ¬ bset ν 76 40 (p1 : Int) 76 37 = -1) (fun hh => hh k37), b32_n q3]
    by_cases n0 : num = 0
    · left
      rw [if_neg (c := ¬ (num : Int) = 0) (by omega), if_neg (c := ¬ (num : Int) = 0) (by omega)]
      exact ⟨p1, q1, q2, rfl, rfl⟩
    · right
      rw [if_pos (c := ¬ (num : Int) = 0) (by omega), if_pos (c := ¬ (num : Int) = 0) (by omega)]
      have g1 := Cur_at (p' := p1) h
      have g1' := Mur_at (p' := p1) h'
      have L1 : ∀ k : Nat, k < S → (fun z : Int × bM => F_X11_readShape_31 p num z.1 z.2) ((k : Int), bset ν 76 40 (p1 : Int)) = some (.inl ((k : Int) + 1, if ν 104 k = num then wr (bset ν 76 40 (p1 : Int)) 3 1 p else bset ν 76 40 (p1 : Int))) := by
        intro k hk
        show F_X11_readShape_31 p num (k : Int) (bset ν 76 40 (p1 : Int)) = _
        unfold F_X11_readShape_31
        rw [k43, if_neg (by omega), bG_pos (by omega), Int.toNat_natCast, bset_q (by omega)]
        by_cases c : ν 104 k = num
        · rw [if_neg (fun hh => hh c), if_pos c, M_bad k37, bMm_some, bG_pos (by constructor <;> omega)]
        · rw [if_pos c, if_neg c, bG_pos (by constructor <;> omega)]
      have badM : (∃ i, i < S ∧ ν 104 i = num) ∨ S = 200 → bLoop (fun z : Int × bM => F_X11_readShape_31 p num z.1 z.2) (0, bset ν 76 40 (p1 : Int)) = some (0, wr (bset ν 76 40 (p1 : Int)) 3 1 p) := by
        intro hb
        by_cases cc : ∃ i, i < S ∧ ν 104 i = num
        · refine loop_yes (f := ν 104) (v := num) L1 (fun k hk => ?_) ?_ cc
          · show F_X11_readShape_31 p num (k : Int) (wr (bset ν 76 40 (p1 : Int)) 3 1 p) = _
            have j43 : wr (bset ν 76 40 (p1 : Int)) 3 1 p 76 43 = (S : Int) := by unfold wr; simp (disch := first | omega | decide) only [bset_q, bset_k, bset_at, h43]
            unfold F_X11_readShape_31
            rw [j43, if_neg (by omega), bG_pos (by omega), M_badno kw, bMm_some, bG_pos (by constructor <;> omega)]
            split <;> rfl
          · show F_X11_readShape_31 p num (S : Int) (wr (bset ν 76 40 (p1 : Int)) 3 1 p) = _
            have j43 : wr (bset ν 76 40 (p1 : Int)) 3 1 p 76 43 = (S : Int) := by unfold wr; simp (disch := first | omega | decide) only [bset_q, bset_k, bset_at, h43]
            unfold F_X11_readShape_31
            rw [j43, if_pos (by omega), M_shape_w kw]
            rfl
        · refine loop_no (f := ν 104) (v := num) (fun k hk hne => ?_) ?_ (fun i hi hh => cc ⟨i, hi, hh⟩)
          · have l1 := L1 k hk
            rw [if_neg hne] at l1
            exact l1
          · show F_X11_readShape_31 p num (S : Int) (bset ν 76 40 (p1 : Int)) = _
            have c200 : S = 200 := hb.resolve_left cc
            clear hb cc
            unfold F_X11_readShape_31 F_X11_readShape_62 F_X11_readShape_79
            rw [k43, if_pos (by omega), if_neg (by omega), M_bad k37, bMm_some, if_neg kw]
            rfl
      have badC : F_X7_readFrom_55 S p num (bset μ 46 0 (p1 : Int)) = some (.inr (.inr ISE, fl (bset μ 46 0 (p1 : Int)) 3 p)) := by
        unfold F_X7_readFrom_55
        rw [C_refuse, bXm_inr]
      have badR : BadP (fl (bset μ 46 0 (p1 : Int)) 3 p) (wr (bset ν 76 40 (p1 : Int)) 3 1 p) ∧ FTc μ (fl (bset μ 46 0 (p1 : Int)) 3 p) ∧ FTm ν (wr (bset ν 76 40 (p1 : Int)) 3 1 p) := by
        have b1 := Bad1_mk (μ := μ) (ν := ν) (a := p1) (a' := p1) (k := 3) (pl := p) h.1 (by omega)
        exact ⟨b1.1, FTc_S (S := S) (FSc_bad b1), FTm_S (S := S) (FSm_bad b1)⟩
      have hT1 : TB S (bset μ 46 0 (p1 : Int)) (bset ν 76 40 (p1 : Int)) := by
        obtain ⟨t1, t2, t3, t4, t5, t6⟩ := hT
        refine ⟨t1, by simp (disch := first | omega | decide) only [bset_q, bset_k, bset_at, t2], k43, chOk_cong t4 (by simp (disch := first | omega | decide) only [bset_q, bset_k, bset_at]) (by simp (disch := first | omega | decide) only [bset_q, bset_k, bset_at]) (fun s hs => by simp (disch := first | omega | decide) only [bset_q, bset_k, bset_at]), fun s hs => ?_, fun s hs t ht => ?_⟩
        · obtain ⟨y1, y2, y3⟩ := t5 s hs
          refine ⟨Row1_cong y1 ⟨by simp (disch := first | omega | decide) only [bset_q, bset_k, bset_at], by simp (disch := first | omega | decide) only [bset_q, bset_k, bset_at], by simp (disch := first | omega | decide) only [bset_q, bset_k, bset_at]⟩ (fun k _ _ => ⟨by simp (disch := first | omega | decide) only [bset_q, bset_k, bset_at], by simp (disch := first | omega | decide) only [bset_q, bset_k, bset_at]⟩) ⟨by simp (disch := first | omega | decide) only [bset_q, bset_k, bset_at], by simp (disch := first | omega | decide) only [bset_q, bset_k, bset_at], by simp (disch := first | omega | decide) only [bset_q, bset_k, bset_at]⟩ (fun k _ _ => ⟨by simp (disch := first | omega | decide) only [bset_q, bset_k, bset_at], by simp (disch := first | omega | decide) only [bset_q, bset_k, bset_at]⟩), ?_, ?_⟩
          · simp (disch := first | omega | decide) only [bset_q, bset_k, bset_at, y2]
          · simp (disch := first | omega | decide) only [bset_q, bset_k, bset_at]
            exact y3
        · have := t6 s hs t ht
          simp (disch := first | omega | decide) only [bset_q, bset_k, bset_at]
          exact this
      by_cases c200 : S = 200
      · right
        rw [if_pos (c := (S : Int) = 200) (by omega), badC, badM (Or.inr c200)]
        exact ⟨_, _, 0, rfl, rfl, badR.1, badR.2.1, badR.2.2⟩
      · have e104 : bset ν 76 40 (p1 : Int) 104 = ν 104 := by simp (disch := first | omega | decide) only [bset_q, bset_k, bset_at]
        rw [if_neg (c := (S : Int) = 200) (by omega), C_indexOf hT1, Option.bind_some, e104]
        rcases scan_spec (f := ν 104) (p := num) S 0 with ⟨e, he⟩ | ⟨d, d1, d2, d3, d4, d5⟩
        rotate_left
        · right
          rw [d4, if_neg (by omega), badC, badM (Or.inl ⟨d, by omega, d3⟩)]
          exact ⟨_, _, 0, rfl, rfl, badR.1, badR.2.1, badR.2.2⟩
        · clear badM badC badR
          rw [e, if_pos rfl]
          have LX : ∀ x, F_X11_readShape_79 num (bset ν 76 40 (p1 : Int)) = some x → bLoop (fun z : Int × bM => F_X11_readShape_31 p num z.1 z.2) (0, bset ν 76 40 (p1 : Int)) = some x := by
            intro x hx
            refine loop_no (f := ν 104) (v := num) (A := S) (fun k hk hne => ?_) ?_ (fun i hi hh => he i (by omega) (by omega) hh)
            · have l1 := L1 k hk
              rw [if_neg hne] at l1
              exact l1
            · show F_X11_readShape_31 p num (S : Int) (bset ν 76 40 (p1 : Int)) = _
              unfold F_X11_readShape_31 F_X11_readShape_62
              rw [k43, if_pos (by omega), if_pos (by omega), hx]
              rfl
          unfold F_X7_readFrom_61
          have fc1 : FTc μ (bset μ 46 0 (p1 : Int)) := FTc_S (S := S) (FSc_b (Or.inr rfl))
          have fm1 : FTm ν (bset ν 76 40 (p1 : Int)) := FTm_S (S := S) (FSm_b (by omega))
          rcases J_shp (num := num) hs hE q2 (CSrc_b hc (by omega)) (MSrc_b hm (by omega)) g1 g1' (by omega) k43 with ⟨p', μ', ν', a1, a2, a3, a4, a5, a6, a7, a8, a9, a10⟩ | ⟨μ', ν', v', a1, a2, a3, a4, a5⟩
          · left
            obtain ⟨t1, t2, t3, t4, t5, t6⟩ := hT1
            have hch : chOk 56 S (fun s => bkt (bset μ' 55 S num 55 s)) (bset μ' 55 S num) := by
              refine chOk_cong t4 ?_ ?_ fun s hs => ?_
              · show bset μ' 55 S num 57 = bset μ 46 0 (p1 : Int) 57
                rw [bset_q (by decide), a9.1 57 (by decide) (by decide)]
              · show bset μ' 55 S num 58 = bset μ 46 0 (p1 : Int) 58
                rw [bset_q (by decide), a9.1 58 (by decide) (by decide)]
              · show bkt (bset μ' 55 S num 55 s) = bkt (bset μ 46 0 (p1 : Int) 55 s)
                rw [bset_k (by omega), a9.1 55 (by decide) (by decide)]
            obtain ⟨ρ', r1, r2, r3⟩ := ch_add hch (by show S < 200; omega) (h := num) (by show bkt (bset μ' 55 S num 55 S) = _; rw [bset_at])
            have r49 : ρ' 49 5 = (S : Int) := by rw [r3 49 (by decide) (by decide), bset_q (by decide), a9.1 49 (by decide) (by decide)]; exact t2
            rw [a3, bXm_inl, LX _ a4, bG_pos (by omega), Int.toNat_natCast, r1, bMm_some, r49, bG_pos (by constructor <;> omega), bG_pos (by constructor <;> omega)]
            have R : ∀ q, q ≠ 49 → q ≠ 55 → q ≠ 57 → q ≠ 58 → bset ρ' 49 5 ((S : Int) + 1) q = μ' q := fun q b1 b2 b3 b4 => by rw [bset_q b1, r3 q b3 b4, bset_q b2]
            have R55 : ∀ s, bset ρ' 49 5 ((S : Int) + 1) 55 s = bset μ' 55 S num 55 s := fun s => by rw [bset_q (by decide), r3 55 (by decide) (by decide)]
            have R46 : bset ρ' 49 5 ((S : Int) + 1) 46 = μ' 46 := R 46 (by decide) (by decide) (by decide) (by decide)
            have Q104 : bset ν' 76 43 ((S : Int) + 1) 104 = ν' 104 := by rw [bset_q (by decide)]
            refine ⟨p', _, _, by omega, a2, rfl, rfl, ?_, Mur_b a6 (by omega), ⟨by omega, by simp (disch := first | omega | decide) only [bset_q, bset_k, bset_at]; omega, by simp (disch := first | omega | decide) only [bset_q, bset_k, bset_at]; omega, ?_, fun s hs => ?_, fun s hs t ht => ?_⟩, fun q b1 b2 => ?_, ?_⟩
            · unfold Cur at a5 ⊢
              rw [R46]
              exact a5
            · refine chOk_cong r2 (by rw [bset_q (by decide)]) (by rw [bset_q (by decide)]) fun s _ => ?_
              show bkt (bset ρ' 49 5 ((S : Int) + 1) 55 s) = bkt (bset μ' 55 S num 55 s)
              rw [R55]
            · rw [R55, Q104]
              have e50 := R 50 (by decide) (by decide) (by decide) (by decide)
              have e51 := R 51 (by decide) (by decide) (by decide) (by decide)
              have e52 := R 52 (by decide) (by decide) (by decide) (by decide)
              have e53 := R 53 (by decide) (by decide) (by decide) (by decide)
              have e54 := R 54 (by decide) (by decide) (by decide) (by decide)
              by_cases x : s = S
              · rw [x, bset_at, a8]
                exact ⟨Row1_cong a7 ⟨by rw [e50], by rw [e51], by rw [e52]⟩ (fun k _ _ => ⟨by rw [e53], by rw [e54]⟩) ⟨by simp (disch := first | omega | decide) only [bset_q, bset_k, bset_at], by simp (disch := first | omega | decide) only [bset_q, bset_k, bset_at], by simp (disch := first | omega | decide) only [bset_q, bset_k, bset_at]⟩ (fun k _ _ => ⟨by simp (disch := first | omega | decide) only [bset_q, bset_k, bset_at], by simp (disch := first | omega | decide) only [bset_q, bset_k, bset_at]⟩), rfl, by omega⟩
              · obtain ⟨y1, y2, y3⟩ := t5 s (by omega)
                have z := a9.2.1 s (by omega)
                have z' := a10.2.1 s (by omega)
                rw [bset_k (by omega), a9.1 55 (by decide) (by decide), z'.1]
                refine ⟨Row1_cong y1 ⟨by rw [e50]; exact z.1, by rw [e51]; exact z.2.1, by rw [e52]; exact z.2.2⟩ (fun k k1 k2 => ⟨by rw [e53]; exact (a9.2.2 k (by omega)).1, by rw [e54]; exact (a9.2.2 k (by omega)).2⟩) ⟨?_, ?_, ?_⟩ (fun k k1 k2 => ⟨?_, ?_⟩), y2, y3⟩
                · rw [bset_q (by decide)]; exact z'.2.1
                · rw [bset_q (by decide)]; exact z'.2.2.1
                · rw [bset_q (by decide)]; exact z'.2.2.2
                · rw [bset_q (by decide)]; exact (a10.2.2.1 k (by omega)).1
                · rw [bset_q (by decide)]; exact (a10.2.2.1 k (by omega)).2
            · rw [Q104]
              by_cases x : s = S
              · rw [x, a8, (a10.2.1 t (by omega)).1, e104]
                exact he t (by omega) (by omega)
              · rw [(a10.2.1 t (by omega)).1, (a10.2.1 s (by omega)).1]
                exact t6 s (by omega) t ht
            · rw [R q (by omega) (by omega) (by omega) (by omega), a9.1 q b1 (by omega)]
              exact fc1 q b1 b2
            · exact FTm_tr fm1 (FTm_tr (FTm_S a10) (FTm_S (S := S) (FSm_b (by omega))))
          · right
            rw [a1, bXm_inr, LX _ a2]
            exact ⟨μ', ν', v', rfl, rfl, a3, FTc_tr fc1 (FTc_S a4), FTm_tr fm1 (FTm_S a5)⟩
theorem J_tone (hs : Src r sz) (hE : E ≤ sz 1) (hp : p ≤ E) (hc : CSrc r sz μ) (hm : MSrc r sz ν) (h : Cur 1 p E μ) (h' : Mur 1 p E ν) (hT : TB S μ ν)
    (ih : ∀ (q : Nat) (μ1 ν1 : bM), p < q → q ≤ E → CSrc r sz μ1 → MSrc r sz ν1 → Cur 1 q E μ1 → Mur 1 q E ν1 → TB (S + 1) μ1 ν1 →
    (∃ (S' : Nat) (μ' ν' : bM), bLoop (fun z : Int × bM => F_X7_readFrom_14 z.1 z.2) (((S + 1 : Nat) : Int), μ1) = some (.inl 0, μ') ∧ bLoop (fun z : Int × bM => F_X11_readTable_27 z.1 z.2) (1, ν1) = some (0, ν') ∧ TB S' μ' ν' ∧ (ν' 76 37 = -1 ∧ μ' 46 2 = 0 ∧ μ' 46 3 = 0) ∧ FTc μ1 μ' ∧ FTm ν1 ν') ∨
    (∃ μ' ν' : bM, bLoop (fun z : Int × bM => F_X7_readFrom_14 z.1 z.2) (((S + 1 : Nat) : Int), μ1) = some (.inr ISE, μ') ∧ bLoop (fun z : Int × bM => F_X11_readTable_27 z.1 z.2) (1, ν1) = some (0, ν') ∧ BadP μ' ν' ∧ FTc μ1 μ' ∧ FTm ν1 ν')) :
    (∃ (S' : Nat) (μ' ν' : bM), bLoop (fun z : Int × bM => F_X7_readFrom_14 z.1 z.2) ((S : Int), μ) = some (.inl 0, μ') ∧ bLoop (fun z : Int × bM => F_X11_readTable_27 z.1 z.2) (1, ν) = some (0, ν') ∧ TB S' μ' ν' ∧ (ν' 76 37 = -1 ∧ μ' 46 2 = 0 ∧ μ' 46 3 = 0) ∧ FTc μ μ' ∧ FTm ν ν') ∨
    (∃ μ' ν' : bM, bLoop (fun z : Int × bM => F_X7_readFrom_14 z.1 z.2) ((S : Int), μ) = some (.inr ISE, μ') ∧ bLoop (fun z : Int × bM => F_X11_readTable_27 z.1 z.2) (1, ν) = some (0, ν') ∧ BadP μ' ν' ∧ FTc μ μ' ∧ FTm ν ν') := by
  have M1 : (fun z : Int × bM => F_X11_readTable_27 z.1 z.2) (1, ν) = bMm (F_X11_readShape ν) (fun w3 μ4 => some (.inl (w3, μ4))) := by
    show F_X11_readTable_27 1 ν = _
    unfold F_X11_readTable_27
    rw [if_neg (by decide), if_neg (c := ¬ ν 76 37 = -1) (fun hh => hh h'.2.2.2)]
  rcases J_tstep hs hE hp hc hm h h' hT with ⟨p', q1, q2, q3, q4⟩ | ⟨p', μ1, ν1, q1, q2, q3, q4, q5, q6, q7, q8, q9⟩ | ⟨μ', ν', v', q1, q2, q3, q4, q5⟩
  · left
    rw [q4, bMm_some] at M1
    refine ⟨S, bset μ 46 0 (p' : Int), bset ν 76 40 (p' : Int), bLoop_done q3, (bLoop_step M1).trans (bLoop_done ?_), ?_, ⟨by simp (disch := first | omega | decide) only [bset_q, bset_k, bset_at, h'.2.2.2], by simp (disch := first | omega | decide) only [bset_q, bset_k, bset_at, h.2.1.2.1], by simp (disch := first | omega | decide) only [bset_q, bset_k, bset_at, h.2.1.2.2]⟩, FTc_S (S := S) (FSc_b (Or.inr rfl)), FTm_S (S := S) (FSm_b (by omega))⟩
    · show F_X11_readTable_27 0 _ = _
      unfold F_X11_readTable_27
      rw [if_pos rfl]
    · obtain ⟨t1, t2, t3, t4, t5, t6⟩ := hT
      refine ⟨t1, by simp (disch := first | omega | decide) only [bset_q, bset_k, bset_at, t2], by simp (disch := first | omega | decide) only [bset_q, bset_k, bset_at, t3], chOk_cong t4 (by simp (disch := first | omega | decide) only [bset_q, bset_k, bset_at]) (by simp (disch := first | omega | decide) only [bset_q, bset_k, bset_at]) (fun s hs => by simp (disch := first | omega | decide) only [bset_q, bset_k, bset_at]), fun s hs => ?_, fun s hs t ht => ?_⟩
      · obtain ⟨y1, y2, y3⟩ := t5 s hs
        refine ⟨Row1_cong y1 ⟨by simp (disch := first | omega | decide) only [bset_q, bset_k, bset_at], by simp (disch := first | omega | decide) only [bset_q, bset_k, bset_at], by simp (disch := first | omega | decide) only [bset_q, bset_k, bset_at]⟩ (fun k _ _ => ⟨by simp (disch := first | omega | decide) only [bset_q, bset_k, bset_at], by simp (disch := first | omega | decide) only [bset_q, bset_k, bset_at]⟩) ⟨by simp (disch := first | omega | decide) only [bset_q, bset_k, bset_at], by simp (disch := first | omega | decide) only [bset_q, bset_k, bset_at], by simp (disch := first | omega | decide) only [bset_q, bset_k, bset_at]⟩ (fun k _ _ => ⟨by simp (disch := first | omega | decide) only [bset_q, bset_k, bset_at], by simp (disch := first | omega | decide) only [bset_q, bset_k, bset_at]⟩), ?_, ?_⟩
        · simp (disch := first | omega | decide) only [bset_q, bset_k, bset_at, y2]
        · simp (disch := first | omega | decide) only [bset_q, bset_k, bset_at]
          exact y3
      · have := t6 s hs t ht
        simp (disch := first | omega | decide) only [bset_q, bset_k, bset_at]
        exact this
  · rw [q4, bMm_some] at M1
    have e1 := bLoop_step (f := fun z : Int × bM => F_X7_readFrom_14 z.1 z.2) (s := ((S : Int), μ)) q3
    have e2 := bLoop_step (f := fun z : Int × bM => F_X11_readTable_27 z.1 z.2) M1
    have hc1 : CSrc r sz μ1 := CSrc_cong hc fun q x1 x2 => q8 q (by omega) (by omega)
    have hm1 : MSrc r sz ν1 := MSrc_cong hm fun q x1 x2 => q9.1 q (by omega) (by omega)
    rcases ih p' μ1 ν1 q1 q2 hc1 hm1 q5 q6 q7 with ⟨S', μ', ν', w1, w2, w3, w4, w5, w6⟩ | ⟨μ', ν', w1, w2, w3, w4, w5⟩
    · exact Or.inl ⟨S', μ', ν', e1.trans w1, e2.trans w2, w3, w4, FTc_tr q8 w5, FTm_tr q9 w6⟩
    · exact Or.inr ⟨μ', ν', e1.trans w1, e2.trans w2, w3, FTc_tr q8 w4, FTm_tr q9 w5⟩
  · right
    rw [q2, bMm_some] at M1
    refine ⟨μ', ν', bLoop_done q1, (bLoop_step M1).trans (bLoop_done ?_), q3, q4, q5⟩
    show F_X11_readTable_27 v' ν' = _
    unfold F_X11_readTable_27
    rw [if_pos (c := ¬ ν' 76 37 = -1) (BadP_ne q3)]
    split <;> rfl
theorem J_tloop (hs : Src r sz) (hE : E ≤ sz 1) : ∀ (d S p : Nat) (μ ν : bM), E - p ≤ d → p ≤ E → CSrc r sz μ → MSrc r sz ν → Cur 1 p E μ → Mur 1 p E ν → TB S μ ν →
    (∃ (S' : Nat) (μ' ν' : bM), bLoop (fun z : Int × bM => F_X7_readFrom_14 z.1 z.2) ((S : Int), μ) = some (.inl 0, μ') ∧ bLoop (fun z : Int × bM => F_X11_readTable_27 z.1 z.2) (1, ν) = some (0, ν') ∧ TB S' μ' ν' ∧ (ν' 76 37 = -1 ∧ μ' 46 2 = 0 ∧ μ' 46 3 = 0) ∧ FTc μ μ' ∧ FTm ν ν') ∨
    (∃ μ' ν' : bM, bLoop (fun z : Int × bM => F_X7_readFrom_14 z.1 z.2) ((S : Int), μ) = some (.inr ISE, μ') ∧ bLoop (fun z : Int × bM => F_X11_readTable_27 z.1 z.2) (1, ν) = some (0, ν') ∧ BadP μ' ν' ∧ FTc μ μ' ∧ FTm ν ν') := by
  intro d
  induction d with
  | zero =>
    intro S p μ ν hd hp hc hm h h' hT
    exact J_tone hs hE hp hc hm h h' hT (fun p' μ' ν' hlt => by omega)
  | succ d ih =>
    intro S p μ ν hd hp hc hm h h' hT
    exact J_tone hs hE hp hc hm h h' hT (fun p' μ' ν' hlt a1 a2 a3 a4 a5 a6 => ih (S + 1) p' μ' ν' (by omega) a1 a2 a3 a4 a5 a6)
end
end FQ
