section FZ
section
variable {r : Nat → Nat → Int} {sz : Nat → Nat} {μ ν μ' ν' ν6 : bM} {T b e A p E L P j s sI N n m S u0 fi n0 m0 p' p2 L' P' c : Nat} {o deep : Int}
theorem M17_bad {w : Int} {ν1 : bM} (h37 : ν 76 37 = -1) (h1 : F_X11_readEntry o deep ν = some (w, ν1)) (h2 : ν1 76 37 ≠ -1) : F_X11_readEntries_17 n0 o deep 1 ν = some (.inl (o, deep, 1, ν1)) := by
  unfold F_X11_readEntries_17
  rw [if_neg (by decide), if_neg (c := ¬ ν 76 37 = -1) (fun hh => hh h37), h1, bMm_some, if_pos h2]
theorem J_es1 (hs : Src r sz) (hT : T = 31 ∨ T = 61) (hb : b = 0 ∨ b = 1) (hE : E ≤ sz 0) (hU : US r sz T b S n0 m0 u0 n m L P p E μ ν) (ho : OS T n0 n o deep μ) (hc : c ≤ p)
    (ih : ∀ (n' m' L' P' p' c' : Nat) (o' deep' : Int) (μ1 ν1 : bM), p < p' → US r sz T b S n0 m0 u0 n' m' L' P' p' E μ1 ν1 → OS T n0 n' o' deep' μ1 → c' ≤ p' → EntsOk r sz T b S n0 m0 u0 E c' o' deep' μ1 ν1) : EntsOk r sz T b S n0 m0 u0 E c o deep μ ν := by
  have hz := sz_le hs (j := 0) (by omega)
  obtain ⟨a1, a2, a3, a4, a5, a6, a7, a8, a9, a10, a11⟩ := id hU
  have hC := a1.1.1
  have hM := a1.1.2.1
  have h30 := a1.1.2.2.1
  have h3 := a1.1.2.2.2
  have h37 : ν 76 37 = -1 := a3.2.2.2
  have hn1 : μ T 1 = (n : Int) := a1.2.2.2.1.1
  obtain ⟨⟨s1, s2, s3⟩, s4, s5, s6⟩ := (Sk_iff hT).mp a1.2.2.1
  have hS2 : S ≤ 200 := a1.2.1.1
  have n400 : n ≤ 400 := by omega
  rcases J_small hs hC hM (j := 0) (by omega) a2 a3 a4.1 hE with ⟨v, p', q1, q2, q3, q4, q5⟩ | ⟨μ', ν', v', q1, q2, q3⟩
  · obtain ⟨μ3, hμ3⟩ : ∃ μ3, μ3 = bset μ 46 0 (p' : Int) := ⟨_, rfl⟩
    obtain ⟨ν3, hν3⟩ : ∃ ν3, ν3 = bset ν 76 40 (p' : Int) := ⟨_, rfl⟩
    have U3 := US_at hT hU (Nat.le_of_lt q1) q2
    rw [← hμ3, ← hν3] at U3
    rw [← hμ3] at q4
    rw [← hν3] at q5
    have mu3 : ∀ q, q ≠ 46 → μ3 q = μ q := fun q hq => by rw [hμ3, bset_q hq]
    have nu3 : ∀ q, q ≠ 76 → ν3 q = ν q := fun q hq => by rw [hν3, bset_q hq]
    have f3 : Fr (sRc T) μ μ3 := by rw [hμ3]; exact Fr_b (by unfold sRc; omega)
    have g3 : Fr (sRm b) ν ν3 := by rw [hν3]; exact Fr_b (by unfold sRm; omega)
    have k3 : ν3 76 3 = (b : Int) := U3.1.1.2.2.2
    have k37 : ν3 76 37 = -1 := U3.2.2.1.2.2.2
    have hTB := U3.1.2.1
    have C5 : F_X4_readEntries_5 u0 o c μ = if ¬ (v : Int) = 0 then F_X4_readEntries_54 u0 o c p v μ3 else if o = (-1) then F_X4_readEntries_54 u0 o c p v μ3 else bG (0 ≤ o ∧ o < 400) (if ¬ (μ3 (T + 3) o.toNat) = (-1) then bG (bR ((c : Int) + 1)) (some (.inl ((μ3 (T + 3) o.toNat), ((c : Int) + 1), μ3))) else some (.inr (.inl 0, μ3))) := by
      unfold F_X4_readEntries_5
      rw [if_neg (by omega), q4, bXm_inl, a2.2.2.1, U3.1.1.2.2.1, Int.toNat_natCast]
    have refuse : scan (ν3 104) v 0 S = -1 → (F_X4_readEntries_5 u0 o c μ = F_X4_readEntries_54 u0 o c p v μ3) → (∃ w, F_X11_readEntry o deep ν = some (w, wr ν3 5 (0 : Nat) p)) → EntsOk r sz T b S n0 m0 u0 E c o deep μ ν := by
      intro hsc h1 ⟨w, h2⟩
      have B := Bad1_mk (μ := μ) (ν := ν) (k := 5) (a := p') (a' := p') (pl := p) a2.1 (by omega)
      rw [← hμ3, ← hν3] at B
      refine Ents_bad hb (by unfold wr; simp (disch := first | omega | decide) only [bset_q, bset_k, bset_at, k3]) (h1.trans ?_) (M17_bad h37 h2 (BadP_ne B.1)) B.1 (Bad1_R (T := T) (b := b) B).1 (Bad1_R (T := T) (b := b) B).2
      unfold F_X4_readEntries_54
      rw [C_indexOf hTB, Option.bind_some, hsc, if_neg (fun hh => hh rfl), C_refuse, bXm_inr]
    by_cases hv : v = 0
    · have nz : scan (ν3 104) v 0 S = -1 := scan_no fun k _ hk hh => by
        have := (hTB.2.2.2.2.1 k (by omega)).2.2
        omega
      by_cases ho1 : o = -1
      · refine refuse nz ?_ ⟨-1, ?_⟩
        · rw [C5, if_neg (by omega), if_pos ho1]
        · unfold F_X11_readEntry
          rw [q5, bMm_some, if_pos k37, if_neg (fun hh => hh (bC0.mpr (by omega))), if_neg (fun hh => hh ho1), a3.2.1, M_bad k37, bMm_some]
          rfl
      · rcases ho with ⟨o1, o2, o3⟩ | ⟨on, o1, o2, o3, o4⟩
        · exact absurd o1 ho1
        · subst o1
          obtain ⟨⟨z1, z2, z3, z4⟩, z5, z6, z7, z8, z9, z10, z11⟩ := s4 on (by omega)
          have hd : 1 ≤ deep ∧ deep ≤ 31 := by omega
          have par : μ3 (T + 3) on = μ (T + 3) on := by rw [mu3 _ (by omega)]
          have M17 : F_X11_readEntries_17 n0 on deep 1 ν = if μ (T + 3) on = -1 then some (.inl (μ (T + 3) on, deep + (-1), 0, ν3)) else some (.inl (μ (T + 3) on, deep + (-1), 1, ν3)) := by
            have R : F_X11_readEntry on deep ν = some (-1, ν3) := by
              unfold F_X11_readEntry
              rw [q5, bMm_some, if_pos k37, if_neg (fun hh => hh (bC0.mpr (by omega))), if_pos ho1]
            unfold F_X11_readEntries_17
            rw [if_neg (by decide), if_neg (c := ¬ ν 76 37 = -1) (fun hh => hh h37), R, bMm_some, if_neg (c := ¬ ν3 76 37 = -1) (fun hh => hh k37), if_neg (fun hh => hh rfl), M_at hb k3 (by omega), Option.bind_some, bG_pos (by omega), t400, nu3 82 (by omega), z2, bG_pos (by constructor <;> omega)]
          have C5b : F_X4_readEntries_5 u0 on c μ = if ¬ μ (T + 3) on = -1 then some (.inl (μ (T + 3) on, ((c : Int) + 1), μ3)) else some (.inr (.inl 0, μ3)) := by
            rw [C5, if_neg (by omega), if_neg ho1, bG_pos (by omega), Int.toNat_natCast, par, bG_pos (by constructor <;> omega)]
          by_cases x : μ (T + 3) on = -1
          · rw [if_pos x] at M17
            rw [if_neg (fun hh => hh x)] at C5b
            have hm : m = m0 + 1 := by omega
            rw [hm] at U3
            exact Ents_done C5b M17 U3 (by omega) f3 g3
          · rw [if_neg x] at M17
            rw [if_pos x] at C5b
            obtain ⟨y1, y2⟩ := z11 (by omega)
            obtain ⟨pn, hpn⟩ : ∃ pn : Nat, μ (T + 3) on = (pn : Int) := ⟨(μ (T + 3) on).toNat, by omega⟩
            rw [hpn, Int.toNat_natCast] at y1 y2
            have hp0 : n0 ≤ pn := by
              by_cases w : n0 ≤ pn
              · exact w
              · have w1 := (a11 pn (by omega)).1
                have w2 := (a9 on o2 o3).2.2.1
                omega
            refine Ents_go (c' := c + 1) C5b M17 f3 g3 (ih n m L P p' (c + 1) _ _ μ3 ν3 q1 U3 (Or.inr ⟨pn, hpn, hp0, by omega, ?_⟩) (by omega))
            rw [mu3 (T + 5) (by omega)]
            omega
    · have C54 : F_X4_readEntries_5 u0 o c μ = F_X4_readEntries_54 u0 o c p v μ3 := by rw [C5, if_pos (by omega)]
      have hR0 : F_X11_readEntry o deep ν = (F_X11_shapeNumbered v ν3).bind fun w6 => if ¬ w6 = (-1) then F_X11_readEntry_67 o deep p w6 ν3 else bMm (F_X11_bad 5 0 p ν3) (fun w8 μ9 => F_X11_readEntry_67 o deep p w6 μ9) := by
        unfold F_X11_readEntry
        rw [q5, bMm_some, if_pos k37, if_pos (fun hh => hv (by have := bC0.mp hh; omega)), a3.2.1]
      rw [M_numbered hS2 hTB.2.2.1, Option.bind_some] at hR0
      rcases scan_spec (f := ν3 104) (p := (v : Int)) S 0 with ⟨x1, _⟩ | ⟨sI, _, x2, x3, x4, _⟩
      · refine refuse x1 C54 ⟨-1, ?_⟩
        rw [hR0, x1, if_neg (fun hh => hh rfl), M_bad k37, bMm_some]
        exact M_67_w hb (by unfold wr; simp (disch := first | omega | decide) only [bset_q, bset_k, bset_at, k3]) (by unfold wr; simp (disch := first | omega | decide) only [bset_q, bset_k, bset_at]; omega)
      · have hsI : sI < S := by omega
        rw [x4, if_pos (by omega)] at hR0
        have C81 : F_X4_readEntries_5 u0 o c μ = F_X4_readEntries_81 u0 o c p sI μ3 := by
          rw [C54]
          unfold F_X4_readEntries_54
          rw [C_indexOf hTB, Option.bind_some, x4, if_pos (by omega)]
        have ho3 : OS T n0 n o deep μ3 := by
          unfold OS
          rw [mu3 (T + 5) (by omega)]
          exact ho
        rcases J_entry hs hT hb U3.1 U3.2.1 U3.2.2.1 q2 hE hsI (Opn_of U3 ho3) (fi := p) (by omega) U3.2.2.2.2.1 a4.2 with ⟨p2, L', P', μ', ν', w1, w2, w3, w4, w5, w6, w7, w8, ⟨w9, w10, w11, w12, w13, w14, w15⟩, w16, w17⟩ | ⟨μ', ν', w, w1, w2, w3, w4, w5⟩
        · obtain ⟨μ6, hμ6⟩ : ∃ μ6, μ6 = bset μ' 59 n ((p : Int) - u0) := ⟨_, rfl⟩
          obtain ⟨ν5, hν5⟩ : ∃ ν5, ν5 = bset ν' 76 53 (ν' 106 sI) := ⟨_, rfl⟩
          obtain ⟨ν6, hν6⟩ : ∃ ν6, ν6 = if o = -1 then bset ν5 80 (6 * b + m0) (n : Int) else ν5 := ⟨_, rfl⟩
          rw [← hν5] at w2
          have n6 : ∀ q, q ≠ 76 → q ≠ 80 → ν6 q = ν' q := fun q x y => by
            rw [hν6, hν5]
            split
            · rw [bset_q y, bset_q x]
            · rw [bset_q x]
          have n6' : ∀ k, k ≠ 53 → ν6 76 k = ν' 76 k := fun k x => by
            rw [hν6, hν5]
            split
            · rw [bset_q (by decide), bset_k x]
            · rw [bset_k x]
          have n6k : ν6 76 53 = ν' 106 sI := by
            rw [hν6, hν5]
            split
            · rw [bset_q (by decide), bset_at]
            · rw [bset_at]
          have n80 : ∀ u, u < 6 → ν6 80 (6 * b + u) = if o = -1 ∧ u = m0 then (n : Int) else ν' 80 (6 * b + u) := fun u hu => by
            rw [hν6, hν5]
            by_cases y : o = -1
            · rw [if_pos y, bset_row, bset_q (by decide)]
              by_cases z : u = m0
              · rw [if_pos (by omega), if_pos ⟨y, z⟩]
              · rw [if_neg (by omega), if_neg (fun hh => z hh.2)]
            · rw [if_neg y, if_neg (fun hh => y hh.1), bset_q (by decide)]
          have e79 : ν3 79 = ν 79 := nu3 79 (by omega)
          have U6 : US r sz T b S n0 m0 u0 (n + 1) (m0 + 1) L' P' p2 E μ6 ν6 := by
            rw [hμ6]
            refine US_add hT hU ho (by omega) w3 w4 w5 w7 w8 ⟨w9, fun j => ?_, fun j => ?_, fun j hj => ?_⟩ (fun q k x y => ?_) (fun q k x y => ?_) ?_ n6 n6' n80
            · rw [w11, mu3 _ (by omega)]
            · rw [w13, mu3 _ (by omega), e79]
            · rw [w15 j hj, mu3 _ (by omega)]
            · rw [w16 q k y, mu3 q x]
            · rw [w17 q k y, nu3 q x]
            · rw [w17 76 52 (by unfold sYm sEm; omega), hν3, bset_k (by omega)]
          have F6 : Fr (sRc T) μ μ6 := by
            rw [hμ6]
            exact Fr_tr (Fr_tr f3 (Fr_mono w16 fun q k x => sYc_R x)) (Fr_b (by unfold sRc; omega))
          have G6 : Fr (sRm b) ν ν6 := by
            refine Fr_tr (Fr_tr g3 (Fr_mono w17 fun q k x => sYm_R w9 x)) ?_
            rw [hν6, hν5]
            split
            · exact Fr_tr (Fr_b (by unfold sRm; omega)) (Fr_b (by unfold sRm; omega))
            · exact Fr_b (by unfold sRm; omega)
          have t106 : ν' 106 sI = ν3 106 sI := w17 _ _ (by unfold sYm sEm; omega)
          obtain ⟨t1, ⟨t2, t3⟩, _⟩ := (hTB.2.2.2.2.1 sI hsI).1
          have c51 : μ6 51 sI = ν3 106 sI := by rw [hμ6, bset_q (by omega), w16 51 sI (by unfold sYc sEc; omega)]; exact t2
          have C81b : F_X4_readEntries_81 u0 o c p sI μ3 = if ν3 106 sI = 0 then if ¬ o = (-1) then some (.inl (o, ((c : Int) + 1), μ6)) else some (.inr (.inl 0, μ6)) else some (.inl ((n : Int), ((c : Int) + 1), μ6)) := by
            unfold F_X4_readEntries_81
            rw [w1, bXm_inl, bG_pos (by constructor <;> omega), bG_pos (by omega), bG_pos (by omega), Int.toNat_natCast, Int.toNat_natCast, ← hμ6, c51, if_pos (c := ¬ (n : Int) = -1) (by omega), bG_pos (by constructor <;> omega), bG_pos (by constructor <;> omega)]
          have v37 : ν5 76 37 = -1 := by rw [hν5, bset_k (by omega)]; exact w5.2.2.2
          have v3 : ν5 76 3 = (b : Int) := by rw [hν5, bset_k (by omega)]; exact w3.1.2.2.2
          have v82 : ν5 82 (400 * b + n) = o := by
            have := (((Sk_iff hT).mp w3.2.2.1).2.1 n (by rw [w3.2.2.2.1.1]; omega)).1.2.1
            rw [hν5, bset_q (by decide), this, w12, if_pos rfl]
          have v79 : ν5 79 b = (m0 : Int) + 1 := by rw [hν5, bset_q (by decide), w17 79 b (by unfold sYm sEm; omega), e79]; exact a6
          have i80 : (6 * (b : Int) + ((m0 : Int) + 1) - 1).toNat = 6 * b + m0 := by omega
          have hd0 : 0 ≤ deep ∧ deep ≤ 31 := by
            rcases ho with ⟨o1, o2, o3⟩ | ⟨on, o1, o2, o3, o4⟩
            · omega
            · have := (s4 on (by omega)).2.2.2.2.2.1
              omega
          have M17 : F_X11_readEntries_17 n0 o deep 1 ν = F_X11_readEntries_110 n0 o deep n ν6 := by
            unfold F_X11_readEntries_17
            rw [if_neg (by decide), if_neg (c := ¬ ν 76 37 = -1) (fun hh => hh h37), hR0, w2, bMm_some, if_neg (c := ¬ ν5 76 37 = -1) (fun hh => hh v37), if_pos (by omega), M_at hb v3 (by omega), Option.bind_some, bG_pos (by omega), t400, v82]
            by_cases y : o = -1
            · rw [if_neg (fun hh => hh y), v3, bG_pos (by constructor <;> omega), bG_pos (by omega), Int.toNat_natCast, v79, bG_pos (by constructor <;> omega), bG_pos (by constructor <;> omega), bG_pos (by omega), i80, hν6, if_pos y]
            · rw [if_pos y, hν6, if_neg y]
          have M110 : F_X11_readEntries_110 n0 o deep n ν6 = if ν3 106 sI = 0 then if o = -1 then some (.inl (o, deep, 0, ν6)) else some (.inl (o, deep, 1, ν6)) else some (.inl ((n : Int), deep + 1, 1, ν6)) := by
            unfold F_X11_readEntries_110
            rw [n6k, t106, bG_pos (by constructor <;> omega), if_neg (c := (n : Int) = -1) (by omega)]
          rw [M110] at M17
          rw [C81b] at C81
          have m5 : ∀ j, μ6 (T + 5) j = if j = n then deep else μ (T + 5) j := fun j => by rw [hμ6, bset_q (by omega), w14, mu3 _ (by omega)]
          by_cases y : ν3 106 sI = 0
          · rw [if_pos y] at M17 C81
            by_cases z : o = -1
            · rw [if_pos z] at M17
              rw [if_neg (fun hh => hh z)] at C81
              exact Ents_done C81 M17 U6 (by omega) F6 G6
            · rw [if_neg z] at M17
              rw [if_pos z] at C81
              refine Ents_go (c' := c + 1) C81 M17 F6 G6 (ih _ _ _ _ p2 (c + 1) _ _ μ6 ν6 (by omega) U6 ?_ (by omega))
              rcases ho with ⟨o1, o2, o3⟩ | ⟨on, o1, o2, o3, o4⟩
              · exact absurd o1 z
              · refine Or.inr ⟨on, o1, o2, by omega, ?_⟩
                rw [m5, if_neg (by omega)]
                exact o4
          · rw [if_neg y] at M17 C81
            refine Ents_go (c' := c + 1) C81 M17 F6 G6 (ih _ _ _ _ p2 (c + 1) _ _ μ6 ν6 (by omega) U6 (Or.inr ⟨n, rfl, by omega, by omega, ?_⟩) (by omega))
            rw [m5, if_pos rfl]
        · have fb : Fr (sRm b) ν3 ν' := by
            rcases w5 with ⟨x, y⟩ | y
            · exact Fr_mono y fun q k z => sYm_R x z
            · exact Fr_mono y fun q k z => by unfold sRm; omega
          refine Ents_bad hb ?_ (C81.trans ?_) (M17_bad h37 (hR0.trans w2) (BadP_ne w3)) w3 (Fr_tr f3 (Fr_mono w4 fun q k x => sYc_R x)) (Fr_tr g3 fb)
          · rw [fb 76 3 (by unfold sRm; omega)]; exact k3
          · unfold F_X4_readEntries_81
            rw [w1, bXm_inr]
  · have B := Bad1_R (T := T) (b := b) q3
    refine Ents_bad hb (by rw [B.2 76 3 (by unfold sRm; omega)]; exact h3) ?_ (M17_bad (w := -1) h37 ?_ (BadP_ne q3.1)) q3.1 B.1 B.2
    · unfold F_X4_readEntries_5
      rw [if_neg (by omega), q1, bXm_inr]
    · unfold F_X11_readEntry
      rw [q2, bMm_some, if_neg (c := ν' 76 37 = -1) (BadP_ne q3.1)]
theorem J_es (hs : Src r sz) (hT : T = 31 ∨ T = 61) (hb : b = 0 ∨ b = 1) (hE : E ≤ sz 0) : ∀ (d n m L P p c : Nat) (o deep : Int) (μ ν : bM), E - p ≤ d → US r sz T b S n0 m0 u0 n m L P p E μ ν → OS T n0 n o deep μ → c ≤ p → EntsOk r sz T b S n0 m0 u0 E c o deep μ ν := by
  intro d
  induction d with
  | zero =>
    intro n m L P p c o deep μ ν hd hU ho hc
    exact J_es1 hs hT hb hE hU ho hc (fun n' m' L' P' p' c' o' deep' μ1 ν1 hlt a1 => by have := a1.2.2.2.1; omega)
  | succ d ih =>
    intro n m L P p c o deep μ ν hd hU ho hc
    exact J_es1 hs hT hb hE hU ho hc (fun n' m' L' P' p' c' o' deep' μ1 ν1 hlt a1 a2 a3 => ih n' m' L' P' p' c' o' deep' μ1 ν1 (by omega) a1 a2 a3)
end
end FZ
