section EP
section
variable {T b n m : Nat} {μ ν ρ : bM} {ord : Nat → Nat}
theorem C_lay (hok : bOk μ) (hN : iNum T b n m μ) (hTr : iTree T b μ) : ∃ (μ' : bM) (ord : Nat → Nat), F_X3_reckon T 4 μ = some (0, μ') ∧ ordOk (μ (T + 3)) n ord ∧ (∀ q, (q < 13 ∨ 29 < q) → μ' q = μ q) ∧ layC T n m μ ord μ' ∧ iLay T μ' ∧ bOk μ' := by
  have h := cT_of hN hTr
  have hT := h.1
  have hTb : bTree T := by rcases hT with rfl | rfl <;> rfl
  rcases hTr.2.2.2.2.2.2 with h6 | ⟨h6, μ0, μ1, g1, g2, g3, g4, g5⟩
  · obtain ⟨ρ', ord, a1, a2, a3, a4, a5⟩ := C_reckon hok h hok (fun q _ => rfl) h6
    refine ⟨ρ', ord, a1, a2, a3, a5, Or.inr ⟨a4, μ, ρ', hok, fun q hq => ?_, h6, a1, fun q _ _ => rfl⟩, kp_X3_reckon T hTb 4 rfl hok a1⟩
    unfold iTids at hq
    exact (a3 q (by omega)).symm
  · obtain ⟨ρ', ord, a1, a2, a3, a4, a5⟩ := C_reckon hok h g1 (fun q hq => g2 q (by unfold iTids; omega)) g3
    rw [g4] at a1
    cases a1
    refine ⟨μ, ord, ?_, a2, fun q _ => rfl, layC_congr a5 (fun q q1 q2 => (g5 q q1 q2).symm), Or.inr ⟨h6, μ0, μ1, g1, g2, g3, g4, g5⟩, hok⟩
    unfold F_X3_reckon
    rw [if_neg (by omega)]
theorem Inv_lay {σ : bM} (h : Inv μ) (hN : iNum T b n m μ) (hB : iBank T b μ) (hTr : iTree T b μ) (hok : bOk σ) (hq : ∀ q, (q < 13 ∨ 29 < q) → q ≠ 76 → (q < 95 ∨ 103 < q) → q ≠ 112 → σ q = μ q) (h76 : ∀ k, k ≠ 0 → k ≠ 23 → k ≠ 26 → k ≠ 29 → k ≠ 32 → σ 76 k = μ 76 k) (hl : iLay T σ) : Inv σ := by
  obtain ⟨-, h1, h2, h3, -⟩ := h
  obtain ⟨hT, hb, e15, e763, hn, hm, n4, m6, e78, e79⟩ := hN
  obtain ⟨tc, te, tr, tch, ta, tl, ty⟩ := hTr
  have eT : ∀ k, k ≤ 14 → σ (T + k) = μ (T + k) := fun k hk => hq (T + k) (by omega) (by omega) (by omega) (by omega)
  have eM : ∀ q, 77 ≤ q → q ≤ 94 → σ q = μ q := fun q q1 q2 => hq q (by omega) (by omega) (by omega) (by omega)
  have eS : ∀ q, q < 13 → σ q = μ q := fun q q1 => hq q (by omega) (by omega) (by omega) (by omega)
  have t0 : σ T = μ T := eT 0 (by omega)
  refine ⟨hok, iTape_congr h1 (h76 2 (by omega) (by omega) (by omega) (by omega) (by omega)) (by rw [eS 2 (by omega)]) (eS 3 (by omega)) (eM 77 (by omega) (by omega)), iSec_congr h2 (fun q q1 q2 => eS q (by omega)) (eM 93 (by omega) (by omega)) (eM 94 (by omega) (by omega)), iFault_congr h3 (hq 46 (by omega) (by omega) (by omega) (by omega)) (h76 21 (by omega) (by omega) (by omega) (by omega) (by omega)) (h76 22 (by omega) (by omega) (by omega) (by omega) (by omega)), T, b, ?_, ?_, ?_, ?_, ?_, ?_, ?_, hl⟩
  · unfold iBank at hB ⊢; rw [eS 1 (by omega), hq 30 (by omega) (by omega) (by omega) (by omega), h76 3 (by omega) (by omega) (by omega) (by omega) (by omega)]; exact hB
  · unfold iCnt at tc ⊢; rw [t0, eM 78 (by omega) (by omega), eM 79 (by omega) (by omega)]; exact tc
  · unfold iEnt at te ⊢; rw [t0, eT 1 (by omega), eT 2 (by omega), eT 3 (by omega), eT 4 (by omega), eT 5 (by omega), eT 10 (by omega), eM 81 (by omega) (by omega), eM 82 (by omega) (by omega), eM 83 (by omega) (by omega), eM 84 (by omega) (by omega)]; exact te
  · unfold iRoot at tr ⊢; rw [t0, eT 1 (by omega), eT 3 (by omega), eT 4 (by omega), eM 80 (by omega) (by omega)]; exact tr
  · unfold iChl at tch ⊢; rw [t0, eT 3 (by omega), eT 6 (by omega), eT 7 (by omega), eT 8 (by omega), eT 9 (by omega)]; exact tch
  · unfold iAtt iAt1 at ta ⊢; rw [t0, eT 4 (by omega), eT 10 (by omega), eT 11 (by omega), eT 12 (by omega), eT 13 (by omega), eT 14 (by omega), eM 85 (by omega) (by omega), eM 86 (by omega) (by omega), eM 87 (by omega) (by omega), eM 88 (by omega) (by omega), eM 89 (by omega) (by omega), eM 91 (by omega) (by omega), eM 92 (by omega) (by omega), eS 4 (by omega), eS 5 (by omega)]; exact ta
  · unfold iLet at tl ⊢; rw [eM 90 (by omega) (by omega), eM 91 (by omega) (by omega), eS 4 (by omega)]; exact tl
theorem iLay_congr {σ : bM} (h : iLay T μ) (hT : T = 31 ∨ T = 61) (hq : ∀ q, (13 ≤ q ∧ q ≤ 29 ∨ T ≤ q ∧ q ≤ T + 14 ∨ q = 4 ∨ q = 5) → σ q = μ q) : iLay T σ := by
  rcases h with h6 | ⟨h6, μ0, μ1, g1, g2, g3, g4, g5⟩
  · exact Or.inl (by rw [hq 13 (by omega)]; exact h6)
  · refine Or.inr ⟨by rw [hq 13 (by omega)]; exact h6, μ0, μ1, g1, fun q h1 => ?_, g3, g4, fun q q1 q2 => ?_⟩
    · unfold iTids at h1
      rw [g2 q h1, hq q (by omega)]
    · rw [g5 q q1 q2, hq q (by omega)]
/-- the model's layout behind a change of class's layout and of out -/
theorem M_lay (hok : bOk μ) (hN : iNum T b n m μ) (hTr : iTree T b μ) (ho : ordOk (μ (T + 3)) n ord) {ρ0 : bM} (hf : ∀ q, 76 ≤ q → q ≤ 92 → q ≠ 76 → ρ0 q = μ q) (h3 : ρ0 76 3 = μ 76 3) : ∃ ρ', F_X11_layOut ρ0 = some (0, ρ') ∧ (∀ q, (q < 95 ∨ 103 < q) → q ≠ 76 → ρ' q = ρ0 q) ∧ (∀ k, k ≠ 23 → k ≠ 26 → k ≠ 29 → k ≠ 32 → ρ' 76 k = ρ0 76 k) ∧ layM T b n m μ ord ρ' :=
  M_layOut hok (cT_of hN hTr) ho (mA_congr (mA_of hN hTr) h3 (fun q q1 q2 => hf q (by omega) (by omega) (by omega)))
theorem st_count (h : Inv μ) {v : Int} (hv : bR v) : Step (F_L_count v μ) (F_X11_count v) := by
  obtain ⟨hok, h1, h2, h3, h4⟩ := id h
  obtain ⟨T, b, n, m, hN, hB, hTr⟩ := iMain_view h4
  obtain ⟨hT, hb, e15, e763, hn, hm, n4, m6, e78, e79⟩ := id hN
  by_cases c : 0 ≤ v ∧ v ≤ 3
  · have hcs : v = 0 ∨ v = 1 ∨ v = 2 ∨ v = 3 := by omega
    have big : v = 2 ∨ v = 3 → Step (F_L_count v μ) (F_X11_count v) := by
      intro hv23
      obtain ⟨μ', ord, a1, a2, a3, a4, a5, a6⟩ := C_lay hok hN hTr
      obtain ⟨w, hw⟩ : ∃ w : Int, w = if v = 2 then μ' 13 0 else μ' 13 1 := ⟨_, rfl⟩
      have E0 : F_X10_count v μ = some (.inl w, μ') := by
        unfold F_X10_count
        rw [if_neg (by omega), if_neg (by omega), e15, Int.toNat_natCast, a1, hw]
        rcases hv23 with rfl | rfl
        · rw [if_pos rfl, bMm_some]; rfl
        · rw [if_neg (by decide), if_pos rfl, bMm_some]; rfl
      have E1 : F_L_count v μ = some (0, bset μ' 112 0 w, 0) := by unfold F_L_count; rw [E0]; rfl
      have ok1 := kp_L_count v hv hok E1
      obtain ⟨μ1, hμ1⟩ : ∃ μ1, μ1 = bset μ' 112 0 w := ⟨_, rfl⟩
      rw [← hμ1] at E1 ok1
      have f1 : ∀ q, (q < 13 ∨ 29 < q) → q ≠ 112 → μ1 q = μ q := fun q q1 q2 => by rw [hμ1, bset_q q2, a3 q q1]
      obtain ⟨ρ', b1, b2, b3, b4⟩ := M_lay (ρ0 := bset μ1 76 0 0) hok hN hTr a2 (fun q q1 q2 q3 => by rw [bset_q q3, f1 q (by omega) (by omega)]) (by rw [bset_k (by omega), f1 76 (by omega) (by omega)])
      have E2 : F_X11_count v μ1 = some (w, ρ') := by
        unfold F_X11_count
        rw [M_in, b01_1 c, Option.bind_some, goes_1, bMm_some, if_pos (by decide), if_pos (by omega), b1, bMm_some, hw]
        rcases hv23 with rfl | rfl
        · rw [if_neg (by decide), if_pos rfl, b4.2.2.2.1.1, a4.2.2.2.2.1.1]
        · rw [if_pos (by decide), if_neg (by decide), b4.2.2.2.2.1.1, a4.2.2.2.2.2.1.1]
      have ok2 := kp_X11_count v hv ok1 E2
      have s1 : ∀ q, q ≠ 76 → (q < 95 ∨ 103 < q) → ρ' q = μ1 q := fun q q1 q2 => by rw [b2 q q2 q1, bset_q q1]
      have s76 : ∀ k, k ≠ 0 → k ≠ 23 → k ≠ 26 → k ≠ 29 → k ≠ 32 → ρ' 76 k = μ 76 k := fun k k0 k1 k2 k3 k4 => by rw [b3 k k1 k2 k3 k4, bset_k k0, f1 76 (by omega) (by omega)]
      refine ⟨0, w, μ1, ρ', 0, E1, by omega, E2, by rw [b3 0 (by omega) (by omega) (by omega) (by omega), bset_at], fun _ => by rw [s1 112 (by omega) (by omega), hμ1, bset_at], ?_⟩
      refine Inv_lay h hN hB hTr ok2 (fun q q1 q2 q3 q4 => by rw [s1 q q2 q3, f1 q q1 q4]) s76 (iLay_congr a5 hT (fun q hq => ?_))
      rw [s1 q (by omega) (by omega), hμ1, bset_q (by omega)]
    rcases hcs with rfl | rfl | hv2 | hv3
    · refine St_tell2 h (w := n) (by constructor <;> omega) ?_ ?_
      · have E0 : F_X10_count 0 μ = some (.inl (n : Int), μ) := by
          unfold F_X10_count
          rw [if_pos rfl, e15, Int.toNat_natCast, hn]
        unfold F_L_count
        rw [E0]
        rfl
      · unfold F_X11_count
        rw [M_in, b01_1 (by decide), Option.bind_some, goes_1, bMm_some, if_pos (by decide)]
        simp (disch := first | omega | decide) only [bG_pos, bMm_some, bXm_inl, bXm_inr, Option.bind_some, bset_q, bset_k, bset_at, if_pos, if_neg, Int.toNat_natCast, e763, e78]
    · refine St_tell2 h (w := m) (by constructor <;> omega) ?_ ?_
      · have E0 : F_X10_count 1 μ = some (.inl (m : Int), μ) := by
          unfold F_X10_count
          rw [if_neg (by decide), if_pos rfl, e15, Int.toNat_natCast, hm]
        unfold F_L_count
        rw [E0]
        rfl
      · unfold F_X11_count
        rw [M_in, b01_1 (by decide), Option.bind_some, goes_1, bMm_some, if_pos (by decide)]
        simp (disch := first | omega | decide) only [bG_pos, bMm_some, bXm_inl, bXm_inr, Option.bind_some, bset_q, bset_k, bset_at, if_pos, if_neg, Int.toNat_natCast, e763, e79]
    · exact big (Or.inl hv2)
    · exact big (Or.inr hv3)
  · refine St_thr2 h (k := 1) (r := 0) (by decide) (by decide) ?_ ?_
    · have E0 : F_X10_count v μ = some (.inr "java/lang/IndexOutOfBoundsException", μ) := by
        unfold F_X10_count
        rw [if_neg (by omega), if_neg (by omega), if_neg (by omega), if_neg (by omega)]
      unfold F_L_count
      rw [E0]
      rfl
    · unfold F_X11_count
      rw [M_in, b01_0 c, Option.bind_some, goes_0, bMm_some, if_neg (by decide)]
theorem M_kids (hb : b = 0 ∨ b = 1) {σ : bM} (h3 : σ 76 3 = (b : Int)) (h78 : σ 78 b = (n : Int)) (n4 : n ≤ 400) (h82 : ∀ i : Nat, i < n → σ 82 (400 * b + i) = μ (T + 3) i) {e : Int} : bLoop (fun z : Int × Int => F_X11_about_103 e σ z.1 z.2) (0, 0) = some (cntC (μ (T + 3)) e n, σ) := by
  have H := bLoop_inv (f := fun z : Int × Int => F_X11_about_103 e σ z.1 z.2) (fun z => ∃ j : Nat, j ≤ n ∧ z.2 = j ∧ z.1 = cntC (μ (T + 3)) e j) (fun z => n - z.2.toNat) (fun r => r = (cntC (μ (T + 3)) e n, σ)) ?_ (0, 0) ⟨0, by omega, rfl, rfl⟩
  · obtain ⟨r, x1, x2⟩ := H
    rw [x1, x2]
  · rintro ⟨z1, z2⟩ ⟨j, j1, j2, j3⟩
    simp only at j2 j3
    subst j2
    show (∃ s', F_X11_about_103 e σ z1 j = some (Sum.inl s') ∧ _) ∨ ∃ q, F_X11_about_103 e σ z1 j = some (Sum.inr q) ∧ _
    have c0 := cntC_0 (f := μ (T + 3)) (p := e) j
    have c1 := cntC_le (f := μ (T + 3)) (p := e) j
    unfold F_X11_about_103
    rw [h3, bG_pos (by omega), Int.toNat_natCast, h78]
    by_cases c : j < n
    · left
      rw [if_neg (by omega), M_at hb h3 (by omega), Option.bind_some, bG_pos (by omega), t400, h82 j c]
      by_cases x : μ (T + 3) j = e
      · rw [if_neg (fun y => y x), bG_pos (by constructor <;> omega), bG_pos (by constructor <;> omega)]
        refine ⟨_, rfl, ⟨j + 1, by omega, by simp, ?_⟩, by simp only; omega⟩
        simp only
        rw [j3, cntC, if_pos x]
      · rw [if_pos x, bG_pos (by constructor <;> omega)]
        refine ⟨_, rfl, ⟨j + 1, by omega, by simp, ?_⟩, by simp only; omega⟩
        simp only
        rw [j3, cntC, if_neg x]
        omega
    · right
      have : j = n := by omega
      subst this
      rw [if_pos (by omega)]
      exact ⟨_, rfl, by rw [j3]⟩
theorem st_about (h : Inv μ) {a v : Int} (ha : bR a) (hv : bR v) : Step (F_L_about a v μ) (F_X11_about a v) := by
  obtain ⟨hok, h1, h2, h3, h4⟩ := id h
  obtain ⟨T, b, n, m, hN, hB, hTr⟩ := iMain_view h4
  obtain ⟨hT, hb, e15, e763, hn, hm, n4, m6, e78, e79⟩ := id hN
  have hnn : (μ T 1).toNat = n := by omega
  by_cases c : (0 ≤ a ∧ a < n) ∧ 0 ≤ v ∧ v ≤ 5
  · obtain ⟨c0, cv⟩ := c
    obtain ⟨e, rfl⟩ : ∃ u : Nat, a = u := ⟨a.toNat, by omega⟩
    have hen : e < n := by omega
    obtain ⟨⟨p1, p2, p3, p4⟩, p5, p6, p7, p8, p9, p10, p11⟩ := hTr.2.1 e (by omega)
    obtain ⟨q1, q2, -⟩ := hTr.2.2.2.1 e (by omega)
    rw [hnn] at q1
    have hcs : v = 0 ∨ v = 1 ∨ v = 2 ∨ v = 3 ∨ v = 4 ∨ v = 5 := by omega
    have CL : ∀ x : Int, F_X10_about e v μ = some (.inl x, μ) → F_L_about e v μ = some (0, bset μ 112 0 x, 0) := fun x hx => by
      unfold F_L_about
      rw [hx]
      rfl
    have cc0 := cntC_0 (f := μ (T + 3)) (p := (e : Int)) n
    have cc1 := cntC_le (f := μ (T + 3)) (p := (e : Int)) n
    rcases hcs with rfl | rfl | rfl | rfl | rfl | rfl
    · refine St_tell2 h (w := μ (T + 2) e) (by constructor <;> omega) (CL _ ?_) ?_
      · unfold F_X10_about
        rw [C_needEntry hN, if_pos c0, bXm_inl]
        simp (disch := first | omega | decide) only [bG_pos, bMm_some, bXm_inl, bXm_inr, Option.bind_some, bset_q, bset_k, bset_at, if_pos, if_neg, Int.toNat_natCast, e15]
      · unfold F_X11_about F_X11_about_26
        rw [M_isEntry (iNum_out hN), b01_1 c0, Option.bind_some, if_neg (by decide), M_in, b01_1 (by decide), Option.bind_some, if_neg (by decide), goes_1, bMm_some, if_pos (by decide), M_at hb (by simp (disch := first | omega | decide) only [bset_q, bset_k, bset_at, e763]) (by omega)]
        simp (disch := first | omega | decide) only [bG_pos, bMm_some, bXm_inl, bXm_inr, Option.bind_some, bset_q, bset_k, bset_at, if_pos, if_neg, Int.toNat_natCast, t400, p1]
    · refine St_tell2 h (w := μ (T + 3) e) (by constructor <;> omega) (CL _ ?_) ?_
      · unfold F_X10_about
        rw [C_needEntry hN, if_pos c0, bXm_inl]
        simp (disch := first | omega | decide) only [bG_pos, bMm_some, bXm_inl, bXm_inr, Option.bind_some, bset_q, bset_k, bset_at, if_pos, if_neg, Int.toNat_natCast, e15]
      · unfold F_X11_about F_X11_about_26
        rw [M_isEntry (iNum_out hN), b01_1 c0, Option.bind_some, if_neg (by decide), M_in, b01_1 (by decide), Option.bind_some, if_neg (by decide), goes_1, bMm_some, if_pos (by decide), M_at hb (by simp (disch := first | omega | decide) only [bset_q, bset_k, bset_at, e763]) (by omega)]
        simp (disch := first | omega | decide) only [bG_pos, bMm_some, bXm_inl, bXm_inr, Option.bind_some, bset_q, bset_k, bset_at, if_pos, if_neg, Int.toNat_natCast, t400, p2]
    · refine St_tell2 h (w := μ (T + 4) e) (by constructor <;> omega) (CL _ ?_) ?_
      · unfold F_X10_about
        rw [C_needEntry hN, if_pos c0, bXm_inl]
        simp (disch := first | omega | decide) only [bG_pos, bMm_some, bXm_inl, bXm_inr, Option.bind_some, bset_q, bset_k, bset_at, if_pos, if_neg, Int.toNat_natCast, e15]
      · unfold F_X11_about F_X11_about_26
        rw [M_isEntry (iNum_out hN), b01_1 c0, Option.bind_some, if_neg (by decide), M_in, b01_1 (by decide), Option.bind_some, if_neg (by decide), goes_1, bMm_some, if_pos (by decide), M_at hb (by simp (disch := first | omega | decide) only [bset_q, bset_k, bset_at, e763]) (by omega)]
        simp (disch := first | omega | decide) only [bG_pos, bMm_some, bXm_inl, bXm_inr, Option.bind_some, bset_q, bset_k, bset_at, if_pos, if_neg, Int.toNat_natCast, t400, p3]
    · refine St_tell2 h (w := μ (T + 6) e) (by rw [q1]; constructor <;> omega) (CL _ ?_) ?_
      · unfold F_X10_about
        rw [C_needEntry hN, if_pos c0, bXm_inl]
        simp (disch := first | omega | decide) only [bG_pos, bMm_some, bXm_inl, bXm_inr, Option.bind_some, bset_q, bset_k, bset_at, if_pos, if_neg, Int.toNat_natCast, e15]
      · unfold F_X11_about F_X11_about_26
        rw [M_isEntry (iNum_out hN), b01_1 c0, Option.bind_some, if_neg (by decide), M_in, b01_1 (by decide), Option.bind_some, if_neg (by decide), goes_1, bMm_some, if_pos (by decide), M_at hb (by simp (disch := first | omega | decide) only [bset_q, bset_k, bset_at, e763]) (by omega)]
        simp (disch := first | omega | decide) only [bG_pos, bMm_some, bXm_inl, bXm_inr, Option.bind_some, bset_q, bset_k, bset_at, if_pos, if_neg, Int.toNat_natCast]
        rw [q1]
        exact M_kids (μ := μ) (T := T) hb (by simp (disch := first | omega | decide) only [bset_q, bset_k, bset_at, e763]) (by simp (disch := first | omega | decide) only [bset_q, bset_k, bset_at, e78]) n4 (fun i hi => by simp (disch := first | omega | decide) only [bset_q, bset_k, bset_at]; exact (hTr.2.1 i (by omega)).1.2.1)
    · refine St_tell2 h (w := μ (T + 10) e) (by constructor <;> omega) (CL _ ?_) ?_
      · unfold F_X10_about
        rw [C_needEntry hN, if_pos c0, bXm_inl]
        simp (disch := first | omega | decide) only [bG_pos, bMm_some, bXm_inl, bXm_inr, Option.bind_some, bset_q, bset_k, bset_at, if_pos, if_neg, Int.toNat_natCast, e15]
      · unfold F_X11_about F_X11_about_26
        rw [M_isEntry (iNum_out hN), b01_1 c0, Option.bind_some, if_neg (by decide), M_in, b01_1 (by decide), Option.bind_some, if_neg (by decide), goes_1, bMm_some, if_pos (by decide), M_at hb (by simp (disch := first | omega | decide) only [bset_q, bset_k, bset_at, e763]) (by omega)]
        simp (disch := first | omega | decide) only [bG_pos, bMm_some, bXm_inl, bXm_inr, Option.bind_some, bset_q, bset_k, bset_at, if_pos, if_neg, Int.toNat_natCast, t400, p4]
    · obtain ⟨μ', ord, a1, a2, a3, a4, a5, a6⟩ := C_lay hok hN hTr
      have E0 : F_X10_about e 5 μ = some (.inl (μ' 19 e), μ') := by
        unfold F_X10_about
        rw [C_needEntry hN, if_pos c0, bXm_inl]
        simp (disch := first | omega | decide) only [bG_pos, bMm_some, bXm_inl, bXm_inr, Option.bind_some, bset_q, bset_k, bset_at, if_pos, if_neg, Int.toNat_natCast, e15, a1]
      have E1 : F_L_about e 5 μ = some (0, bset μ' 112 0 (μ' 19 e), 0) := by unfold F_L_about; rw [E0]; rfl
      have ok1 := kp_L_about e ha 5 hv hok E1
      obtain ⟨μ1, hμ1⟩ : ∃ μ1, μ1 = bset μ' 112 0 (μ' 19 e) := ⟨_, rfl⟩
      rw [← hμ1] at E1 ok1
      have f1 : ∀ q, (q < 13 ∨ 29 < q) → q ≠ 112 → μ1 q = μ q := fun q q1 q2 => by rw [hμ1, bset_q q2, a3 q q1]
      obtain ⟨ρ', b1, b2, b3, b4⟩ := M_lay (ρ0 := bset μ1 76 0 0) hok hN hTr a2 (fun q q1 q2 q3 => by rw [bset_q q3, f1 q (by omega) (by omega)]) (by rw [bset_k (by omega), f1 76 (by omega) (by omega)])
      have hpl := (lay_place (cT_of hN hTr) a2 a4 b4).1 e hen
      have hN1 : iNum T b n m μ1 := iNum_congr hN (by rw [f1 1 (by omega) (by omega)]) (by rw [f1 76 (by omega) (by omega)]) (f1 T (by omega) (by omega)) (f1 78 (by omega) (by omega)) (f1 79 (by omega) (by omega))
      have E2 : F_X11_about e 5 μ1 = some (μ' 19 e, ρ') := by
        unfold F_X11_about F_X11_about_26
        rw [M_isEntry hN1, b01_1 c0, Option.bind_some, if_neg (by decide), M_in, b01_1 (by decide), Option.bind_some, if_neg (by decide), goes_1, bMm_some, if_pos (by decide), M_at hb (by rw [bset_k (by omega), f1 76 (by omega) (by omega)]; exact e763) (by omega), Option.bind_some, if_neg (by decide), if_neg (by decide), if_neg (by decide), if_neg (by decide), if_neg (by decide), b1, bMm_some, bG_pos (by omega), Int.toNat_natCast, hpl]
      have ok2 := kp_X11_about e ha 5 hv ok1 E2
      have s1 : ∀ q, q ≠ 76 → (q < 95 ∨ 103 < q) → ρ' q = μ1 q := fun q q1 q2 => by rw [b2 q q2 q1, bset_q q1]
      have s76 : ∀ k, k ≠ 0 → k ≠ 23 → k ≠ 26 → k ≠ 29 → k ≠ 32 → ρ' 76 k = μ 76 k := fun k k0 k1 k2 k3 k4 => by rw [b3 k k1 k2 k3 k4, bset_k k0, f1 76 (by omega) (by omega)]
      refine ⟨0, _, μ1, ρ', 0, E1, by omega, E2, by rw [b3 0 (by omega) (by omega) (by omega) (by omega), bset_at], fun _ => by rw [s1 112 (by omega) (by omega), hμ1, bset_at], ?_⟩
      refine Inv_lay h hN hB hTr ok2 (fun q q1 q2 q3 q4 => by rw [s1 q q2 q3, f1 q q1 q4]) s76 (iLay_congr a5 hT (fun q hq => ?_))
      rw [s1 q (by omega) (by omega), hμ1, bset_q (by omega)]
  · have t0 : F_X11_about_25 a v μ = some (0, bset μ 76 0 1) := by
      unfold F_X11_about_25 F_X11_about_26
      rw [goes_0, bMm_some, if_neg (by decide)]
    refine St_thr2 h (k := 1) (r := 0) (by decide) (by decide) ?_ ?_
    · have E0 : F_X10_about a v μ = some (.inr "java/lang/IndexOutOfBoundsException", μ) := by
        unfold F_X10_about
        rw [C_needEntry hN]
        by_cases d : 0 ≤ a ∧ a < n
        · rw [if_pos d, bXm_inl, if_neg (by omega), if_neg (by omega), if_neg (by omega), if_neg (by omega), if_neg (by omega), if_neg (by omega)]
        · rw [if_neg d, bXm_inr]
      unfold F_L_about
      rw [E0]
      rfl
    · unfold F_X11_about
      rw [M_isEntry hN, Option.bind_some, t0]
      by_cases d : 0 ≤ a ∧ a < n
      · rw [b01_1 d, if_neg (by decide), M_in, b01_0 (fun x => c ⟨d, x⟩), Option.bind_some, if_pos rfl]
      · rw [b01_0 d, if_pos rfl]
end
end EP
