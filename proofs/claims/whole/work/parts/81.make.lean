section DL
section
variable {T b n m : Nat} {μ μ' : bM}
theorem ok_thr (h : bOk μ) {k : Int} (hk : bR k) : bOk (bset μ 76 0 k) := bOk_set h ((bIn_f (ci := 9) (n := 55) rfl rfl).mpr hk)
theorem ok_out (h : bOk μ) {k : Int} (hk : bRL k) : bOk (bset μ 112 0 k) := bOk_set h ((bIn_l (n := 1) rfl).mpr hk)
theorem St_thr2 (h : Inv μ) {F1 : Option (Int × bM × Nat)} {F2 : bM → Option (Int × bM)} {k r : Int} (hk : k ≠ 0) (hk2 : bR k) (hF1 : F1 = some (k, μ, 1)) (hF2 : F2 μ = some (r, bset μ 76 0 k)) : Step F1 F2 :=
  ⟨k, r, μ, _, 1, hF1, by omega, hF2, bset_at, fun h => absurd h hk, Inv_thr h (ok_thr h.1 hk2) (fun q q1 _ => bset_q q1) (fun k k0 => bset_k k0)⟩
theorem St_tell2 (h : Inv μ) {F1 : Option (Int × bM × Nat)} {F2 : bM → Option (Int × bM)} {w : Int} (hw : bRL w) (hF1 : F1 = some (0, bset μ 112 0 w, 0)) (hF2 : F2 (bset μ 112 0 w) = some (w, bset (bset μ 112 0 w) 76 0 0)) : Step F1 F2 :=
  ⟨0, w, _, _, 0, hF1, by omega, hF2, bset_at, fun _ => by rw [bset_q (by decide), bset_at], Inv_thr h (ok_thr (ok_out h.1 hw) (by decide)) (fun q q1 q2 => by rw [bset_q q1, bset_q q2]) (fun k k0 => by rw [bset_k k0, bset_q (by decide)])⟩
theorem M_isName {v : Int} : F_X11_isName v μ = some (b01 (1 ≤ v ∧ v ≤ 16383)) := by unfold F_X11_isName; rw [M_in]; rfl
theorem M_isEntry {v : Int} (h : iNum T b n m μ) : F_X11_isEntry v μ = some (b01 (0 ≤ v ∧ v < n)) := by
  obtain ⟨hT, hb, e15, e763, hn, hm, n4, m6, e78, e79⟩ := h
  unfold F_X11_isEntry
  simp (disch := first | omega | decide) only [bG_pos, bMm_some, bXm_inl, bXm_inr, Option.bind_some, bset_q, bset_k, bset_at, if_pos, if_neg, Int.toNat_natCast, e763, e78, M_in]
  congr 1
  unfold b01
  by_cases c : 0 ≤ v ∧ v < n
  · rw [if_pos c, if_pos (by omega)]
  · rw [if_neg c, if_neg (by omega)]
theorem C_isCode {v : Int} : F_X10_isCode v μ = some (b01 (1 ≤ v ∧ v ≤ 16383)) := by
  unfold F_X10_isCode b01
  by_cases c1 : v < 1
  · rw [if_pos c1, if_neg (by omega)]
  · rw [if_neg c1]
    by_cases c2 : 16383 < v
    · rw [if_pos c2, if_neg (by omega)]
    · rw [if_neg c2, if_pos (by omega)]
theorem C_needCode {v : Int} : F_X10_needCode v μ = if 1 ≤ v ∧ v ≤ 16383 then some (.inl 0, μ) else some (.inr "java/lang/IllegalArgumentException", μ) := by
  unfold F_X10_needCode
  rw [C_isCode, Option.bind_some]
  by_cases c : 1 ≤ v ∧ v ≤ 16383
  · rw [b01_1 c, if_pos (by decide), if_pos c]
  · rw [b01_0 c, if_neg (by decide), if_neg c]
theorem C_needEntry {v : Int} (h : iNum T b n m μ) : F_X10_needEntry v μ = if 0 ≤ v ∧ v < n then some (.inl 0, μ) else some (.inr "java/lang/IndexOutOfBoundsException", μ) := by
  obtain ⟨hT, hb, e15, e763, hn, hm, n4, m6, e78, e79⟩ := h
  unfold F_X10_needEntry
  rw [e15, Int.toNat_natCast, hn]
  by_cases c1 : v < 0
  · rw [if_pos c1, if_neg (by omega)]
  · rw [if_neg c1]
    by_cases c2 : v < n
    · rw [if_pos c2, if_pos (by omega)]
    · rw [if_neg c2, if_neg (by omega)]
theorem iNum_congr (h : iNum T b n m μ) (h1 : μ' 1 5 = μ 1 5) (h2 : μ' 76 3 = μ 76 3) (h3 : μ' T = μ T) (h4 : μ' 78 = μ 78) (h5 : μ' 79 = μ 79) : iNum T b n m μ' := by
  unfold iNum at h ⊢
  rw [h1, h2, h3, h4, h5]
  exact h
theorem iAtt_add (h : iAtt T b μ) (hn : μ T 1 = (n : Int)) (hn' : μ' T 1 = (n : Int) + 1) (h10 : ∀ e : Nat, μ' (T + 10) e = if e = n then 0 else μ (T + 10) e) (h4 : ∀ e : Nat, e < n → μ' (T + 4) e = μ (T + 4) e)
    (hr : ∀ q, (T + 11 ≤ q ∧ q ≤ T + 14 ∨ 85 ≤ q ∧ q ≤ 92 ∨ q = 4 ∨ q = 5) → μ' q = μ q) : iAtt T b μ' := by
  intro e he k hk
  rw [h10] at hk
  by_cases c : e = n
  · rw [if_pos c] at hk; omega
  · rw [if_neg c] at hk
    have hlt : e < n := by omega
    obtain ⟨h1, h2⟩ := h e (by omega) k hk
    unfold iAt1 at h1 ⊢
    rw [hr (T + 11) (by omega), hr (T + 12) (by omega), hr (T + 13) (by omega), hr (T + 14) (by omega), hr 85 (by omega), hr 86 (by omega), hr 87 (by omega), hr 88 (by omega), hr 89 (by omega), hr 91 (by omega), hr 92 (by omega), hr 4 (by omega), hr 5 (by omega), hn']
    refine ⟨⟨h1.1, h1.2.1, ?_⟩, h2⟩
    rcases h1.2.2 with g | ⟨g1, g2, g3, g4, g5⟩
    · exact Or.inl g
    · refine Or.inr ⟨g1, g2, g3, g4, fun hf => ?_⟩
      obtain ⟨x1, x2⟩ := g5 hf
      refine ⟨by omega, ?_⟩
      rw [h4 _ (by omega), h4 e hlt]
      exact x2
theorem iLet_congr (h : iLet b μ) (h1 : μ' 90 = μ 90) (h2 : μ' 91 = μ 91) (h3 : μ' 4 = μ 4) : iLet b μ' := by unfold iLet at h ⊢; rw [h1, h2, h3]; exact h
theorem M_depth (h : iNum T b n m μ) (he : iEnt T b μ) {e : Nat} (hlt : e < n) : F_X11_depth e μ = some (μ (T + 5) e) := by
  obtain ⟨hT, hb, e15, e763, hn, hm, n4, m6, e78, e79⟩ := h
  have hat : ∀ c : Nat, c < n → F_X11_at c μ = some (400 * (b : Int) + c) := fun c hc => M_at hb e763 (by omega)
  obtain ⟨⟨p1, p2, p3, p4⟩, p5, p6, p7, p8, p9, p10, p11⟩ := he e (by omega)
  unfold F_X11_depth
  rw [hat e hlt, Option.bind_some, bG_pos (by omega), t400, p2]
  have H := bLoop_inv (f := fun z : Int × Int => F_X11_depth_13 μ z.1 z.2) (fun z => z.2 = -1 ∧ z.1 = μ (T + 5) e ∨ ∃ c : Nat, z.2 = c ∧ c < n ∧ 0 ≤ z.1 ∧ z.1 + μ (T + 5) c + 1 = μ (T + 5) e) (fun z => (z.2 + 1).toNat) (fun r => r = μ (T + 5) e) ?_ (0, μ (T + 3) e) ?_
  · obtain ⟨r, h1, h2⟩ := H
    rw [h1, h2]
  · rintro ⟨z1, z2⟩ hz
    rcases hz with ⟨h1, h2⟩ | ⟨c, h1, h2, h3, h4⟩
    · right
      simp only at h1 h2
      subst h1
      subst h2
      exact ⟨_, by show F_X11_depth_13 μ _ (-1) = _; unfold F_X11_depth_13; rw [if_pos rfl], rfl⟩
    · left
      simp only at h1 h3 h4
      subst h1
      obtain ⟨⟨q1, q2, q3, q4⟩, q5, q6, q7, q8, q9, q10, q11⟩ := he c (by omega)
      refine ⟨(z1 + 1, μ (T + 3) c), ?_, ?_, by simp only; omega⟩
      · show F_X11_depth_13 μ z1 c = _
        unfold F_X11_depth_13
        rw [if_neg (by omega), bG_pos (by constructor <;> omega), hat c h2, Option.bind_some, bG_pos (by omega), t400, q2]
      · by_cases x : μ (T + 3) c = -1
        · left
          refine ⟨x, ?_⟩
          have := (q10 x).1
          simp only
          omega
        · right
          have := (q11 (by omega)).1
          exact ⟨(μ (T + 3) c).toNat, by simp only; omega, by omega, by simp only; omega, by simp only; omega⟩
  · by_cases x : μ (T + 3) e = -1
    · left
      exact ⟨x, (p10 x).1.symm⟩
    · right
      have := (p11 (by omega)).1
      exact ⟨(μ (T + 3) e).toNat, by simp only; omega, by omega, by simp only; omega, by simp only; omega⟩
end
theorem st_unit {μ : bM} (h : Inv μ) {v : Int} (hv : bR v) : Step (F_L_unit v μ) (F_X11_unit v) := by
  obtain ⟨hok, h1, h2, h3, h4⟩ := id h
  obtain ⟨T, b, n, m, hN, hB, hTr⟩ := iMain_view h4
  obtain ⟨hT, hb, e15, e763, hn, hm, n4, m6, e78, e79⟩ := id hN
  by_cases c : 1 ≤ v ∧ v ≤ 16383
  · by_cases c2 : m = 6 ∨ n = 400
    · refine St_thr2 h (k := 2) (r := 0) (by decide) (by decide) ?_ ?_
      · have E0 : F_X10_unit v μ = some (.inr "java/lang/UnsupportedOperationException", μ) := by
          unfold F_X10_unit
          rw [C_needCode, if_pos c, bXm_inl, e15, Int.toNat_natCast, hm, hn]
          by_cases c3 : (m : Int) = 6
          · rw [if_pos c3]
          · rw [if_neg c3, if_neg (by omega)]
        unfold F_L_unit
        rw [E0]
        rfl
      · have hu : F_X11_unit_46 v 2 μ = some (0, bset μ 76 0 2) := by
          unfold F_X11_unit_46
          rw [bset_at, if_neg (by decide)]
        unfold F_X11_unit F_X11_unit_41
        rw [M_isName, b01_1 c, Option.bind_some, if_pos (by decide), e763, bG_pos (by omega), Int.toNat_natCast, e79]
        by_cases c3 : (m : Int) = 6
        · rw [if_pos c3, hu]
        · rw [if_neg c3, bG_pos (by omega), e78, if_neg (by omega), hu]
    · -- the class
      have f0 : ∀ q, q ≠ 13 → bset μ 13 6 0 q = μ q := fun q hq => bset_q hq
      obtain ⟨ν, a1, a2, a3⟩ := C_addRoot (T := T) (n := n) (m := m) (μ := bset μ 13 6 0) (tag := v) (by rw [f0 T (by omega)]; exact hn) (by rw [f0 T (by omega)]; exact hm) (by omega) (by omega)
      have E0 : F_X10_unit v μ = some (.inl (n : Int), ν) := by
        unfold F_X10_unit F_X3_forget
        rw [C_needCode, if_pos c, bXm_inl, e15, Int.toNat_natCast, hm, hn, if_neg (by omega), if_pos (by omega), bMm_some, f0 1 (by omega), e15, Int.toNat_natCast, a1, bMm_some]
      have E1 : F_L_unit v μ = some (0, bset ν 112 0 n, 0) := by unfold F_L_unit; rw [E0]; rfl
      have ok1 := kp_L_unit v hv hok E1
      obtain ⟨μ1, hμ1⟩ : ∃ μ1, μ1 = bset ν 112 0 n := ⟨_, rfl⟩
      rw [← hμ1] at E1 ok1
      have g1 : ∀ q, q ≠ 112 → q ≠ 13 → (q < T ∨ T + 10 < q) → μ1 q = μ q := fun q q1 q2 q3 => by rw [hμ1, bset_q q1, a3 q q3, f0 q q2]
      have gT : ∀ q, T ≤ q → q ≤ T + 10 → μ1 q = ν q := fun q q1 q2 => by rw [hμ1, bset_q (by omega)]
      -- the model
      obtain ⟨μ2, hμ2⟩ : ∃ μ2, μ2 = bset μ1 76 0 0 := ⟨_, rfl⟩
      have k76 : ∀ k, k ≠ 0 → μ2 76 k = μ 76 k := fun k k0 => by rw [hμ2, bset_k k0, g1 76 (by omega) (by omega) (by omega)]
      have g2 : ∀ q, q ≠ 112 → q ≠ 13 → q ≠ 76 → (q < T ∨ T + 10 < q) → μ2 q = μ q := fun q q1 q2 q3 q4 => by rw [hμ2, bset_q q3, g1 q q1 q2 q4]
      obtain ⟨ρ, b1, b2, b3, b4, b5, b6, b7⟩ := M_make (b := b) (n := n) (μ := μ2) (tag := v) (par := -1) (u := m) hb (by rw [k76 3 (by omega)]; exact e763) (by rw [g2 78 (by omega) (by omega) (by omega) (by omega)]; exact e78) (by omega)
      have r76 : ∀ k, ρ 76 k = μ2 76 k := fun k => by rw [b7 76 (by omega)]
      have r79 : ∀ k, ρ 79 k = μ 79 k := fun k => by rw [b7 79 (by omega), g2 79 (by omega) (by omega) (by omega) (by omega)]
      have r763 : ρ 76 3 = b := by rw [r76, k76 3 (by omega), e763]
      obtain ⟨σ, hσ⟩ : ∃ σ, σ = bset (bset ρ 80 (6 * b + m) n) 79 b ((m : Int) + 1) := ⟨_, rfl⟩
      have E2 : F_X11_unit v μ1 = some ((n : Int), σ) := by
        unfold F_X11_unit F_X11_unit_46
        rw [M_isName, b01_1 c, Option.bind_some, if_pos (by decide), ← hμ2]
        rw [g1 76 (by omega) (by omega) (by omega), g1 78 (by omega) (by omega) (by omega), g1 79 (by omega) (by omega) (by omega), g2 79 (by omega) (by omega) (by omega) (by omega), k76 3 (by omega)]
        simp (disch := first | omega | decide) only [bG_pos, bMm_some, bXm_inl, bXm_inr, Option.bind_some, bset_q, bset_k, bset_at, if_pos, if_neg, Int.toNat_natCast, e763, e79, e78]
        rw [show μ2 76 0 = 0 by rw [hμ2, bset_at], if_pos (by decide), b1]
        simp (disch := first | omega | decide) only [bG_pos, bMm_some, bXm_inl, bXm_inr, Option.bind_some, bset_q, bset_k, bset_at, if_pos, if_neg, Int.toNat_natCast, r763, r79, e79, t6]
        rw [hσ]
      have ok2 := kp_X11_unit v hv ok1 E2
      have s1 : ∀ q, q ≠ 112 → q ≠ 13 → q ≠ 76 → (q < T ∨ T + 10 < q) → (q < 78 ∨ 85 ≤ q) → σ q = μ q := fun q q1 q2 q3 q4 q5 => by rw [hσ, bset_q (by omega), bset_q (by omega), b7 q (by omega), g2 q q1 q2 q3 q4]
      have s76 : ∀ k, k ≠ 0 → σ 76 k = μ 76 k := fun k k0 => by rw [hσ, bset_q (by omega), bset_q (by omega), r76, k76 k k0]
      have sT : ∀ q, T ≤ q → q ≤ T + 10 → σ q = ν q := fun q q1 q2 => by rw [hσ, bset_q (by omega), bset_q (by omega), b7 q (by omega), hμ2, bset_q (by omega), gT q q1 q2]
      have s80 : ∀ q, 81 ≤ q → q ≤ 84 → σ q = ρ q := fun q q1 q2 => by rw [hσ, bset_q (by omega), bset_q (by omega)]
      have f0T : ∀ k, bset μ 13 6 0 (T + k) = μ (T + k) := fun k => f0 (T + k) (by omega)
      have o8 : ∀ q, 80 ≤ q → q ≤ 84 → μ2 q = μ q := fun q q1 q2 => g2 q (by omega) (by omega) (by omega) (by omega)
      have hadd : addE T b n m v (-1) m 0 μ σ := by
        obtain ⟨⟨x1, x2⟩, x3, x4, x5, x6, x7, x8, x9, x10, x11, x12⟩ := a2
        simp only [f0T] at x3 x4 x5 x6 x7 x8 x9 x10 x11 x12
        refine ⟨⟨by rw [sT T (by omega) (by omega)]; exact x1, by rw [sT T (by omega) (by omega)]; exact x2, ?_, ?_⟩, ?_, ?_, ?_, ?_, ?_, ?_, ?_, ?_, ?_, ?_, fun j hj => ?_, fun j hj => ?_, fun j hj => ?_, fun j hj => ?_, fun j hj => ?_⟩
        · rw [hσ, bset_q (by omega), bset_q (by omega), b2]
        · rw [hσ, bset_at]; rfl
        · rw [sT (T + 1) (by omega) (by omega)]; intro j; rw [x3 j]; simp
        · rw [sT (T + 2) (by omega) (by omega)]; exact x4
        · rw [sT (T + 3) (by omega) (by omega)]; exact x5
        · rw [sT (T + 4) (by omega) (by omega)]; exact x6
        · rw [sT (T + 5) (by omega) (by omega)]; exact x7
        · rw [sT (T + 6) (by omega) (by omega)]; exact x8
        · rw [sT (T + 7) (by omega) (by omega)]; exact x9
        · rw [sT (T + 8) (by omega) (by omega)]; exact x10
        · rw [sT (T + 9) (by omega) (by omega)]; exact x11
        · rw [sT (T + 10) (by omega) (by omega)]; exact x12
        · rw [hσ, bset_q (by omega), bset_row, b7 80 (by omega), o8 80 (by omega) (by omega)]
          by_cases x : j = m
          · rw [if_pos (by omega), if_pos ⟨rfl, x⟩]
          · rw [if_neg (by omega), if_neg (fun h => x h.2)]
        · rw [s80 81 (by omega) (by omega), b3 j, o8 81 (by omega) (by omega)]
        · rw [s80 82 (by omega) (by omega), b4 j, o8 82 (by omega) (by omega)]
        · rw [s80 83 (by omega) (by omega), b5 j, o8 83 (by omega) (by omega)]
        · rw [s80 84 (by omega) (by omega), b6 j, o8 84 (by omega) (by omega)]
      obtain ⟨tc, te, tr, tch, ta, tl, ty⟩ := hTr
      have hsk : iSkel T b σ := skel_add ⟨tc, te, tr, tch⟩ hn hm (by omega) m6 c (Or.inl ⟨rfl, rfl, rfl, by omega⟩) hadd
      refine ⟨0, n, μ1, σ, 0, E1, by omega, E2, ?_, fun _ => ?_, ok2, iTape_congr h1 (s76 2 (by omega)) ?_ (s1 3 (by omega) (by omega) (by omega) (by omega) (by omega)) (s1 77 (by omega) (by omega) (by omega) (by omega) (by omega)), iSec_congr h2 (fun q _ _ => s1 q (by omega) (by omega) (by omega) (by omega) (by omega)) (s1 93 (by omega) (by omega) (by omega) (by omega) (by omega)) (s1 94 (by omega) (by omega) (by omega) (by omega) (by omega)), iFault_congr h3 (s1 46 (by omega) (by omega) (by omega) (by omega) (by omega)) (s76 21 (by omega)) (s76 22 (by omega)), T, b, ?_, hsk.1, hsk.2.1, hsk.2.2.1, hsk.2.2.2, ?_, iLet_congr tl (s1 90 (by omega) (by omega) (by omega) (by omega) (by omega)) (s1 91 (by omega) (by omega) (by omega) (by omega) (by omega)) (s1 4 (by omega) (by omega) (by omega) (by omega) (by omega)), Or.inl ?_⟩
      · rw [hσ, bset_q (by omega), bset_q (by omega), r76, hμ2, bset_at]
      · rw [hσ, bset_q (by omega), bset_q (by omega), b7 112 (by omega), hμ2, bset_q (by omega), hμ1, bset_at]
      · rw [s1 2 (by omega) (by omega) (by omega) (by omega) (by omega)]
      · unfold iBank at hB ⊢
        rw [s1 1 (by omega) (by omega) (by omega) (by omega) (by omega), s1 30 (by omega) (by omega) (by omega) (by omega) (by omega), s76 3 (by omega)]
        exact hB
      · refine iAtt_add ta hn hadd.1.1 hadd.2.2.2.2.2.2.2.2.2.2.1 (fun e he => ?_) (fun q hq => s1 q (by omega) (by omega) (by omega) (by omega) (by omega))
        rw [hadd.2.2.2.2.1 e, if_neg (by omega)]
      · rw [hσ, bset_q (by omega), bset_q (by omega), b7 13 (by omega), hμ2, bset_q (by omega), hμ1, bset_q (by omega), a3 13 (by omega), bset_at]
  · refine St_thr2 h (k := 1) (r := 0) (by decide) (by decide) ?_ ?_
    · have E0 : F_X10_unit v μ = some (.inr "java/lang/IllegalArgumentException", μ) := by
        unfold F_X10_unit
        rw [C_needCode, if_neg c]
        rfl
      unfold F_L_unit
      rw [E0]
      rfl
    · unfold F_X11_unit F_X11_unit_46
      rw [M_isName, b01_0 c, Option.bind_some, if_neg (by decide), bset_at, if_neg (by decide)]
end DL
