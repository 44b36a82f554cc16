section EC
section
variable {T b n m : Nat} {μ ν : bM}
/-- the model's bank holds the tree that the class's rows tell -/
def mP (T b n m : Nat) (μ ν : bM) : Prop := (b = 0 ∨ b = 1) ∧ ν 76 3 = (b : Int) ∧ ν 78 b = (n : Int) ∧ ν 79 b = (m : Int) ∧ (∀ i : Nat, i < n → ν 82 (400 * b + i) = μ (T + 3) i) ∧ ∀ u : Nat, u < m → ν 80 (6 * b + u) = μ (T + 1) u
theorem mP_congr {ν' : bM} (h : mP T b n m μ ν) (h1 : ν' 76 3 = ν 76 3) (h2 : ∀ q, 78 ≤ q → q ≤ 82 → ν' q = ν q) : mP T b n m μ ν' := by
  unfold mP at h ⊢
  rw [h1, h2 78 (by omega) (by omega), h2 79 (by omega) (by omega), h2 80 (by omega) (by omega), h2 82 (by omega) (by omega)]
  exact h
theorem M_first (h : mP T b n m μ ν) (n4 : n ≤ 400) {e : Int} : F_X11_firstChild e ν = some (scan (μ (T + 3)) e 0 n) := by
  obtain ⟨hb, e3, e78, e79, e82, e80⟩ := h
  have L := loop_scan (F := fun z => F_X11_firstChild_2 e ν z) (f := μ (T + 3)) (w := e) (non := (-1 : Int)) (fnd := fun j => (j : Int)) n 0 ?_ ?_
  · have E : F_X11_firstChild e ν = bLoop (fun z => F_X11_firstChild_2 e ν z) ((0 : Nat) : Int) := rfl
    rw [E, L]
    congr 1
    rcases scan_spec (f := μ (T + 3)) (p := e) n 0 with ⟨x, _⟩ | ⟨c, c1, c2, c3, c4, c5⟩
    · rw [x, if_pos rfl]
    · rw [c4, if_neg (by omega), Int.toNat_natCast]
  · show F_X11_firstChild_2 e ν _ = _
    unfold F_X11_firstChild_2
    rw [e3, bG_pos (by omega), Int.toNat_natCast, e78, if_pos (by omega)]
  · intro j h1 h2
    show F_X11_firstChild_2 e ν j = _
    unfold F_X11_firstChild_2
    rw [e3, bG_pos (by omega), Int.toNat_natCast, e78, if_neg (by omega), M_at hb e3 (by omega), Option.bind_some, bG_pos (by omega), t400, e82 j (by omega)]
    by_cases c : μ (T + 3) j = e
    · rw [if_neg (fun x => x c), if_pos c]
    · rw [if_pos c, bG_pos (by constructor <;> omega), if_neg c]
theorem M_nextC (h : mP T b n m μ ν) (n4 : n ≤ 400) {e : Nat} (he : e < n) : F_X11_nextChild e ν = some (scan (μ (T + 3)) (μ (T + 3) e) (e + 1) (n - (e + 1))) := by
  obtain ⟨hb, e3, e78, e79, e82, e80⟩ := h
  have L := loop_scan (F := fun z => F_X11_nextChild_4 e ν z) (f := μ (T + 3)) (w := μ (T + 3) e) (non := (-1 : Int)) (fnd := fun j => (j : Int)) (n - (e + 1)) (e + 1) ?_ ?_
  · unfold F_X11_nextChild
    rw [bG_pos (by constructor <;> omega)]
    rw [Int.natCast_succ] at L
    rw [L]
    congr 1
    rcases scan_spec (f := μ (T + 3)) (p := μ (T + 3) e) (n - (e + 1)) (e + 1) with ⟨x, _⟩ | ⟨c, c1, c2, c3, c4, c5⟩
    · rw [x, if_pos rfl]
    · rw [c4, if_neg (by omega), Int.toNat_natCast]
  · show F_X11_nextChild_4 e ν _ = _
    unfold F_X11_nextChild_4
    rw [e3, bG_pos (by omega), Int.toNat_natCast, e78, if_pos (by omega)]
  · intro j h1 h2
    show F_X11_nextChild_4 e ν j = _
    unfold F_X11_nextChild_4
    rw [e3, bG_pos (by omega), Int.toNat_natCast, e78, if_neg (by omega), M_at hb e3 (by omega), Option.bind_some, bG_pos (by omega), t400, e82 j (by omega), M_at hb e3 (by omega), Option.bind_some, bG_pos (by omega), t400, e82 e he]
    by_cases c : μ (T + 3) j = μ (T + 3) e
    · rw [if_neg (fun x => x c), if_pos c]
    · rw [if_pos c, bG_pos (by constructor <;> omega), if_neg c]
theorem M_climb (h : cT T n m μ) {u : Int} {O : Nat} (hO : 1 ≤ O ∧ O ≤ 400) : ∀ c : Nat, c < n → ∀ ρ : bM, mP T b n m μ ρ → ρ 76 23 = (O : Int) → 0 ≤ ρ 96 (O - 1) → ρ 96 (O - 1) ≤ 1000 - (aftE (μ (T + 3)) n c).2 →
    bLoop (fun z : Int × Int × bM => F_X11_goThrough_76 u z.1 z.2.1 z.2.2) ((c : Int), -1, ρ) = some (.inl ((aftE (μ (T + 3)) n c).1, bset ρ 96 (O - 1) (ρ 96 (O - 1) + (aftE (μ (T + 3)) n c).2))) := by
  have n4 := h.2.1.2
  intro c
  induction c using Nat.strongRecOn with
  | _ c ih =>
    intro hc ρ hρ hO2 h0 h1
    obtain ⟨-, q2, -, -, q5, q6, q7⟩ := h.2.2.2.1 c hc
    obtain ⟨hb, e3, e78, e79, e82, e80⟩ := id hρ
    have ac := aft_cnt h c hc
    rw [aftE_eq (cT_par h) hc] at h1 ac ⊢
    have t1 : ((O : Int) - 1).toNat = O - 1 := by omega
    by_cases cp : μ (T + 3) c = -1
    · rw [if_pos cp]
      refine bLoop_done ?_
      show F_X11_goThrough_76 u c (-1) ρ = _
      unfold F_X11_goThrough_76
      rw [if_neg (by decide), if_neg (by omega), M_at hb e3 (by omega), Option.bind_some, bG_pos (by omega), t400, e82 c hc, if_pos cp, bset_id (by simp)]
    · rw [if_neg cp] at h1 ac ⊢
      have hd := (q7 (by omega)).1
      by_cases cs : scan (μ (T + 3)) (μ (T + 3) c) (c + 1) (n - (c + 1)) = -1
      · rw [if_pos cs] at h1 ac ⊢
        simp only at h1 ac ⊢
        have hρ' : mP T b n m μ (bset ρ 96 (O - 1) (ρ 96 (O - 1) + 1)) := mP_congr hρ (by rw [bset_q (by omega)]) (fun q q1 q2 => bset_q (by omega))
        have st : F_X11_goThrough_76 u c (-1) ρ = some (.inl (μ (T + 3) c, -1, bset ρ 96 (O - 1) (ρ 96 (O - 1) + 1))) := by
          unfold F_X11_goThrough_76
          rw [if_neg (by decide), if_neg (by omega), M_at hb e3 (by omega), Option.bind_some, bG_pos (by omega), t400, e82 c hc, if_neg cp, M_nextC hρ n4 hc, cs, Option.bind_some, if_neg (by decide), hO2, bG_pos (by constructor <;> omega), bG_pos (by omega), t1, bG_pos (by constructor <;> omega), bG_pos (by omega), M_at hb hρ'.2.1 (by omega), Option.bind_some, bG_pos (by omega), t400, bset_q (by omega), e82 c hc]
        rw [bLoop_step (f := fun z : Int × Int × bM => F_X11_goThrough_76 u z.1 z.2.1 z.2.2) st]
        have hq : ((μ (T + 3) c).toNat : Int) = μ (T + 3) c := by omega
        have := ih (μ (T + 3) c).toNat (by omega) (by omega) (bset ρ 96 (O - 1) (ρ 96 (O - 1) + 1)) hρ' (by rw [bset_q (by omega)]; exact hO2) (by rw [bset_at]; omega) (by rw [bset_at]; omega)
        rw [hq, bset_at, bset_bset] at this
        rw [this]
        congr 4
        omega
      · rw [if_neg cs]
        have st : F_X11_goThrough_76 u c (-1) ρ = some (.inl (c, scan (μ (T + 3)) (μ (T + 3) c) (c + 1) (n - (c + 1)), ρ)) := by
          unfold F_X11_goThrough_76
          rw [if_neg (by decide), if_neg (by omega), M_at hb e3 (by omega), Option.bind_some, bG_pos (by omega), t400, e82 c hc, if_neg cp, M_nextC hρ n4 hc, Option.bind_some, if_pos cs]
        rw [bLoop_step (f := fun z : Int × Int × bM => F_X11_goThrough_76 u z.1 z.2.1 z.2.2) st]
        refine bLoop_done ?_
        show F_X11_goThrough_76 u c (scan (μ (T + 3)) (μ (T + 3) c) (c + 1) (n - (c + 1))) ρ = _
        unfold F_X11_goThrough_76
        rw [if_pos cs, bset_id (by simp)]
def rowM (par : Nat → Int) (n : Nat) (ν : bM) : Prop := ∀ k : Nat, (k : Int) < ν 76 23 → (0 ≤ ν 95 k ∧ ν 95 k < n) ∧ posE par n (ν 95 k).toNat = k ∧ ν 96 k = (nexE par n (ν 95 k).toNat).2
def frM (ν ρ : bM) : Prop := (∀ q, q ≠ 76 → q ≠ 95 → q ≠ 96 → ρ q = ν q) ∧ ∀ k, k ≠ 23 → ρ 76 k = ν 76 k
theorem frM_mP {ρ : bM} (h : mP T b n m μ ν) (hf : frM ν ρ) : mP T b n m μ ρ := mP_congr h (hf.2 3 (by omega)) (fun q q1 q2 => hf.1 q (by omega) (by omega) (by omega))
theorem M_unit (h : cT T n m μ) (hM : mP T b n m μ ν) {u : Nat} (hu : u < m) {ρ0 : bM} (hf : frM ν ρ0) (hr : rowM (μ (T + 3)) n ρ0) (h5 : ρ0 76 23 = posE (μ (T + 3)) n (rootE T μ u)) :
    ∃ ρ', bLoop (fun z : Int × bM => F_X11_goThrough_35 u z.1 z.2) (μ (T + 1) u, ρ0) = some (.inl ((u : Int) + 1, ρ')) ∧ frM ν ρ' ∧ rowM (μ (T + 3)) n ρ' ∧ ρ' 76 23 = startP T n m μ (u + 1) := by
  have n4 := h.2.1.2
  have m6 := h.2.2.1.2
  have hp := cT_par h
  obtain ⟨r1, r2, r3, -⟩ := root_is h hu
  rw [start_succ h hu]
  have rr : rtE (μ (T + 3)) (rootE T μ u) = rootE T μ u := by rw [rtE_eq hp r1, if_pos r2]
  have rg := pos_rg hp _ r1
  have H := bLoop_inv (f := fun z : Int × bM => F_X11_goThrough_35 u z.1 z.2)
    (fun z => frM ν z.2 ∧ rowM (μ (T + 3)) n z.2 ∧ ((∃ c : Nat, c < n ∧ z.1 = c ∧ rtE (μ (T + 3)) c = rootE T μ u ∧ z.2 76 23 = posE (μ (T + 3)) n c) ∨ z.1 = -1 ∧ z.2 76 23 = posE (μ (T + 3)) n (rootE T μ u) + szT (μ (T + 3)) n 0 (rootE T μ u)))
    (fun z => ((n : Int) + 1 - z.2 76 23).toNat)
    (fun r => ∃ ρ', r = .inl ((u : Int) + 1, ρ') ∧ frM ν ρ' ∧ rowM (μ (T + 3)) n ρ' ∧ ρ' 76 23 = posE (μ (T + 3)) n (rootE T μ u) + szT (μ (T + 3)) n 0 (rootE T μ u)) ?_ (μ (T + 1) u, ρ0) ⟨hf, hr, Or.inl ⟨rootE T μ u, r1, r3, rr, h5⟩⟩
  · obtain ⟨r, x1, ρ', x2, x3⟩ := H
    exact ⟨ρ', by rw [x1, x2], x3⟩
  · rintro ⟨z1, ρ⟩ ⟨g1, g2, g4⟩
    simp only at g1 g2 g4
    show (∃ s', F_X11_goThrough_35 u z1 ρ = some (Sum.inl s') ∧ _) ∨ ∃ r, F_X11_goThrough_35 u z1 ρ = some (Sum.inr r) ∧ _
    unfold F_X11_goThrough_35
    rcases g4 with ⟨c, c1, c2, c3, c4⟩ | ⟨c1, c2⟩
    · left
      subst c2
      have rg2 := pos_rg hp _ c1
      have sp := sz_pos hp c1
      obtain ⟨P, hP⟩ : ∃ P : Nat, posE (μ (T + 3)) n c = P := ⟨(posE (μ (T + 3)) n c).toNat, by omega⟩
      have e23 : ρ 76 23 = P := by rw [c4, hP]
      obtain ⟨ρ1, hρ1⟩ : ∃ ρ1, ρ1 = bset (bset (bset ρ 95 P c) 96 P 0) 76 23 ((P : Int) + 1) := ⟨_, rfl⟩
      rw [if_neg (by omega), e23, bG_pos (by omega), Int.toNat_natCast, show bset ρ 95 P c 76 23 = P by rw [bset_q (by omega), e23], bG_pos (by omega), Int.toNat_natCast, show bset (bset ρ 95 P c) 96 P 0 76 23 = P by rw [bset_q (by omega), bset_q (by omega), e23], bG_pos (by constructor <;> omega), ← hρ1]
      have f1 : frM ν ρ1 := ⟨fun q q1 q2 q3 => by rw [hρ1, bset_q q1, bset_q q3, bset_q q2, g1.1 q q1 q2 q3], fun k hk => by rw [hρ1, bset_k hk, bset_q (by omega), bset_q (by omega), g1.2 k hk]⟩
      have hM1 := frM_mP hM f1
      have e96 : ρ1 96 P = 0 := by rw [hρ1, bset_q (by omega), bset_at]
      have fin : ∀ (w x : Int), (w, x) = nexE (μ (T + 3)) n c → ∀ ρ2, ρ2 = bset ρ1 96 P x → frM ν ρ2 ∧ rowM (μ (T + 3)) n ρ2 ∧ ρ2 76 23 = (P : Int) + 1 := by
        intro w x hwx ρ2 hρ2
        have e2 : ρ2 76 23 = (P : Int) + 1 := by rw [hρ2, bset_q (by omega), hρ1, bset_at]
        refine ⟨⟨fun q q1 q2 q3 => by rw [hρ2, bset_q q3, f1.1 q q1 q2 q3], fun k hk => by rw [hρ2, bset_q (by omega), f1.2 k hk]⟩, fun k hk => ?_, e2⟩
        rw [e2] at hk
        have r95 : ρ2 95 k = if k = P then (c : Int) else ρ 95 k := by rw [hρ2, bset_q (by omega), hρ1, bset_q (by omega), bset_q (by omega), bset_row]
        have r96 : ρ2 96 k = if k = P then x else ρ 96 k := by
          rw [hρ2, bset_row]
          by_cases y : k = P
          · rw [if_pos y, if_pos y]
          · rw [if_neg y, if_neg y, hρ1, bset_q (by omega), bset_k y, bset_q (by omega)]
        rw [r95, r96]
        by_cases y : k = P
        · rw [if_pos y, if_pos y, Int.toNat_natCast, ← hwx, hP]
          exact ⟨by omega, by omega, rfl⟩
        · rw [if_neg y, if_neg y]
          exact g2 k (by omega)
      have hnx := pos_nexE hp c1
      rw [M_first hM1 n4, Option.bind_some]
      by_cases lf : scan (μ (T + 3)) c 0 n = -1
      · have hnex : nexE (μ (T + 3)) n c = aftE (μ (T + 3)) n c := by unfold nexE; rw [if_pos lf]
        have ac := aft_cnt h c c1
        have d30 := (h.2.2.2.1 c c1).2.2.2.2.1
        have CL := M_climb (b := b) (u := (u : Int)) (O := P + 1) h (by omega) c c1 ρ1 hM1 (by rw [hρ1, bset_at]; omega) (by rw [Nat.add_sub_cancel]; omega) (by rw [Nat.add_sub_cancel]; omega)
        rw [Nat.add_sub_cancel, e96, Int.zero_add] at CL
        rw [lf, CL]
        obtain ⟨y1, y2, y4⟩ := fin (aftE (μ (T + 3)) n c).1 (aftE (μ (T + 3)) n c).2 (by rw [hnex]) _ rfl
        refine ⟨_, rfl, ⟨y1, y2, ?_⟩, ?_⟩
        · simp only
          rw [y4]
          rw [hnex] at hnx
          rcases hnx with ⟨d, d1, d2, d3, d4⟩ | ⟨d1, d2⟩
          · left
            exact ⟨d, d2, d1, by rw [d4, c3], by omega⟩
          · right
            rw [c3] at d2
            exact ⟨d1, by omega⟩
        · simp only
          rw [y4, e23]
          omega
      · have hnex : nexE (μ (T + 3)) n c = (scan (μ (T + 3)) c 0 n, 0) := by unfold nexE; rw [if_neg lf]
        have st : bLoop (fun z : Int × Int × bM => F_X11_goThrough_76 u z.1 z.2.1 z.2.2) ((c : Int), scan (μ (T + 3)) c 0 n, ρ1) = some (.inl (scan (μ (T + 3)) c 0 n, ρ1)) := by
          refine bLoop_done ?_
          show F_X11_goThrough_76 u c (scan (μ (T + 3)) c 0 n) ρ1 = _
          unfold F_X11_goThrough_76
          rw [if_pos lf]
        rw [st]
        obtain ⟨y1, y2, y4⟩ := fin (scan (μ (T + 3)) c 0 n) 0 (by rw [hnex]) ρ1 (bset_id e96).symm
        refine ⟨_, rfl, ⟨y1, y2, ?_⟩, ?_⟩
        · simp only
          rw [y4]
          rw [hnex] at hnx
          rcases hnx with ⟨d, d1, d2, d3, d4⟩ | ⟨d1, d2⟩
          · left
            exact ⟨d, d2, d1, by rw [d4, c3], by omega⟩
          · exact absurd d1 lf
        · simp only
          rw [y4, e23]
          omega
    · right
      subst c1
      refine ⟨_, ?_, ρ, rfl, g1, g2, c2⟩
      rw [if_pos rfl, bG_pos (by constructor <;> omega)]
theorem M_order (h : cT T n m μ) (hM : mP T b n m μ ν) : ∃ ρ, F_X11_goThrough ν = some (0, ρ) ∧ frM ν ρ ∧ rowM (μ (T + 3)) n ρ ∧ ρ 76 23 = n := by
  have n4 := h.2.1.2
  have m6 := h.2.2.1.2
  have H := bLoop_inv (f := fun z : Int × bM => F_X11_goThrough_7 z.1 z.2)
    (fun z => ∃ u : Nat, u ≤ m ∧ z.1 = u ∧ frM ν z.2 ∧ rowM (μ (T + 3)) n z.2 ∧ z.2 76 23 = startP T n m μ u) (fun z => m - z.1.toNat)
    (fun r => ∃ ρ, r = (0, ρ) ∧ frM ν ρ ∧ rowM (μ (T + 3)) n ρ ∧ ρ 76 23 = n) ?_ (0, bset ν 76 23 0) ⟨0, by omega, rfl, ⟨fun q q1 _ _ => bset_q q1, fun k hk => bset_k hk⟩, fun k hk => by (simp only at hk; rw [bset_at] at hk; omega), by (simp only; rw [bset_at, start_0 h])⟩
  · obtain ⟨r, x1, ρ, x2, x3⟩ := H
    refine ⟨ρ, ?_, x3⟩
    unfold F_X11_goThrough
    rw [x1, x2]
  · rintro ⟨z1, ρ⟩ ⟨u, hu, g1, g2, g3, g4⟩
    simp only at g1 g2 g3 g4
    subst g1
    show (∃ s', F_X11_goThrough_7 u ρ = some (Sum.inl s') ∧ _) ∨ ∃ r, F_X11_goThrough_7 u ρ = some (Sum.inr r) ∧ _
    obtain ⟨hb, e3, e78, e79, e82, e80⟩ := frM_mP hM g2
    unfold F_X11_goThrough_7
    rw [e3, bG_pos (by omega), Int.toNat_natCast, e79]
    by_cases c : u < m
    · left
      rw [if_neg (by omega), bG_pos (by constructor <;> omega), bG_pos (by constructor <;> omega), bG_pos (by omega), t6, e80 u c]
      have sU : startP T n m μ u = posE (μ (T + 3)) n (rootE T μ u) := by unfold startP; rw [if_pos c]
      obtain ⟨ρ', y1, y2, y3, y4⟩ := M_unit h hM c g2 g3 (by rw [g4, sU])
      rw [y1]
      exact ⟨_, rfl, ⟨u + 1, by omega, by simp, y2, y3, y4⟩, by simp only; omega⟩
    · right
      have : u = m := by omega
      subst this
      rw [if_pos (by omega)]
      have sU : startP T n u μ u = n := by unfold startP; rw [if_neg (by omega)]
      exact ⟨_, rfl, _, rfl, g2, g3, by rw [g4, sU]⟩
/-- the order itself: told by the places -/
def ordOk (par : Nat → Int) (n : Nat) (ord : Nat → Nat) : Prop := (∀ k, k < n → ord k < n ∧ posE par n (ord k) = k) ∧ (∀ e, e < n → ∃ k, k < n ∧ ord k = e ∧ posE par n e = k)
theorem ord_of {par : Nat → Int} {r : Nat → Int} (h : ∀ k : Nat, k < n → (0 ≤ r k ∧ r k < n) ∧ posE par n (r k).toNat = k) : ordOk par n (fun k => (r k).toNat) := by
  refine ⟨fun k hk => ⟨by (have := (h k hk).1; show (r k).toNat < n; omega), (h k hk).2⟩, fun e he => ?_⟩
  obtain ⟨k, k1, k2⟩ := pigeon n (fun k => (r k).toNat) (fun k hk => by have := (h k hk).1; omega) (fun j k hj hk hjk => by
    have h1 := (h j hj).2
    have h2 := (h k hk).2
    rw [hjk] at h1
    omega) e he
  exact ⟨k, k1, k2, by rw [← k2]; exact (h k k1).2⟩
theorem ord_uni {par : Nat → Int} {o o' : Nat → Nat} (h : ordOk par n o) (h' : ordOk par n o') {k : Nat} (hk : k < n) : o k = o' k := by
  obtain ⟨j, j1, j2, j3⟩ := h.2 (o' k) (h'.1 k hk).1
  have := (h'.1 k hk).2
  have : j = k := by omega
  rw [← this, j2, this]
theorem ord_inj {par : Nat → Int} {o : Nat → Nat} (h : ordOk par n o) {j k : Nat} (hj : j < n) (hk : k < n) (e : o j = o k) : j = k := by
  have h1 := (h.1 j hj).2
  have h2 := (h.1 k hk).2
  rw [e] at h1
  omega
end
end EC
