section EB
/-! the class's part of the invariant, alone -/
def cAt (T n : Nat) (μ : bM) (e j : Nat) : Prop := (1 ≤ μ (T + 11) j ∧ μ (T + 11) j ≤ 16383) ∧
  ((isLet (μ (T + 12) j) ∧ (0 ≤ μ (T + 14) j ∧ μ (T + 14) j ≤ 255) ∧ (0 ≤ μ (T + 13) j ∧ μ (T + 13) j + μ (T + 14) j ≤ μ 4 1)) ∨
    ((isNum (μ (T + 12) j) ∨ isRef (μ (T + 12) j)) ∧ μ (T + 14) j = 0 ∧ (μ (T + 12) j = 15 → 0 ≤ μ (T + 13) j) ∧ (isRef (μ (T + 12) j) → (0 ≤ μ (T + 13) j ∧ μ (T + 13) j < n) ∧ μ (T + 4) (μ (T + 13) j).toNat = μ (T + 4) e)))
def cT (T n m : Nat) (μ : bM) : Prop := (T = 31 ∨ T = 61) ∧ (μ T 1 = (n : Int) ∧ n ≤ 400) ∧ (μ T 0 = (m : Int) ∧ m ≤ 6) ∧
  (∀ e : Nat, e < n → (1 ≤ μ (T + 2) e ∧ μ (T + 2) e ≤ 16383) ∧ (-1 ≤ μ (T + 3) e ∧ μ (T + 3) e < e) ∧ (0 ≤ μ (T + 4) e ∧ μ (T + 4) e < m) ∧ (0 ≤ μ (T + 10) e ∧ μ (T + 10) e ≤ 8) ∧ (0 ≤ μ (T + 5) e ∧ μ (T + 5) e ≤ 30) ∧
    (μ (T + 3) e = -1 → μ (T + 5) e = 0 ∧ μ (T + 1) (μ (T + 4) e).toNat = e) ∧ (0 ≤ μ (T + 3) e → μ (T + 5) e = μ (T + 5) (μ (T + 3) e).toNat + 1 ∧ μ (T + 4) e = μ (T + 4) (μ (T + 3) e).toNat)) ∧
  (∀ u : Nat, u < m → (0 ≤ μ (T + 1) u ∧ μ (T + 1) u < n) ∧ μ (T + 3) (μ (T + 1) u).toNat = -1 ∧ μ (T + 4) (μ (T + 1) u).toNat = u ∧ ∀ v : Nat, v < u → μ (T + 1) v < μ (T + 1) u) ∧
  (∀ e : Nat, e < n → μ (T + 6) e = cntC (μ (T + 3)) e n ∧ μ (T + 7) e = scan (μ (T + 3)) e 0 n ∧ (0 ≤ μ (T + 3) e → μ (T + 9) e = scan (μ (T + 3)) (μ (T + 3) e) (e + 1) (n - (e + 1))) ∧ (μ (T + 3) e = -1 → μ (T + 9) e = -1)) ∧
  (∀ e : Nat, e < n → ∀ k : Nat, (k : Int) < μ (T + 10) e → cAt T n μ e (8 * e + k)) ∧ (0 ≤ μ 4 1 ∧ μ 4 1 ≤ 30000)
section
variable {T b n m : Nat} {μ μ' : bM}
theorem cT_of (hN : iNum T b n m μ) (hTr : iTree T b μ) : cT T n m μ := by
  obtain ⟨hT, hb, e15, e763, hn, hm, n4, m6, e78, e79⟩ := hN
  obtain ⟨tc, te, tr, tch, ta, tl, ty⟩ := hTr
  have hnn : (μ T 1).toNat = n := by omega
  refine ⟨hT, ⟨hn, n4⟩, ⟨hm, m6⟩, fun e he => ?_, fun u hu => ?_, fun e he => ?_, fun e he k hk => ?_, tl.2.1⟩
  · obtain ⟨-, p5, p6, p7, p8, p9, p10, p11⟩ := te e (by omega)
    exact ⟨p5, p6, by omega, p8, p9, p10, p11⟩
  · obtain ⟨-, p2, p3, p4, p5⟩ := tr u (by omega)
    exact ⟨by omega, p3, p4, p5⟩
  · obtain ⟨p1, p2, p3, p4, p5⟩ := tch e (by omega)
    rw [hnn] at p1 p2 p4
    exact ⟨p1, p2, p4, p5⟩
  · obtain ⟨⟨p1, p2, p3⟩, -⟩ := ta e (by omega) k hk
    refine ⟨p2, ?_⟩
    rcases p3 with ⟨x1, x2, x3, -⟩ | ⟨x1, x2, x3, x4, x5⟩
    · exact Or.inl ⟨x1, x2, x3⟩
    · exact Or.inr ⟨x1, x2, x4, fun hr => ⟨by have := (x5 hr).1; omega, (x5 hr).2⟩⟩
theorem cT_congr (h : cT T n m μ) (hq : ∀ q, (T ≤ q ∧ q ≤ T + 14 ∨ q = 4) → μ' q = μ q) : cT T n m μ' := by
  have r : ∀ k, k ≤ 14 → μ' (T + k) = μ (T + k) := fun k hk => hq (T + k) (by omega)
  have r0 : μ' T = μ T := r 0 (by omega)
  unfold cT cAt at h ⊢
  rw [r0, r 1 (by omega), r 2 (by omega), r 3 (by omega), r 4 (by omega), r 5 (by omega), r 6 (by omega), r 7 (by omega), r 9 (by omega), r 10 (by omega), r 11 (by omega), r 12 (by omega), r 13 (by omega), r 14 (by omega), hq 4 (by omega)]
  exact h
theorem cT_par (h : cT T n m μ) : parOk (μ (T + 3)) n := fun e he => (h.2.2.2.1 e he).2.1
/-- the roots in their order -/
def rootE (T : Nat) (μ : bM) (u : Nat) : Nat := (μ (T + 1) u).toNat
def startP (T n m : Nat) (μ : bM) (u : Nat) : Int := if u < m then posE (μ (T + 3)) n (rootE T μ u) else n
theorem root_all (h : cT T n m μ) {e : Nat} (he : e < n) (hp : μ (T + 3) e = -1) : ∃ u, u < m ∧ rootE T μ u = e := by
  have h1 := h.2.2.2.1 e he
  refine ⟨(μ (T + 4) e).toNat, by omega, ?_⟩
  unfold rootE
  rw [(h1.2.2.2.2.2.1 hp).2, Int.toNat_natCast]
theorem root_mono (h : cT T n m μ) {u v : Nat} (hu : u < m) (hv : v < u) : rootE T μ v < rootE T μ u := by
  have h1 := h.2.2.2.2.1 u hu
  have h2 := h.2.2.2.2.1 v (by omega)
  have := h1.2.2.2 v hv
  unfold rootE
  omega
theorem root_is (h : cT T n m μ) {u : Nat} (hu : u < m) : rootE T μ u < n ∧ μ (T + 3) (rootE T μ u) = -1 ∧ μ (T + 1) u = rootE T μ u ∧ μ (T + 4) (rootE T μ u) = u := by
  have h1 := h.2.2.2.2.1 u hu
  unfold rootE
  exact ⟨by omega, h1.2.1, by omega, h1.2.2.1⟩
theorem start_0 (h : cT T n m μ) : startP T n m μ 0 = 0 := by
  unfold startP
  by_cases c : 0 < m
  · rw [if_pos c]
    obtain ⟨r1, r2, r3, -⟩ := root_is h c
    rw [posE_eq (cT_par h) r1, r2, if_pos rfl, szT_flat' (a := 0) (c := rootE T μ 0) (by omega) (by omega) (fun i _ hi hpi => ?_)]
    · omega
    · obtain ⟨v, v1, v2⟩ := root_all h (by omega) hpi
      by_cases x : v = 0
      · rw [x] at v2; omega
      · have := root_mono h v1 (show 0 < v by omega); omega
  · rw [if_neg c]
    by_cases x : n = 0
    · omega
    · have := (h.2.2.2.1 0 (by omega)).2.2.1
      omega
theorem start_succ (h : cT T n m μ) {u : Nat} (hu : u < m) : startP T n m μ (u + 1) = posE (μ (T + 3)) n (rootE T μ u) + szT (μ (T + 3)) n 0 (rootE T μ u) := by
  obtain ⟨r1, r2, r3, -⟩ := root_is h hu
  unfold startP
  by_cases c : u + 1 < m
  · rw [if_pos c]
    obtain ⟨s1, s2, s3, -⟩ := root_is h c
    have hm := root_mono h c (show u < u + 1 by omega)
    have hs : scan (μ (T + 3)) (μ (T + 3) (rootE T μ u)) (rootE T μ u + 1) (n - (rootE T μ u + 1)) = rootE T μ (u + 1) := by
      refine scan_is (by omega) (by omega) (by rw [s2, r2]) (fun k k1 k2 hk => ?_)
      rw [r2] at hk
      obtain ⟨v, v1, v2⟩ := root_all h (by omega) hk
      by_cases x : v ≤ u
      · by_cases y : v = u
        · rw [y] at v2; omega
        · have := root_mono h hu (show v < u by omega); omega
      · by_cases y : v = u + 1
        · rw [y] at v2; omega
        · have := root_mono h v1 (show u + 1 < v by omega); omega
    exact (pos_next (cT_par h) r1 hs).2.2
  · rw [if_neg c]
    have hs : scan (μ (T + 3)) (μ (T + 3) (rootE T μ u)) (rootE T μ u + 1) (n - (rootE T μ u + 1)) = -1 := by
      refine scan_no (fun k k1 k2 hk => ?_)
      rw [r2] at hk
      obtain ⟨v, v1, v2⟩ := root_all h (by omega) hk
      by_cases y : v = u
      · rw [y] at v2; omega
      · have := root_mono h hu (show v < u by omega); omega
    have := pos_last (cT_par h) r1 hs
    rw [r2, if_pos rfl, sz_all (cT_par h)] at this
    omega
/-- the count of the lists that end is no more than the depth -/
theorem aft_cnt (h : cT T n m μ) : ∀ e : Nat, e < n → 0 ≤ (aftE (μ (T + 3)) n e).2 ∧ (aftE (μ (T + 3)) n e).2 ≤ μ (T + 5) e := by
  intro e
  induction e using Nat.strongRecOn with
  | _ e ih =>
    intro he
    obtain ⟨-, q2, -, -, q5, q6, q7⟩ := h.2.2.2.1 e he
    rw [aftE_eq (cT_par h) he]
    by_cases c : μ (T + 3) e = -1
    · rw [if_pos c]; exact ⟨Int.le_refl 0, q5.1⟩
    · rw [if_neg c]
      by_cases d : scan (μ (T + 3)) (μ (T + 3) e) (e + 1) (n - (e + 1)) = -1
      · rw [if_pos d]
        have := ih (μ (T + 3) e).toNat (by omega) (by omega)
        have := (q7 (by omega)).1
        simp only
        omega
      · rw [if_neg d]; exact ⟨Int.le_refl 0, q5.1⟩
theorem nex_cnt (h : cT T n m μ) {e : Nat} (he : e < n) : 0 ≤ (nexE (μ (T + 3)) n e).2 ∧ (nexE (μ (T + 3)) n e).2 ≤ 30 := by
  unfold nexE
  split
  · have := aft_cnt h e he
    have := (h.2.2.2.1 e he).2.2.2.2.1
    omega
  · exact ⟨Int.le_refl 0, by show (0 : Int) ≤ 30; decide⟩
theorem bset_bset {q k : Nat} {x y : Int} : bset (bset μ q k x) q k y = bset μ q k y := by
  funext q' k'
  unfold bset
  by_cases c : q' = q ∧ k' = k
  · rw [if_pos c, if_pos c]
  · rw [if_neg c, if_neg c, if_neg c]
theorem C_climb (h : cT T n m μ) {leaf : Nat} (hl : leaf < n) : ∀ c : Nat, c < n → ∀ ν : bM, (∀ q, T ≤ q → q ≤ T + 14 → ν q = μ q) → 0 ≤ ν 17 leaf → ν 17 leaf ≤ 1000 - (aftE (μ (T + 3)) n c).2 →
    bLoop (fun z : Int × Int × bM => F_X3_climb_10 T leaf z.1 z.2.1 z.2.2) ((c : Int), μ (T + 5) c, ν) = some ((aftE (μ (T + 3)) n c).1, bset ν 17 leaf (ν 17 leaf + (aftE (μ (T + 3)) n c).2)) := by
  have hT := h.1
  have n4 := h.2.1.2
  intro c
  induction c using Nat.strongRecOn with
  | _ c ih =>
    intro hc ν hν h0 h1
    obtain ⟨-, q2, -, -, q5, q6, q7⟩ := h.2.2.2.1 c hc
    have r9 := (h.2.2.2.2.2.1 c hc).2.2
    have ac := aft_cnt h c hc
    rw [aftE_eq (cT_par h) hc] at h1 ac ⊢
    by_cases cp : μ (T + 3) c = -1
    · rw [if_pos cp]
      refine bLoop_done ?_
      show F_X3_climb_10 T leaf c (μ (T + 5) c) ν = _
      unfold F_X3_climb_10
      rw [if_pos (by have := (q6 cp).1; omega), bset_id (by simp)]
    · rw [if_neg cp] at h1 ac ⊢
      have hd := (q7 (by omega)).1
      have hpd := (h.2.2.2.1 (μ (T + 3) c).toNat (by omega)).2.2.2.2.1
      by_cases cs : scan (μ (T + 3)) (μ (T + 3) c) (c + 1) (n - (c + 1)) = -1
      · rw [if_pos cs] at h1 ac ⊢
        simp only at h1 ac ⊢
        have st : F_X3_climb_10 T leaf c (μ (T + 5) c) ν = some (.inl (μ (T + 3) c, μ (T + 5) c + (-1), bset ν 17 leaf (ν 17 leaf + 1))) := by
          unfold F_X3_climb_10
          rw [if_neg (by omega), bG_pos (by omega), Int.toNat_natCast, hν (T + 9) (by omega) (by omega), r9.1 (by omega), if_pos cs, bG_pos (by omega), bG_pos (by omega), Int.toNat_natCast, bG_pos (by constructor <;> omega), bG_pos (by omega), bG_pos (by constructor <;> omega), hν (T + 3) (by omega) (by omega)]
        rw [bLoop_step (f := fun z : Int × Int × bM => F_X3_climb_10 T leaf z.1 z.2.1 z.2.2) st]
        have hq : ((μ (T + 3) c).toNat : Int) = μ (T + 3) c := by omega
        have := ih (μ (T + 3) c).toNat (by omega) (by omega) (bset ν 17 leaf (ν 17 leaf + 1)) (fun q q1 q2 => by rw [bset_q (by omega), hν q q1 q2]) (by rw [bset_at]; omega) (by rw [bset_at]; omega)
        rw [hq, bset_at, bset_bset] at this
        rw [show μ (T + 5) c + (-1) = μ (T + 5) (μ (T + 3) c).toNat by omega, this]
        congr 3
        omega
      · rw [if_neg cs]
        refine bLoop_done ?_
        show F_X3_climb_10 T leaf c (μ (T + 5) c) ν = _
        unfold F_X3_climb_10
        rw [if_neg (by omega), bG_pos (by omega), Int.toNat_natCast, hν (T + 9) (by omega) (by omega), r9.1 (by omega), if_neg cs, bG_pos (by omega), bset_id (by simp)]
/-- what the class's rows hold of the order -/
def rowO (par : Nat → Int) (n : Nat) (ν : bM) : Prop := ∀ k : Nat, (k : Int) < ν 13 5 → (0 ≤ ν 14 k ∧ ν 14 k < n) ∧ posE par n (ν 14 k).toNat = k ∧ ν 17 (ν 14 k).toNat = (nexE par n (ν 14 k).toNat).2
def frO (μ ν : bM) : Prop := (∀ q, q ≠ 13 → q ≠ 14 → q ≠ 15 → q ≠ 17 → ν q = μ q) ∧ ∀ k, k ≠ 5 → ν 13 k = μ 13 k
/-- one unit -/
theorem C_unit (h : cT T n m μ) {u : Nat} (hu : u < m) {ν : bM} (hf : frO μ ν) (hr : rowO (μ (T + 3)) n ν) (h5 : ν 13 5 = posE (μ (T + 3)) n (rootE T μ u)) :
    ∃ ν', bLoop (fun z : Int × Int × bM => F_X3_orderEntries_35 T u z.1 z.2.1 z.2.2) (μ (T + 1) u, 0, ν) = some (.inl ((u : Int) + 1, ν')) ∧ frO μ ν' ∧ rowO (μ (T + 3)) n ν' ∧ ν' 13 5 = startP T n m μ (u + 1) ∧ ν' 15 = ν 15 := by
  have hT := h.1
  have n4 := h.2.1.2
  have m6 := h.2.2.1.2
  have hp := cT_par h
  obtain ⟨r1, r2, r3, -⟩ := root_is h hu
  rw [start_succ h hu]
  have rr : rtE (μ (T + 3)) (rootE T μ u) = rootE T μ u := by rw [rtE_eq hp r1, if_pos r2]
  have rg := pos_rg hp _ r1
  have H := bLoop_inv (f := fun z : Int × Int × bM => F_X3_orderEntries_35 T u z.1 z.2.1 z.2.2)
    (fun z => frO μ z.2.2 ∧ rowO (μ (T + 3)) n z.2.2 ∧ z.2.2 15 = ν 15 ∧ ((∃ c : Nat, c < n ∧ z.1 = c ∧ rtE (μ (T + 3)) c = rootE T μ u ∧ z.2.2 13 5 = posE (μ (T + 3)) n c ∧ z.2.1 = posE (μ (T + 3)) n c - posE (μ (T + 3)) n (rootE T μ u) ∧ 0 ≤ z.2.1) ∨ z.1 = -1 ∧ z.2.2 13 5 = posE (μ (T + 3)) n (rootE T μ u) + szT (μ (T + 3)) n 0 (rootE T μ u) ∧ 0 ≤ z.2.1))
    (fun z => ((n : Int) + 1 - z.2.2 13 5).toNat)
    (fun r => ∃ ν', r = .inl ((u : Int) + 1, ν') ∧ frO μ ν' ∧ rowO (μ (T + 3)) n ν' ∧ ν' 13 5 = posE (μ (T + 3)) n (rootE T μ u) + szT (μ (T + 3)) n 0 (rootE T μ u) ∧ ν' 15 = ν 15) ?_ (μ (T + 1) u, 0, ν) ⟨hf, hr, rfl, Or.inl ⟨rootE T μ u, r1, r3, rr, h5, by simp, by simp⟩⟩
  · obtain ⟨r, x1, ν', x2, x3⟩ := H
    exact ⟨ν', by rw [x1, x2], x3⟩
  · rintro ⟨z1, z2, ρ⟩ ⟨g1, g2, g3, g4⟩
    simp only at g1 g2 g3 g4
    show (∃ s', F_X3_orderEntries_35 T u z1 z2 ρ = some (Sum.inl s') ∧ _) ∨ ∃ r, F_X3_orderEntries_35 T u z1 z2 ρ = some (Sum.inr r) ∧ _
    have fT : ∀ q, T ≤ q → q ≤ T + 14 → ρ q = μ q := fun q q1 q2 => g1.1 q (by omega) (by omega) (by omega) (by omega)
    unfold F_X3_orderEntries_35
    rw [fT T (by omega) (by omega), h.2.1.1]
    rcases g4 with ⟨c, c1, c2, c3, c4, c5, c6⟩ | ⟨c1, c2, c3⟩
    · left
      subst c2
      have rg2 := pos_rg hp _ c1
      have sp := sz_pos hp c1
      obtain ⟨P, hP⟩ : ∃ P : Nat, posE (μ (T + 3)) n c = P := ⟨(posE (μ (T + 3)) n c).toNat, by omega⟩
      have hrow := h.2.2.2.2.2.1 c c1
      have e13 : ρ 13 5 = P := by rw [c4, hP]
      rw [if_neg (by omega), if_neg (by omega), e13, bG_pos (by omega), Int.toNat_natCast]
      -- the rows behind this entry
      obtain ⟨ρ1, hρ1⟩ : ∃ ρ1, ρ1 = bset (bset (bset ρ 14 P c) 13 5 ((P : Int) + 1)) 17 c 0 := ⟨_, rfl⟩
      have e1 : bset ρ 14 P c 13 5 = P := by rw [bset_q (by omega), e13]
      rw [e1, bG_pos (by constructor <;> omega), bG_pos (by omega), bG_pos (by omega), Int.toNat_natCast, ← hρ1]
      have f1 : ∀ q, q ≠ 13 → q ≠ 14 → q ≠ 17 → ρ1 q = ρ q := fun q q1 q2 q3 => by rw [hρ1, bset_q q3, bset_q q1, bset_q q2]
      have fT1 : ∀ q, T ≤ q → q ≤ T + 14 → ρ1 q = μ q := fun q q1 q2 => by rw [f1 q (by omega) (by omega) (by omega), fT q q1 q2]
      -- whatever the climb counts
      have fin : ∀ (w x : Int), (w, x) = nexE (μ (T + 3)) n c → ∀ ρ2, ρ2 = bset ρ1 17 c x → frO μ ρ2 ∧ rowO (μ (T + 3)) n ρ2 ∧ ρ2 15 = ν 15 ∧ ρ2 13 5 = (P : Int) + 1 := by
        intro w x hwx ρ2 hρ2
        have e2 : ρ2 13 5 = (P : Int) + 1 := by rw [hρ2, bset_q (by omega), hρ1]; simp (disch := first | omega | decide) only [bset_q, bset_k, bset_at]
        refine ⟨⟨fun q q1 q2 q3 q4 => by rw [hρ2, bset_q q4, f1 q q1 q2 q4, g1.1 q q1 q2 q3 q4], fun k hk => ?_⟩, fun k hk => ?_, ?_, e2⟩
        · rw [hρ2, bset_q (by omega), hρ1, bset_q (by omega), bset_k hk, bset_q (by omega), g1.2 k hk]
        · rw [e2] at hk
          have r14 : ρ2 14 k = if k = P then (c : Int) else ρ 14 k := by rw [hρ2, bset_q (by omega), hρ1, bset_q (by omega), bset_q (by omega), bset_row]
          rw [r14]
          by_cases x1 : k = P
          · rw [if_pos x1, Int.toNat_natCast, hρ2, bset_at, ← hwx, hP]
            exact ⟨by omega, by omega, rfl⟩
          · rw [if_neg x1]
            obtain ⟨y1, y2, y3⟩ := g2 k (by omega)
            refine ⟨y1, y2, ?_⟩
            have hne : (ρ 14 k).toNat ≠ c := fun hh => by rw [hh, hP] at y2; omega
            rw [hρ2, bset_k hne, hρ1, bset_k hne, bset_q (by omega), bset_q (by omega)]
            exact y3
        · rw [hρ2, bset_q (by omega), f1 15 (by omega) (by omega) (by omega), g3]
      have hnx := pos_nexE hp c1
      have c2c := cntC_scan (f := μ (T + 3)) (p := (c : Int)) n
      have c0 := cntC_0 (f := μ (T + 3)) (p := (c : Int)) n
      rw [fT1 (T + 6) (by omega) (by omega), hrow.1]
      by_cases lf : scan (μ (T + 3)) c 0 n = -1
      · have hnex : nexE (μ (T + 3)) n c = aftE (μ (T + 3)) n c := by unfold nexE; rw [if_pos lf]
        have ac := aft_cnt h c c1
        have d30 := (h.2.2.2.1 c c1).2.2.2.2.1
        have e17 : ρ1 17 c = 0 := by rw [hρ1, bset_at]
        have CL : F_X3_climb T c ρ1 = some ((aftE (μ (T + 3)) n c).1, bset ρ1 17 c (ρ1 17 c + (aftE (μ (T + 3)) n c).2)) := by
          unfold F_X3_climb
          rw [bG_pos (by omega), Int.toNat_natCast, fT1 (T + 5) (by omega) (by omega)]
          exact C_climb h c1 c c1 ρ1 fT1 (by omega) (by omega)
        rw [if_pos (by have := c2c.mpr lf; omega), CL, bMm_some, bG_pos (by constructor <;> omega), e17, Int.zero_add]
        obtain ⟨y1, y2, y3, y4⟩ := fin (aftE (μ (T + 3)) n c).1 (aftE (μ (T + 3)) n c).2 (by rw [hnex]) _ rfl
        refine ⟨_, rfl, ⟨y1, y2, y3, ?_⟩, ?_⟩
        · simp only
          rw [y4]
          rw [hnex] at hnx
          rcases hnx with ⟨d, d1, d2, d3, d4⟩ | ⟨d1, d2⟩
          · left
            exact ⟨d, d2, d1, by rw [d4, c3], by omega, by omega, by omega⟩
          · right
            rw [c3] at d2
            exact ⟨d1, by omega, by omega⟩
        · simp only
          rw [y4, e13]
          omega
      · have hc1 : ¬ cntC (μ (T + 3)) c n ≤ 0 := fun hh => lf (c2c.mp (by omega))
        have hnex : nexE (μ (T + 3)) n c = (scan (μ (T + 3)) c 0 n, 0) := by unfold nexE; rw [if_neg lf]
        rw [if_neg hc1, bG_pos (by omega), bG_pos (by constructor <;> omega), fT1 (T + 7) (by omega) (by omega), hrow.2.1]
        have e17 : ρ1 17 c = 0 := by rw [hρ1, bset_at]
        obtain ⟨y1, y2, y3, y4⟩ := fin (scan (μ (T + 3)) c 0 n) 0 (by rw [hnex]) ρ1 (bset_id e17).symm
        refine ⟨_, rfl, ⟨y1, y2, y3, ?_⟩, ?_⟩
        · simp only
          rw [y4]
          rw [hnex] at hnx
          rcases hnx with ⟨d, d1, d2, d3, d4⟩ | ⟨d1, d2⟩
          · left
            exact ⟨d, d2, d1, by rw [d4, c3], by omega, by omega, by omega⟩
          · exact absurd d1 lf
        · simp only
          rw [y4, e13]
          omega
    · right
      subst c1
      refine ⟨_, ?_, ρ, rfl, g1, g2, c2, g3⟩
      by_cases x : (n : Int) ≤ z2
      · rw [if_pos x, bG_pos (by constructor <;> omega)]
      · rw [if_neg x, if_pos rfl, bG_pos (by constructor <;> omega)]
theorem C_order (h : cT T n m μ) : ∃ ν, F_X3_orderEntries T μ = some (0, ν) ∧ frO μ ν ∧ rowO (μ (T + 3)) n ν ∧ ν 13 5 = n ∧ ∀ u : Nat, u ≤ m → ν 15 u = startP T n m μ u := by
  have hT := h.1
  have n4 := h.2.1.2
  have m6 := h.2.2.1.2
  have H := bLoop_inv (f := fun z : Int × bM => F_X3_orderEntries_7 T z.1 z.2)
    (fun z => ∃ u : Nat, u ≤ m ∧ z.1 = u ∧ frO μ z.2 ∧ rowO (μ (T + 3)) n z.2 ∧ z.2 13 5 = startP T n m μ u ∧ ∀ w : Nat, w < u → z.2 15 w = startP T n m μ w) (fun z => m - z.1.toNat)
    (fun r => ∃ ν, r = (0, ν) ∧ frO μ ν ∧ rowO (μ (T + 3)) n ν ∧ ν 13 5 = n ∧ ∀ u : Nat, u ≤ m → ν 15 u = startP T n m μ u) ?_ (0, bset μ 13 5 0) ⟨0, by omega, rfl, ⟨fun q q1 _ _ _ => bset_q q1, fun k hk => bset_k hk⟩, fun k hk => by (simp only at hk; rw [bset_at] at hk; omega), by (simp only; rw [bset_at, start_0 h]), fun w hw => by omega⟩
  · obtain ⟨r, x1, ν, x2, x3⟩ := H
    refine ⟨ν, ?_, x3⟩
    unfold F_X3_orderEntries
    rw [x1, x2]
  · rintro ⟨z1, ρ⟩ ⟨u, hu, g1, g2, g3, g4, g5⟩
    simp only at g1 g2 g3 g4 g5
    subst g1
    show (∃ s', F_X3_orderEntries_7 T u ρ = some (Sum.inl s') ∧ _) ∨ ∃ r, F_X3_orderEntries_7 T u ρ = some (Sum.inr r) ∧ _
    have fT : ∀ q, T ≤ q → q ≤ T + 14 → ρ q = μ q := fun q q1 q2 => g2.1 q (by omega) (by omega) (by omega) (by omega)
    unfold F_X3_orderEntries_7
    rw [fT T (by omega) (by omega), h.2.2.1.1]
    by_cases c : u < m
    · left
      rw [if_neg (by omega), bG_pos (by omega), bG_pos (by omega), Int.toNat_natCast]
      obtain ⟨ρ1, hρ1⟩ : ∃ ρ1, ρ1 = bset ρ 15 u (ρ 13 5) := ⟨_, rfl⟩
      rw [← hρ1]
      have f1 : ∀ q, q ≠ 15 → ρ1 q = ρ q := fun q q1 => by rw [hρ1, bset_q q1]
      have h1 : frO μ ρ1 := ⟨fun q q1 q2 q3 q4 => by rw [f1 q q3, g2.1 q q1 q2 q3 q4], fun k hk => by rw [f1 13 (by omega), g2.2 k hk]⟩
      have h2 : rowO (μ (T + 3)) n ρ1 := by unfold rowO; rw [f1 13 (by omega), f1 14 (by omega), f1 17 (by omega)]; exact g3
      have sU : startP T n m μ u = posE (μ (T + 3)) n (rootE T μ u) := by unfold startP; rw [if_pos c]
      obtain ⟨ν', y1, y2, y3, y4, y5⟩ := C_unit h c h1 h2 (by rw [f1 13 (by omega), g4, sU])
      rw [f1 (T + 1) (by omega), fT (T + 1) (by omega) (by omega), y1]
      refine ⟨_, rfl, ⟨u + 1, by omega, by simp, y2, y3, y4, fun w hw => ?_⟩, by simp only; omega⟩
      simp only
      rw [y5, hρ1, bset_row]
      by_cases x : w = u
      · rw [if_pos x, x, g4]
      · rw [if_neg x, g5 w (by omega)]
    · right
      have : u = m := by omega
      subst this
      rw [if_pos (by omega), bG_pos (by omega), Int.toNat_natCast]
      have sU : startP T n u μ u = n := by unfold startP; rw [if_neg (by omega)]
      refine ⟨_, rfl, _, rfl, ⟨fun q q1 q2 q3 q4 => by rw [bset_q q3, g2.1 q q1 q2 q3 q4], fun k hk => by rw [bset_q (by omega), g2.2 k hk]⟩, ?_, by rw [bset_q (by omega), g4, sU], fun w hw => ?_⟩
      · unfold rowO
        rw [bset_q (show 13 ≠ 15 by decide), bset_q (show 14 ≠ 15 by decide), bset_q (show 17 ≠ 15 by decide)]
        exact g3
      · rw [bset_row]
        by_cases x : w = u
        · rw [if_pos x, x, g4]
        · rw [if_neg x, g5 w (by omega)]
end
end EB
