section EG
section
variable {T b n m : Nat} {μ ν ρ : bM} {ord : Nat → Nat}
def shM (T : Nat) (μ : bM) (ord : Nat → Nat) (i : Nat) (ρ : bM) : Prop := ρ 76 26 = ((shS T μ ord i).1 : Int) ∧ (∀ s, s < (shS T μ ord i).1 → ρ 98 s = ((shS T μ ord i).2 s : Int)) ∧ ∀ j, j < i → ρ 97 (ord j) = shI T μ ord j + 1
def frSM (μ ρ : bM) : Prop := (∀ q, q ≠ 76 → q ≠ 97 → q ≠ 98 → ρ q = μ q) ∧ ∀ k, k ≠ 26 → ρ 76 k = μ 76 k
theorem M_inner (h : cT T n m μ) (ho : ∀ k, k < n → ord k < n) (hM : mA T b n m μ ρ) {i : Nat} (hi : i < n) (hc : shM T μ ord i ρ) {y : (Int × bM) ⊕ (Int × bM)} (hy : F_X11_findShapes_69 i (ord i) (shX T μ ord i) ρ = some y) : bLoop (fun z : Int × Int => F_X11_findShapes_27 i (ord i) ρ z.1 z.2) (-1, 0) = some y := by
  have n4 := h.2.1.2
  obtain ⟨s1, s2, s3⟩ := shS_ok h ho i (by omega)
  obtain ⟨c1, c2, c3⟩ := hc
  have hoi := ho i hi
  obtain ⟨S, hS⟩ : ∃ S, S = (shS T μ ord i).1 := ⟨_, rfl⟩
  rw [← hS] at c1 c2 s1 s2 s3
  have fin : ∀ (v j : Int), ((S : Int) ≤ j ∨ v ≠ -1) → v = shX T μ ord i → F_X11_findShapes_27 i (ord i) ρ v j = some (.inr y) := fun v j hv he => by
    unfold F_X11_findShapes_27
    rw [c1, he, hy]
    by_cases x : (S : Int) ≤ j
    · rw [if_pos x]; rfl
    · have hv' : ¬ shX T μ ord i = -1 := by rw [← he]; exact hv.resolve_left x
      rw [if_neg x, if_pos hv']; rfl
  have H : ∀ k j : Nat, j + k = S → (∀ s, s < j → sm T μ ((shS T μ ord i).2 s) (ord i) ≠ 1) → bLoop (fun z : Int × Int => F_X11_findShapes_27 i (ord i) ρ z.1 z.2) (-1, (j : Int)) = some y := by
    intro k
    induction k with
    | zero =>
      intro j hj hno
      refine bLoop_done ?_
      refine fin (-1) j (Or.inl (by omega)) ?_
      unfold shX
      rw [← hS]
      exact (scan_no fun s _ hs => hno s (by omega)).symm
    | succ k ih =>
      intro j hj hno
      have hjS : j < S := by omega
      have hst : F_X11_findShapes_27 i (ord i) ρ (-1) j = if sm T μ ((shS T μ ord i).2 j) (ord i) = 0 then some (.inl (-1, (j : Int) + 1)) else some (.inl ((j : Int), (j : Int) + 1)) := by
        unfold F_X11_findShapes_27
        rw [c1, if_neg (by omega), if_neg (by decide), bG_pos (by omega), Int.toNat_natCast, c2 j hjS, M_sameShape h hM (s2 j hjS) hoi, Option.bind_some]
        by_cases x : sm T μ ((shS T μ ord i).2 j) (ord i) = 0
        · rw [if_pos x, if_pos x, bG_pos (by constructor <;> omega)]
        · rw [if_neg x, if_neg x, bG_pos (by constructor <;> omega)]
      have s01 := sm_is h (s2 j hjS) hoi
      by_cases x : same T n μ ((shS T μ ord i).2 j) (ord i)
      · rw [s01.1 x, if_neg (by decide)] at hst
        rw [bLoop_step (f := fun z : Int × Int => F_X11_findShapes_27 i (ord i) ρ z.1 z.2) hst]
        refine bLoop_done ?_
        refine fin j ((j : Int) + 1) (Or.inr (by omega)) ?_
        unfold shX
        rw [← hS]
        exact (scan_is (f := fun s => sm T μ ((shS T μ ord i).2 s) (ord i)) (p := 1) (a := 0) (m := S) (c := j) (Nat.zero_le _) (by omega) (s01.1 x) (fun s _ hs => hno s hs)).symm
      · rw [s01.2 x, if_pos rfl] at hst
        rw [bLoop_step (f := fun z : Int × Int => F_X11_findShapes_27 i (ord i) ρ z.1 z.2) hst]
        have := ih (j + 1) (by omega) (fun s hs => by
          by_cases q : s = j
          · rw [q, s01.2 x]; decide
          · exact hno s (by omega))
        rw [Int.natCast_succ] at this
        exact this
  exact H S 0 (by omega) (fun s hs => by omega)
theorem M_shapes (h : cT T n m μ) (ho : ∀ k, k < n → ord k < n) (hinj : ∀ j k, j < n → k < n → ord j = ord k → j = k) {ρ0 : bM} (hM : mA T b n m μ ρ0) (h5 : ρ0 76 23 = n) (h14 : ∀ k, k < n → ρ0 95 k = ord k) :
    ∃ ρ', F_X11_findShapes ρ0 = some (0, ρ') ∧ frSM ρ0 ρ' ∧ shM T μ ord n ρ' := by
  have n4 := h.2.1.2
  have H := bLoop_inv (f := fun z : Int × bM => F_X11_findShapes_7 z.1 z.2) (fun z => ∃ i : Nat, i ≤ n ∧ z.1 = i ∧ frSM ρ0 z.2 ∧ shM T μ ord i z.2) (fun z => n - z.1.toNat) (fun r => ∃ ρ', r = (0, ρ') ∧ frSM ρ0 ρ' ∧ shM T μ ord n ρ') ?_ (0, bset ρ0 76 26 0) ⟨0, by omega, rfl, ⟨fun q q1 q2 q3 => bset_q q1, fun k k0 => bset_k k0⟩, by (simp only; rw [bset_at]; rfl), fun s hs => absurd hs (Nat.not_lt_zero s), fun j hj => by omega⟩
  · obtain ⟨r, x1, ρ', x2, x3, x4⟩ := H
    refine ⟨ρ', ?_, x3, x4⟩
    unfold F_X11_findShapes
    rw [x1, x2]
  · rintro ⟨z1, σ⟩ ⟨i, hi, y1, y2, y3⟩
    simp only at y1 y2 y3
    subst y1
    show (∃ s', F_X11_findShapes_7 i σ = some (Sum.inl s') ∧ _) ∨ ∃ r, F_X11_findShapes_7 i σ = some (Sum.inr r) ∧ _
    have e5 : σ 76 23 = n := by rw [y2.2 23 (by omega), h5]
    have hMσ : mA T b n m μ σ := mA_congr hM (y2.2 3 (by omega)) (fun q q1 q2 => y2.1 q (by omega) (by omega) (by omega))
    unfold F_X11_findShapes_7
    rw [e5]
    by_cases c : i < n
    · left
      have hoi := ho i c
      have e14 : σ 95 i = ord i := by rw [y2.1 95 (by omega) (by omega) (by omega), h14 i c]
      obtain ⟨s1, s2, s3⟩ := shS_ok h ho i (by omega)
      obtain ⟨c1, c2, c4⟩ := id y3
      rw [if_neg (by omega), bG_pos (by omega), Int.toNat_natCast, e14]
      rcases shX_rg (T := T) (μ := μ) (ord := ord) (i := i) with hx | ⟨s, hx1, hx2, hx3⟩
      · obtain ⟨S, hS⟩ : ∃ S, S = (shS T μ ord i).1 := ⟨_, rfl⟩
        have hy : F_X11_findShapes_69 i (ord i) (shX T μ ord i) σ = some (.inl ((i : Int) + 1, bset (bset (bset σ 98 S (ord i)) 76 26 ((S : Int) + 1)) 97 (ord i) ((S : Int) + 1))) := by
          unfold F_X11_findShapes_69
          rw [hx, if_neg (by decide), c1, ← hS]
          simp (disch := first | omega | decide) only [bG_pos, bMm_some, bXm_inl, bXm_inr, Option.bind_some, bset_q, bset_k, bset_at, if_pos, if_neg, Int.toNat_natCast, c1, ← hS]
        rw [M_inner h ho hMσ c y3 hy]
        rw [← hS] at c1 c2 s1 s2 s3
        obtain ⟨ent', hent'⟩ : ∃ ent', ent' = fun s => if s = S then ord i else (shS T μ ord i).2 s := ⟨_, rfl⟩
        have hnew : shS T μ ord (i + 1) = (S + 1, ent') := by rw [shS_new hx, hent', ← hS]
        have hold : ∀ s, s < S → ent' s = (shS T μ ord i).2 s := fun s hs => by rw [hent']; exact if_neg (by omega)
        have hS' : ent' S = ord i := by rw [hent']; exact if_pos rfl
        refine ⟨_, rfl, ⟨i + 1, by omega, by simp, ⟨fun q q1 q2 q3 => ?_, fun k k0 => ?_⟩, ?_⟩, by simp only; omega⟩
        · simp only
          rw [bset_q q2, bset_q q1, bset_q q3, y2.1 q q1 q2 q3]
        · simp only
          rw [bset_q (by omega), bset_k k0, bset_q (by omega), y2.2 k k0]
        · simp only
          unfold shM
          rw [hnew]
          simp only
          refine ⟨?_, fun s hs => ?_, fun j hj => ?_⟩
          · rw [bset_q (by omega), bset_at]; omega
          · rw [bset_q (by omega), bset_q (by omega), bset_row]
            by_cases q : s = S
            · rw [if_pos q, q, hS']
            · rw [if_neg q, c2 s (by omega), hold s (by omega)]
          · rw [bset_row]
            by_cases q : j = i
            · rw [if_pos (by rw [q]), q]
              unfold shI
              rw [if_pos hx, ← hS]
            · rw [if_neg (fun hh => q (hinj j i (by omega) c hh)), bset_q (by omega), bset_q (by omega), c4 j (by omega)]
      · have hy : F_X11_findShapes_69 i (ord i) (shX T μ ord i) σ = some (.inl ((i : Int) + 1, bset σ 97 (ord i) ((s : Int) + 1))) := by
          unfold F_X11_findShapes_69
          rw [hx1, if_pos (by omega)]
          simp (disch := first | omega | decide) only [bG_pos, bMm_some, bXm_inl, bXm_inr, Option.bind_some, bset_q, bset_k, bset_at, if_pos, if_neg, Int.toNat_natCast]
        rw [M_inner h ho hMσ c y3 hy]
        refine ⟨_, rfl, ⟨i + 1, by omega, by simp, ⟨fun q q1 q2 q3 => ?_, fun k k0 => ?_⟩, ?_⟩, by simp only; omega⟩
        · simp only
          rw [bset_q q2, y2.1 q q1 q2 q3]
        · simp only
          rw [bset_q (by omega), y2.2 k k0]
        · simp only
          unfold shM
          rw [shS_old (by omega)]
          refine ⟨by rw [bset_q (by omega)]; exact c1, fun s hs => by rw [bset_q (by omega)]; exact c2 s hs, fun j hj => ?_⟩
          rw [bset_row]
          by_cases q : j = i
          · rw [if_pos (by rw [q]), q]
            unfold shI
            rw [if_neg (by omega), hx1]
          · rw [if_neg (fun hh => q (hinj j i (by omega) c hh)), c4 j (by omega)]
    · right
      have : i = n := by omega
      subst this
      rw [if_pos (by omega)]
      exact ⟨_, rfl, _, rfl, y2, y3⟩
end
end EG
