section FE
def hdrL (S : Int) : List Int := lowL (S - 4) 4 ++ (lowL 4 2 ++ (lowL 0 4 ++ [b8 8]))
theorem hdrL_len {S : Int} : (hdrL S).length = 11 := by
  unfold hdrL
  simp only [List.length_append, lowL_len, List.length_cons, List.length_nil]
section
variable {T b n m : Nat} {μ σ ρ : bM} {X tp sh clo tot : Nat → Int} {ord : Nat → Nat}
/-- the bytes of the i-th entry, with its unit's header before a root -/
def entU (T : Nat) (μ : bM) (X tp sh clo tot : Nat → Int) (ord : Nat → Nat) (i : Nat) : List Int := (if μ (T + 3) (ord i) = -1 then hdrL (tot (μ (T + 4) (ord i)).toNat) else []) ++ entL T μ X tp sh clo (ord i)
def preL (T : Nat) (μ : bM) (X tp sh clo tot : Nat → Int) (ord : Nat → Nat) : Nat → List Int
  | 0 => []
  | i + 1 => preL T μ X tp sh clo tot ord i ++ entU T μ X tp sh clo tot ord i
theorem preL_mono : ∀ {i j : Nat}, i ≤ j → (preL T μ X tp sh clo tot ord i).length ≤ (preL T μ X tp sh clo tot ord j).length := by
  intro i j hij
  induction j with
  | zero => rw [show i = 0 by omega]; exact Nat.le_refl _
  | succ j ih =>
    by_cases c : i ≤ j
    · have := ih c
      show _ ≤ (preL T μ X tp sh clo tot ord j ++ entU T μ X tp sh clo tot ord j).length
      rw [List.length_append]
      omega
    · rw [show i = j + 1 by omega]; exact Nat.le_refl _
/-- how long they are -/
theorem preL_len (h : cT T n m μ) (ho : ordOk (μ (T + 3)) n ord) {st : Nat → Int} (hst : ∀ e, e < n → st e = rb (sh e) + svs T μ e + clo e) (hclo : ∀ e, e < n → 0 ≤ clo e) (hf : ∀ u, u < m → fixU T μ ord st X (startP T n m μ u).toNat (startP T n m μ (u + 1)).toNat (tot u)) :
    ∀ u, u ≤ m → ((preL T μ X tp sh clo tot ord (startP T n m μ u).toNat).length : Int) = sumI tot u := by
  intro u
  induction u with
  | zero =>
    intro _
    rw [start_0 h]
    rfl
  | succ u ih =>
    intro hu
    have hum : u < m := by omega
    have ih := ih (by omega)
    have sr := start_rg h hum
    obtain ⟨u1, u2, u3, u4, u5⟩ := unit_R h ho hum
    obtain ⟨f1, f2⟩ := hf u hum
    obtain ⟨lo, hlo⟩ : ∃ lo, lo = (startP T n m μ u).toNat := ⟨_, rfl⟩
    obtain ⟨hi, hhi⟩ : ∃ hi, hi = (startP T n m μ (u + 1)).toNat := ⟨_, rfl⟩
    rw [← hlo, ← hhi] at u1 u4 u5 f2
    rw [← hlo] at ih f1 u3
    rw [← hhi] at u2 ⊢
    have key : ∀ k i : Nat, i = lo + 1 + k → i ≤ hi → ((preL T μ X tp sh clo tot ord i).length : Int) = sumI tot u + (if i < hi then X (ord i) else tot u) := by
      have step : ∀ i, lo ≤ i → i < hi → ((entL T μ X tp sh clo (ord i)).length : Int) = (if i + 1 < hi then X (ord (i + 1)) else tot u) - X (ord i) := fun i i1 i2 => by
        have hoi := (ho.1 i (by omega)).1
        have := entL_len (X := X) (tp := tp) h hoi (sh := sh) (clo := clo) (hclo _ hoi)
        have g := f2 i i1 i2
        rw [hst _ hoi] at g
        omega
      intro k
      induction k with
      | zero =>
        intro i hik hile
        have hi1 : i = lo + 1 := by omega
        rw [hi1]
        show ((preL T μ X tp sh clo tot ord lo ++ entU T μ X tp sh clo tot ord lo).length : Int) = _
        unfold entU
        rw [if_pos u3, List.length_append, List.length_append, hdrL_len]
        have := step lo (by omega) u1
        omega
      | succ k ihk =>
        intro i hik hile
        have hj : i = (i - 1) + 1 := by omega
        have ihk := ihk (i - 1) (by omega) (by omega)
        rw [if_pos (by omega)] at ihk
        have := step (i - 1) (by omega) (by omega)
        rw [← hj] at this
        rw [hj]
        show ((preL T μ X tp sh clo tot ord (i - 1) ++ entU T μ X tp sh clo tot ord (i - 1)).length : Int) = _
        unfold entU
        rw [← hj, if_neg (u4 (i - 1) (by omega) (by omega)), List.nil_append, List.length_append]
        omega
    have := key (hi - (lo + 1)) hi (by omega) (Nat.le_refl _)
    rw [if_neg (by omega)] at this
    rw [this]
    rfl
/-- the class writes a unit -/
theorem C_wunit (hbμ : bOk μ) (h : cT T n m μ) (ho : ordOk (μ (T + 3)) n ord) {lm : bM} (hX : ∀ e, e < n → 0 ≤ lm 19 e ∧ lm 19 e ≤ 900000) (h20 : ∀ e, e < n → 1 ≤ lm 20 e ∧ lm 20 e ≤ 400) (h17 : ∀ e, e < n → 0 ≤ lm 17 e ∧ lm 17 e ≤ 30) (h16 : ∀ u, u < m → 0 ≤ lm 16 u ∧ lm 16 u ≤ 900000) (h14 : ∀ k, k < n → lm 14 k = ord k) (h15 : ∀ u : Nat, u ≤ m → lm 15 u = startP T n m μ u)
    (hN : (preL T μ (lm 19) (lm 22) (lm 20) (lm 17) (lm 16) ord n).length ≤ 24000) {ρ0 : bM} (hz : ρ0 7 1 = 0) {u : Nat} (hu : u < m) {σ : bM} (hw : wC T μ lm σ) (hA : AppL 7 1 8 ρ0 σ (preL T μ (lm 19) (lm 22) (lm 20) (lm 17) (lm 16) ord (startP T n m μ u).toNat)) :
    ∃ ρ', F_X9_writeUnits_8 T 4 7 u σ = some (.inl ((u : Int) + 1, ρ')) ∧ wC T μ lm ρ' ∧ AppL 7 1 8 ρ0 ρ' (preL T μ (lm 19) (lm 22) (lm 20) (lm 17) (lm 16) ord (startP T n m μ (u + 1)).toNat) := by
  have hT := h.1
  have n4 := h.2.1.2
  have m6 := h.2.2.1.2
  have sr := start_rg h hu
  have hN7 : ((bN (7 + 1) : Nat) : Int) = 24000 := by decide
  obtain ⟨u1, u2, u3, u4, u5⟩ := unit_R h ho hu
  obtain ⟨lo, hlo⟩ : ∃ lo, lo = (startP T n m μ u).toNat := ⟨_, rfl⟩
  obtain ⟨hi, hhi⟩ : ∃ hi, hi = (startP T n m μ (u + 1)).toNat := ⟨_, rfl⟩
  rw [← hlo, ← hhi] at u1 u4 u5
  rw [← hhi] at u2 ⊢
  rw [← hlo] at hA u3
  obtain ⟨PR, hPR⟩ : ∃ PR : Nat → List Int, PR = preL T μ (lm 19) (lm 22) (lm 20) (lm 17) (lm 16) ord := ⟨_, rfl⟩
  rw [← hPR] at hA hN ⊢
  have hsuc : ∀ i, PR (i + 1) = PR i ++ entU T μ (lm 19) (lm 22) (lm 20) (lm 17) (lm 16) ord i := fun i => by rw [hPR]; rfl
  have hmono : ∀ i j, i ≤ j → (PR i).length ≤ (PR j).length := fun i j hij => by rw [hPR]; exact preL_mono hij
  have hulo : (μ (T + 4) (ord lo)).toNat = u := by
    have := (u5 lo (by omega)).mp ⟨Nat.le_refl _, u1⟩
    omega
  have eU : entU T μ (lm 19) (lm 22) (lm 20) (lm 17) (lm 16) ord lo = hdrL (lm 16 u) ++ entL T μ (lm 19) (lm 22) (lm 20) (lm 17) (ord lo) := by unfold entU; rw [if_pos u3, hulo]
  have eI : ∀ i, lo < i → i < hi → entU T μ (lm 19) (lm 22) (lm 20) (lm 17) (lm 16) ord i = entL T μ (lm 19) (lm 22) (lm 20) (lm 17) (ord i) := fun i i1 i2 => by unfold entU; rw [if_neg (u4 i i1 i2), List.nil_append]
  have s16 := h16 u hu
  have r16 : ∀ ρ, wC T μ lm ρ → ρ 16 u = lm 16 u := fun ρ hρ => by rw [hρ.2.1 16 (by omega) (by omega)]
  -- the header
  have cA := hA.cnt
  have l1 := hmono (lo + 1) n (by omega)
  rw [hsuc lo, eU, List.length_append, List.length_append, hdrL_len] at l1
  have hsσ : sOk 7 σ := ⟨by omega, by omega⟩
  obtain ⟨σ1, p1, q1⟩ := P_low (s := 7) (ρ := σ) (v := lm 16 u - 4) (w := 4) (by omega) hsσ (by omega)
  have c1 := q1.cnt
  rw [lowL_len] at c1
  have w1 : wC T μ lm σ1 := wC_app hT hw (Or.inl rfl) q1 (kp_X6_addLowFirst 7 rfl _ (by constructor <;> omega) _ (by constructor <;> omega) hw.2.2 p1)
  obtain ⟨σ2, p2, q2⟩ := P_low (s := 7) (ρ := σ1) (v := 4) (w := 2) (by omega) ⟨by omega, by omega⟩ (by omega)
  have c2 := q2.cnt
  rw [lowL_len] at c2
  have w2 : wC T μ lm σ2 := wC_app hT w1 (Or.inl rfl) q2 (kp_X6_addLowFirst 7 rfl _ (by decide) _ (by decide) w1.2.2 p2)
  obtain ⟨σ3, p3, q3⟩ := P_low (s := 7) (ρ := σ2) (v := 0) (w := 4) (by omega) ⟨by omega, by omega⟩ (by omega)
  have c3 := q3.cnt
  rw [lowL_len] at c3
  have w3 : wC T μ lm σ3 := wC_app hT w2 (Or.inl rfl) q3 (kp_X6_addLowFirst 7 rfl _ (by decide) _ (by decide) w2.2.2 p3)
  obtain ⟨σ4, p4, q4⟩ := P_add (s := 7) (ρ := σ3) ⟨by omega, by omega⟩ (by omega) 8
  have c4 := q4.cnt
  simp only [List.length_cons, List.length_nil] at c4
  have w4 : wC T μ lm σ4 := wC_app hT w3 (Or.inl rfl) q4 (kp_X6_add 7 rfl _ (by decide) w3.2.2 p4)
  have hH : AppL 7 1 8 ρ0 σ4 (PR lo ++ hdrL (lm 16 u)) := by
    unfold hdrL
    exact hA.trans (q1.trans (q2.trans (q3.trans q4 (by omega)) (by omega)) (by omega)) (by omega)
  -- the entries
  have H := bLoop_inv (f := fun z : Int × bM => F_X9_writeUnits_61 T 4 7 u z.1 z.2) (fun z => ∃ i : Nat, lo ≤ i ∧ i ≤ hi ∧ z.1 = i ∧ wC T μ lm z.2 ∧ AppL 7 1 8 ρ0 z.2 (if i = lo then PR lo ++ hdrL (lm 16 u) else PR i)) (fun z => hi - z.1.toNat) (fun r => ∃ ρ', r = .inl ((u : Int) + 1, ρ') ∧ wC T μ lm ρ' ∧ AppL 7 1 8 ρ0 ρ' (PR hi)) ?_ (σ4 15 u, σ4) ⟨lo, Nat.le_refl _, by omega, by (simp only; rw [w4.2.1 15 (by omega) (by omega), h15 u (by omega)]; omega), w4, by (simp only [if_true]; exact hH)⟩
  · obtain ⟨r, x1, ρ', x2, x3, x4⟩ := H
    refine ⟨ρ', ?_, x3, x4⟩
    unfold F_X9_writeUnits_8
    rw [hw.1 T (by omega), h.2.2.1.1, if_neg (by omega), bG_pos (by omega), Int.toNat_natCast, r16 σ hw, bG_pos (by constructor <;> omega)]
    rw [show (4 : Int) = ((4 : Nat) : Int) from rfl] at *
    rw [p1, bMm_some]
    rw [show (2 : Int) = ((2 : Nat) : Int) from rfl] at *
    rw [p2, bMm_some, p3, bMm_some, p4, bMm_some, bG_pos (by omega), x1, x2]
  · rintro ⟨z1, τ⟩ ⟨i, i1, i2, i3, i4, i5⟩
    simp only at i3 i4 i5
    subst i3
    show (∃ s', F_X9_writeUnits_61 T 4 7 u i τ = some (Sum.inl s') ∧ _) ∨ ∃ q, F_X9_writeUnits_61 T 4 7 u i τ = some (Sum.inr q) ∧ _
    unfold F_X9_writeUnits_61
    rw [bG_pos (by constructor <;> omega), bG_pos (by omega), show ((u : Int) + 1).toNat = u + 1 by omega, i4.2.1 15 (by omega) (by omega), h15 (u + 1) (by omega)]
    by_cases c : i < hi
    · left
      have hoi := (ho.1 i (by omega)).1
      have ci := i5.cnt
      have li := hmono (i + 1) n (by omega)
      have hlen : (((if i = lo then PR lo ++ hdrL (lm 16 u) else PR i) ++ entL T μ (lm 19) (lm 22) (lm 20) (lm 17) (ord i)) : List Int) = PR (i + 1) := by
        rw [hsuc i]
        by_cases x : i = lo
        · rw [if_pos x, x, eU, List.append_assoc]
        · rw [if_neg x, eI i (by omega) c]
      rw [← hlen, List.length_append] at li
      obtain ⟨τ', y1, y2, y3⟩ := C_entry hbμ h i4 hX h20 h17 hoi ⟨by omega, by omega⟩ (by omega)
      rw [if_neg (by omega), bG_pos (by omega), Int.toNat_natCast, i4.2.1 14 (by omega) (by omega), h14 i (by omega), y1, bMm_some, bG_pos (by constructor <;> omega)]
      refine ⟨_, rfl, ⟨i + 1, by omega, by omega, by simp, y3, ?_⟩, by simp only; omega⟩
      simp only
      rw [if_neg (by omega), ← hlen]
      exact i5.trans y2 (by omega)
    · right
      have : i = hi := by omega
      subst this
      rw [if_pos (by omega), bG_pos (by constructor <;> omega)]
      rw [if_neg (by omega)] at i5
      exact ⟨_, rfl, τ, rfl, i4, i5⟩
theorem C_wunits (hbμ : bOk μ) (h : cT T n m μ) (ho : ordOk (μ (T + 3)) n ord) {lm : bM} (hX : ∀ e, e < n → 0 ≤ lm 19 e ∧ lm 19 e ≤ 900000) (h20 : ∀ e, e < n → 1 ≤ lm 20 e ∧ lm 20 e ≤ 400) (h17 : ∀ e, e < n → 0 ≤ lm 17 e ∧ lm 17 e ≤ 30) (h16 : ∀ u, u < m → 0 ≤ lm 16 u ∧ lm 16 u ≤ 900000) (h14 : ∀ k, k < n → lm 14 k = ord k) (h15 : ∀ u : Nat, u ≤ m → lm 15 u = startP T n m μ u)
    (hN : (preL T μ (lm 19) (lm 22) (lm 20) (lm 17) (lm 16) ord n).length ≤ 24000) {ρ : bM} (hw : wC T μ lm ρ) (h7 : 0 ≤ ρ 7 1) : ∃ ρ', F_X9_writeUnits T 4 7 ρ = some (0, ρ') ∧ wC T μ lm ρ' ∧ AppL 7 1 8 (bset ρ 7 1 0) ρ' (preL T μ (lm 19) (lm 22) (lm 20) (lm 17) (lm 16) ord n) := by
  have hT := h.1
  have m6 := h.2.2.1.2
  have hcut : F_X6_cut 7 0 ρ = some (0, bset ρ 7 1 0) := S_cut (by decide) h7
  have hw0 : wC T μ lm (bset ρ 7 1 0) := ⟨fun q hq => by rw [bset_q (by omega), hw.1 q hq], fun q q1 q2 => by rw [bset_q (by omega), hw.2.1 q q1 q2], kp_X6_cut 7 rfl 0 (by decide) hw.2.2 hcut⟩
  have H := bLoop_inv (f := fun z : Int × bM => F_X9_writeUnits_8 T 4 7 z.1 z.2) (fun z => ∃ u : Nat, u ≤ m ∧ z.1 = u ∧ wC T μ lm z.2 ∧ AppL 7 1 8 (bset ρ 7 1 0) z.2 (preL T μ (lm 19) (lm 22) (lm 20) (lm 17) (lm 16) ord (startP T n m μ u).toNat)) (fun z => m - z.1.toNat) (fun r => ∃ ρ', r = (0, ρ') ∧ wC T μ lm ρ' ∧ AppL 7 1 8 (bset ρ 7 1 0) ρ' (preL T μ (lm 19) (lm 22) (lm 20) (lm 17) (lm 16) ord n)) ?_ (0, bset ρ 7 1 0) ⟨0, by omega, rfl, hw0, by (simp only; rw [start_0 h]; exact AppL.nil)⟩
  · obtain ⟨r, x1, ρ', x2, x3⟩ := H
    refine ⟨ρ', ?_, x3⟩
    unfold F_X9_writeUnits
    rw [hcut, bMm_some, x1, x2]
  · rintro ⟨z1, τ⟩ ⟨u, u1, u2, u3, u4⟩
    simp only at u2 u3 u4
    subst u2
    show (∃ s', F_X9_writeUnits_8 T 4 7 u τ = some (Sum.inl s') ∧ _) ∨ ∃ q, F_X9_writeUnits_8 T 4 7 u τ = some (Sum.inr q) ∧ _
    by_cases c : u < m
    · left
      obtain ⟨ρ', y1, y2, y3⟩ := C_wunit hbμ h ho hX h20 h17 h16 h14 h15 hN bset_at c u3 u4
      exact ⟨_, y1, ⟨u + 1, by omega, by simp, y2, y3⟩, by simp only; omega⟩
    · right
      have : u = m := by omega
      subst this
      have sU : startP T n u μ u = n := by unfold startP; rw [if_neg (by omega)]
      rw [sU, Int.toNat_natCast] at u4
      refine ⟨(0, τ), ?_, τ, rfl, u3, u4⟩
      unfold F_X9_writeUnits_8
      rw [u3.1 T (by omega), h.2.2.1.1, if_pos (by omega)]
end
end FE
