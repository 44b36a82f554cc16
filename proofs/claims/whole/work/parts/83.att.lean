section DN
theorem bind_id {α : Type} {x : Option α} : (x.bind fun w => some w) = x := by cases x <;> rfl
/-- a loop that looks for the first place where f is w -/
theorem loop_scan {ρ : Type} {F : Int → Option (Int ⊕ ρ)} {f : Nat → Int} {w : Int} {non : ρ} {fnd : Nat → ρ} : ∀ (m a : Nat), F ((a + m : Nat) : Int) = some (.inr non) → (∀ j : Nat, a ≤ j → j < a + m → F j = if f j = w then some (.inr (fnd j)) else some (.inl ((j : Int) + 1))) → bLoop F (a : Int) = some (if scan f w a m = -1 then non else fnd (scan f w a m).toNat)
  | 0, a, he, _ => by
    exact bLoop_done he
  | m + 1, a, he, hs => by
    have h := hs a (by omega) (by omega)
    by_cases c : f a = w
    · rw [if_pos c] at h
      have e : scan f w a (m + 1) = a := by unfold scan; rw [if_pos c]
      rw [bLoop_done h, e, if_neg (by omega), Int.toNat_natCast]
    · rw [if_neg c] at h
      have e : scan f w a (m + 1) = scan f w (a + 1) m := by rw [scan, if_neg c]
      rw [bLoop_step h, e]
      have := loop_scan m (a + 1) (by rw [show a + 1 + m = a + (m + 1) by omega]; exact he) (fun j h1 h2 => hs j (by omega) (by omega))
      rw [Int.natCast_succ] at this
      exact this
/-- where a name stands among the attributes of an entry -/
def nmS (T : Nat) (μ : bM) (e : Nat) (w : Int) : Int := scan (fun k => μ (T + 11) (8 * e + k)) w 0 (μ (T + 10) e).toNat
section
variable {T b n m : Nat} {μ μ' : bM}
theorem C_slotAt {e k : Nat} (he : e < 400) (hk : k < 8) : F_X8_slotAt e k μ = some ((e : Int) * 8 + k) := by unfold F_X8_slotAt; simp (disch := first | omega | decide) only [bG_pos, bMm_some, bXm_inl, bXm_inr, Option.bind_some, bset_q, bset_k, bset_at, if_pos, if_neg, Int.toNat_natCast]
theorem C_slotOf {e : Nat} {w : Int} (he : e < 400) (hA : 0 ≤ μ (T + 10) e ∧ μ (T + 10) e ≤ 8) : F_X8_slotOf T e w μ = some (if nmS T μ e w = -1 then -1 else ((8 * e + (nmS T μ e w).toNat : Nat) : Int)) := by
  unfold F_X8_slotOf nmS
  have := loop_scan (F := fun z => F_X8_slotOf_2 T e w μ z) (f := fun k => μ (T + 11) (8 * e + k)) (w := w) (non := -1) (fnd := fun j => ((8 * e + j : Nat) : Int)) (μ (T + 10) e).toNat 0 ?_ ?_
  · exact this
  · show F_X8_slotOf_2 T e w μ _ = _
    unfold F_X8_slotOf_2
    simp (disch := first | omega | decide) only [bG_pos, bMm_some, bXm_inl, bXm_inr, Option.bind_some, bset_q, bset_k, bset_at, if_pos, if_neg, Int.toNat_natCast]
  · intro j h1 h2
    show F_X8_slotOf_2 T e w μ _ = _
    unfold F_X8_slotOf_2
    rw [bG_pos (by omega), Int.toNat_natCast, if_neg (by omega), C_slotAt he (by omega), Option.bind_some, bG_pos (by omega), t8]
    by_cases c : μ (T + 11) (8 * e + j) = w
    · rw [if_neg (fun h => h c), if_pos c]
      congr 2
      omega
    · rw [if_pos c, bG_pos (by constructor <;> omega), if_neg c]
theorem M_isTold {e : Nat} {w : Int} (hb : b = 0 ∨ b = 1) (h3 : μ 76 3 = (b : Int)) (he : e < 400) {A : Nat} (hA : μ 84 (400 * b + e) = A) (hA8 : A ≤ 8) : F_X11_isTold e w μ = some (if scan (fun k => μ 85 (3200 * b + (8 * e + k))) w 0 A = -1 then 0 else 1) := by
  unfold F_X11_isTold
  rw [M_at hb h3 (by omega), Option.bind_some]
  have H := bLoop_inv (f := fun z : Int × Int => F_X11_isTold_12 w (400 * (b : Int) + e) μ z.1 z.2) (fun z => ∃ j : Nat, j ≤ A ∧ z.2 = j ∧ z.1 = if scan (fun k => μ 85 (3200 * b + (8 * e + k))) w 0 j = -1 then 0 else 1) (fun z => A - z.2.toNat) (fun r => r = if scan (fun k => μ 85 (3200 * b + (8 * e + k))) w 0 A = -1 then 0 else 1) ?_ (0, 0) ⟨0, by omega, rfl, rfl⟩
  · obtain ⟨r, h1, h2⟩ := H
    rw [h1, h2]
  · rintro ⟨z1, z2⟩ ⟨j, hj, g1, g2⟩
    simp only at g1 g2
    subst g1
    by_cases c : j < A
    · left
      have hs := scan_snoc (f := fun k => μ 85 (3200 * b + (8 * e + k))) (p := w) (a := 0) (m := j)
      simp only [Nat.zero_add] at hs
      by_cases c1 : scan (fun k => μ 85 (3200 * b + (8 * e + k))) w 0 j = -1
      · rw [if_pos c1] at g2 hs
        by_cases c2 : μ 85 (3200 * b + (8 * e + j)) = w
        · rw [if_pos c2] at hs
          refine ⟨(1, (j : Int) + 1), ?_, ⟨j + 1, by omega, by simp, by rw [hs, if_neg (by omega)]⟩, by simp only; omega⟩
          show F_X11_isTold_12 w (400 * (b : Int) + e) μ z1 j = _
          unfold F_X11_isTold_12
          rw [bG_pos (by omega), t400, hA, if_neg (by omega), if_neg (by omega), bG_pos (by constructor <;> omega), bG_pos (by constructor <;> omega), bG_pos (by omega), t3200, if_neg (fun h => h c2), bG_pos (by constructor <;> omega)]
        · rw [if_neg c2] at hs
          refine ⟨(0, (j : Int) + 1), ?_, ⟨j + 1, by omega, by simp, by rw [hs, if_pos rfl]⟩, by simp only; omega⟩
          show F_X11_isTold_12 w (400 * (b : Int) + e) μ z1 j = _
          unfold F_X11_isTold_12
          rw [bG_pos (by omega), t400, hA, if_neg (by omega), if_neg (by omega), bG_pos (by constructor <;> omega), bG_pos (by constructor <;> omega), bG_pos (by omega), t3200, if_pos c2, bG_pos (by constructor <;> omega)]
      · rw [if_neg c1] at g2 hs
        refine ⟨(1, (j : Int) + 1), ?_, ⟨j + 1, by omega, by simp, by rw [hs, if_neg c1]⟩, by simp only; omega⟩
        show F_X11_isTold_12 w (400 * (b : Int) + e) μ z1 j = _
        unfold F_X11_isTold_12
        rw [bG_pos (by omega), t400, hA, if_neg (by omega), if_pos (by omega), bG_pos (by constructor <;> omega)]
    · right
      have : j = A := by omega
      subst this
      refine ⟨z1, ?_, g2⟩
      show F_X11_isTold_12 w (400 * (b : Int) + e) μ z1 j = _
      unfold F_X11_isTold_12
      have : 0 ≤ z1 ∧ z1 ≤ 1 := by rw [g2]; split <;> decide
      rw [bG_pos (by omega), t400, hA, if_pos (by omega), bG_pos (by omega)]
theorem M_isFull {e : Nat} (hb : b = 0 ∨ b = 1) (h3 : μ 76 3 = (b : Int)) (he : e < 400) : F_X11_isFull e μ = some (if μ 84 (400 * b + e) = 8 then 1 else 0) := by
  unfold F_X11_isFull
  rw [M_at hb h3 (by omega), Option.bind_some, bG_pos (by omega), t400]
  by_cases c : μ 84 (400 * b + e) = 8
  · rw [if_neg (fun h => h c), if_pos c]
  · rw [if_pos c, if_neg c]
theorem C_addAtt {e A : Nat} {nm fo va ln : Int} (he : e < 400) (hA : μ (T + 10) e = A) (hA8 : A < 8) : ∃ ν, F_X8_addAttribute T e nm fo va ln μ = some ((A : Int) + 1, ν) ∧
    (∀ j, ν (T + 10) j = if j = e then (A : Int) + 1 else μ (T + 10) j) ∧ (∀ j, ν (T + 11) j = if j = 8 * e + A then nm else μ (T + 11) j) ∧ (∀ j, ν (T + 12) j = if j = 8 * e + A then fo else μ (T + 12) j) ∧
    (∀ j, ν (T + 13) j = if j = 8 * e + A then va else μ (T + 13) j) ∧ (∀ j, ν (T + 14) j = if j = 8 * e + A then ln else μ (T + 14) j) ∧ ∀ q, (q < T + 10 ∨ T + 14 < q) → ν q = μ q := by
  refine ⟨?w, ?e, ?f⟩
  case e =>
    unfold F_X8_addAttribute
    rw [bG_pos (by omega), Int.toNat_natCast, hA, C_slotAt he hA8, Option.bind_some, t8]
    simp (disch := first | omega | decide) only [bG_pos, bMm_some, bXm_inl, bXm_inr, Option.bind_some, bset_q, bset_k, bset_at, if_pos, if_neg, Int.toNat_natCast, hA]
    rfl
  case f =>
    refine ⟨fun j => ?_, fun j => ?_, fun j => ?_, fun j => ?_, fun j => ?_, fun q hq => ?_⟩
    · simp (disch := first | omega | decide) only [bset_q, bset_row]
    · simp (disch := first | omega | decide) only [bset_q, bset_row]
    · simp (disch := first | omega | decide) only [bset_q, bset_row]
    · simp (disch := first | omega | decide) only [bset_q, bset_row]
    · simp (disch := first | omega | decide) only [bset_q, bset_row]
    · simp (disch := omega) only [bset_q]
theorem M_add {e A : Nat} {nm fo va : Int} (hb : b = 0 ∨ b = 1) (h3 : μ 76 3 = (b : Int)) (he : e < 400) (hA : μ 84 (400 * b + e) = A) (hA8 : A < 8) : ∃ ν, F_X11_add e nm fo va μ = some ((A : Int) + 1, ν) ∧
    (∀ j, ν 84 (400 * b + j) = if j = e then (A : Int) + 1 else μ 84 (400 * b + j)) ∧ (∀ j, ν 85 (3200 * b + j) = if j = 8 * e + A then nm else μ 85 (3200 * b + j)) ∧ (∀ j, ν 86 (3200 * b + j) = if j = 8 * e + A then fo else μ 86 (3200 * b + j)) ∧
    (∀ j, ν 87 (3200 * b + j) = if j = 8 * e + A then va else μ 87 (3200 * b + j)) ∧ (∀ j, ν 88 (3200 * b + j) = if j = 8 * e + A then 0 else μ 88 (3200 * b + j)) ∧ (∀ j, ν 89 (3200 * b + j) = if j = 8 * e + A then 0 else μ 89 (3200 * b + j)) ∧
    ∀ q, (q < 84 ∨ 89 < q) → ν q = μ q := by
  refine ⟨?w, ?e, ?f⟩
  case e =>
    unfold F_X11_add
    rw [M_at hb h3 (by omega), Option.bind_some, t400, hA, t3200]
    simp (disch := first | omega | decide) only [bG_pos, bMm_some, bXm_inl, bXm_inr, Option.bind_some, bset_q, bset_k, bset_at, if_pos, if_neg, Int.toNat_natCast, hA]
    rfl
  case f =>
    refine ⟨fun j => ?_, fun j => ?_, fun j => ?_, fun j => ?_, fun j => ?_, fun j => ?_, fun q hq => ?_⟩
    · simp (disch := first | omega | decide) only [bset_q, bset_row, Nat.add_left_cancel_iff]
    · simp (disch := first | omega | decide) only [bset_q, bset_row, Nat.add_left_cancel_iff]
    · simp (disch := first | omega | decide) only [bset_q, bset_row, Nat.add_left_cancel_iff]
    · simp (disch := first | omega | decide) only [bset_q, bset_row, Nat.add_left_cancel_iff]
    · simp (disch := first | omega | decide) only [bset_q, bset_row, Nat.add_left_cancel_iff]
    · simp (disch := first | omega | decide) only [bset_q, bset_row, Nat.add_left_cancel_iff]
    · simp (disch := omega) only [bset_q]
theorem C_isNumber {v : Int} : (isNum v → F_X2_isNumber v μ = some 1) ∧ (¬ isNum v → F_X2_isNumber v μ = some 0) := by
  unfold isNum
  constructor
  · intro h
    rcases h with rfl | rfl | rfl | rfl | rfl | rfl | rfl | rfl <;> rfl
  · intro h
    unfold F_X2_isNumber
    simp (disch := first | omega | decide) only [bG_pos, bMm_some, bXm_inl, bXm_inr, Option.bind_some, bset_q, bset_k, bset_at, if_pos, if_neg, Int.toNat_natCast, ite_self]
theorem M_isNumber {v : Int} : (isNum v → F_X11_isNumber v μ = some 1) ∧ (¬ isNum v → F_X11_isNumber v μ = some 0) := by
  unfold isNum
  constructor
  · intro h
    rcases h with rfl | rfl | rfl | rfl | rfl | rfl | rfl | rfl <;> rfl
  · intro h
    unfold F_X11_isNumber
    simp (disch := first | omega | decide) only [bG_pos, bMm_some, bXm_inl, bXm_inr, Option.bind_some, bset_q, bset_k, bset_at, if_pos, if_neg, Int.toNat_natCast, ite_self]
theorem C_isText {v : Int} : F_X2_isText v μ = some (if v = 8 ∨ v = 14 then 1 else 0) := by
  unfold F_X2_isText
  by_cases c : v = 8
  · rw [if_pos c, if_pos (Or.inl c)]
  · rw [if_neg c]
    by_cases d : v = 14
    · rw [if_neg (fun h => h d), if_pos (Or.inr d)]
    · rw [if_pos d, if_neg (by omega)]
theorem M_isText {v : Int} : F_X11_isText v μ = some (if v = 8 ∨ v = 14 then 1 else 0) := C_isText (μ := μ)
theorem C_isLetters {v : Int} : (isLet v → F_X2_isLetters v μ = some 1) ∧ (¬ isLet v → F_X2_isLetters v μ = some 0) := by
  unfold isLet F_X2_isLetters
  rw [C_isText, Option.bind_some]
  constructor
  · intro h
    rcases h with rfl | rfl | rfl <;> rfl
  · intro h
    rw [if_neg (c := v = 8 ∨ v = 14) (by omega), if_neg (by decide), if_pos (by omega)]
theorem C_isReference {v : Int} : (isRef v → F_X2_isReference v μ = some 1) ∧ (¬ isRef v → F_X2_isReference v μ = some 0) := by
  unfold isRef F_X2_isReference
  constructor
  · intro h
    rcases h with rfl | rfl <;> rfl
  · intro h
    rw [if_neg (by omega), if_pos (by omega)]
theorem M_isReference {v : Int} : (isRef v → F_X11_isReference v μ = some 1) ∧ (¬ isRef v → F_X11_isReference v μ = some 0) := C_isReference (μ := μ)
theorem fits_eq {f v : Int} : F_X2_holds f v μ = F_X11_fits f v μ' := by
  unfold F_X2_holds F_X11_fits
  simp only [bind_id]
  by_cases c5 : f = 5
  · rw [if_pos c5, if_pos c5]; rfl
  · rw [if_neg c5, if_neg c5]
    by_cases c6 : f = 6
    · rw [if_pos c6, if_pos c6]; rfl
    · rw [if_neg c6, if_neg c6]
      by_cases c11 : f = 11
      · rw [if_pos c11, if_pos c11]; rfl
      · rw [if_neg c11, if_neg c11]
        by_cases c12 : f = 12
        · rw [if_pos c12, if_pos c12, M_in]
          unfold b01
          by_cases x : v = 0
          · rw [if_pos (bCmp_eq.mpr x), if_pos (by omega)]
          · rw [if_neg (fun h => x (bCmp_eq.mp h))]
            by_cases y : v = 1
            · rw [if_neg (fun h => h (bCmp_eq.mpr y)), if_pos (by omega)]
            · rw [if_pos (fun h => y (bCmp_eq.mp h)), if_neg (by omega)]
        · rw [if_neg c12, if_neg c12]
theorem fits_01 {f v : Int} : ∃ x : Int, F_X11_fits f v μ = some x ∧ (f = 15 → x ≠ 0 → 0 ≤ v) := by
  unfold F_X11_fits
  simp only [bind_id, M_in]
  by_cases c5 : f = 5
  · rw [if_pos c5]; exact ⟨_, rfl, fun h => by omega⟩
  · rw [if_neg c5]
    by_cases c6 : f = 6
    · rw [if_pos c6]; exact ⟨_, rfl, fun h => by omega⟩
    · rw [if_neg c6]
      by_cases c11 : f = 11
      · rw [if_pos c11]; exact ⟨_, rfl, fun h => by omega⟩
      · rw [if_neg c11]
        by_cases c12 : f = 12
        · rw [if_pos c12]; exact ⟨_, rfl, fun h => by omega⟩
        · rw [if_neg c12]
          by_cases c15 : f = 15
          · rw [if_pos c15]
            by_cases x : v < 0
            · rw [if_pos (bCmp_lt.mpr x)]
              exact ⟨0, rfl, fun _ h => absurd rfl h⟩
            · rw [if_neg (fun h => x (bCmp_lt.mp h))]
              exact ⟨1, rfl, fun _ _ => by omega⟩
          · rw [if_neg c15]
            by_cases c25 : f = 25
            · rw [if_pos c25]
              by_cases y : bCmp v 1 = 0
              · rw [if_neg (fun h => h y)]; exact ⟨_, rfl, fun h => by omega⟩
              · rw [if_pos y]; exact ⟨_, rfl, fun h => by omega⟩
            · rw [if_neg c25]; exact ⟨_, rfl, fun h => by omega⟩
end
end DN
