section DE
theorem bCmp_lt {a b : Int} : bCmp a b < 0 ↔ a < b := by
  unfold bCmp
  by_cases c1 : b < a
  · rw [if_pos c1]; omega
  · rw [if_neg c1]
    by_cases c2 : a = b
    · rw [if_pos c2]; omega
    · rw [if_neg c2]; omega
theorem bCmp_gt {a b : Int} : 0 < bCmp a b ↔ b < a := by
  unfold bCmp
  by_cases c1 : b < a
  · rw [if_pos c1]; omega
  · rw [if_neg c1]
    by_cases c2 : a = b
    · rw [if_pos c2]; omega
    · rw [if_neg c2]; omega
theorem bCmp_eq {a b : Int} : bCmp a b = 0 ↔ a = b := by
  unfold bCmp
  by_cases c1 : b < a
  · rw [if_pos c1]; omega
  · rw [if_neg c1]
    by_cases c2 : a = b
    · rw [if_pos c2]; omega
    · rw [if_neg c2]; omega
def b01 (p : Prop) [Decidable p] : Int := if p then 1 else 0
theorem b01_1 {p : Prop} [Decidable p] (h : p) : b01 p = 1 := if_pos h
theorem b01_0 {p : Prop} [Decidable p] (h : ¬ p) : b01 p = 0 := if_neg h
theorem M_in {v lo hi : Int} {μ : bM} : F_X11_in v lo hi μ = some (b01 (lo ≤ v ∧ v ≤ hi)) := by
  unfold F_X11_in b01
  by_cases c1 : v < lo
  · rw [if_pos (bCmp_lt.mpr c1), if_neg (by omega)]
  · rw [if_neg (fun h => c1 (bCmp_lt.mp h))]
    by_cases c2 : hi < v
    · rw [if_pos (bCmp_gt.mpr c2), if_neg (by omega)]
    · rw [if_neg (fun h => c2 (bCmp_gt.mp h)), if_pos (by omega)]
theorem M_goes {p : Prop} [Decidable p] {μ : bM} : F_X11_goes (b01 p) μ = some (b01 p, bset μ 76 0 (1 - b01 p)) := by
  by_cases c : p
  · rw [b01_1 c]; exact goes_1
  · rw [b01_0 c]; exact goes_0
/-- as Step, without an answer -/
def StepV (F1 : Option (Int × bM × Nat)) (F2 : bM → Option (Int × bM)) : Prop := ∃ (k r : Int) (μ1 μ2 : bM) (n1 : Nat), F1 = some (k, μ1, n1) ∧ n1 ≤ 1 ∧ F2 μ1 = some (r, μ2) ∧ μ2 76 0 = k ∧ Inv μ2
theorem st_end {μ : bM} (h : Inv μ) {v : Int} (hv : bR v) : StepV (F_L_end v μ) (F_X11_end v) := by
  obtain ⟨hok, h1, h2, h3, h4⟩ := id h
  have h0 := h1.2.1
  have e76 := h1.1
  by_cases c : 0 ≤ v ∧ v ≤ μ 2 1
  · have E0 : F_X10_end v μ = some (.inl 0, bset μ 2 1 v) := by
      unfold F_X10_end
      rw [if_neg (by omega)]
      show (if v ≤ μ 2 1 then _ else _) = _
      rw [if_pos c.2, S_cut c.1 c.2, bMm_some]
    have E1 : F_L_end v μ = some (0, bset μ 2 1 v, 0) := by unfold F_L_end; rw [E0]; rfl
    have E2 : F_X11_end v (bset μ 2 1 v) = some (0, bset (bset (bset μ 2 1 v) 76 0 0) 76 2 v) := by
      unfold F_X11_end
      rw [M_in, bset_q (show 76 ≠ 2 by decide), e76, b01_1 (by omega)]
      rw [Option.bind_some, goes_1, bMm_some, if_neg (by decide)]
    have ok1 := okC 2 (r_L_end (d := 0) v hv) hok E1
    have ok2 := okP 1 (r_X11_end (d := 0) v hv) ok1 E2
    have fr : ∀ q, q ≠ 76 → q ≠ 2 → bset (bset (bset μ 2 1 v) 76 0 0) 76 2 v q = μ q := fun q q1 q2 => by rw [bset_q q1, bset_q q1, bset_q q2]
    have fr76 : ∀ k, k ≠ 0 → k ≠ 2 → bset (bset (bset μ 2 1 v) 76 0 0) 76 2 v 76 k = μ 76 k := fun k k0 k2 => by rw [bset_k k2, bset_k k0, bset_q (by decide)]
    have r2 : bset (bset (bset μ 2 1 v) 76 0 0) 76 2 v 2 1 = v := by rw [bset_q (by decide), bset_q (by decide), bset_at]
    refine ⟨0, 0, _, _, 0, E1, by omega, E2, by rw [bset_k (by decide), bset_at], ok2, ⟨by rw [bset_at, r2], by omega, by have := h1.2.2.1; omega, fun k hk => ?_⟩, iSec_congr h2 (fun q _ _ => fr q (by omega) (by omega)) (fr 93 (by decide) (by decide)) (fr 94 (by decide) (by decide)), iFault_congr h3 (fr 46 (by decide) (by decide)) (fr76 21 (by decide) (by decide)) (fr76 22 (by decide) (by decide)), iMain_congr (fun q m => ?_) (fr76 3 (by decide) (by decide)) h4⟩
    · rw [r2] at hk
      rw [fr 77 (by decide) (by decide), fr 3 (by decide) (by decide)]
      exact h1.2.2.2 k (by omega)
    · unfold mainIds at m
      exact fr q (by omega) (by omega)
  · have E0 : F_X10_end v μ = some (.inr "java/lang/IllegalArgumentException", μ) := by
      unfold F_X10_end
      by_cases c1 : v < 0
      · rw [if_pos c1]
      · rw [if_neg c1]
        show (if v ≤ μ 2 1 then _ else _) = _
        rw [if_neg (by omega)]
    have E1 : F_L_end v μ = some (1, μ, 1) := by unfold F_L_end; rw [E0]; rfl
    have E2 : F_X11_end v μ = some (0, bset μ 76 0 1) := by
      unfold F_X11_end
      rw [M_in, e76, b01_0 (by omega)]
      rw [Option.bind_some, goes_0, bMm_some, if_pos rfl, bset_id rfl]
    have ok2 := okP 1 (r_X11_end (d := 0) v hv) hok E2
    exact ⟨1, 0, μ, _, 1, E1, by omega, E2, bset_at, Inv_thr h ok2 (fun q q1 _ => bset_q q1) (fun k k0 => bset_k k0)⟩
/-- an operation that only tells: the class answers w or throws, the model's answer is the same, only 'thrown' and 'out' change -/
theorem St_tell {μ : bM} (h : Inv μ) {F1 : Option (Int × bM × Nat)} {F2 : bM → Option (Int × bM)} {i j d1 d2 : Nat} {lv1 lv2 : List (Nat × Value)} (hr1 : bD 0 (fun _ => 0) d1 i 0 lv1 [] μ (F1.bind bCc)) {w : Int} (hF1 : F1 = some (0, bset μ 112 0 w, 0)) (hr2 : bD 0 (fun _ => 0) d2 j 0 lv2 [] (bset μ 112 0 w) ((F2 (bset μ 112 0 w)).bind bMc))
    (hF2 : F2 (bset μ 112 0 w) = some (w, bset (bset μ 112 0 w) 76 0 0)) : Step F1 F2 := by
  have ok1 := okC d1 hr1 h.1 hF1
  have ok2 := okP d2 hr2 ok1 hF2
  exact ⟨0, w, _, _, 0, hF1, by omega, hF2, bset_at, fun _ => by rw [bset_q (by decide), bset_at], Inv_thr h ok2 (fun q q1 q2 => by rw [bset_q q1, bset_q q2]) (fun k k0 => by rw [bset_k k0, bset_q (by decide)])⟩
theorem St_thr {μ : bM} (h : Inv μ) {F1 : Option (Int × bM × Nat)} {F2 : bM → Option (Int × bM)} {j d2 : Nat} {lv2 : List (Nat × Value)} {k r : Int} (hk : k ≠ 0) (hF1 : F1 = some (k, μ, 1)) (hr2 : bD 0 (fun _ => 0) d2 j 0 lv2 [] μ ((F2 μ).bind bMc)) (hF2 : F2 μ = some (r, bset μ 76 0 k)) : Step F1 F2 := by
  have ok2 := okP d2 hr2 h.1 hF2
  exact ⟨k, r, μ, _, 1, hF1, by omega, hF2, bset_at, fun h => absurd h hk, Inv_thr h ok2 (fun q q1 _ => bset_q q1) (fun k k0 => bset_k k0)⟩
theorem st_fault {μ : bM} (h : Inv μ) {v : Int} (hv : bR v) : Step (F_L_fault v μ) (F_X11_fault v) := by
  obtain ⟨hok, h1, h2, h3, h4⟩ := id h
  by_cases c : 0 ≤ v ∧ v ≤ 1
  · have hv01 : v = 0 ∨ v = 1 := by omega
    rcases hv01 with rfl | rfl
    · refine St_tell h (i := 231) (d1 := 1) (j := 205) (d2 := 1) (w := μ 46 2) (r_L_fault (d := 0) 0 hv) rfl (r_X11_fault (d := 0) 0 hv) ?_
      unfold F_X11_fault
      rw [M_in, b01_1 (by decide)]
      rw [Option.bind_some, goes_1, bMm_some]
      show some (bset (bset μ 112 0 (μ 46 2)) 76 0 0 76 21, _) = _
      rw [bset_k (by decide), bset_q (by decide), h3.1]
    · refine St_tell h (i := 231) (d1 := 1) (j := 205) (d2 := 1) (w := μ 46 3) (r_L_fault (d := 0) 1 hv) rfl (r_X11_fault (d := 0) 1 hv) ?_
      unfold F_X11_fault
      rw [M_in, b01_1 (by decide)]
      rw [Option.bind_some, goes_1, bMm_some]
      show some (bset (bset μ 112 0 (μ 46 3)) 76 0 0 76 22, _) = _
      rw [bset_k (by decide), bset_q (by decide), h3.2]
  · refine St_thr h (j := 205) (d2 := 1) (k := 1) (r := 0) (by decide) ?_ (r_X11_fault (d := 0) v hv) ?_
    · have E0 : F_X10_fault v μ = some (.inr "java/lang/IndexOutOfBoundsException", μ) := by
        unfold F_X10_fault
        by_cases c1 : v < 0
        · rw [if_pos c1]
        · rw [if_neg c1, if_neg (by omega)]
      unfold F_L_fault
      rw [E0]
      rfl
    · unfold F_X11_fault
      rw [M_in, b01_0 (by omega)]
      rw [Option.bind_some, goes_0, bMm_some]
      rfl
end DE
