section DD
theorem iTape_congr {μ μ' : bM} (h : iTape μ) (a : μ' 76 2 = μ 76 2) (b : μ' 2 1 = μ 2 1) (c : μ' 3 = μ 3) (d : μ' 77 = μ 77) : iTape μ' := by unfold iTape at h ⊢; rw [a, b, c, d]; exact h
theorem iSec_congr {μ μ' : bM} (h : iSec μ) (a : ∀ q, 7 ≤ q → q ≤ 12 → μ' q = μ q) (b : μ' 93 = μ 93) (c : μ' 94 = μ 94) : iSec μ' := by
  unfold iSec iSec1 at h ⊢
  rw [a 7 (by omega) (by omega), a 9 (by omega) (by omega), a 11 (by omega) (by omega), a (7 + 1) (by omega) (by omega), a (9 + 1) (by omega) (by omega), a (11 + 1) (by omega) (by omega), b, c]
  exact h
theorem iFault_congr {μ μ' : bM} (h : iFault μ) (a : μ' 46 = μ 46) (b : μ' 76 21 = μ 76 21) (c : μ' 76 22 = μ 76 22) : iFault μ' := by unfold iFault at h ⊢; rw [a, b, c]; exact h
/-- only the model's 'thrown' and the law's own cell have changed -/
theorem Inv_thr {μ μ' : bM} (h : Inv μ) (hok : bOk μ') (hq : ∀ q, q ≠ 76 → q ≠ 112 → μ' q = μ q) (hk : ∀ k, k ≠ 0 → μ' 76 k = μ 76 k) : Inv μ' := by
  obtain ⟨-, h1, h2, h3, h4⟩ := h
  refine ⟨hok, iTape_congr h1 (hk 2 (by omega)) ?_ (hq 3 (by omega) (by omega)) (hq 77 (by omega) (by omega)), iSec_congr h2 (fun q a b => hq q (by omega) (by omega)) (hq 93 (by omega) (by omega)) (hq 94 (by omega) (by omega)), iFault_congr h3 (hq 46 (by omega) (by omega)) (hk 21 (by omega)) (hk 22 (by omega)), iMain_congr (fun q m => hq q ?_ ?_) (hk 3 (by omega)) h4⟩
  · rw [hq 2 (by omega) (by omega)]
  · unfold mainIds at m; omega
  · unfold mainIds at m; omega
theorem bSt2 : bStore 2 := rfl
theorem bSt4 : bStore 4 := rfl
theorem bSt7 : bStore 7 := rfl
theorem bSt9 : bStore 9 := rfl
theorem bSt11 : bStore 11 := rfl
theorem sOk2 {μ : bM} (h : iTape μ) : sOk 2 μ := ⟨h.2.1, h.2.2.1⟩
/-- what a step of the law asks of an operation whose answer goes by 'out' -/
def Step (F1 : Option (Int × bM × Nat)) (F2 : bM → Option (Int × bM)) : Prop := ∃ (k r : Int) (μ1 μ2 : bM) (n1 : Nat), F1 = some (k, μ1, n1) ∧ n1 ≤ 1 ∧ F2 μ1 = some (r, μ2) ∧ μ2 76 0 = k ∧ (k = 0 → μ2 112 0 = r) ∧ Inv μ2
theorem goes_1 {μ : bM} : F_X11_goes 1 μ = some (1, bset μ 76 0 0) := by unfold F_X11_goes; rw [if_neg (by decide)]; exact bG_mk (by decide) rfl
theorem goes_0 {μ : bM} : F_X11_goes 0 μ = some (0, bset μ 76 0 1) := by unfold F_X11_goes; rw [if_pos rfl]; exact bG_mk (by decide) rfl
/-- the 20 bytes of a feed -/
def fdA (a b c d e : Int) (j : Nat) : Int := if j < 4 then a else if j < 8 then b else if j < 12 then c else if j < 16 then d else e
def fdB (a b c d e : Int) (j : Nat) : Int := hiB (fdA a b c d e j) (j % 4)
theorem bRem4 : ∀ j : Nat, j < 20 → bRem (j : Int) 4 = ((j % 4 : Nat) : Int) := by decide +kernel
theorem fd_join {a b c d e : Int} : ∀ j : Nat, j < 20 → (if j < 16 then (if j < 12 then (if j < 8 then (if j < 4 then hiB a j else hiB b (j - 4)) else hiB c (j - 8)) else hiB d (j - 12)) else hiB e (j - 16)) = fdB a b c d e j := by
  intro j hj
  unfold fdB fdA
  by_cases c1 : j < 4
  · simp only [show j < 16 by omega, show j < 12 by omega, show j < 8 by omega, c1, if_true, show j % 4 = j by omega]
  · by_cases c2 : j < 8
    · simp only [show j < 16 by omega, show j < 12 by omega, c2, c1, if_true, if_false, show j % 4 = j - 4 by omega]
    · by_cases c3 : j < 12
      · simp only [show j < 16 by omega, c3, c2, c1, if_true, if_false, show j % 4 = j - 8 by omega]
      · by_cases c4 : j < 16
        · simp only [c4, c3, c2, c1, if_true, if_false, show j % 4 = j - 12 by omega]
        · simp only [c4, c3, c2, c1, if_false, show j % 4 = j - 16 by omega]
theorem M_feed {μ : bM} {a b c d e : Int} (h0 : 0 ≤ μ 76 2) (hr : μ 76 2 + 20 ≤ 12000) : ∃ μ', F_X11_feed a b c d e μ = some (μ 76 2 + 20, μ') ∧ App 76 2 77 (bset μ 76 0 0) μ' 20 (fdB a b c d e) := by
  have e0 : bset μ 76 0 0 76 2 = μ 76 2 := bset_k (by decide)
  have L := App.loop (q1 := 76) (k1 := 2) (q2 := 77) (μ := bset μ 76 0 0) (F := fun z => F_X11_feed_30 a b c d e z.1 z.2) (N := 20) (f := fdB a b c d e) (fin := fun ν => (ν 76 2, ν)) (by rw [e0]; exact h0) ?_ ?_
  · obtain ⟨ν, l1, l2⟩ := L
    refine ⟨ν, ?_, l2⟩
    unfold F_X11_feed
    rw [bG_pos (by constructor <;> omega), if_neg (by omega), goes_1, bMm_some, if_pos (by decide), l1, l2.1, e0]
    rfl
  · intro j ν hj hA
    have e1 : ν 76 2 = μ 76 2 + j := by rw [hA.1, e0]
    have key : ∀ y, y = fdA a b c d e j → ∃ ν', F_X11_feed_83 a b c d e j y ν = some (.inl ((j : Int) + 1, ν')) ∧ App 76 2 77 ν ν' 1 (fun _ => fdB a b c d e j) := by
      intro y hy
      refine ⟨_, ?_, (App.one (q1 := 76) (k1 := 2) (q2 := 77) (μ := ν) (by decide) (fdB a b c d e j))⟩
      unfold F_X11_feed_83
      rw [bRem4 j hj]
      have e2 : bset ν 77 (ν 76 2).toNat (b8 (bShr y (24 - 8 * ((j % 4 : Nat) : Int)))) 76 2 = ν 76 2 := by rw [bset_q (by decide)]
      rw [bG_pos (by constructor <;> omega), bG_pos (by constructor <;> omega), bG_pos (by omega), e2, bG_pos (by constructor <;> omega), bG_pos (by constructor <;> omega), hy]
      rfl
    show ∃ ν', F_X11_feed_30 a b c d e j ν = _ ∧ _
    unfold F_X11_feed_30
    rw [if_neg (by omega)]
    unfold fdA at key
    by_cases c1 : j < 4
    · rw [if_neg (by omega)]; exact key a (by rw [if_pos c1])
    · rw [if_pos (by omega)]
      by_cases c2 : j < 8
      · rw [if_neg (by omega)]; exact key b (by rw [if_neg c1, if_pos c2])
      · rw [if_pos (by omega)]
        by_cases c3 : j < 12
        · rw [if_neg (by omega)]; exact key c (by rw [if_neg c1, if_neg c2, if_pos c3])
        · rw [if_pos (by omega)]
          by_cases c4 : j < 16
          · rw [if_neg (by omega)]; exact key d (by rw [if_neg c1, if_neg c2, if_neg c3, if_pos c4])
          · rw [if_pos (by omega)]; exact key e (by rw [if_neg c1, if_neg c2, if_neg c3, if_neg c4])
  · intro ν hA
    show F_X11_feed_30 a b c d e 20 ν = _
    unfold F_X11_feed_30
    rw [if_pos (by decide)]
theorem C_feed {μ : bM} {a b c d e : Int} (h : sOk 2 μ) (hr : μ 2 1 + 20 ≤ 12000) : ∃ μ', F_X10_feed a b c d e μ = some (.inl (μ 2 1 + 20), μ') ∧ App 2 1 3 μ μ' 20 (fdB a b c d e) := by
  have hN : ((bN (2 + 1) : Nat) : Int) = 12000 := by decide
  have h0 := h.1
  obtain ⟨ν1, a1, b1⟩ := A_hi h (by omega) a
  have s1 : ν1 2 1 = μ 2 1 + 4 := b1.1
  obtain ⟨ν2, a2, b2⟩ := A_hi (s := 2) (μ := ν1) ⟨by omega, by omega⟩ (by omega) b
  have s2 : ν2 2 1 = μ 2 1 + 8 := by rw [b2.1, s1]; omega
  obtain ⟨ν3, a3, b3⟩ := A_hi (s := 2) (μ := ν2) ⟨by omega, by omega⟩ (by omega) c
  have s3 : ν3 2 1 = μ 2 1 + 12 := by rw [b3.1, s2]; omega
  obtain ⟨ν4, a4, b4⟩ := A_hi (s := 2) (μ := ν3) ⟨by omega, by omega⟩ (by omega) d
  have s4 : ν4 2 1 = μ 2 1 + 16 := by rw [b4.1, s3]; omega
  obtain ⟨ν5, a5, b5⟩ := A_hi (s := 2) (μ := ν4) ⟨by omega, by omega⟩ (by omega) e
  have s5 : ν5 2 1 = μ 2 1 + 20 := by rw [b5.1, s4]; omega
  refine ⟨ν5, ?_, ((((b1.trans b2 h0).trans b3 h0).trans b4 h0).trans b5 h0).congr rfl (fun j hj => fd_join j hj)⟩
  have hroom : F_X6_room 2 μ = some (12000 - μ 2 1) := by
    unfold F_X6_room
    rw [hN]
    exact bG_mk (by constructor <;> omega) rfl
  unfold F_X10_feed
  rw [hroom]
  show (if 20 ≤ 12000 - μ 2 1 then _ else _) = _
  rw [if_pos (by omega), a1, bMm_some, a2, bMm_some, a3, bMm_some, a4, bMm_some, a5, bMm_some]
  show some (Sum.inl (ν5 2 1), ν5) = _
  rw [s5]
theorem st_feed {μ : bM} (h : Inv μ) {a b c d e : Int} (ha : bR a) (hb : bR b) (hc : bR c) (hd : bR d) (he : bR e) : Step (F_L_feed a b c d e μ) (F_X11_feed a b c d e) := by
  obtain ⟨hok, h1, h2, h3, h4⟩ := id h
  have hs := sOk2 h1
  have h0 := h1.2.1
  have e76 := h1.1
  by_cases cc : μ 2 1 + 20 ≤ 12000
  · obtain ⟨ν, f1, f2⟩ := C_feed (a := a) (b := b) (c := c) (d := d) (e := e) hs (by omega)
    have E1 : F_L_feed a b c d e μ = some (0, bset ν 112 0 (μ 2 1 + 20), 0) := by unfold F_L_feed; rw [f1]; rfl
    have n76 : bset ν 112 0 (μ 2 1 + 20) 76 = μ 76 := by rw [bset_q (by decide), f2.2.1 76 (by decide) (by decide)]
    obtain ⟨ρ, g1, g2⟩ := M_feed (μ := bset ν 112 0 (μ 2 1 + 20)) (a := a) (b := b) (c := c) (d := d) (e := e) (by rw [n76, e76]; exact h0) (by rw [n76, e76]; omega)
    rw [n76, e76] at g1
    have ok1 := okC 3 (r_L_feed (d := 0) a ha b hb c hc d hd e he) hok E1
    have ok2 := okP 1 (r_X11_feed (d := 0) a ha b hb c hc d hd e he) ok1 g1
    -- cells of the end
    have fr : ∀ q, q ≠ 76 → q ≠ 77 → q ≠ 112 → q ≠ 2 → q ≠ 3 → ρ q = μ q := fun q q1 q2 q3 q4 q5 => by
      rw [g2.2.1 q q1 q2, bset_q q1, bset_q q3, f2.2.1 q q4 q5]
    have fr76 : ∀ k, k ≠ 0 → k ≠ 2 → ρ 76 k = μ 76 k := fun k k0 k2 => by rw [g2.2.2.1 k k2, bset_k k0, n76]
    have t76 : ρ 76 2 = μ 2 1 + 20 := by rw [g2.1, bset_k (by decide), n76, e76]; rfl
    have r2 : ρ 2 1 = μ 2 1 + 20 := by rw [g2.2.1 2 (by decide) (by decide), bset_q (by decide), bset_q (by decide), f2.1]; rfl
    have r3 : ρ 3 = ν 3 := by rw [g2.2.1 3 (by decide) (by decide), bset_q (by decide), bset_q (by decide)]
    have o77 : ∀ k, bset (bset ν 112 0 (μ 2 1 + 20)) 76 0 0 77 k = μ 77 k := fun k => by rw [bset_q (by decide), bset_q (by decide), f2.2.1 77 (by decide) (by decide)]
    have o76 : bset (bset ν 112 0 (μ 2 1 + 20)) 76 0 0 76 2 = μ 2 1 := by rw [bset_k (by decide), n76, e76]
    refine ⟨0, μ 2 1 + 20, _, ρ, 0, E1, by omega, g1, by rw [g2.2.2.1 0 (by decide), bset_at], fun _ => by rw [g2.2.1 112 (by decide) (by decide), bset_q (by decide), bset_at], ok2, ⟨by rw [t76, r2], by omega, by omega, fun k hk => ?_⟩, iSec_congr h2 (fun q _ _ => fr q (by omega) (by omega) (by omega) (by omega) (by omega)) (fr 93 (by decide) (by decide) (by decide) (by decide) (by decide)) (fr 94 (by decide) (by decide) (by decide) (by decide) (by decide)), iFault_congr h3 (fr 46 (by decide) (by decide) (by decide) (by decide) (by decide)) (fr76 21 (by decide) (by decide)) (fr76 22 (by decide) (by decide)), iMain_congr (fun q m => ?_) (fr76 3 (by decide) (by decide)) h4⟩
    · rw [r2] at hk
      rw [r3, g2.2.2.2 k, o76, f2.2.2.2 k, o77 k]
      by_cases c2 : (μ 2 1).toNat ≤ k ∧ k < (μ 2 1).toNat + 20
      · rw [if_pos c2, if_pos c2]
      · rw [if_neg c2, if_neg c2]
        exact h1.2.2.2 k (by omega)
    · unfold mainIds at m
      exact fr q (by omega) (by omega) (by omega) (by omega) (by omega)
  · have hroom : F_X6_room 2 μ = some (12000 - μ 2 1) := by
      unfold F_X6_room
      rw [show ((bN (2 + 1) : Nat) : Int) = 12000 by decide]
      exact bG_mk (by have := h1.2.2.1; constructor <;> omega) rfl
    have E0 : F_X10_feed a b c d e μ = some (.inr "java/lang/IllegalStateException", μ) := by
      unfold F_X10_feed
      rw [hroom]
      show (if 20 ≤ 12000 - μ 2 1 then _ else _) = _
      rw [if_neg (by omega)]
    have E1 : F_L_feed a b c d e μ = some (1, μ, 1) := by unfold F_L_feed; rw [E0]; rfl
    have E2 : F_X11_feed a b c d e μ = some (0, bset μ 76 0 1) := by
      unfold F_X11_feed
      have := h1.2.2.1
      rw [bG_pos (by constructor <;> omega), if_pos (by omega), goes_0, bMm_some, if_neg (by decide)]
    have ok2 := okP 1 (r_X11_feed (d := 0) a ha b hb c hc d hd e he) hok E2
    exact ⟨1, 0, μ, _, 1, E1, by omega, E2, bset_at, fun h => absurd h (by decide), Inv_thr h ok2 (fun q q1 _ => bset_q q1) (fun k k0 => bset_k k0)⟩
end DD
