section FP
/-! a shape, from its tag on -/
def FSc (S : Nat) (μ μ' : bM) : Prop := (∀ q, q ≠ 46 → q < 50 ∨ 54 < q → μ' q = μ q) ∧ (∀ k, k < S → μ' 50 k = μ 50 k ∧ μ' 51 k = μ 51 k ∧ μ' 52 k = μ 52 k) ∧ ∀ k, k < 8 * S → μ' 53 k = μ 53 k ∧ μ' 54 k = μ 54 k
def FSm (S : Nat) (ν ν' : bM) : Prop := (∀ q, q ≠ 76 → q < 104 ∨ 109 < q → ν' q = ν q) ∧ (∀ k, k < S → ν' 104 k = ν 104 k ∧ ν' 105 k = ν 105 k ∧ ν' 106 k = ν 106 k ∧ ν' 107 k = ν 107 k) ∧ (∀ k, k < 8 * S → ν' 108 k = ν 108 k ∧ ν' 109 k = ν 109 k) ∧ ∀ k, k < 37 ∨ 43 < k → ν' 76 k = ν 76 k
def SameW (w w' : bM) : Prop := w' 76 37 = w 76 37 ∧ w' 76 38 = w 76 38 ∧ w' 76 39 = w 76 39
theorem SameW_tr {a b c : bM} (h : SameW a b) (h' : SameW b c) : SameW a c := ⟨h'.1.trans h.1, h'.2.1.trans h.2.1, h'.2.2.trans h.2.2⟩
theorem BadP_same {μ w w' : bM} (h : BadP μ w) (hs : SameW w w') : BadP μ w' := ⟨hs.1.trans h.1, hs.2.1.trans h.2.1, hs.2.2.trans h.2.2.1, h.2.2.2.1, h.2.2.2.2⟩
section
variable {r : Nat → Nat → Int} {sz : Nat → Nat} {μ ν w : bM} {S A p E : Nat}
theorem FSc_tr {μ1 μ2 : bM} (h1 : FSc S μ μ1) (h2 : FSc S μ1 μ2) : FSc S μ μ2 :=
  ⟨fun q a b => (h2.1 q a b).trans (h1.1 q a b), fun k hk => ⟨(h2.2.1 k hk).1.trans (h1.2.1 k hk).1, (h2.2.1 k hk).2.1.trans (h1.2.1 k hk).2.1, (h2.2.1 k hk).2.2.trans (h1.2.1 k hk).2.2⟩, fun k hk => ⟨(h2.2.2 k hk).1.trans (h1.2.2 k hk).1, (h2.2.2 k hk).2.trans (h1.2.2 k hk).2⟩⟩
theorem FSm_tr {ν1 ν2 : bM} (h1 : FSm S ν ν1) (h2 : FSm S ν1 ν2) : FSm S ν ν2 :=
  ⟨fun q a b => (h2.1 q a b).trans (h1.1 q a b), fun k hk => ⟨(h2.2.1 k hk).1.trans (h1.2.1 k hk).1, (h2.2.1 k hk).2.1.trans (h1.2.1 k hk).2.1, (h2.2.1 k hk).2.2.1.trans (h1.2.1 k hk).2.2.1, (h2.2.1 k hk).2.2.2.trans (h1.2.1 k hk).2.2.2⟩, fun k hk => ⟨(h2.2.2.1 k hk).1.trans (h1.2.2.1 k hk).1, (h2.2.2.1 k hk).2.trans (h1.2.2.1 k hk).2⟩, fun k hk => (h2.2.2.2 k hk).trans (h1.2.2.2 k hk)⟩
theorem FSc_FPc {μ' : bM} (h : FPc S μ μ') : FSc S μ μ' := ⟨fun q a b => h.1 q a (by omega) (by omega) (by omega), fun k hk => ⟨by rw [h.1 50 (by decide) (by decide) (by decide) (by decide)], by rw [h.1 51 (by decide) (by decide) (by decide) (by decide)], h.2.1 k (by omega)⟩, h.2.2⟩
theorem FSm_FPm {ν' : bM} (h : FPm S ν ν') : FSm S ν ν' := ⟨fun q a b => h.1 q a (by omega) (by omega) (by omega), fun k hk => ⟨by rw [h.1 104 (by decide) (by decide) (by decide) (by decide)], by rw [h.1 105 (by decide) (by decide) (by decide) (by decide)], by rw [h.1 106 (by decide) (by decide) (by decide) (by decide)], h.2.1 k (by omega)⟩, h.2.2.1, h.2.2.2⟩
theorem FSc_b {q k : Nat} {v : Int} (hq : 50 ≤ q ∧ q ≤ 52 ∧ S ≤ k ∨ q = 46) : FSc S μ (bset μ q k v) := by
  refine ⟨fun q' a b => ?_, fun k' hk => ⟨?_, ?_, ?_⟩, fun k' hk => ⟨?_, ?_⟩⟩
  · rw [bset_q (by omega)]
  · by_cases c : q = 50
    · rw [bset_k (by omega)]
    · rw [bset_q (by omega)]
  · by_cases c : q = 51
    · rw [bset_k (by omega)]
    · rw [bset_q (by omega)]
  · by_cases c : q = 52
    · rw [bset_k (by omega)]
    · rw [bset_q (by omega)]
  · rw [bset_q (by omega)]
  · rw [bset_q (by omega)]
theorem FSm_b {q k : Nat} {v : Int} (hq : 104 ≤ q ∧ q ≤ 107 ∧ S ≤ k ∨ q = 76 ∧ 37 ≤ k ∧ k ≤ 43) : FSm S ν (bset ν q k v) := by
  refine ⟨fun q' a b => ?_, fun k' hk => ⟨?_, ?_, ?_, ?_⟩, fun k' hk => ⟨?_, ?_⟩, fun k' hk => ?_⟩
  · rw [bset_q (by omega)]
  · by_cases c : q = 104
    · rw [bset_k (by omega)]
    · rw [bset_q (by omega)]
  · by_cases c : q = 105
    · rw [bset_k (by omega)]
    · rw [bset_q (by omega)]
  · by_cases c : q = 106
    · rw [bset_k (by omega)]
    · rw [bset_q (by omega)]
  · by_cases c : q = 107
    · rw [bset_k (by omega)]
    · rw [bset_q (by omega)]
  · rw [bset_q (by omega)]
  · rw [bset_q (by omega)]
  · by_cases c : q = 76
    · rw [bset_k (by omega)]
    · rw [bset_q (by omega)]
theorem FSm_wr {k s pl : Int} : FSm S ν (wr ν k s pl) := by
  unfold wr
  exact FSm_tr (FSm_tr (FSm_b (by omega)) (FSm_b (by omega))) (FSm_b (by omega))
theorem FSc_fl {k pl : Int} : FSc S μ (fl μ k pl) := by
  unfold fl
  exact FSc_tr (FSc_tr (FSc_b (by omega)) (FSc_b (by omega))) (FSc_b (by omega))
theorem FSc_bad {μ' ν' : bM} (h : Bad1 μ ν μ' ν') : FSc S μ μ' := FSc_FPc (FPc_bad h)
theorem FSm_bad {μ' ν' : bM} (h : Bad1 μ ν μ' ν') : FSm S ν ν' := FSm_FPm (FPm_bad h)
theorem M180_w {v : Int} (hw : w 76 37 ≠ -1) (h43 : w 76 43 = (S : Int)) (hS : S < 200) : ∃ w', F_X11_readShape_180 v w = some (1, w') ∧ SameW w w' ∧ FSm S w w' := by
  have L : ∀ x : Int, bLoop (fun z : Int × bM => F_X11_readShape_213 z.1 z.2) (1, bset (bset w 106 S x) 107 S 0) = some (1, bset (bset (bset w 106 S x) 107 S 0) 76 43 ((S : Int) + 1)) := by
    intro x
    refine bLoop_done ?_
    show F_X11_readShape_213 1 (bset (bset w 106 S x) 107 S 0) = _
    have e37 : bset (bset w 106 S x) 107 S 0 76 37 = w 76 37 := by simp (disch := first | omega | decide) only [bset_q, bset_k, bset_at]
    have e43 : bset (bset w 106 S x) 107 S 0 76 43 = (S : Int) := by simp (disch := first | omega | decide) only [bset_q, bset_k, bset_at, h43]
    unfold F_X11_readShape_213
    rw [if_neg (by decide), e37, if_pos hw, e43, bG_pos (by constructor <;> omega)]
  have E : ∀ x : Int, bset w 106 S x 76 43 = (S : Int) := fun x => by simp (disch := first | omega | decide) only [bset_q, bset_k, bset_at, h43]
  have X : ∀ x : Int, SameW w (bset (bset (bset w 106 S x) 107 S 0) 76 43 ((S : Int) + 1)) ∧ FSm S w (bset (bset (bset w 106 S x) 107 S 0) 76 43 ((S : Int) + 1)) := fun x => by
    refine ⟨⟨by simp (disch := first | omega | decide) only [bset_q, bset_k, bset_at], by simp (disch := first | omega | decide) only [bset_q, bset_k, bset_at], by simp (disch := first | omega | decide) only [bset_q, bset_k, bset_at]⟩, FSm_tr (FSm_tr (FSm_b (by omega)) (FSm_b (by omega))) (FSm_b (by omega))⟩
  unfold F_X11_readShape_180
  rw [h43, Int.toNat_natCast, E, E, Int.toNat_natCast, bG_pos (by omega), bG_pos (by omega), bG_pos (by omega), bG_pos (by omega), L, L]
  by_cases c : v = 1
  · rw [if_neg (fun hh => hh c)]
    exact ⟨_, rfl, X 1⟩
  · rw [if_pos c]
    exact ⟨_, rfl, X 0⟩
theorem M136_w {v : Int} (hw : w 76 37 ≠ -1) (h43 : w 76 43 = (S : Int)) (hS : S < 200) : ∃ w', F_X11_readShape_136 v w = some (1, w') ∧ SameW w w' ∧ FSm S w w' := by
  have e37 : bset w 105 S v 76 37 = w 76 37 := by simp (disch := first | omega | decide) only [bset_q, bset_k, bset_at]
  have e43 : bset w 105 S v 76 43 = (S : Int) := by simp (disch := first | omega | decide) only [bset_q, bset_k, bset_at, h43]
  obtain ⟨w', a1, a2, a3⟩ := M180_w (w := bset w 105 S v) (v := b32 0) (by rw [e37]; exact hw) e43 hS
  refine ⟨w', ?_, SameW_tr ⟨e37, by simp (disch := first | omega | decide) only [bset_q, bset_k, bset_at], by simp (disch := first | omega | decide) only [bset_q, bset_k, bset_at]⟩ a2, FSm_tr (FSm_b (by omega)) a3⟩
  unfold F_X11_readShape_136
  rw [h43, Int.toNat_natCast, bG_pos (by omega), M_fixed_w (by rw [e37]; exact hw), bMm_some, e37, if_pos hw, a1]
theorem low1 {f : Nat → Int} : sg (lowN f p 1) = (oc f p : Int) := by
  have e : lowN f p 1 = oc f p := by
    show 0 + oc f (p + 0) * 2 ^ (8 * 0) = _
    simp
  have := oc_lt (f := f) (i := p)
  rw [e, sg_id (by omega)]
/-- the shape S as both have it -/
def Row1 (S : Nat) (μ ν : bM) : Prop := (μ 50 S = ν 105 S ∧ 1 ≤ ν 105 S ∧ ν 105 S ≤ 16383) ∧ (μ 51 S = ν 106 S ∧ (ν 106 S = 0 ∨ ν 106 S = 1)) ∧ ∃ A : Nat, A ≤ 8 ∧ μ 52 S = (A : Int) ∧ ν 107 S = (A : Int) ∧ rowsP S A μ ν
theorem J_kids {c : Nat} (hs : Src r sz) (hE : E ≤ sz 1) (hp : p ≤ E) (hc : CSrc r sz μ) (hm : MSrc r sz ν) (h : Cur 1 p E μ) (h' : Mur 1 p E ν) (hS : S < 200) (h43 : ν 76 43 = (S : Int)) (c1 : c ≤ 1) :
    (∃ (p' A' : Nat) (μ' ν' : bM), p < p' ∧ p' ≤ E ∧ F_X7_readShape_58 S c μ = some (.inl 0, μ') ∧ F_X11_readShape_180 c ν = some (1, bset ν' 76 43 ((S : Int) + 1)) ∧ Cur 1 p' E μ' ∧ Mur 1 p' E ν' ∧ PR S A' μ' ν' ∧ (μ' 51 S = ν' 106 S ∧ (ν' 106 S = 0 ∨ ν' 106 S = 1)) ∧ (μ' 50 = μ 50 ∧ ν' 104 = ν 104 ∧ ν' 105 = ν 105) ∧ FSc S μ μ' ∧ FSm S ν ν') ∨
    (∃ μ' ν' : bM, F_X7_readShape_58 S c μ = some (.inr ISE, μ') ∧ F_X11_readShape_180 c ν = some (1, ν') ∧ BadP μ' ν' ∧ FSc S μ μ' ∧ FSm S ν ν') := by
  have hCe : F_X7_readShape_58 S c μ = bLoop (fun z : Int × Int × bM => F_X7_readShape_89 S z.1 z.2.1 z.2.2) (1, ((0 : Nat) : Int), bset (bset μ 51 S c) 52 S 0) := by
    unfold F_X7_readShape_58 F_X7_readShape_75
    by_cases x : c = 1
    · subst x
      rw [if_neg (fun hh => hh (bC0.mpr rfl)), bG_pos (by omega), bG_pos (by decide), bG_pos (by omega), Int.toNat_natCast]
      rfl
    · have : c = 0 := by omega
      subst this
      rw [if_pos (fun hh => by have := bC0.mp hh; omega), bG_pos (by omega), bG_pos (by decide), bG_pos (by omega), Int.toNat_natCast]
      rfl
  have hMe : F_X11_readShape_180 c ν = bLoop (fun z : Int × bM => F_X11_readShape_213 z.1 z.2) (1, bset (bset ν 106 S c) 107 S 0) := by
    have E' : ∀ x : Int, bset ν 106 S x 76 43 = (S : Int) := fun x => by simp (disch := first | omega | decide) only [bset_q, bset_k, bset_at, h43]
    unfold F_X11_readShape_180
    rw [h43, Int.toNat_natCast, E', E', Int.toNat_natCast, bG_pos (by omega), bG_pos (by omega), bG_pos (by omega), bG_pos (by omega)]
    by_cases x : c = 1
    · subst x
      rw [if_neg (by decide)]
      rfl
    · have : c = 0 := by omega
      subst this
      rw [if_pos (by decide)]
      rfl
  have hP : PR S 0 (bset (bset μ 51 S c) 52 S 0) (bset (bset ν 106 S c) 107 S 0) := ⟨hS, by omega, by simp (disch := first | omega | decide) only [bset_q, bset_k, bset_at]; rfl, by simp (disch := first | omega | decide) only [bset_q, bset_k, bset_at]; rfl, by simp (disch := first | omega | decide) only [bset_q, bset_k, bset_at, h43], fun k hk => by omega⟩
  have f1 : FSc S μ (bset (bset μ 51 S c) 52 S 0) := FSc_tr (FSc_b (by omega)) (FSc_b (by omega))
  have f2 : FSm S ν (bset (bset ν 106 S c) 107 S 0) := FSm_tr (FSm_b (by omega)) (FSm_b (by omega))
  rw [hCe, hMe]
  rcases J_pairs hs hE 8 0 p _ _ (by omega) hp (CSrc_b (CSrc_b hc (by omega)) (by omega)) (MSrc_b (MSrc_b hm (by omega)) (by omega)) (Cur_b (Cur_b h (by decide)) (by decide)) (Mur_b (Mur_b h' (Or.inl (by decide))) (Or.inl (by decide))) hP with ⟨p', A', μ', ν', a1, a2, a3, a4, a5, a6, a7, a8, a9⟩ | ⟨μ', ν', a1, a2, a3, a4, a5⟩
  · left
    have k51 : μ' 51 S = (c : Int) := by rw [a8.1 51 (by decide) (by decide) (by decide) (by decide)]; simp (disch := first | omega | decide) only [bset_q, bset_k, bset_at]
    have k106 : ν' 106 S = (c : Int) := by rw [a9.1 106 (by decide) (by decide) (by decide) (by decide)]; simp (disch := first | omega | decide) only [bset_q, bset_k, bset_at]
    refine ⟨p', A', μ', ν', a1, a2, a3, a4, a5, a6, a7, ⟨by rw [k51, k106], by rw [k106]; omega⟩, ⟨?_, ?_, ?_⟩, FSc_tr f1 (FSc_FPc a8), FSm_tr f2 (FSm_FPm a9)⟩
    · rw [a8.1 50 (by decide) (by decide) (by decide) (by decide)]; simp (disch := first | omega | decide) only [bset_q, bset_k, bset_at]
    · rw [a9.1 104 (by decide) (by decide) (by decide) (by decide)]; simp (disch := first | omega | decide) only [bset_q, bset_k, bset_at]
    · rw [a9.1 105 (by decide) (by decide) (by decide) (by decide)]; simp (disch := first | omega | decide) only [bset_q, bset_k, bset_at]
  · right
    exact ⟨μ', ν', a1, a2, a3, FSc_tr f1 (FSc_FPc a4), FSm_tr f2 (FSm_FPm a5)⟩
theorem J_shp {num : Nat} (hs : Src r sz) (hE : E ≤ sz 1) (hp : p ≤ E) (hc : CSrc r sz μ) (hm : MSrc r sz ν) (h : Cur 1 p E μ) (h' : Mur 1 p E ν) (hS : S < 200) (h43 : ν 76 43 = (S : Int)) :
    (∃ (p' : Nat) (μ' ν' : bM), p < p' ∧ p' ≤ E ∧ F_X7_readShape S μ = some (.inl 0, μ') ∧ F_X11_readShape_79 num ν = some (1, bset ν' 76 43 ((S : Int) + 1)) ∧ Cur 1 p' E μ' ∧ Mur 1 p' E ν' ∧ Row1 S μ' ν' ∧ ν' 104 S = (num : Int) ∧ FSc S μ μ' ∧ FSm S ν ν') ∨
    (∃ (μ' ν' : bM) (v' : Int), F_X7_readShape S μ = some (.inr ISE, μ') ∧ F_X11_readShape_79 num ν = some (v', ν') ∧ BadP μ' ν' ∧ FSc S μ μ' ∧ FSm S ν ν') := by
  have hz := sz_le hs (j := 1) (by omega)
  have e40 : bset ν 104 S num 76 40 = (p : Int) := by simp (disch := first | omega | decide) only [bset_q, bset_k, bset_at, h'.2.1]
  have g0' : Mur 1 p E (bset ν 104 S num) := Mur_b h' (Or.inl (by decide))
  have hm0 : MSrc r sz (bset ν 104 S num) := MSrc_b hm (by omega)
  have i43 : bset ν 104 S num 76 43 = (S : Int) := by simp (disch := first | omega | decide) only [bset_q, bset_k, bset_at, h43]
  have fm0 : FSm S ν (bset ν 104 S num) := FSm_b (by omega)
  unfold F_X7_readShape F_X11_readShape_79
  rw [if_pos (c := ν 76 37 = -1) h'.2.2.2, h43, Int.toNat_natCast, bG_pos (by omega), e40, h.2.2.1]
  rcases J_small hs hc hm0 (by omega) h g0' hp hE with ⟨t, p1, q1, q2, q3, q4, q5⟩ | ⟨μ', ν', v', q1, q2, q3⟩
  rotate_left
  · right
    obtain ⟨w', a1, a2, a3⟩ := M136_w (w := ν') (v := b32 v') (BadP_ne q3.1) (by rw [q3.2.2.2 43 (by omega)]; exact i43) hS
    rw [q1, bXm_inr, q2, bMm_some, if_pos (c := ¬ ν' 76 37 = -1) (BadP_ne q3.1), a1]
    exact ⟨μ', w', 1, rfl, rfl, BadP_same q3.1 a2, FSc_bad q3, FSm_tr fm0 (FSm_tr (FSm_bad q3) a3)⟩
  · have k37 : bset (bset ν 104 S num) 76 40 (p1 : Int) 76 37 = -1 := by simp (disch := first | omega | decide) only [bset_q, bset_k, bset_at, h'.2.2.2]
    have k50 : bset (bset μ 46 0 (p1 : Int)) 50 S t 50 S = (t : Int) := by simp (disch := first | omega | decide) only [bset_q, bset_k, bset_at]
    rw [q4, bXm_inl, q5, bMm_some, if_neg (c := ¬ bset (bset ν 104 S num) 76 40 (p1 : Int) 76 37 = -1) (fun hh => hh k37), bG_pos (by omega), bG_pos (by omega), k50, C_isCode, M_isName, b32_n q3, Option.bind_some, Option.bind_some]
    have fc1 : FSc S μ (bset (bset μ 46 0 (p1 : Int)) 50 S t) := FSc_tr (FSc_b (by omega)) (FSc_b (by omega))
    have fm1 : FSm S ν (bset (bset ν 104 S num) 76 40 (p1 : Int)) := FSm_tr fm0 (FSm_b (by omega))
    have g1 : Cur 1 p1 E (bset (bset μ 46 0 (p1 : Int)) 50 S t) := Cur_b (Cur_at h) (by decide)
    have l43 : bset (bset ν 104 S num) 76 40 (p1 : Int) 76 43 = (S : Int) := by simp (disch := first | omega | decide) only [bset_q, bset_k, bset_at, h43]
    by_cases ct : 1 ≤ (t : Int) ∧ (t : Int) ≤ 16383
    rotate_left
    · right
      rw [show b01 (1 ≤ (t : Int) ∧ (t : Int) ≤ 16383) = 0 from if_neg ct, if_neg (by decide), if_neg (by decide), C_refuse, bXm_inr, M_bad k37, bMm_some]
      obtain ⟨w', a1, a2, a3⟩ := M136_w (w := wr (bset (bset ν 104 S num) 76 40 (p1 : Int)) 3 1 p) (v := t) (by rw [wr_37]; omega) (by unfold wr; simp (disch := first | omega | decide) only [bset_q, bset_k, bset_at, h43]) hS
      rw [a1]
      exact ⟨_, w', 1, rfl, rfl, BadP_same (Bad1_mk0 (j := 1) g1.1 (by omega)).1 a2, FSc_tr fc1 FSc_fl, FSm_tr fm1 (FSm_tr FSm_wr a3)⟩
    · rw [show b01 (1 ≤ (t : Int) ∧ (t : Int) ≤ 16383) = 1 from if_pos ct, if_pos (by decide), if_pos (by decide)]
      have hc1 : CSrc r sz (bset (bset μ 46 0 (p1 : Int)) 50 S t) := CSrc_b (CSrc_b hc (by omega)) (by omega)
      have hm1 : MSrc r sz (bset (bset (bset ν 104 S num) 76 40 (p1 : Int)) 105 S t) := MSrc_b (MSrc_b hm0 (by omega)) (by omega)
      have g1' : Mur 1 p1 E (bset (bset (bset ν 104 S num) 76 40 (p1 : Int)) 105 S t) := Mur_b (Mur_at g0') (Or.inl (by decide))
      have fm2 : FSm S ν (bset (bset (bset ν 104 S num) 76 40 (p1 : Int)) 105 S t) := FSm_tr fm1 (FSm_b (by omega))
      have l43' : bset (bset (bset ν 104 S num) 76 40 (p1 : Int)) 105 S t 76 43 = (S : Int) := by simp (disch := first | omega | decide) only [bset_q, bset_k, bset_at, h43]
      unfold F_X7_readShape_33 F_X11_readShape_136
      rw [l43, Int.toNat_natCast, bG_pos (by omega), g1.2.2.1, g1'.2.1]
      rcases J_low (w := 1) hs hc1 hm1 (by omega) g1 g1' q2 hE (by omega) with ⟨b1, b2, b3⟩ | ⟨μ', ν', b1, b2, b3⟩
      rotate_left
      · right
        obtain ⟨w', a1, a2, a3⟩ := M180_w (w := ν') (v := b32 0) (BadP_ne b3.1) (by rw [b3.2.2.2 43 (by omega)]; exact l43') hS
        have b1' : F_X1_lowFirst 1 (bset (bset μ 46 0 (p1 : Int)) 50 S t) = _ := b1
        have b2' : F_X11_fixed 1 (bset (bset (bset ν 104 S num) 76 40 (p1 : Int)) 105 S t) = _ := b2
        rw [b1', bXm_inr, b2', bMm_some, if_pos (c := ¬ ν' 76 37 = -1) (BadP_ne b3.1), a1]
        exact ⟨μ', w', 1, rfl, rfl, BadP_same b3.1 a2, FSc_tr fc1 (FSc_bad b3), FSm_tr fm2 (FSm_tr (FSm_bad b3) a3)⟩
      · have b2' : F_X1_lowFirst 1 (bset (bset μ 46 0 (p1 : Int)) 50 S t) = _ := b2
        have b3' : F_X11_fixed 1 (bset (bset (bset ν 104 S num) 76 40 (p1 : Int)) 105 S t) = _ := b3
        have ho := oc_lt (f := r 1) (i := p1)
        have g2 := Cur_at (p' := p1 + 1) g1
        have g2' := Mur_at (p' := p1 + 1) g1'
        have hc2 : CSrc r sz (bset (bset (bset μ 46 0 (p1 : Int)) 50 S t) 46 0 ((p1 + 1 : Nat) : Int)) := CSrc_b hc1 (by omega)
        have hm2 : MSrc r sz (bset (bset (bset (bset ν 104 S num) 76 40 (p1 : Int)) 105 S t) 76 40 ((p1 + 1 : Nat) : Int)) := MSrc_b hm1 (by omega)
        have fc3 : FSc S μ (bset (bset (bset μ 46 0 (p1 : Int)) 50 S t) 46 0 ((p1 + 1 : Nat) : Int)) := FSc_tr fc1 (FSc_b (by omega))
        have fm3 : FSm S ν (bset (bset (bset (bset ν 104 S num) 76 40 (p1 : Int)) 105 S t) 76 40 ((p1 + 1 : Nat) : Int)) := FSm_tr fm2 (FSm_b (by omega))
        have n43 : bset (bset (bset (bset ν 104 S num) 76 40 (p1 : Int)) 105 S t) 76 40 ((p1 + 1 : Nat) : Int) 76 43 = (S : Int) := by simp (disch := first | omega | decide) only [bset_q, bset_k, bset_at, h43]
        have n105 : bset (bset (bset (bset ν 104 S num) 76 40 (p1 : Int)) 105 S t) 76 40 ((p1 + 1 : Nat) : Int) 105 S = (t : Int) := by simp (disch := first | omega | decide) only [bset_q, bset_k, bset_at]
        have n104 : bset (bset (bset (bset ν 104 S num) 76 40 (p1 : Int)) 105 S t) 76 40 ((p1 + 1 : Nat) : Int) 104 S = (num : Int) := by simp (disch := first | omega | decide) only [bset_q, bset_k, bset_at]
        have n50 : bset (bset (bset μ 46 0 (p1 : Int)) 50 S t) 46 0 ((p1 + 1 : Nat) : Int) 50 S = (t : Int) := by simp (disch := first | omega | decide) only [bset_q, bset_k, bset_at]
        rw [b2', bXm_inl, b3', bMm_some, low1, b32_n (by omega), if_neg (c := ¬ bset (bset (bset (bset ν 104 S num) 76 40 (p1 : Int)) 105 S t) 76 40 ((p1 + 1 : Nat) : Int) 76 37 = -1) (fun hh => hh g2'.2.2.2)]
        by_cases co : oc (r 1) p1 ≤ 1
        · rw [if_pos (c := bCmp _ _ ≤ 0) (bCle.mpr (by omega)), if_pos (c := ((oc (r 1) p1 : Nat) : Int) ≤ 1) (by omega)]
          rcases J_kids (c := oc (r 1) p1) hs hE (by omega) hc2 hm2 g2 g2' hS n43 co with ⟨p', A', μ', ν', d1, d2, d3, d4, d5, d6, d7, d8, ⟨d9, d10, d11⟩, d12, d13⟩ | ⟨μ', ν', d1, d2, d3, d4, d5⟩
          · left
            refine ⟨p', μ', ν', by omega, d2, d3, d4, d5, d6, ⟨?_, d8, A', d7.2.1, d7.2.2.1, d7.2.2.2.1, d7.2.2.2.2.2⟩, ?_, FSc_tr fc3 d12, FSm_tr fm3 d13⟩
            · rw [d9, d11, n50, n105]
              exact ⟨rfl, ct⟩
            · rw [d10, n104]
          · right
            exact ⟨μ', ν', 1, d1, d2, d3, FSc_tr fc3 d4, FSm_tr fm3 d5⟩
        · right
          rw [if_neg (c := bCmp _ _ ≤ 0) (fun hh => by have := bCle.mp hh; omega), if_neg (c := ((oc (r 1) p1 : Nat) : Int) ≤ 1) (by omega), C_refuse, bXm_inr, M_bad g2'.2.2.2, bMm_some]
          obtain ⟨w', a1, a2, a3⟩ := M180_w (w := wr (bset (bset (bset (bset ν 104 S num) 76 40 (p1 : Int)) 105 S t) 76 40 ((p1 + 1 : Nat) : Int)) 3 1 p1) (v := oc (r 1) p1) (by rw [wr_37]; omega) (by unfold wr; simp (disch := first | omega | decide) only [bset_q, bset_k, bset_at, h43]) hS
          rw [a1]
          exact ⟨_, w', 1, rfl, rfl, BadP_same (Bad1_mk0 (j := 1) g2.1 (by omega)).1 a2, FSc_tr fc3 FSc_fl, FSm_tr fm3 (FSm_tr FSm_wr a3)⟩
end
end FP
