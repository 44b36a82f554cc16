section FR
/-! frames; an attribute told, by the class and by the model -/
def Fr (X : Nat → Nat → Prop) (μ μ' : bM) : Prop := ∀ q k, ¬ X q k → μ' q k = μ q k
theorem Fr_rf {X : Nat → Nat → Prop} {μ : bM} : Fr X μ μ := fun _ _ _ => rfl
theorem Fr_tr {X : Nat → Nat → Prop} {a b c : bM} (h : Fr X a b) (h' : Fr X b c) : Fr X a c := fun q k x => (h' q k x).trans (h q k x)
theorem Fr_b {X : Nat → Nat → Prop} {μ : bM} {q k : Nat} {v : Int} (h : X q k) : Fr X μ (bset μ q k v) := fun q' k' x => by
  unfold bset
  rw [if_neg (fun hh => x (by rw [hh.1, hh.2]; exact h))]
theorem Fr_mono {X Y : Nat → Nat → Prop} {μ μ' : bM} (h : Fr X μ μ') (hh : ∀ q k, X q k → Y q k) : Fr Y μ μ' := fun q k x => h q k (fun y => x (hh q k y))
def sAc (T e j q k : Nat) : Prop := q = 46 ∨ q = 30 ∧ k = 4 ∨ q = 60 ∧ k = j ∨ q = T + 10 ∧ k = e ∨ T + 11 ≤ q ∧ q ≤ T + 14 ∧ k = j
def sAm (b e j P q k : Nat) : Prop := q = 76 ∧ 37 ≤ k ∧ k ≤ 40 ∨ q = 111 ∧ k = j ∨ q = 84 ∧ k = 400 * b + e ∨ 85 ≤ q ∧ q ≤ 89 ∧ k = 3200 * b + j ∨ 90 ≤ q ∧ q ≤ 91 ∧ k = b ∨ q = 92 ∧ 90000 * b + P ≤ k ∧ k < 90000 * b + 90000
def sNm (b j q k : Nat) : Prop := q = 76 ∧ 37 ≤ k ∧ k ≤ 40 ∨ q = 111 ∧ k = j ∨ q = 87 ∧ k = 3200 * b + j
def adC (μ : bM) (T e A : Nat) (nm fo va ln : Int) : bM := bset (bset (bset (bset (bset μ (T + 11) (8 * e + A) nm) (T + 12) (8 * e + A) fo) (T + 13) (8 * e + A) va) (T + 14) (8 * e + A) ln) (T + 10) e ((A : Int) + 1)
def adM (ν : bM) (b e A : Nat) (nm fo : Int) : bM := bset (bset (bset (bset (bset (bset ν 85 (3200 * b + (8 * e + A)) nm) 86 (3200 * b + (8 * e + A)) fo) 87 (3200 * b + (8 * e + A)) 0) 88 (3200 * b + (8 * e + A)) 0) 89 (3200 * b + (8 * e + A)) 0) 84 (400 * b + e) ((A : Int) + 1)
section
variable {r : Nat → Nat → Int} {sz : Nat → Nat} {μ ν μ' ν' : bM} {T b e A p E L P : Nat} {nm fo va ln : Int}
theorem C_add2 (he : e < 400) (hA : μ (T + 10) e = A) (hA8 : A < 8) : F_X8_addAttribute T e nm fo va ln μ = some ((A : Int) + 1, adC μ T e A nm fo va ln) := by
  unfold F_X8_addAttribute adC
  rw [bG_pos (by omega), Int.toNat_natCast, hA, C_slotAt he hA8, Option.bind_some, t8]
  simp (disch := first | omega | decide) only [bG_pos, bMm_some, bXm_inl, bXm_inr, Option.bind_some, bset_q, bset_k, bset_at, if_pos, if_neg, Int.toNat_natCast, hA]
theorem M_add2 (hb : b = 0 ∨ b = 1) (h3 : ν 76 3 = (b : Int)) (he : e < 400) (hA : ν 84 (400 * b + e) = A) (hA8 : A < 8) : F_X11_add e nm fo 0 ν = some ((A : Int) + 1, adM ν b e A nm fo) := by
  unfold F_X11_add adM
  rw [M_at hb h3 (by omega), Option.bind_some, t400, hA, t3200]
  simp (disch := first | omega | decide) only [bG_pos, bMm_some, bXm_inl, bXm_inr, Option.bind_some, bset_q, bset_k, bset_at, if_pos, if_neg, Int.toNat_natCast, hA]
theorem adC_fr : Fr (sAc T e (8 * e + A)) μ (adC μ T e A nm fo va ln) := by
  unfold adC
  exact Fr_tr (Fr_tr (Fr_tr (Fr_tr (Fr_b (by unfold sAc; omega)) (Fr_b (by unfold sAc; omega))) (Fr_b (by unfold sAc; omega))) (Fr_b (by unfold sAc; omega))) (Fr_b (by unfold sAc; omega))
theorem adM_fr : Fr (sAm b e (8 * e + A) P) ν (adM ν b e A nm fo) := by
  unfold adM
  exact Fr_tr (Fr_tr (Fr_tr (Fr_tr (Fr_tr (Fr_b (by unfold sAm; omega)) (Fr_b (by unfold sAm; omega))) (Fr_b (by unfold sAm; omega))) (Fr_b (by unfold sAm; omega))) (Fr_b (by unfold sAm; omega))) (Fr_b (by unfold sAm; omega))
theorem wr_fr {k s pl : Int} : Fr (sAm b e A P) ν (wr ν k s pl) := by
  unfold wr
  exact Fr_tr (Fr_tr (Fr_b (by unfold sAm; omega)) (Fr_b (by unfold sAm; omega))) (Fr_b (by unfold sAm; omega))
theorem fl_fr {k pl : Int} : Fr (sAc T e A) μ (fl μ k pl) := by
  unfold fl
  exact Fr_tr (Fr_tr (Fr_b (by unfold sAc; omega)) (Fr_b (by unfold sAc; omega))) (Fr_b (by unfold sAc; omega))
theorem Bad1_frC (h : Bad1 μ ν μ' ν') : Fr (sAc T e A) μ μ' := fun q k x => by
  rw [h.2.1 q (by unfold sAc at x; omega)]
theorem Bad1_frM (h : Bad1 μ ν μ' ν') : Fr (sAm b e A P) ν ν' := fun q k x => by
  by_cases c : q = 76
  · rw [c, h.2.2.2 k (by unfold sAm at x; omega)]
  · rw [h.2.2.1 q c]
theorem Bad1_frX {X : Nat → Nat → Prop} (hX : ∀ k, 37 ≤ k → k ≤ 40 → X 76 k) (h : Bad1 μ ν μ' ν') : Fr X ν ν' := fun q k x => by
  by_cases c : q = 76
  · subst c
    refine h.2.2.2 k ?_
    by_cases c2 : 37 ≤ k ∧ k ≤ 40
    · exact absurd (hX k c2.1 c2.2) x
    · omega
  · rw [h.2.2.1 q c]
theorem wr_frX {X : Nat → Nat → Prop} {k s pl : Int} (hX : ∀ k, 37 ≤ k → k ≤ 40 → X 76 k) : Fr X ν (wr ν k s pl) := by
  unfold wr
  exact Fr_tr (Fr_tr (Fr_b (hX _ (by decide) (by decide))) (Fr_b (hX _ (by decide) (by decide)))) (Fr_b (hX _ (by decide) (by decide)))
theorem CSrc_fr {X : Nat → Nat → Prop} (hc : CSrc r sz μ) (h : Fr X μ μ') (hX : ∀ q k, 7 ≤ q → q ≤ 12 → ¬ X q k) : CSrc r sz μ' := CSrc_cong hc fun q h1 h2 => funext fun k => h q k (hX q k h1 h2)
theorem MSrc_fr {X : Nat → Nat → Prop} (hc : MSrc r sz ν) (h : Fr X ν ν') (hX : ∀ q k, 93 ≤ q → q ≤ 94 → ¬ X q k) : MSrc r sz ν' := MSrc_cong hc fun q h1 h2 => funext fun k => h q k (hX q k h1 h2)
theorem CSrc_A (hT : T = 31 ∨ T = 61) (hc : CSrc r sz μ) (h : Fr (sAc T e A) μ μ') : CSrc r sz μ' := CSrc_fr hc h fun q k h1 h2 => by unfold sAc; omega
theorem MSrc_A (hc : MSrc r sz ν) (h : Fr (sAm b e A P) ν ν') : MSrc r sz ν' := MSrc_fr hc h fun q k h1 h2 => by unfold sAm; omega
/-! numbers and references -/
theorem C_width2 {f : Int} {w : Nat} (h : f = 5 ∧ w = 2 ∨ f = 6 ∧ w = 4 ∨ f = 7 ∧ w = 8 ∨ f = 11 ∧ w = 1 ∨ f = 12 ∧ w = 1 ∨ f = 19 ∧ w = 4) : F_X2_width f μ = some (w : Int) := by
  rcases h with ⟨h1, h2⟩ | ⟨h1, h2⟩ | ⟨h1, h2⟩ | ⟨h1, h2⟩ | ⟨h1, h2⟩ | ⟨h1, h2⟩ <;> subst h1 h2 <;> rfl
/-- the class's way for a number, behind the reading -/
theorem C_num_end {first v : Int} (hT : T = 31 ∨ T = 61) (h30 : μ 30 0 = (T : Int)) (he : e < 400) (hA : μ (T + 10) e = A) (hA8 : A < 8) :
    (¬ (fo = 12 ∧ 1 < v) → F_X4_readNumber_130 e nm fo first v μ = some (.inl 0, adC μ T e A nm fo v 0)) ∧ (fo = 12 ∧ 1 < v → F_X4_readNumber_130 e nm fo first v μ = some (.inr ISE, fl μ 6 first)) := by
  have e154 : F_X4_readNumber_154 e nm fo v μ = some (.inl 0, adC μ T e A nm fo v 0) := by
    unfold F_X4_readNumber_154
    rw [h30, Int.toNat_natCast, C_add2 he hA hA8, bMm_some]
  unfold F_X4_readNumber_130
  rw [e154, C_refuse, bXm_inr]
  refine ⟨fun h => ?_, fun h => ?_⟩
  · by_cases c : fo = 12
    · rw [if_neg (fun hh => hh c), if_pos (bCle.mpr (by omega))]
    · rw [if_pos c]
  · rw [if_neg (fun hh => hh h.1), if_neg (fun hh => by have := bCle.mp hh; omega)]
/-- what reading a number comes to -/
def NumOk (r : Nat → Nat → Int) (T b e A p E : Nat) (nm fo : Int) (μ ν : bM) : Prop :=
  (∃ (p' : Nat) (v : Int) (ν1 : bM), p ≤ p' ∧ p' ≤ E ∧ (fo = 15 → 0 ≤ v) ∧ F_X4_readNumber e nm fo μ = some (.inl 0, adC (bset (bset μ 60 (8 * e + A) (p : Int)) 46 0 (p' : Int)) T e A nm fo v 0) ∧ (ν1 = ν ∧ ¬ isRef fo ∨ ν1 = bset ν 111 (8 * e + A) (p : Int)) ∧ F_X11_readValue ((3200 * b + (8 * e + A) : Nat) : Int) ν = some (0, bset (bset ν1 76 40 (p' : Int)) 87 (3200 * b + (8 * e + A)) v)) ∨
  (∃ μ' ν' : bM, F_X4_readNumber e nm fo μ = some (.inr ISE, μ') ∧ F_X11_readValue ((3200 * b + (8 * e + A) : Nat) : Int) ν = some (0, ν') ∧ BadP μ' ν' ∧ Fr (sAc T e (8 * e + A)) μ μ' ∧ Fr (sNm b (8 * e + A)) ν ν')
theorem J_num (hs : Src r sz) (hT : T = 31 ∨ T = 61) (hb : b = 0 ∨ b = 1) (hc : CSrc r sz μ) (hm : MSrc r sz ν) (h : Cur 0 p E μ) (h' : Mur 0 p E ν) (hp : p ≤ E) (hE : E ≤ sz 0) (h30 : μ 30 0 = (T : Int)) (h3 : ν 76 3 = (b : Int)) (he : e < 400) (hA : μ (T + 10) e = A) (hA8 : A < 8)
    (hfo : isNum fo ∨ isRef fo) (h86 : ν 86 (3200 * b + (8 * e + A)) = fo) : NumOk r T b e A p E nm fo μ ν := by
  have hz := sz_le hs (j := 0) (by omega)
  have hc1 : CSrc r sz (bset μ 60 (8 * e + A) (p : Int)) := CSrc_b hc (by omega)
  have g1 : Cur 0 p E (bset μ 60 (8 * e + A) (p : Int)) := Cur_b h (by decide)
  have fr1 : Fr (sAc T e (8 * e + A)) μ (bset μ 60 (8 * e + A) (p : Int)) := Fr_b (by unfold sAc; omega)
  have i30 : ∀ p' : Nat, bset (bset μ 60 (8 * e + A) (p : Int)) 46 0 (p' : Int) 30 0 = (T : Int) := fun p' => by simp (disch := first | omega | decide) only [bset_q, bset_k, bset_at, h30]
  have iA : ∀ p' : Nat, bset (bset μ 60 (8 * e + A) (p : Int)) 46 0 (p' : Int) (T + 10) e = (A : Int) := fun p' => by simp (disch := first | omega | decide) only [bset_q, bset_k, bset_at, hA]
  have hsl : F_X8_slotAt e (μ (T + 10) e) μ = some (((8 * e + A : Nat) : Int)) := by rw [hA, C_slotAt he hA8]; congr 1; omega
  have C0 : F_X4_readNumber e nm fo μ = (if fo = 13 then bXm (F_X1_row 1 (bset μ 60 (8 * e + A) (p : Int))) (fun w3 μ4 => F_X4_readNumber_130 e nm fo p w3 μ4) (fun e μ => some (.inr e, μ)) else if fo = 15 then bXm (F_X1_row 0 (bset μ 60 (8 * e + A) (p : Int))) (fun w6 μ7 => F_X4_readNumber_130 e nm fo p w6 μ7) (fun e μ => some (.inr e, μ)) else if fo = 21 then bXm (F_X1_smallRow (bset μ 60 (8 * e + A) (p : Int))) (fun w9 μ10 => F_X4_readNumber_130 e nm fo p w9 μ10) (fun e μ => some (.inr e, μ)) else if fo = 25 then F_X4_readNumber_130 e nm fo p 1 (bset μ 60 (8 * e + A) (p : Int)) else (F_X2_width fo (bset μ 60 (8 * e + A) (p : Int))).bind fun w12 => bXm (F_X1_lowFirst w12 (bset μ 60 (8 * e + A) (p : Int))) (fun w13 μ14 => F_X4_readNumber_130 e nm fo p w13 μ14) (fun e μ => some (.inr e, μ))) := by
    unfold F_X4_readNumber
    rw [bG_pos (by omega), Int.toNat_natCast, h30, Int.toNat_natCast, hsl, Option.bind_some, bG_pos (by omega), Int.toNat_natCast, h.2.2.1]
  have hsr : 3200 * b + (8 * e + A) < 6400 := by omega
  have D0 := fun x : Option (Int × bM) => (bG_pos (p := 0 ≤ ((3200 * b + (8 * e + A) : Nat) : Int) ∧ ((3200 * b + (8 * e + A) : Nat) : Int) < 6400) (o := x) (by omega))
  have k87 : ∀ (σ : bM) (v : Int), bset σ 87 (3200 * b + (8 * e + A)) v 87 (3200 * b + (8 * e + A)) = v := fun σ v => bset_at
  have endC : ∀ (p' : Nat) (v : Int), ¬ (fo = 12 ∧ 1 < v) → F_X4_readNumber_130 e nm fo p v (bset (bset μ 60 (8 * e + A) (p : Int)) 46 0 (p' : Int)) = some (.inl 0, adC (bset (bset μ 60 (8 * e + A) (p : Int)) 46 0 (p' : Int)) T e A nm fo v 0) := fun p' v => (C_num_end hT (i30 p') he (iA p') hA8).1
  have badM : ∀ {σ : bM} {v : Int}, Fr (sNm b (8 * e + A)) ν σ → Fr (sNm b (8 * e + A)) ν (bset σ 87 (3200 * b + (8 * e + A)) v) := fun h => Fr_tr h (Fr_b (by unfold sNm; omega))
  have badW : ∀ {σ τ : bM} {v : Int}, BadP σ τ → BadP σ (bset τ 87 (3200 * b + (8 * e + A)) v) := fun h => ⟨by simp (disch := first | omega | decide) only [bset_q, bset_k, bset_at]; exact h.1, by simp (disch := first | omega | decide) only [bset_q, bset_k, bset_at]; exact h.2.1, by simp (disch := first | omega | decide) only [bset_q, bset_k, bset_at]; exact h.2.2.1, h.2.2.2.1, h.2.2.2.2⟩
  unfold NumOk
  rw [C0]
  unfold isNum isRef at hfo
  rcases hfo with (c | c | c | c | c | c | c | c) | (c | c)
  · subst c
    have D : F_X11_readValue ((3200 * b + (8 * e + A) : Nat) : Int) ν = bMm (F_X11_fixed 2 ν) (fun w1 μ2 => bG (0 ≤ ((3200 * b + (8 * e + A) : Nat) : Int) ∧ ((3200 * b + (8 * e + A) : Nat) : Int) < 6400) (some (0, bset μ2 87 (3200 * b + (8 * e + A)) w1))) := by
      unfold F_X11_readValue
      rw [D0, Int.toNat_natCast, h86]
      simp (disch := decide) only [if_pos, if_neg]
    rw [D, C_width2 (w := 2) (by decide)]
    simp (disch := decide) only [if_pos, if_neg]
    rw [Option.bind_some]
    rcases J_low (w := 2) hs hc1 hm (by omega) g1 h' hp hE (by omega) with ⟨a1, a2, a3⟩ | ⟨μ', ν', a1, a2, a3⟩
    · left
      have a3' : F_X11_fixed 2 ν = _ := a3
      rw [a2, bXm_inl, endC _ _ (by omega), a3', bMm_some, D0]
      exact ⟨p + 2, _, ν, by omega, by omega, by omega, rfl, Or.inl ⟨rfl, by unfold isRef; omega⟩, rfl⟩
    · right
      have a2' : F_X11_fixed 2 ν = _ := a2
      rw [a1, bXm_inr, a2', bMm_some, D0]
      exact ⟨μ', _, rfl, rfl, badW a3.1, Fr_tr fr1 (Bad1_frC a3), badM (Bad1_frX (fun k k1 k2 => Or.inl ⟨rfl, k1, k2⟩) a3)⟩
  · subst c
    have D : F_X11_readValue ((3200 * b + (8 * e + A) : Nat) : Int) ν = bMm (F_X11_fixed 4 ν) (fun w1 μ2 => bG (0 ≤ ((3200 * b + (8 * e + A) : Nat) : Int) ∧ ((3200 * b + (8 * e + A) : Nat) : Int) < 6400) (some (0, bset μ2 87 (3200 * b + (8 * e + A)) w1))) := by
      unfold F_X11_readValue
      rw [D0, Int.toNat_natCast, h86]
      simp (disch := decide) only [if_pos, if_neg]
    rw [D, C_width2 (w := 4) (by decide)]
    simp (disch := decide) only [if_pos, if_neg]
    rw [Option.bind_some]
    rcases J_low (w := 4) hs hc1 hm (by omega) g1 h' hp hE (by omega) with ⟨a1, a2, a3⟩ | ⟨μ', ν', a1, a2, a3⟩
    · left
      have a3' : F_X11_fixed 4 ν = _ := a3
      rw [a2, bXm_inl, endC _ _ (by omega), a3', bMm_some, D0]
      exact ⟨p + 4, _, ν, by omega, by omega, by omega, rfl, Or.inl ⟨rfl, by unfold isRef; omega⟩, rfl⟩
    · right
      have a2' : F_X11_fixed 4 ν = _ := a2
      rw [a1, bXm_inr, a2', bMm_some, D0]
      exact ⟨μ', _, rfl, rfl, badW a3.1, Fr_tr fr1 (Bad1_frC a3), badM (Bad1_frX (fun k k1 k2 => Or.inl ⟨rfl, k1, k2⟩) a3)⟩
  · subst c
    have D : F_X11_readValue ((3200 * b + (8 * e + A) : Nat) : Int) ν = bMm (F_X11_fixed 8 ν) (fun w1 μ2 => bG (0 ≤ ((3200 * b + (8 * e + A) : Nat) : Int) ∧ ((3200 * b + (8 * e + A) : Nat) : Int) < 6400) (some (0, bset μ2 87 (3200 * b + (8 * e + A)) w1))) := by
      unfold F_X11_readValue
      rw [D0, Int.toNat_natCast, h86]
      simp (disch := decide) only [if_pos, if_neg]
    rw [D, C_width2 (w := 8) (by decide)]
    simp (disch := decide) only [if_pos, if_neg]
    rw [Option.bind_some]
    rcases J_low (w := 8) hs hc1 hm (by omega) g1 h' hp hE (by omega) with ⟨a1, a2, a3⟩ | ⟨μ', ν', a1, a2, a3⟩
    · left
      have a3' : F_X11_fixed 8 ν = _ := a3
      rw [a2, bXm_inl, endC _ _ (by omega), a3', bMm_some, D0]
      exact ⟨p + 8, _, ν, by omega, by omega, by omega, rfl, Or.inl ⟨rfl, by unfold isRef; omega⟩, rfl⟩
    · right
      have a2' : F_X11_fixed 8 ν = _ := a2
      rw [a1, bXm_inr, a2', bMm_some, D0]
      exact ⟨μ', _, rfl, rfl, badW a3.1, Fr_tr fr1 (Bad1_frC a3), badM (Bad1_frX (fun k k1 k2 => Or.inl ⟨rfl, k1, k2⟩) a3)⟩
  · subst c
    have D : F_X11_readValue ((3200 * b + (8 * e + A) : Nat) : Int) ν = bMm (F_X11_fixed 1 ν) (fun w1 μ2 => bG (0 ≤ ((3200 * b + (8 * e + A) : Nat) : Int) ∧ ((3200 * b + (8 * e + A) : Nat) : Int) < 6400) (some (0, bset μ2 87 (3200 * b + (8 * e + A)) w1))) := by
      unfold F_X11_readValue
      rw [D0, Int.toNat_natCast, h86]
      simp (disch := decide) only [if_pos, if_neg]
    rw [D, C_width2 (w := 1) (by decide)]
    simp (disch := decide) only [if_pos, if_neg]
    rw [Option.bind_some]
    rcases J_low (w := 1) hs hc1 hm (by omega) g1 h' hp hE (by omega) with ⟨a1, a2, a3⟩ | ⟨μ', ν', a1, a2, a3⟩
    · left
      have a3' : F_X11_fixed 1 ν = _ := a3
      rw [a2, bXm_inl, endC _ _ (by omega), a3', bMm_some, D0]
      exact ⟨p + 1, _, ν, by omega, by omega, by omega, rfl, Or.inl ⟨rfl, by unfold isRef; omega⟩, rfl⟩
    · right
      have a2' : F_X11_fixed 1 ν = _ := a2
      rw [a1, bXm_inr, a2', bMm_some, D0]
      exact ⟨μ', _, rfl, rfl, badW a3.1, Fr_tr fr1 (Bad1_frC a3), badM (Bad1_frX (fun k k1 k2 => Or.inl ⟨rfl, k1, k2⟩) a3)⟩
  · subst c
    have D : F_X11_readValue ((3200 * b + (8 * e + A) : Nat) : Int) ν = bMm (F_X11_fixed 1 ν) (fun w41 μ42 => bG (0 ≤ ((3200 * b + (8 * e + A) : Nat) : Int) ∧ ((3200 * b + (8 * e + A) : Nat) : Int) < 6400) (bG (0 ≤ ((3200 * b + (8 * e + A) : Nat) : Int) ∧ ((3200 * b + (8 * e + A) : Nat) : Int) < 6400) (if (bCmp ((bset μ42 87 (3200 * b + (8 * e + A)) w41) 87 (3200 * b + (8 * e + A))) 1) ≤ 0 then some (0, (bset μ42 87 (3200 * b + (8 * e + A)) w41)) else bMm (F_X11_bad 6 0 (ν 76 40) (bset μ42 87 (3200 * b + (8 * e + A)) w41)) (fun w46 μ47 => some (0, μ47))))) := by
      unfold F_X11_readValue
      rw [D0, Int.toNat_natCast, h86]
      simp (disch := decide) only [if_pos, if_neg]
    rw [D, C_width2 (w := 1) (by decide)]
    simp (disch := decide) only [if_pos, if_neg]
    rw [Option.bind_some]
    rcases J_low (w := 1) hs hc1 hm (by omega) g1 h' hp hE (by omega) with ⟨a1, a2, a3⟩ | ⟨μ', ν', a1, a2, a3⟩
    · have a3' : F_X11_fixed 1 ν = _ := a3
      rw [a2, bXm_inl, a3', bMm_some, D0, D0, k87]
      by_cases cv : 1 < sg (lowN (r 0) p 1)
      · right
        rw [(C_num_end hT (i30 _) he (iA _) hA8).2 ⟨rfl, cv⟩, if_neg (fun hh => by have := bCle.mp hh; omega), M_bad (by simp (disch := first | omega | decide) only [bset_q, bset_k, bset_at, h'.2.2.2]), bMm_some, h'.2.1]
        refine ⟨_, _, rfl, rfl, (Bad1_mk0 (μ := bset (bset μ 60 (8 * e + A) (p : Int)) 46 0 ((p + 1 : Nat) : Int)) (j := 0) (by simp (disch := first | omega | decide) only [bset_q, bset_k, bset_at, h.1]) (by omega)).1, Fr_tr fr1 (Fr_tr (Fr_b (by unfold sAc; omega)) fl_fr), Fr_tr (badM (Fr_b (by unfold sNm; omega))) (wr_frX fun k k1 k2 => Or.inl ⟨rfl, k1, k2⟩)⟩
      · left
        rw [endC _ _ (by omega), if_pos (bCle.mpr (by omega))]
        exact ⟨p + 1, _, ν, by omega, by omega, by omega, rfl, Or.inl ⟨rfl, by unfold isRef; omega⟩, rfl⟩
    · right
      have a2' : F_X11_fixed 1 ν = _ := a2
      have z0 : bCmp (0 : Int) 1 ≤ 0 := bCle.mpr (by decide)
      rw [a1, bXm_inr, a2', bMm_some, D0, D0, k87, if_pos z0]
      exact ⟨μ', _, rfl, rfl, badW a3.1, Fr_tr fr1 (Bad1_frC a3), badM (Bad1_frX (fun k k1 k2 => Or.inl ⟨rfl, k1, k2⟩) a3)⟩
  · subst c
    have D : F_X11_readValue ((3200 * b + (8 * e + A) : Nat) : Int) ν = bMm (F_X11_row 1 0 ν) (fun w1 μ2 => bG (0 ≤ ((3200 * b + (8 * e + A) : Nat) : Int) ∧ ((3200 * b + (8 * e + A) : Nat) : Int) < 6400) (some (0, bset μ2 87 (3200 * b + (8 * e + A)) w1))) := by
      unfold F_X11_readValue
      rw [D0, Int.toNat_natCast, h86]
      simp (disch := decide) only [if_pos, if_neg]
    rw [D]
    simp (disch := decide) only [if_pos, if_neg]
    rcases J_row (g := 1) hs hc1 hm (by omega) g1 h' hp hE with ⟨v, p', a1, a2, a3, a4, a5, a6⟩ | ⟨μ', ν', a1, a2, a3⟩
    · left
      rw [a5, bXm_inl, endC _ _ (by omega), a6 0, bMm_some, D0, if_neg (by omega)]
      exact ⟨p', v, ν, by omega, a2, by omega, rfl, Or.inl ⟨rfl, by unfold isRef; omega⟩, rfl⟩
    · right
      obtain ⟨v', a4⟩ := a3 0
      rw [a1, bXm_inr, a4, bMm_some, D0]
      exact ⟨μ', _, rfl, rfl, badW a2.1, Fr_tr fr1 (Bad1_frC a2), badM (Bad1_frX (fun k k1 k2 => Or.inl ⟨rfl, k1, k2⟩) a2)⟩
  · subst c
    have D : F_X11_readValue ((3200 * b + (8 * e + A) : Nat) : Int) ν = bMm (F_X11_row 0 9223372036854775807 ν) (fun w1 μ2 => bG (0 ≤ ((3200 * b + (8 * e + A) : Nat) : Int) ∧ ((3200 * b + (8 * e + A) : Nat) : Int) < 6400) (some (0, bset μ2 87 (3200 * b + (8 * e + A)) w1))) := by
      unfold F_X11_readValue
      rw [D0, Int.toNat_natCast, h86]
      simp (disch := decide) only [if_pos, if_neg]
    rw [D]
    simp (disch := decide) only [if_pos, if_neg]
    rcases J_row (g := 0) hs hc1 hm (by omega) g1 h' hp hE with ⟨v, p', a1, a2, a3, a4, a5, a6⟩ | ⟨μ', ν', a1, a2, a3⟩
    · left
      rw [a5, bXm_inl, endC _ _ (by omega), a6 9223372036854775807, bMm_some, D0, if_neg (by omega)]
      exact ⟨p', v, ν, by omega, a2, by omega, rfl, Or.inl ⟨rfl, by unfold isRef; omega⟩, rfl⟩
    · right
      obtain ⟨v', a4⟩ := a3 9223372036854775807
      rw [a1, bXm_inr, a4, bMm_some, D0]
      exact ⟨μ', _, rfl, rfl, badW a2.1, Fr_tr fr1 (Bad1_frC a2), badM (Bad1_frX (fun k k1 k2 => Or.inl ⟨rfl, k1, k2⟩) a2)⟩
  · subst c
    have D : F_X11_readValue ((3200 * b + (8 * e + A) : Nat) : Int) ν = some (0, bset ν 87 (3200 * b + (8 * e + A)) 1) := by
      unfold F_X11_readValue
      rw [D0, Int.toNat_natCast, h86]
      simp (disch := decide) only [if_pos, if_neg]
      rw [D0]
    rw [D]
    simp (disch := decide) only [if_pos, if_neg]
    left
    have x1 := endC p 1 (by omega)
    rw [bset_id (μ := bset μ 60 (8 * e + A) (p : Int)) g1.2.2.1] at x1
    refine ⟨p, 1, ν, by omega, hp, by omega, ?_, Or.inl ⟨rfl, by unfold isRef; omega⟩, ?_⟩
    · rw [x1, bset_id (μ := bset μ 60 (8 * e + A) (p : Int)) g1.2.2.1]
    · rw [bset_id h'.2.1]
  · subst c
    have hm1 : MSrc r sz (bset ν 111 (8 * e + A) (p : Int)) := MSrc_b hm (by omega)
    have g1' : Mur 0 p E (bset ν 111 (8 * e + A) (p : Int)) := Mur_b h' (Or.inl (by decide))
    have fr2 : Fr (sNm b (8 * e + A)) ν (bset ν 111 (8 * e + A) (p : Int)) := Fr_b (by unfold sNm; omega)
    have D : F_X11_readValue ((3200 * b + (8 * e + A) : Nat) : Int) ν = bMm (F_X11_fixed 4 (bset ν 111 (8 * e + A) (p : Int))) (fun w1 μ2 => bG (0 ≤ ((3200 * b + (8 * e + A) : Nat) : Int) ∧ ((3200 * b + (8 * e + A) : Nat) : Int) < 6400) (some (0, bset μ2 87 (3200 * b + (8 * e + A)) w1))) := by
      have h86' : bset ν 111 (8 * e + A) (p : Int) 86 (3200 * b + (8 * e + A)) = 19 := by rw [bset_q (by decide)]; exact h86
      have tt : (((3200 * b + (8 * e + A) : Nat) : Int) - 3200 * (b : Int)).toNat = 8 * e + A := by omega
      unfold F_X11_readValue
      rw [D0, Int.toNat_natCast, h86]
      simp (disch := decide) only [if_pos, if_neg]
      unfold F_X11_readValue_304
      rw [h3, bG_pos (by constructor <;> omega), bG_pos (by constructor <;> omega), bG_pos (by omega), D0, tt, Int.toNat_natCast, h'.2.1, if_neg (fun hh => hh h86')]
    rw [D, C_width2 (w := 4) (by decide)]
    simp (disch := decide) only [if_pos, if_neg]
    rw [Option.bind_some]
    rcases J_low (w := 4) hs hc1 hm1 (by omega) g1 g1' hp hE (by omega) with ⟨a1, a2, a3⟩ | ⟨μ', ν', a1, a2, a3⟩
    · left
      have a3' : F_X11_fixed 4 (bset ν 111 (8 * e + A) (p : Int)) = _ := a3
      rw [a2, bXm_inl, endC _ _ (by omega), a3', bMm_some, D0]
      exact ⟨p + 4, _, _, by omega, by omega, by omega, rfl, Or.inr rfl, rfl⟩
    · right
      have a2' : F_X11_fixed 4 (bset ν 111 (8 * e + A) (p : Int)) = _ := a2
      rw [a1, bXm_inr, a2', bMm_some, D0]
      exact ⟨μ', _, rfl, rfl, badW a3.1, Fr_tr fr1 (Bad1_frC a3), badM (Fr_tr fr2 (Bad1_frX (fun k k1 k2 => Or.inl ⟨rfl, k1, k2⟩) a3))⟩
  · subst c
    have hm1 : MSrc r sz (bset ν 111 (8 * e + A) (p : Int)) := MSrc_b hm (by omega)
    have g1' : Mur 0 p E (bset ν 111 (8 * e + A) (p : Int)) := Mur_b h' (Or.inl (by decide))
    have fr2 : Fr (sNm b (8 * e + A)) ν (bset ν 111 (8 * e + A) (p : Int)) := Fr_b (by unfold sNm; omega)
    have D : F_X11_readValue ((3200 * b + (8 * e + A) : Nat) : Int) ν = bMm (F_X11_row 0 2147483647 (bset ν 111 (8 * e + A) (p : Int))) (fun w1 μ2 => bG (0 ≤ ((3200 * b + (8 * e + A) : Nat) : Int) ∧ ((3200 * b + (8 * e + A) : Nat) : Int) < 6400) (some (0, bset μ2 87 (3200 * b + (8 * e + A)) w1))) := by
      have h86' : bset ν 111 (8 * e + A) (p : Int) 86 (3200 * b + (8 * e + A)) = 21 := by rw [bset_q (by decide)]; exact h86
      have tt : (((3200 * b + (8 * e + A) : Nat) : Int) - 3200 * (b : Int)).toNat = 8 * e + A := by omega
      unfold F_X11_readValue
      rw [D0, Int.toNat_natCast, h86]
      simp (disch := decide) only [if_pos, if_neg]
      unfold F_X11_readValue_304
      rw [h3, bG_pos (by constructor <;> omega), bG_pos (by constructor <;> omega), bG_pos (by omega), D0, tt, Int.toNat_natCast, h'.2.1, if_pos (by rw [h86']; decide)]
    rw [D]
    simp (disch := decide) only [if_pos, if_neg]
    rcases J_small hs hc1 hm1 (by omega) g1 g1' hp hE with ⟨v, p', a1, a2, a3, a4, a5⟩ | ⟨μ', ν', v', a1, a2, a3⟩
    · left
      rw [a4, bXm_inl, endC _ _ (by omega), a5, bMm_some, D0]
      exact ⟨p', _, _, by omega, a2, by omega, rfl, Or.inr rfl, rfl⟩
    · right
      rw [a1, bXm_inr, a2, bMm_some, D0]
      exact ⟨μ', _, rfl, rfl, badW a3.1, Fr_tr fr1 (Bad1_frC a3), badM (Fr_tr fr2 (Bad1_frX (fun k k1 k2 => Or.inl ⟨rfl, k1, k2⟩) a3))⟩
end
end FR
