section FO
/-! a shape -/
/-- what reading a shape leaves -/
def FPc (S : Nat) (μ μ' : bM) : Prop := (∀ q, q ≠ 46 → q ≠ 52 → q ≠ 53 → q ≠ 54 → μ' q = μ q) ∧ (∀ k, k ≠ S → μ' 52 k = μ 52 k) ∧ ∀ k, k < 8 * S → μ' 53 k = μ 53 k ∧ μ' 54 k = μ 54 k
def FPm (S : Nat) (ν ν' : bM) : Prop := (∀ q, q ≠ 76 → q ≠ 107 → q ≠ 108 → q ≠ 109 → ν' q = ν q) ∧ (∀ k, k ≠ S → ν' 107 k = ν 107 k) ∧ (∀ k, k < 8 * S → ν' 108 k = ν 108 k ∧ ν' 109 k = ν 109 k) ∧ ∀ k, k < 37 ∨ 43 < k → ν' 76 k = ν 76 k
section
variable {r : Nat → Nat → Int} {sz : Nat → Nat} {μ ν : bM} {S A p E : Nat}
theorem FPc_tr {μ1 μ2 : bM} (h1 : FPc S μ μ1) (h2 : FPc S μ1 μ2) : FPc S μ μ2 :=
  ⟨fun q a b c d => (h2.1 q a b c d).trans (h1.1 q a b c d), fun k hk => (h2.2.1 k hk).trans (h1.2.1 k hk), fun k hk => ⟨(h2.2.2 k hk).1.trans (h1.2.2 k hk).1, (h2.2.2 k hk).2.trans (h1.2.2 k hk).2⟩⟩
theorem FPm_tr {ν1 ν2 : bM} (h1 : FPm S ν ν1) (h2 : FPm S ν1 ν2) : FPm S ν ν2 :=
  ⟨fun q a b c d => (h2.1 q a b c d).trans (h1.1 q a b c d), fun k hk => (h2.2.1 k hk).trans (h1.2.1 k hk), fun k hk => ⟨(h2.2.2.1 k hk).1.trans (h1.2.2.1 k hk).1, (h2.2.2.1 k hk).2.trans (h1.2.2.1 k hk).2⟩, fun k hk => (h2.2.2.2 k hk).trans (h1.2.2.2 k hk)⟩
theorem FPc_at {p' : Nat} : FPc S μ (bset μ 46 0 (p' : Int)) := ⟨fun q a _ _ _ => by rw [bset_q a], fun k _ => by simp (disch := first | omega | decide) only [bset_q, bset_k, bset_at], fun k _ => ⟨by simp (disch := first | omega | decide) only [bset_q, bset_k, bset_at], by simp (disch := first | omega | decide) only [bset_q, bset_k, bset_at]⟩⟩
theorem FPm_at {p' : Nat} : FPm S ν (bset ν 76 40 (p' : Int)) := ⟨fun q a _ _ _ => by rw [bset_q a], fun k _ => by simp (disch := first | omega | decide) only [bset_q, bset_k, bset_at], fun k _ => ⟨by simp (disch := first | omega | decide) only [bset_q, bset_k, bset_at], by simp (disch := first | omega | decide) only [bset_q, bset_k, bset_at]⟩, fun k hk => by simp (disch := first | omega | decide) only [bset_q, bset_k, bset_at]⟩
theorem FPm_43 {v : Int} : FPm S ν (bset ν 76 43 v) := ⟨fun q a _ _ _ => by rw [bset_q a], fun k _ => by simp (disch := first | omega | decide) only [bset_q, bset_k, bset_at], fun k _ => ⟨by simp (disch := first | omega | decide) only [bset_q, bset_k, bset_at], by simp (disch := first | omega | decide) only [bset_q, bset_k, bset_at]⟩, fun k hk => by simp (disch := first | omega | decide) only [bset_q, bset_k, bset_at]⟩
theorem FPc_bad {μ' ν' : bM} (h : Bad1 μ ν μ' ν') : FPc S μ μ' := ⟨fun q a _ _ _ => h.2.1 q a, fun k _ => by rw [h.2.1 52 (by decide)], fun k _ => ⟨by rw [h.2.1 53 (by decide)], by rw [h.2.1 54 (by decide)]⟩⟩
theorem FPm_bad {μ' ν' : bM} (h : Bad1 μ ν μ' ν') : FPm S ν ν' := ⟨fun q a _ _ _ => h.2.2.1 q a, fun k _ => by rw [h.2.2.1 107 (by decide)], fun k _ => ⟨by rw [h.2.2.1 108 (by decide)], by rw [h.2.2.1 109 (by decide)]⟩, fun k hk => h.2.2.2 k (by omega)⟩
theorem pc_step {p' : Nat} {nm fo : Int} (hP : PR S A μ ν) (hA : A < 8) (hnm : 1 ≤ nm ∧ nm ≤ 16383) (hfo : okF fo) (hne : ∀ i, i < A → ν 108 (8 * S + i) ≠ nm) (h : Cur 1 p E μ) (h' : Mur 1 p E ν) :
    PR S (A + 1) (pcC μ S A p' nm fo) (pcM ν S A p' nm fo) ∧ Cur 1 p' E (pcC μ S A p' nm fo) ∧ Mur 1 p' E (pcM ν S A p' nm fo) ∧ FPc S μ (pcC μ S A p' nm fo) ∧ FPm S ν (pcM ν S A p' nm fo) := by
  obtain ⟨hS, hA8, a1, a2, a3, hR⟩ := hP
  unfold pcC pcM
  refine ⟨⟨hS, by omega, ?_, ?_, ?_, fun k hk => ?_⟩, Cur_b (Cur_b (Cur_b (Cur_at h) (by decide)) (by decide)) (by decide), Mur_b (Mur_b (Mur_b (Mur_at h') (Or.inl (by decide))) (Or.inl (by decide))) (Or.inl (by decide)), ⟨fun q b1 b2 b3 b4 => ?_, fun k hk => ?_, fun k hk => ⟨?_, ?_⟩⟩, ⟨fun q b1 b2 b3 b4 => ?_, fun k hk => ?_, fun k hk => ⟨?_, ?_⟩, fun k hk => ?_⟩⟩
  · simp (disch := first | omega | decide) only [bset_q, bset_k, bset_at]
    omega
  · simp (disch := first | omega | decide) only [bset_q, bset_k, bset_at]
    omega
  · simp (disch := first | omega | decide) only [bset_q, bset_k, bset_at, a3]
  · by_cases c : k = A
    · subst c
      refine ⟨⟨by simp (disch := first | omega | decide) only [bset_q, bset_k, bset_at], by simp (disch := first | omega | decide) only [bset_q, bset_k, bset_at]⟩, by simp (disch := first | omega | decide) only [bset_q, bset_k, bset_at]; exact hnm, by simp (disch := first | omega | decide) only [bset_q, bset_k, bset_at]; exact hfo, fun i hi => ?_⟩
      simp (disch := first | omega | decide) only [bset_q, bset_k, bset_at]
      exact hne i hi
    · obtain ⟨⟨x1, x2⟩, x3, x4, x5⟩ := hR k (by omega)
      refine ⟨⟨by simp (disch := first | omega | decide) only [bset_q, bset_k, bset_at, x1], by simp (disch := first | omega | decide) only [bset_q, bset_k, bset_at, x2]⟩, by simp (disch := first | omega | decide) only [bset_q, bset_k, bset_at]; exact x3, by simp (disch := first | omega | decide) only [bset_q, bset_k, bset_at]; exact x4, fun i hi => ?_⟩
      simp (disch := first | omega | decide) only [bset_q, bset_k, bset_at]
      exact x5 i hi
  · simp (disch := first | omega | decide) only [bset_q, bset_k, bset_at]
  · simp (disch := first | omega | decide) only [bset_q, bset_k, bset_at]
  · simp (disch := first | omega | decide) only [bset_q, bset_k, bset_at]
  · simp (disch := first | omega | decide) only [bset_q, bset_k, bset_at]
  · simp (disch := first | omega | decide) only [bset_q, bset_k, bset_at]
  · simp (disch := first | omega | decide) only [bset_q, bset_k, bset_at]
  · simp (disch := first | omega | decide) only [bset_q, bset_k, bset_at]
  · simp (disch := first | omega | decide) only [bset_q, bset_k, bset_at]
  · simp (disch := first | omega | decide) only [bset_q, bset_k, bset_at]
theorem J_pairs1 (hs : Src r sz) (hE : E ≤ sz 1) (hp : p ≤ E) (hc : CSrc r sz μ) (hm : MSrc r sz ν) (h : Cur 1 p E μ) (h' : Mur 1 p E ν) (hP : PR S A μ ν)
    (ih : ∀ (q : Nat) (μ1 ν1 : bM), A < 8 → q ≤ E → CSrc r sz μ1 → MSrc r sz ν1 → Cur 1 q E μ1 → Mur 1 q E ν1 → PR S (A + 1) μ1 ν1 →
    (∃ (p' A' : Nat) (μ' ν' : bM), q < p' ∧ p' ≤ E ∧ bLoop (fun z : Int × Int × bM => F_X7_readShape_89 S z.1 z.2.1 z.2.2) (1, ((A + 1 : Nat) : Int), μ1) = some (.inl 0, μ') ∧ bLoop (fun z : Int × bM => F_X11_readShape_213 z.1 z.2) (1, ν1) = some (1, bset ν' 76 43 ((S : Int) + 1)) ∧ Cur 1 p' E μ' ∧ Mur 1 p' E ν' ∧ PR S A' μ' ν' ∧ FPc S μ1 μ' ∧ FPm S ν1 ν') ∨
    (∃ μ' ν' : bM, bLoop (fun z : Int × Int × bM => F_X7_readShape_89 S z.1 z.2.1 z.2.2) (1, ((A + 1 : Nat) : Int), μ1) = some (.inr ISE, μ') ∧ bLoop (fun z : Int × bM => F_X11_readShape_213 z.1 z.2) (1, ν1) = some (1, ν') ∧ BadP μ' ν' ∧ FPc S μ1 μ' ∧ FPm S ν1 ν')) :
    (∃ (p' A' : Nat) (μ' ν' : bM), p < p' ∧ p' ≤ E ∧ bLoop (fun z : Int × Int × bM => F_X7_readShape_89 S z.1 z.2.1 z.2.2) (1, (A : Int), μ) = some (.inl 0, μ') ∧ bLoop (fun z : Int × bM => F_X11_readShape_213 z.1 z.2) (1, ν) = some (1, bset ν' 76 43 ((S : Int) + 1)) ∧ Cur 1 p' E μ' ∧ Mur 1 p' E ν' ∧ PR S A' μ' ν' ∧ FPc S μ μ' ∧ FPm S ν ν') ∨
    (∃ μ' ν' : bM, bLoop (fun z : Int × Int × bM => F_X7_readShape_89 S z.1 z.2.1 z.2.2) (1, (A : Int), μ) = some (.inr ISE, μ') ∧ bLoop (fun z : Int × bM => F_X11_readShape_213 z.1 z.2) (1, ν) = some (1, ν') ∧ BadP μ' ν' ∧ FPc S μ μ' ∧ FPm S ν ν') := by
  have hS := hP.1
  have hA8 := hP.2.1
  have h43 : ν 76 43 = (S : Int) := hP.2.2.2.2.1
  have h37 : ν 76 37 = -1 := h'.2.2.2
  have C1 : ∀ (σ : bM), (fun z : Int × Int × bM => F_X7_readShape_89 S z.1 z.2.1 z.2.2) (1, (A : Int), σ) = bXm (F_X7_readAttribute S σ) (fun w3 μ4 => bG (bR ((A : Int) + 1)) (some (.inl (w3, ((A : Int) + 1), μ4)))) (fun e μ => some (.inr (.inr e, μ))) := by
    intro σ
    show F_X7_readShape_89 S 1 (A : Int) σ = _
    unfold F_X7_readShape_89
    rw [if_neg (by decide), if_neg (by omega)]
  have M1 : (fun z : Int × bM => F_X11_readShape_213 z.1 z.2) (1, ν) = bMm (F_X11_readPair ν) (fun w7 μ8 => some (.inl (w7, μ8))) := by
    show F_X11_readShape_213 1 ν = _
    unfold F_X11_readShape_213
    rw [if_neg (by decide), if_neg (c := ¬ ν 76 37 = -1) (fun hh => hh h37)]
  have M0 : ∀ σ : bM, σ 76 43 = (S : Int) → (fun z : Int × bM => F_X11_readShape_213 z.1 z.2) (0, σ) = some (.inr (1, bset σ 76 43 ((S : Int) + 1))) := by
    intro σ hσ
    show F_X11_readShape_213 0 σ = _
    unfold F_X11_readShape_213
    rw [if_pos rfl, hσ, bG_pos (by constructor <;> omega)]
  rcases J_pair hs hc hm h h' hp hE hP with ⟨p', nm, fo, q1, q2, q3, q4, q5, q6, q7, q8⟩ | ⟨p', q1, q2, q3, q4⟩ | ⟨μ', ν', q1, q2, q3⟩
  · obtain ⟨z1, z2, z3, z4, z5⟩ := pc_step (p' := p') hP q3 q4 q5 q6 h h'
    have c1 := C1 μ
    rw [q7, bXm_inl, bG_pos (by constructor <;> omega)] at c1
    have m1 := M1
    rw [q8, bMm_some] at m1
    have e1 := bLoop_step (f := fun z : Int × Int × bM => F_X7_readShape_89 S z.1 z.2.1 z.2.2) c1
    have e2 := bLoop_step (f := fun z : Int × bM => F_X11_readShape_213 z.1 z.2) m1
    have hc1 : CSrc r sz (pcC μ S A p' nm fo) := CSrc_cong hc fun q x1 x2 => z4.1 q (by omega) (by omega) (by omega) (by omega)
    have hm1 : MSrc r sz (pcM ν S A p' nm fo) := MSrc_cong hm fun q x1 x2 => z5.1 q (by omega) (by omega) (by omega) (by omega)
    rcases ih p' _ _ q3 q2 hc1 hm1 z2 z3 z1 with ⟨p2, A', μ', ν', w1, w2, w3, w4, w5, w6, w7, w8, w9⟩ | ⟨μ', ν', w1, w2, w3, w4, w5⟩
    · exact Or.inl ⟨p2, A', μ', ν', by omega, w2, e1.trans w3, e2.trans w4, w5, w6, w7, FPc_tr z4 w8, FPm_tr z5 w9⟩
    · exact Or.inr ⟨μ', ν', e1.trans w1, e2.trans w2, w3, FPc_tr z4 w4, FPm_tr z5 w5⟩
  · left
    have c1 := C1 μ
    rw [q3, bXm_inl, bG_pos (by constructor <;> omega)] at c1
    have m1 := M1
    rw [q4, bMm_some] at m1
    have k43 : bset ν 76 40 (p' : Int) 76 43 = (S : Int) := by simp (disch := first | omega | decide) only [bset_q, bset_k, bset_at, h43]
    refine ⟨p', A, bset μ 46 0 (p' : Int), bset ν 76 40 (p' : Int), q1, q2, (bLoop_step c1).trans (bLoop_done ?_), (bLoop_step m1).trans (bLoop_done (M0 _ k43)), Cur_at h, Mur_at h', ?_, FPc_at, FPm_at⟩
    · show F_X7_readShape_89 S 0 _ _ = _
      unfold F_X7_readShape_89
      rw [if_pos rfl]
    · obtain ⟨b1, b2, b3, b4, b5, b6⟩ := hP
      refine ⟨b1, b2, by simp (disch := first | omega | decide) only [bset_q, bset_k, bset_at, b3], by simp (disch := first | omega | decide) only [bset_q, bset_k, bset_at, b4], k43, fun k hk => ?_⟩
      obtain ⟨⟨x1, x2⟩, x3, x4, x5⟩ := b6 k hk
      refine ⟨⟨by simp (disch := first | omega | decide) only [bset_q, bset_k, bset_at, x1], by simp (disch := first | omega | decide) only [bset_q, bset_k, bset_at, x2]⟩, by simp (disch := first | omega | decide) only [bset_q, bset_k, bset_at]; exact x3, by simp (disch := first | omega | decide) only [bset_q, bset_k, bset_at]; exact x4, fun i hi => ?_⟩
      simp (disch := first | omega | decide) only [bset_q, bset_k, bset_at]
      exact x5 i hi
  · right
    have c1 := C1 μ
    rw [q1, bXm_inr] at c1
    have m1 := M1
    rw [q2, bMm_some] at m1
    have k43 : ν' 76 43 = (S : Int) := by rw [q3.2.2.2 43 (by omega)]; exact h43
    refine ⟨μ', bset ν' 76 43 ((S : Int) + 1), bLoop_done c1, (bLoop_step m1).trans (bLoop_done (M0 _ k43)), ?_, FPc_bad q3, FPm_tr (FPm_bad q3) FPm_43⟩
    obtain ⟨x1, x2, x3, x4, x5⟩ := q3.1
    exact ⟨by simp (disch := first | omega | decide) only [bset_q, bset_k, bset_at]; exact x1, by simp (disch := first | omega | decide) only [bset_q, bset_k, bset_at]; exact x2, by simp (disch := first | omega | decide) only [bset_q, bset_k, bset_at]; exact x3, x4, x5⟩
theorem J_pairs (hs : Src r sz) (hE : E ≤ sz 1) : ∀ (d A p : Nat) (μ ν : bM), A + d = 8 → p ≤ E → CSrc r sz μ → MSrc r sz ν → Cur 1 p E μ → Mur 1 p E ν → PR S A μ ν →
    (∃ (p' A' : Nat) (μ' ν' : bM), p < p' ∧ p' ≤ E ∧ bLoop (fun z : Int × Int × bM => F_X7_readShape_89 S z.1 z.2.1 z.2.2) (1, (A : Int), μ) = some (.inl 0, μ') ∧ bLoop (fun z : Int × bM => F_X11_readShape_213 z.1 z.2) (1, ν) = some (1, bset ν' 76 43 ((S : Int) + 1)) ∧ Cur 1 p' E μ' ∧ Mur 1 p' E ν' ∧ PR S A' μ' ν' ∧ FPc S μ μ' ∧ FPm S ν ν') ∨
    (∃ μ' ν' : bM, bLoop (fun z : Int × Int × bM => F_X7_readShape_89 S z.1 z.2.1 z.2.2) (1, (A : Int), μ) = some (.inr ISE, μ') ∧ bLoop (fun z : Int × bM => F_X11_readShape_213 z.1 z.2) (1, ν) = some (1, ν') ∧ BadP μ' ν' ∧ FPc S μ μ' ∧ FPm S ν ν') := by
  intro d
  induction d with
  | zero =>
    intro A p μ ν hd hp hc hm h h' hP
    exact J_pairs1 hs hE hp hc hm h h' hP (fun p' μ' ν' hlt => by omega)
  | succ d ih =>
    intro A p μ ν hd hp hc hm h h' hP
    exact J_pairs1 hs hE hp hc hm h h' hP (fun p' μ' ν' hlt a1 a2 a3 a4 a5 a6 => ih (A + 1) p' μ' ν' (by omega) a1 a2 a3 a4 a5 a6)
end
end FO
