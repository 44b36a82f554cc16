section FN
/-! a name and a form of a shape -/
def okF (f : Int) : Prop := isNum f ∨ isLet f ∨ isRef f
theorem loop_no {ρ : Type} {F : Int × bM → Option ((Int × bM) ⊕ ρ)} {ν : bM} {f : Nat → Int} {v : Int} {A : Nat} {x : ρ} (h1 : ∀ k : Nat, k < A → f k ≠ v → F ((k : Int), ν) = some (.inl ((k : Int) + 1, ν)))
    (h3 : F ((A : Int), ν) = some (.inr x)) (hn : ∀ i, i < A → f i ≠ v) : bLoop F (0, ν) = some x := by
  have W : ∀ d k : Nat, k + d = A → bLoop F ((k : Int), ν) = some x := by
    intro d
    induction d with
    | zero => intro k hk; rw [show k = A by omega]; exact bLoop_done h3
    | succ d ih => intro k hk; exact (bLoop_step (h1 k (by omega) (hn k (by omega)))).trans (ih (k + 1) (by omega))
  exact W A 0 (by omega)
theorem loop_yes {ρ : Type} {F : Int × bM → Option ((Int × bM) ⊕ ρ)} {ν w : bM} {f : Nat → Int} {v : Int} {A : Nat} {y : ρ} (h1 : ∀ k : Nat, k < A → F ((k : Int), ν) = some (.inl ((k : Int) + 1, if f k = v then w else ν))) (h2 : ∀ k : Nat, k < A → F ((k : Int), w) = some (.inl ((k : Int) + 1, w)))
    (h4 : F ((A : Int), w) = some (.inr y)) (hn : ∃ i, i < A ∧ f i = v) : bLoop F (0, ν) = some y := by
  have W : ∀ d k : Nat, k + d = A → bLoop F ((k : Int), w) = some y := by
    intro d
    induction d with
    | zero => intro k hk; rw [show k = A by omega]; exact bLoop_done h4
    | succ d ih => intro k hk; exact (bLoop_step (h2 k (by omega))).trans (ih (k + 1) (by omega))
  obtain ⟨i, hi, hv⟩ := hn
  have L : ∀ d k : Nat, k + d = i → bLoop F ((k : Int), ν) = some y := by
    intro d
    induction d with
    | zero =>
      intro k hk
      have e := h1 k (by omega)
      rw [show k = i by omega, if_pos hv] at e
      rw [show k = i by omega]
      exact (bLoop_step e).trans (W (A - (i + 1)) (i + 1) (by omega))
    | succ d ih =>
      intro k hk
      have e := h1 k (by omega)
      by_cases c : f k = v
      · rw [if_pos c] at e
        exact (bLoop_step e).trans (W (A - (k + 1)) (k + 1) (by omega))
      · rw [if_neg c] at e
        exact (bLoop_step e).trans (ih (k + 1) (by omega))
  exact L i 0 (by omega)
section
variable {r : Nat → Nat → Int} {sz : Nat → Nat} {μ ν : bM} {S A p E : Nat}
theorem b32_n {v : Nat} (hv : v ≤ 2147483647) : b32 (v : Int) = v := by unfold b32; omega
theorem C_isForm {v : Int} : (okF v → F_X2_isForm v μ = some 1) ∧ (¬ okF v → F_X2_isForm v μ = some 0) := by
  unfold F_X2_isForm okF
  refine ⟨fun h => ?_, fun h => ?_⟩
  · by_cases c1 : isNum v
    · rw [C_isNumber.1 c1]; rfl
    · rw [C_isNumber.2 c1, Option.bind_some, if_neg (by decide)]
      by_cases c2 : isLet v
      · rw [C_isLetters.1 c2]; rfl
      · rw [C_isLetters.2 c2, Option.bind_some, if_neg (by decide), C_isReference.1 (h.elim (fun x => absurd x c1) fun x => x.elim (fun y => absurd y c2) id)]; rfl
  · rw [C_isNumber.2 (fun c => h (Or.inl c)), Option.bind_some, if_neg (by decide), C_isLetters.2 (fun c => h (Or.inr (Or.inl c))), Option.bind_some, if_neg (by decide), C_isReference.2 (fun c => h (Or.inr (Or.inr c)))]
    rfl
theorem M_isForm {v : Nat} (hv : v ≤ 2147483647) : (okF v → F_X11_isForm v ν = some 1) ∧ (¬ okF v → F_X11_isForm v ν = some 0) := by
  have e32 : b32 (v : Int) = v := by unfold b32; omega
  unfold F_X11_isForm
  rw [M_in, e32, Option.bind_some, M_isText]
  refine ⟨fun h => ?_, fun h => ?_⟩
  · have hb : b01 (0 ≤ (v : Int) ∧ (v : Int) ≤ 30) = 1 := by
      unfold b01
      refine if_pos ⟨by omega, ?_⟩
      unfold okF isNum isLet isRef at h
      omega
    rw [hb, if_neg (by decide)]
    by_cases c1 : isNum v
    · rw [M_isNumber.1 c1]; rfl
    · rw [M_isNumber.2 c1, Option.bind_some, if_neg (by decide), Option.bind_some]
      by_cases c2 : (v : Int) = 8 ∨ (v : Int) = 14
      · rw [if_pos c2, if_pos (by decide)]
      · rw [if_neg c2, if_neg (by decide)]
        by_cases c3 : (v : Int) = 10
        · rw [if_pos (bC0.mpr c3)]
        · rw [if_neg (fun hh => c3 (bC0.mp hh)), M_isReference.1 (h.elim (fun x => absurd x c1) fun x => x.elim (fun y => by unfold isLet at y; omega) id)]; rfl
  · by_cases cb : 0 ≤ (v : Int) ∧ (v : Int) ≤ 30
    · have c2 : ¬ ((v : Int) = 8 ∨ (v : Int) = 14) := fun hh => h (Or.inr (Or.inl (by unfold isLet; omega)))
      have c3 : ¬ ((v : Int) = 10) := fun hh => h (Or.inr (Or.inl (by unfold isLet; omega)))
      rw [show b01 (0 ≤ (v : Int) ∧ (v : Int) ≤ 30) = 1 from if_pos cb, if_neg (by decide), M_isNumber.2 (fun c => h (Or.inl c)), Option.bind_some, if_neg (by decide), Option.bind_some, if_neg c2, if_neg (by decide), if_neg (fun hh => c3 (bC0.mp hh)), M_isReference.2 (fun c => h (Or.inr (Or.inr c)))]
      rfl
    · rw [show b01 (0 ≤ (v : Int) ∧ (v : Int) ≤ 30) = 0 from if_neg cb, if_pos rfl]
theorem C_may (hS : S < 200) (hA : μ 52 S = (A : Int)) (hA8 : A ≤ 8) {nm : Int} : ((1 ≤ nm ∧ nm ≤ 16383) ∧ A ≠ 8 ∧ (∀ i, i < A → μ 53 (8 * S + i) ≠ nm) → F_X7_mayFollow S nm μ = some 1) ∧ (¬ ((1 ≤ nm ∧ nm ≤ 16383) ∧ A ≠ 8 ∧ (∀ i, i < A → μ 53 (8 * S + i) ≠ nm)) → F_X7_mayFollow S nm μ = some 0) := by
  have hl : bLoop (fun z => F_X7_mayFollow_22 S nm μ z) ((0 : Nat) : Int) = some (if scan (fun i => μ 53 (8 * S + i)) nm 0 A = -1 then 1 else (fun _ => 0) (scan (fun i => μ 53 (8 * S + i)) nm 0 A).toNat) := by
    refine loop_scan (fnd := fun _ => 0) A 0 ?_ fun i _ hi => ?_
    · unfold F_X7_mayFollow_22
      rw [bG_pos (by omega), Int.toNat_natCast, hA, if_pos (by omega)]
    · unfold F_X7_mayFollow_22
      rw [bG_pos (by omega), Int.toNat_natCast, hA, if_neg (by omega), C_slotAt (by omega) (by omega), Option.bind_some, bG_pos (by omega), t8]
      by_cases c : μ 53 (8 * S + i) = nm
      · rw [if_neg (fun hh => hh c), if_pos c]
      · rw [if_pos c, if_neg c, bG_pos (by constructor <;> omega)]
  unfold F_X7_mayFollow
  rw [C_isCode, Option.bind_some]
  refine ⟨fun ⟨h1, h2, h3⟩ => ?_, fun h => ?_⟩
  · rw [show b01 (1 ≤ nm ∧ nm ≤ 16383) = 1 from if_pos h1, if_neg (by decide), bG_pos (by omega), Int.toNat_natCast, hA, if_pos (by omega)]
    refine hl.trans ?_
    rw [if_pos (scan_no fun k _ hk => h3 k (by omega))]
  · by_cases c1 : 1 ≤ nm ∧ nm ≤ 16383
    · rw [show b01 (1 ≤ nm ∧ nm ≤ 16383) = 1 from if_pos c1, if_neg (by decide), bG_pos (by omega), Int.toNat_natCast, hA]
      by_cases c2 : A = 8
      · rw [if_neg (by omega)]
      · rw [if_pos (by omega)]
        refine hl.trans ?_
        rw [if_neg]
        intro hh
        refine h ⟨c1, c2, fun i hi hx => ?_⟩
        rcases scan_spec (f := fun i => μ 53 (8 * S + i)) (p := nm) A 0 with ⟨_, e⟩ | ⟨c, d1, d2, d3, d4, d5⟩
        · exact e i (by omega) (by omega) hx
        · omega
    · rw [show b01 (1 ≤ nm ∧ nm ≤ 16383) = 0 from if_neg c1, if_pos rfl]
/-- the names and forms of the shape S so far -/
def rowsP (S A : Nat) (μ ν : bM) : Prop := ∀ k, k < A → (μ 53 (8 * S + k) = ν 108 (8 * S + k) ∧ μ 54 (8 * S + k) = ν 109 (8 * S + k)) ∧ (1 ≤ ν 108 (8 * S + k) ∧ ν 108 (8 * S + k) ≤ 16383) ∧ okF (ν 109 (8 * S + k)) ∧ ∀ i, i < k → ν 108 (8 * S + i) ≠ ν 108 (8 * S + k)
def PR (S A : Nat) (μ ν : bM) : Prop := S < 200 ∧ A ≤ 8 ∧ μ 52 S = (A : Int) ∧ ν 107 S = (A : Int) ∧ ν 76 43 = (S : Int) ∧ rowsP S A μ ν
def pcC (μ : bM) (S A p' : Nat) (nm fo : Int) : bM := bset (bset (bset (bset μ 46 0 (p' : Int)) 53 (8 * S + A) nm) 54 (8 * S + A) fo) 52 S ((A : Int) + 1)
def pcM (ν : bM) (S A p' : Nat) (nm fo : Int) : bM := bset (bset (bset (bset ν 76 40 (p' : Int)) 108 (8 * S + A) nm) 109 (8 * S + A) fo) 107 S ((A : Int) + 1)
theorem Bad1_at {a a' : Nat} {μ' ν' : bM} (h : Bad1 (bset μ 46 0 (a : Int)) (bset ν 76 40 (a' : Int)) μ' ν') : Bad1 μ ν μ' ν' := by
  obtain ⟨h1, h2, h3, h4⟩ := h
  refine ⟨h1, fun q hq => ?_, fun q hq => ?_, fun k hk => ?_⟩
  · rw [h2 q hq, bset_q hq]
  · rw [h3 q hq, bset_q hq]
  · rw [h4 k hk, bset_k (by omega)]
theorem M_pair_w {v1 v2 v3 : Int} {w : bM} (h : w 76 37 ≠ -1) : F_X11_readPair_80 v1 v2 v3 w = some (0, w) := by
  unfold F_X11_readPair_80 F_X11_readPair_93 F_X11_readPair_100
  rw [M_badno h, bMm_some, if_neg h]
  split
  · rfl
  · split <;> rfl
/-- a name that may follow -/
def nokP (S A : Nat) (μ : bM) (nm : Int) : Prop := (1 ≤ nm ∧ nm ≤ 16383) ∧ A ≠ 8 ∧ (∀ i, i < A → μ 53 (8 * S + i) ≠ nm)
/-- a form behind a name -/
theorem J_form {nm p1 : Nat} (hs : Src r sz) (hc : CSrc r sz μ) (hm : MSrc r sz ν) (h : Cur 1 p E μ) (h' : Mur 1 p E ν) (q1 : p < p1) (q2 : p1 ≤ E) (hE : E ≤ sz 1) (hP : PR S A μ ν) (q3 : nm ≤ 2147483647)
    (nok : nm ≠ 0 → nokP S A μ nm) :
    (∃ (p' : Nat) (nm' fo : Int), p < p' ∧ p' ≤ E ∧ A < 8 ∧ (1 ≤ nm' ∧ nm' ≤ 16383) ∧ okF fo ∧ (∀ i, i < A → ν 108 (8 * S + i) ≠ nm') ∧ F_X7_readAttribute_32 S p nm (bset μ 46 0 (p1 : Int)) = some (.inl 1, pcC μ S A p' nm' fo) ∧ F_X11_readPair_100 p nm A (bset ν 76 40 (p1 : Int)) = some (1, pcM ν S A p' nm' fo)) ∨
    (∃ p' : Nat, p < p' ∧ p' ≤ E ∧ F_X7_readAttribute_32 S p nm (bset μ 46 0 (p1 : Int)) = some (.inl 0, bset μ 46 0 (p' : Int)) ∧ F_X11_readPair_100 p nm A (bset ν 76 40 (p1 : Int)) = some (0, bset ν 76 40 (p' : Int))) ∨
    (∃ μ' ν', F_X7_readAttribute_32 S p nm (bset μ 46 0 (p1 : Int)) = some (.inr ISE, μ') ∧ F_X11_readPair_100 p nm A (bset ν 76 40 (p1 : Int)) = some (0, ν') ∧ Bad1 μ ν μ' ν') := by
  obtain ⟨hS, hA8, hA, hA', h43, hR⟩ := hP
  have hz := sz_le hs (j := 1) (by omega)
  have hc1 : CSrc r sz (bset μ 46 0 (p1 : Int)) := CSrc_b hc (by omega)
  have hm1 : MSrc r sz (bset ν 76 40 (p1 : Int)) := MSrc_b hm (by omega)
  have g1 := Cur_at (p' := p1) h
  have g1' := Mur_at (p' := p1) h'
  unfold F_X7_readAttribute_32 F_X11_readPair_100
  rw [if_pos (c := bset ν 76 40 (p1 : Int) 76 37 = -1) g1'.2.2.2, g1.2.2.1, g1'.2.1]
  rcases J_small hs hc1 hm1 (by omega) g1 g1' (by omega) hE with ⟨fo, p2, w1, w2, w3, w4, w5⟩ | ⟨μ', ν', v', w1, w2, w3⟩
  rotate_left
  · right; right
    rw [w1, bXm_inr, w2, bMm_some, if_pos (BadP_ne w3.1)]
    exact ⟨μ', ν', rfl, rfl, Bad1_at w3⟩
  · have k37 : bset ν 76 40 (p2 : Int) 76 37 = -1 := by simp (disch := first | omega | decide) only [bset_q, bset_k, bset_at, h'.2.2.2]
    rw [w4, bXm_inl, w5, bMm_some, bset_bset, bset_bset, if_neg (c := ¬ bset ν 76 40 (p2 : Int) 76 37 = -1) (fun hh => hh k37)]
    by_cases n0 : nm = 0
    · right
      subst n0
      rw [if_neg (c := ¬ ((0 : Nat) : Int) = 0) (by decide), if_neg (c := ¬ ((0 : Nat) : Int) = 0) (by decide)]
      by_cases f0 : fo = 0
      · left
        rw [if_neg (c := ¬ (fo : Int) = 0) (by omega), if_neg (c := ¬ bCmp (fo : Int) 0 = 0) (fun hh => hh (bC0.mpr (by omega)))]
        exact ⟨p2, by omega, w2, rfl, rfl⟩
      · right
        rw [if_pos (c := ¬ (fo : Int) = 0) (by omega), if_pos (c := ¬ bCmp (fo : Int) 0 = 0) (fun hh => f0 (by have := bC0.mp hh; omega))]
        refine ⟨fl (bset μ 46 0 (p2 : Int)) 3 p, wr (bset ν 76 40 (p2 : Int)) 3 1 p, ?_, ?_, Bad1_mk h.1 (by omega)⟩
        · unfold F_X7_readAttribute_56
          rw [if_neg (by decide), C_refuse, bXm_inr]
        · have k2 : wr (bset ν 76 40 (p2 : Int)) 3 1 p 76 37 ≠ -1 := by rw [wr_37]; omega
          unfold F_X11_readPair_147 F_X11_readPair_158 F_X11_readPair_174
          rw [if_neg (by decide), M_bad k37, bMm_some]
          by_cases c : okF fo
          · rw [(M_isForm w3).1 c, Option.bind_some, if_pos (by decide), if_neg k2]
          · rw [(M_isForm w3).2 c, Option.bind_some, if_neg (by decide), M_badno k2, bMm_some, if_neg k2]
    · obtain ⟨m1, m2, m3⟩ := nok n0
      clear nok
      rw [if_pos (c := ¬ (nm : Int) = 0) (by omega), if_pos (c := ¬ (nm : Int) = 0) (by omega)]
      unfold F_X7_readAttribute_56 F_X7_readAttribute_67 F_X11_readPair_147 F_X11_readPair_158
      rw [if_pos (c := ¬ (nm : Int) = 0) (by omega), if_pos (c := ¬ (nm : Int) = 0) (by omega)]
      by_cases c : okF fo
      · left
        rw [(M_isForm w3).1 c, C_isForm.1 c, Option.bind_some, Option.bind_some, if_pos (by decide), if_pos (by decide)]
        refine ⟨p2, nm, fo, by omega, w2, by omega, m1, c, fun i hi hh => m3 i hi (by rw [(hR i hi).1.1]; exact hh), ?_, ?_⟩
        · unfold F_X7_readAttribute_82 pcC
          have j52 : bset μ 46 0 (p2 : Int) 52 S = (A : Int) := by simp (disch := first | omega | decide) only [bset_q, bset_k, bset_at, hA]
          rw [bG_pos (by omega), Int.toNat_natCast, j52, C_slotAt (by omega) (by omega), Option.bind_some, t8]
          simp (disch := first | omega | decide) only [bG_pos, bMm_some, bXm_inl, bXm_inr, Option.bind_some, bset_q, bset_k, bset_at, if_pos, if_neg, Int.toNat_natCast, hA]
        · unfold F_X11_readPair_174 pcM
          have t : ((8 : Int) * (S : Int) + (A : Int)).toNat = 8 * S + A := by omega
          rw [if_pos k37]
          have j43 : bset ν 76 40 (p2 : Int) 76 43 = (S : Int) := by simp (disch := first | omega | decide) only [bset_q, bset_k, bset_at, h43]
          rw [j43, t, b32_n w3]
          simp (disch := first | omega | decide) only [bG_pos, bMm_some, bXm_inl, bXm_inr, Option.bind_some, bset_q, bset_k, bset_at, if_pos, if_neg, Int.toNat_natCast, h43, t, hA']
      · right; right
        rw [(M_isForm w3).2 c, C_isForm.2 c, Option.bind_some, Option.bind_some, if_neg (by decide), if_neg (by decide), C_refuse, bXm_inr, M_bad k37, bMm_some]
        refine ⟨_, wr (bset ν 76 40 (p2 : Int)) 3 1 p1, rfl, ?_, Bad1_mk h.1 (by omega)⟩
        unfold F_X11_readPair_174
        rw [if_neg (by rw [wr_37]; omega)]
theorem J_pair (hs : Src r sz) (hc : CSrc r sz μ) (hm : MSrc r sz ν) (h : Cur 1 p E μ) (h' : Mur 1 p E ν) (hp : p ≤ E) (hE : E ≤ sz 1) (hP : PR S A μ ν) :
    (∃ (p' : Nat) (nm fo : Int), p < p' ∧ p' ≤ E ∧ A < 8 ∧ (1 ≤ nm ∧ nm ≤ 16383) ∧ okF fo ∧ (∀ i, i < A → ν 108 (8 * S + i) ≠ nm) ∧ F_X7_readAttribute S μ = some (.inl 1, pcC μ S A p' nm fo) ∧ F_X11_readPair ν = some (1, pcM ν S A p' nm fo)) ∨
    (∃ p' : Nat, p < p' ∧ p' ≤ E ∧ F_X7_readAttribute S μ = some (.inl 0, bset μ 46 0 (p' : Int)) ∧ F_X11_readPair ν = some (0, bset ν 76 40 (p' : Int))) ∨
    (∃ μ' ν', F_X7_readAttribute S μ = some (.inr ISE, μ') ∧ F_X11_readPair ν = some (0, ν') ∧ Bad1 μ ν μ' ν') := by
  obtain ⟨hS, hA8, hA, hA', h43, hR⟩ := hP
  have hz := sz_le hs (j := 1) (by omega)
  unfold F_X7_readAttribute F_X11_readPair
  rcases J_small hs hc hm (by omega) h h' hp hE with ⟨nm, p1, q1, q2, q3, q4, q5⟩ | ⟨μ', ν', v', q1, q2, q3⟩
  rotate_left
  · right; right
    rw [q1, bXm_inr, q2, bMm_some, if_neg (BadP_ne q3.1)]
    exact ⟨μ', ν', rfl, rfl, q3⟩
  · have hc1 : CSrc r sz (bset μ 46 0 (p1 : Int)) := CSrc_b hc (by omega)
    have hm1 : MSrc r sz (bset ν 76 40 (p1 : Int)) := MSrc_b hm (by omega)
    have g1 := Cur_at (p' := p1) h
    have g1' := Mur_at (p' := p1) h'
    have k52 : bset μ 46 0 (p1 : Int) 52 S = (A : Int) := by simp (disch := first | omega | decide) only [bset_q, bset_k, bset_at, hA]
    have k107 : bset ν 76 40 (p1 : Int) 107 S = (A : Int) := by simp (disch := first | omega | decide) only [bset_q, bset_k, bset_at, hA']
    have k43 : bset ν 76 40 (p1 : Int) 76 43 = (S : Int) := by simp (disch := first | omega | decide) only [bset_q, bset_k, bset_at, h43]
    rw [q4, q5, bXm_inl, bMm_some, if_pos (c := bset ν 76 40 (p1 : Int) 76 37 = -1) g1'.2.2.2, k43, bG_pos (by omega), Int.toNat_natCast, b32_n q3, k107, h.2.2.1, h'.2.1]
    by_cases n0 : nm = 0
    · have e0 : ((nm : Nat) : Int) = 0 := by omega
      rw [if_pos e0, if_pos (by omega)]
      exact J_form hs hc hm h h' q1 q2 hE ⟨hS, hA8, hA, hA', h43, hR⟩ q3 (fun x => absurd n0 x)
    · rw [if_neg (by omega), if_neg (by omega)]
      have kw : wr (bset ν 76 40 (p1 : Int)) 3 1 p 76 37 ≠ -1 := by rw [wr_37]; omega
      have L1 : ∀ k : Nat, k < A → (fun z : Int × bM => F_X11_readPair_42 p nm A z.1 z.2) ((k : Int), bset ν 76 40 (p1 : Int)) = some (.inl ((k : Int) + 1, if ν 108 (8 * S + k) = nm then wr (bset ν 76 40 (p1 : Int)) 3 1 p else bset ν 76 40 (p1 : Int))) := by
        intro k hk
        show F_X11_readPair_42 p nm A (k : Int) (bset ν 76 40 (p1 : Int)) = _
        unfold F_X11_readPair_42
        rw [if_neg (by omega), k43, bG_pos (by constructor <;> omega), bG_pos (by constructor <;> omega), bG_pos (by omega), show ((8 : Int) * (S : Int) + (k : Int)).toNat = 8 * S + k by omega, bset_q (by omega)]
        by_cases c : ν 108 (8 * S + k) = nm
        · rw [if_neg (fun hh => hh c), if_pos c, M_bad g1'.2.2.2, bMm_some, bG_pos (by constructor <;> omega)]
        · rw [if_pos c, if_neg c, bG_pos (by constructor <;> omega)]
      by_cases nok : nokP S A μ nm
      · rw [(C_may hS k52 hA8).1 ⟨nok.1, nok.2.1, fun i hi => by rw [bset_q (by omega)]; exact nok.2.2 i hi⟩, Option.bind_some, if_pos (by decide)]
        have hl : bLoop (fun z : Int × bM => F_X11_readPair_42 p nm A z.1 z.2) (0, bset ν 76 40 (p1 : Int)) = F_X11_readPair_100 p nm A (bset ν 76 40 (p1 : Int)) := by
          obtain ⟨x, hx⟩ : ∃ x, F_X11_readPair_100 p nm A (bset ν 76 40 (p1 : Int)) = some x := by
            rcases J_form hs hc hm h h' q1 q2 hE ⟨hS, hA8, hA, hA', h43, hR⟩ q3 (fun _ => nok) with ⟨_, _, _, _, _, _, _, _, _, _, e⟩ | ⟨_, _, _, _, e⟩ | ⟨_, _, _, e, _⟩
            · exact ⟨_, e⟩
            · exact ⟨_, e⟩
            · exact ⟨_, e⟩
          rw [hx]
          obtain ⟨m1, m2, m3⟩ := id nok
          refine loop_no (f := fun k => ν 108 (8 * S + k)) (v := nm) (fun k hk hne => ?_) ?_ (fun i hi hh => m3 i hi (by rw [(hR i hi).1.1]; exact hh))
          · have l1 := L1 k hk
            rw [if_neg hne] at l1
            exact l1
          · show F_X11_readPair_42 p nm A (A : Int) (bset ν 76 40 (p1 : Int)) = _
            unfold F_X11_readPair_42 F_X11_readPair_80
            rw [if_pos (by omega), if_neg (by omega), if_pos (by omega), hx]
            rfl
        rw [hl]
        exact J_form hs hc hm h h' q1 q2 hE ⟨hS, hA8, hA, hA', h43, hR⟩ q3 (fun _ => nok)
      · right; right
        rw [(C_may hS k52 hA8).2 (fun hh => nok ⟨hh.1, hh.2.1, fun i hi => by have := hh.2.2 i hi; rw [bset_q (by omega)] at this; exact this⟩), Option.bind_some, if_neg (by decide), C_refuse, bXm_inr]
        refine ⟨_, wr (bset ν 76 40 (p1 : Int)) 3 1 p, rfl, ?_, Bad1_mk h.1 (by omega)⟩
        by_cases cc : ∃ i, i < A ∧ ν 108 (8 * S + i) = nm
        · refine loop_yes (f := fun k => ν 108 (8 * S + k)) (v := nm) L1 (fun k hk => ?_) ?_ cc
          · show F_X11_readPair_42 p nm A (k : Int) (wr (bset ν 76 40 (p1 : Int)) 3 1 p) = _
            have j43 : wr (bset ν 76 40 (p1 : Int)) 3 1 p 76 43 = (S : Int) := by unfold wr; simp (disch := first | omega | decide) only [bset_q, bset_k, bset_at, h43]
            unfold F_X11_readPair_42
            rw [if_neg (by omega), j43, bG_pos (by constructor <;> omega), bG_pos (by constructor <;> omega), bG_pos (by omega), M_badno kw, bMm_some, bG_pos (by constructor <;> omega)]
            split <;> rfl
          · show F_X11_readPair_42 p nm A (A : Int) (wr (bset ν 76 40 (p1 : Int)) 3 1 p) = _
            unfold F_X11_readPair_42
            rw [if_pos (by omega), M_pair_w kw]
            rfl
        · refine loop_no (f := fun k => ν 108 (8 * S + k)) (v := nm) (fun k hk hne => ?_) ?_ (fun i hi hh => cc ⟨i, hi, hh⟩)
          · have l1 := L1 k hk
            rw [if_neg hne] at l1
            exact l1
          · show F_X11_readPair_42 p nm A (A : Int) (bset ν 76 40 (p1 : Int)) = _
            have hx : F_X11_readPair_93 p nm A (bset ν 76 40 (p1 : Int)) = some (0, wr (bset ν 76 40 (p1 : Int)) 3 1 p) := by
              unfold F_X11_readPair_93 F_X11_readPair_100
              rw [M_bad g1'.2.2.2, bMm_some, if_neg kw]
            unfold F_X11_readPair_42 F_X11_readPair_80
            rw [if_pos (by omega), hx]
            by_cases c1 : 16383 < (nm : Int)
            · rw [if_pos c1]; rfl
            · rw [if_neg c1]
              by_cases c2 : A = 8
              · rw [if_neg (by omega)]; rfl
              · exact absurd ⟨⟨by omega, by omega⟩, c2, fun i hi hh => cc ⟨i, hi, by rw [← (hR i hi).1.1]; exact hh⟩⟩ nok
end
end FN
