section FF
section
variable {T b n m : Nat} {μ σ ρ : bM} {ord : Nat → Nat}
def prsF (T : Nat) (μ : bM) (e : Nat) : Nat → Nat → List Int
  | 0, _ => []
  | k + 1, j => rowL (μ (T + 11) (8 * e + j)) ++ (rowL (μ (T + 12) (8 * e + j)) ++ prsF T μ e k (j + 1))
theorem prsF_len {e : Nat} : ∀ (k j : Nat), sumI (fun k => rb (μ (T + 11) (8 * e + k)) + rb (μ (T + 12) (8 * e + k))) j + ((prsF T μ e k j).length : Int) = sumI (fun k => rb (μ (T + 11) (8 * e + k)) + rb (μ (T + 12) (8 * e + k))) (j + k)
  | 0, j => Int.add_zero _
  | k + 1, j => by
    have ih := prsF_len (e := e) k (j + 1)
    unfold prsF
    have h1 := rowL_len (v := μ (T + 11) (8 * e + j))
    have h2 := rowL_len (v := μ (T + 12) (8 * e + j))
    rw [List.length_append, List.length_append]
    rw [show sumI (fun k => rb (μ (T + 11) (8 * e + k)) + rb (μ (T + 12) (8 * e + k))) (j + 1) = sumI (fun k => rb (μ (T + 11) (8 * e + k)) + rb (μ (T + 12) (8 * e + k))) j + (rb (μ (T + 11) (8 * e + j)) + rb (μ (T + 12) (8 * e + j))) from rfl, show j + 1 + k = j + (k + 1) by omega] at ih
    omega
def kdB (T n : Nat) (μ : bM) (e : Nat) : Int := if scan (μ (T + 3)) e 0 n = -1 then 0 else 1
/-- the bytes of a shape -/
def shpL (T n : Nat) (μ : bM) (s e : Nat) : List Int := rowL ((s : Int) + 1) ++ (rowL (μ (T + 2) e) ++ ([b8 (kdB T n μ e)] ++ (prsF T μ e (μ (T + 10) e).toNat 0 ++ lowL 0 2)))
def preS (T n : Nat) (μ : bM) (ent : Nat → Nat) : Nat → List Int
  | 0 => []
  | s + 1 => preS T n μ ent s ++ shpL T n μ s (ent s)
theorem shpL_len {s e : Nat} : ((shpL T n μ s e).length : Int) = rb ((s : Int) + 1) + rb (μ (T + 2) e) + 1 + szS T μ e + 2 := by
  have h1 := prsF_len (T := T) (μ := μ) (e := e) (μ (T + 10) e).toNat 0
  have h2 := rowL_len (v := (s : Int) + 1)
  have h3 := rowL_len (v := μ (T + 2) e)
  rw [Nat.zero_add, show sumI (fun k => rb (μ (T + 11) (8 * e + k)) + rb (μ (T + 12) (8 * e + k))) 0 = 0 from rfl] at h1
  unfold shpL szS
  rw [List.length_append, List.length_append, List.length_append, List.length_append, lowL_len]
  simp only [List.length_cons, List.length_nil]
  omega
theorem preS_len {ent : Nat → Nat} : ∀ s : Nat, ((preS T n μ ent s).length : Int) = sumI (fun s => rb ((s : Int) + 1) + rb (μ (T + 2) (ent s)) + 1 + szS T μ (ent s) + 2) s
  | 0 => rfl
  | s + 1 => by
    show ((preS T n μ ent s ++ shpL T n μ s (ent s)).length : Int) = sumI _ s + _
    rw [List.length_append, Int.natCast_add, preS_len s, shpL_len]
theorem preS_mono {ent : Nat → Nat} : ∀ {i j : Nat}, i ≤ j → (preS T n μ ent i).length ≤ (preS T n μ ent j).length := by
  intro i j hij
  induction j with
  | zero => rw [show i = 0 by omega]; exact Nat.le_refl _
  | succ j ih =>
    by_cases c : i ≤ j
    · have := ih c
      show _ ≤ (preS T n μ ent j ++ shpL T n μ j (ent j)).length
      rw [List.length_append]
      omega
    · rw [show i = j + 1 by omega]; exact Nat.le_refl _
theorem C_wshapes (h : cT T n m μ) {lm : bM} {S : Nat} {ent : Nat → Nat} (h0 : lm 13 0 = S) (hS : S ≤ 400) (h21 : ∀ s, s < S → lm 21 s = ent s ∧ ent s < n) (hN : (preS T n μ ent S).length + 1 ≤ 8000) {ρ : bM} (hw : wC T μ lm ρ) (h9 : 0 ≤ ρ 9 1) : ∃ ρ', F_X9_writeShapes T 9 ρ = some (0, ρ') ∧ wC T μ lm ρ' ∧ AppL 9 1 10 (bset ρ 9 1 0) ρ' (preS T n μ ent S ++ [b8 0]) := by
  have hT := h.1
  have n4 := h.2.1.2
  have hN9 : ((bN (9 + 1) : Nat) : Int) = 8000 := by decide
  have hcut : F_X6_cut 9 0 ρ = some (0, bset ρ 9 1 0) := S_cut (by decide) h9
  have hw0 : wC T μ lm (bset ρ 9 1 0) := ⟨fun q hq => by rw [bset_q (by omega), hw.1 q hq], fun q q1 q2 => by rw [bset_q (by omega), hw.2.1 q q1 q2], kp_X6_cut 9 rfl 0 (by decide) hw.2.2 hcut⟩
  obtain ⟨ρ0, hρ0⟩ : ∃ ρ0, ρ0 = bset ρ 9 1 0 := ⟨_, rfl⟩
  have hz : ρ0 9 1 = 0 := by rw [hρ0, bset_at]
  rw [← hρ0] at hcut hw0 ⊢
  have H := bLoop_inv (f := fun z : Int × bM => F_X9_writeShapes_7 T 9 z.1 z.2) (fun z => ∃ s : Nat, s ≤ S ∧ z.1 = s ∧ wC T μ lm z.2 ∧ AppL 9 1 10 ρ0 z.2 (preS T n μ ent s)) (fun z => S - z.1.toNat) (fun r => ∃ ρ', r = (0, ρ') ∧ wC T μ lm ρ' ∧ AppL 9 1 10 ρ0 ρ' (preS T n μ ent S ++ [b8 0])) ?_ (0, ρ0) ⟨0, by omega, rfl, hw0, AppL.nil⟩
  · obtain ⟨r, x1, ρ', x2, x3⟩ := H
    refine ⟨ρ', ?_, x3⟩
    unfold F_X9_writeShapes
    rw [hcut, bMm_some, x1, x2]
  · rintro ⟨z1, τ⟩ ⟨s, s1, s2, s3, s4⟩
    simp only at s2 s3 s4
    subst s2
    show (∃ s', F_X9_writeShapes_7 T 9 s τ = some (Sum.inl s') ∧ _) ∨ ∃ q, F_X9_writeShapes_7 T 9 s τ = some (Sum.inr q) ∧ _
    have cs := s4.cnt
    unfold F_X9_writeShapes_7
    rw [s3.2.1 13 (by omega) (by omega), h0]
    by_cases c : s < S
    · left
      obtain ⟨e21, een⟩ := h21 s c
      obtain ⟨e, he⟩ : ∃ e, e = ent s := ⟨_, rfl⟩
      rw [← he] at e21 een
      obtain ⟨t2, -, -, a8, -⟩ := h.2.2.2.1 e een
      have hkid := (h.2.2.2.2.2.1 e een).1
      have cz := cntC_scan (f := μ (T + 3)) (p := (e : Int)) n
      have cp := cntC_0 (f := μ (T + 3)) (p := (e : Int)) n
      obtain ⟨A, hA⟩ : ∃ A : Nat, μ (T + 10) e = A := ⟨(μ (T + 10) e).toNat, by omega⟩
      have lm1 := preS_mono (T := T) (n := n) (μ := μ) (ent := ent) (show s + 1 ≤ S by omega)
      have hsp : preS T n μ ent (s + 1) = preS T n μ ent s ++ shpL T n μ s e := by rw [he]; rfl
      have hl0 := shpL_len (T := T) (n := n) (μ := μ) (s := s) (e := e)
      rw [hsp, List.length_append] at lm1
      have hshp : shpL T n μ s e = rowL ((s : Int) + 1) ++ (rowL (μ (T + 2) e) ++ ([b8 (kdB T n μ e)] ++ (prsF T μ e A 0 ++ lowL 0 2))) := by unfold shpL; rw [hA, Int.toNat_natCast]
      have hlen : (shpL T n μ s e).length = (rowL ((s : Int) + 1)).length + ((rowL (μ (T + 2) e)).length + (1 + ((prsF T μ e A 0).length + 2))) := by
        rw [hshp, List.length_append, List.length_append, List.length_append, List.length_append, lowL_len]
        rfl
      have r1 := rowL_len (v := (s : Int) + 1)
      have r2 := rowL_len (v := μ (T + 2) e)
      obtain ⟨τ1, p1, q1⟩ := P_row (s := 9) (ρ := τ) (v := (s : Int) + 1) (by omega) ⟨by omega, by omega⟩ (by omega)
      have c1 := q1.cnt
      have w1 : wC T μ lm τ1 := wC_app hT s3 (Or.inr (Or.inl rfl)) q1 (kp_X6_addRow 9 rfl _ ⟨by omega, by omega⟩ s3.2.2 p1)
      obtain ⟨τ2, p2, q2⟩ := P_row (s := 9) (ρ := τ1) (v := μ (T + 2) e) (by omega) ⟨by omega, by omega⟩ (by omega)
      have c2 := q2.cnt
      have w2 : wC T μ lm τ2 := wC_app hT w1 (Or.inr (Or.inl rfl)) q2 (kp_X6_addRow 9 rfl _ ⟨by omega, by omega⟩ w1.2.2 p2)
      obtain ⟨τ3, p3, q3⟩ := P_add (s := 9) (ρ := τ2) ⟨by omega, by omega⟩ (by omega) (kdB T n μ e)
      have c3 := q3.cnt
      simp only [List.length_cons, List.length_nil] at c3
      have w3 : wC T μ lm τ3 := wC_app hT w2 (Or.inr (Or.inl rfl)) q3 (kp_X6_add 9 rfl _ (by unfold kdB; split <;> decide) w2.2.2 p3)
      -- names and forms
      have I : ∀ (k j : Nat) (σ : bM), j + k = A → wC T μ lm σ → sOk 9 σ → σ 9 1 + ((prsF T μ e k j).length : Int) + 2 ≤ 8000 → ∃ ρ', bLoop (fun z : Int × bM => F_X9_writeShapes_65 T 9 s e z.1 z.2) ((j : Int), σ) = some (.inl ((s : Int) + 1, ρ')) ∧ wC T μ lm ρ' ∧ AppL 9 1 10 σ ρ' (prsF T μ e k j ++ lowL 0 2) := by
        intro k
        induction k with
        | zero =>
          intro j σ hj hwσ hsσ hrσ
          have hs0 := hsσ.1
          unfold prsF at hrσ ⊢
          simp only [List.length_nil] at hrσ
          obtain ⟨ρ', b1, b2⟩ := P_low (s := 9) (ρ := σ) (v := 0) (w := 2) (by omega) hsσ (by omega)
          refine ⟨ρ', bLoop_done ?_, wC_app hT hwσ (Or.inr (Or.inl rfl)) b2 (kp_X6_addLowFirst 9 rfl _ (by decide) _ (by decide) hwσ.2.2 b1), b2⟩
          show F_X9_writeShapes_65 T 9 s e j σ = _
          unfold F_X9_writeShapes_65
          rw [bG_pos (by omega), Int.toNat_natCast, hwσ.1 (T + 10) (by omega), if_pos (by omega), show (2 : Int) = ((2 : Nat) : Int) from rfl, b1, bMm_some, bG_pos (by constructor <;> omega)]
        | succ k ih =>
          intro j σ hj hwσ hsσ hrσ
          have hs0 := hsσ.1
          unfold prsF at hrσ ⊢
          rw [List.length_append, List.length_append] at hrσ
          have fm := cAt_form h een (k := j) (by omega)
          have g1 := rowL_len (v := μ (T + 11) (8 * e + j))
          have g2 := rowL_len (v := μ (T + 12) (8 * e + j))
          obtain ⟨σ1, b1, d1⟩ := P_row (s := 9) (ρ := σ) (v := μ (T + 11) (8 * e + j)) (by omega) hsσ (by omega)
          have k1 := d1.cnt
          have v1 : wC T μ lm σ1 := wC_app hT hwσ (Or.inr (Or.inl rfl)) d1 (kp_X6_addRow 9 rfl _ ⟨by omega, by omega⟩ hwσ.2.2 b1)
          obtain ⟨σ2, b2, d2⟩ := P_row (s := 9) (ρ := σ1) (v := μ (T + 12) (8 * e + j)) (by omega) ⟨by omega, by omega⟩ (by omega)
          have k2 := d2.cnt
          have v2 : wC T μ lm σ2 := wC_app hT v1 (Or.inr (Or.inl rfl)) d2 (kp_X6_addRow 9 rfl _ ⟨by omega, by omega⟩ v1.2.2 b2)
          obtain ⟨ρ', f1, f2, f3⟩ := ih (j + 1) σ2 (by omega) v2 ⟨by omega, by omega⟩ (by omega)
          refine ⟨ρ', ?_, f2, by rw [List.append_assoc, List.append_assoc]; exact d1.trans (d2.trans f3 (by omega)) hs0⟩
          rw [Int.natCast_succ] at f1
          rw [← f1]
          refine bLoop_step (f := fun z : Int × bM => F_X9_writeShapes_65 T 9 s e z.1 z.2) ?_
          show F_X9_writeShapes_65 T 9 s e j σ = _
          unfold F_X9_writeShapes_65
          rw [bG_pos (by omega), Int.toNat_natCast, hwσ.1 (T + 10) (by omega), if_neg (by omega), C_slotAt (by omega) (by omega), Option.bind_some, bG_pos (by omega), t8, hwσ.1 (T + 11) (by omega), b1, bMm_some, bG_pos (by omega), v1.1 (T + 12) (by omega), b2, bMm_some, bG_pos (by constructor <;> omega)]
      obtain ⟨ρ', f1, f2, f3⟩ := I A 0 τ3 (by omega) w3 ⟨by omega, by omega⟩ (by omega)
      have hfin : AppL 9 1 10 ρ0 ρ' (preS T n μ ent (s + 1)) := by
        rw [hsp, hshp]
        exact s4.trans (q1.trans (q2.trans (q3.trans f3 (by omega)) (by omega)) (by omega)) (by omega)
      rw [if_neg (by omega), bG_pos (by omega), Int.toNat_natCast, s3.2.1 21 (by omega) (by omega), e21, bG_pos (by constructor <;> omega), p1, bMm_some, bG_pos (by omega), Int.toNat_natCast, w1.1 (T + 2) (by omega), p2, bMm_some, bG_pos (by omega), w2.1 (T + 6) (by omega), hkid]
      unfold kdB at p3
      by_cases x : cntC (μ (T + 3)) e n ≤ 0
      · rw [if_pos (cz.mp (Int.le_antisymm x cp))] at p3
        rw [if_pos x, p3, bMm_some]
        exact ⟨_, f1, ⟨s + 1, by omega, by simp, f2, hfin⟩, by simp only; omega⟩
      · rw [if_neg (fun q => x (Int.le_of_eq (cz.mpr q)))] at p3
        rw [if_neg x, p3, bMm_some]
        exact ⟨_, f1, ⟨s + 1, by omega, by simp, f2, hfin⟩, by simp only; omega⟩
    · right
      have : s = S := by omega
      subst this
      obtain ⟨τ1, p1, q1⟩ := P_add (s := 9) (ρ := τ) ⟨by omega, by omega⟩ (by omega) 0
      rw [if_pos (by omega), p1, bMm_some]
      exact ⟨_, rfl, τ1, rfl, wC_app hT s3 (Or.inr (Or.inl rfl)) q1 (kp_X6_add 9 rfl _ (by decide) s3.2.2 p1), s4.trans q1 (by omega)⟩
/-! texts -/
def preT (T : Nat) (μ : bM) (sl : Nat → Nat) : Nat → List Int
  | 0 => []
  | t + 1 => preT T μ sl t ++ (cpL (txtF T μ (sl t)) (μ (T + 14) (sl t)).toNat ++ [b8 0])
theorem preT_len (h : cT T n m μ) {p : Nat × (Nat → Nat)} (hp : ∀ t, t < p.1 → slT T n μ (p.2 t)) : ∀ t : Nat, t ≤ p.1 → ((preT T μ p.2 t).length : Int) = tP T μ p t
  | 0, _ => rfl
  | t + 1, ht => by
    have r := (slT_rg h (hp t (by omega))).2.1
    have ih := preT_len h hp t (by omega)
    show ((preT T μ p.2 t ++ (cpL (txtF T μ (p.2 t)) (μ (T + 14) (p.2 t)).toNat ++ [b8 0])).length : Int) = tP T μ p t + (μ (T + 14) (p.2 t) + 1)
    rw [List.length_append, List.length_append, cpL_len]
    simp only [List.length_cons, List.length_nil]
    omega
theorem tP_mono (h : cT T n m μ) {p : Nat × (Nat → Nat)} (hp : ∀ t, t < p.1 → slT T n μ (p.2 t)) : ∀ {i j : Nat}, i ≤ j → j ≤ p.1 → tP T μ p i ≤ tP T μ p j := by
  intro i j hij hj
  induction j with
  | zero => rw [show i = 0 by omega]; exact Int.le_refl _
  | succ j ih =>
    by_cases c : i ≤ j
    · have := ih c (by omega)
      have r := (slT_rg h (hp j (by omega))).2.1
      show _ ≤ tP T μ p j + (μ (T + 14) (p.2 j) + 1)
      omega
    · rw [show i = j + 1 by omega]; exact Int.le_refl _
theorem C_wtexts (h : cT T n m μ) {lm : bM} {p : Nat × (Nat → Nat)} (hp : ∀ t, t < p.1 → slT T n μ (p.2 t)) (hp3 : p.1 ≤ 3200) (h1 : lm 13 1 = p.1) (h23 : ∀ t, t < p.1 → lm 23 t = p.2 t) (hN : tP T μ p p.1 ≤ 8000) {ρ : bM} (hw : wC T μ lm ρ) (h11 : 0 ≤ ρ 11 1) : ∃ ρ', F_X9_writeTexts T 4 11 ρ = some (0, ρ') ∧ wC T μ lm ρ' ∧ AppL 11 1 12 (bset ρ 11 1 0) ρ' (preT T μ p.2 p.1) := by
  have hT := h.1
  have h4 := h.2.2.2.2.2.2.2
  have hN11 : ((bN (11 + 1) : Nat) : Int) = 8000 := by decide
  have hcut : F_X6_cut 11 0 ρ = some (0, bset ρ 11 1 0) := S_cut (by decide) h11
  have hw0 : wC T μ lm (bset ρ 11 1 0) := ⟨fun q hq => by rw [bset_q (by omega), hw.1 q hq], fun q q1 q2 => by rw [bset_q (by omega), hw.2.1 q q1 q2], kp_X6_cut 11 rfl 0 (by decide) hw.2.2 hcut⟩
  obtain ⟨ρ0, hρ0⟩ : ∃ ρ0, ρ0 = bset ρ 11 1 0 := ⟨_, rfl⟩
  have hz : ρ0 11 1 = 0 := by rw [hρ0, bset_at]
  rw [← hρ0] at hcut hw0 ⊢
  have H := bLoop_inv (f := fun z : Int × bM => F_X9_writeTexts_8 T 4 11 z.1 z.2) (fun z => ∃ t : Nat, t ≤ p.1 ∧ z.1 = t ∧ wC T μ lm z.2 ∧ AppL 11 1 12 ρ0 z.2 (preT T μ p.2 t)) (fun z => p.1 - z.1.toNat) (fun r => ∃ ρ', r = (0, ρ') ∧ wC T μ lm ρ' ∧ AppL 11 1 12 ρ0 ρ' (preT T μ p.2 p.1)) ?_ (0, ρ0) ⟨0, by omega, rfl, hw0, AppL.nil⟩
  · obtain ⟨r, x1, ρ', x2, x3⟩ := H
    refine ⟨ρ', ?_, x3⟩
    unfold F_X9_writeTexts
    rw [hcut, bMm_some, x1, x2]
  · rintro ⟨z1, τ⟩ ⟨t, t1, t2, t3, t4⟩
    simp only at t2 t3 t4
    subst t2
    show (∃ s', F_X9_writeTexts_8 T 4 11 t τ = some (Sum.inl s') ∧ _) ∨ ∃ q, F_X9_writeTexts_8 T 4 11 t τ = some (Sum.inr q) ∧ _
    have ct := t4.cnt
    have lt := preT_len h hp t t1
    unfold F_X9_writeTexts_8
    rw [t3.2.1 13 (by omega) (by omega), h1]
    by_cases c : t < p.1
    · left
      obtain ⟨a1, a2, a3, a4⟩ := slT_rg h (hp t c)
      have lt1 := tP_mono h hp (show t + 1 ≤ p.1 by omega) (Nat.le_refl _)
      have lt2 : tP T μ p (t + 1) = tP T μ p t + (μ (T + 14) (p.2 t) + 1) := rfl
      obtain ⟨a, ha⟩ : ∃ a, a = p.2 t := ⟨_, rfl⟩
      have e23 := h23 t c
      rw [← ha] at a1 a2 a3 a4 lt2 e23
      have f4 : τ 4 1 = μ 4 1 := by rw [t3.1 4 (by omega)]
      obtain ⟨τ1, p1, q1⟩ := P_cp (s := 11) (s2 := 4) (ρ := τ) (a := (μ (T + 13) a).toNat) (n := (μ (T + 14) a).toNat) t3.2.2 bSt4 ⟨by omega, by omega⟩ ⟨by omega, by rw [f4]; exact h4.2⟩ (by omega) (by omega) (by omega)
      have c1 := q1.cnt
      rw [cpL_len] at c1
      have w1 : wC T μ lm τ1 := wC_app hT t3 (Or.inr (Or.inr rfl)) q1 (kp_X6_addFrom 11 rfl 4 rfl _ (by constructor <;> omega) _ (by constructor <;> omega) t3.2.2 p1)
      obtain ⟨τ2, p2, q2⟩ := P_add (s := 11) (ρ := τ1) ⟨by omega, by omega⟩ (by omega) 0
      have w2 : wC T μ lm τ2 := wC_app hT w1 (Or.inr (Or.inr rfl)) q2 (kp_X6_add 11 rfl _ (by decide) w1.2.2 p2)
      have hfun : (fun i => τ (4 + 1) ((μ (T + 13) a).toNat + i)) = txtF T μ a := by
        funext i
        unfold txtF
        rw [t3.1 5 (by omega)]
      rw [hfun] at q1
      have hstart : F_X8_start T a τ = some (μ (T + 13) a) := by
        unfold F_X8_start
        rw [bG_pos (by omega), Int.toNat_natCast, t3.1 (T + 13) (by omega), b32i (by constructor <;> omega)]
      rw [show (((μ (T + 13) a).toNat : Nat) : Int) = μ (T + 13) a by omega, show (((μ (T + 14) a).toNat : Nat) : Int) = μ (T + 14) a by omega] at p1
      rw [if_neg (by omega), bG_pos (by omega), Int.toNat_natCast, t3.2.1 23 (by omega) (by omega), e23, hstart, Option.bind_some, bG_pos (by omega), Int.toNat_natCast, t3.1 (T + 14) (by omega), p1, bMm_some, p2, bMm_some, bG_pos (by constructor <;> omega)]
      refine ⟨_, rfl, ⟨t + 1, by omega, by simp, w2, ?_⟩, by simp only; omega⟩
      show AppL 11 1 12 ρ0 τ2 (preT T μ p.2 t ++ (cpL (txtF T μ (p.2 t)) (μ (T + 14) (p.2 t)).toNat ++ [b8 0]))
      rw [← ha]
      exact t4.trans (q1.trans q2 (by omega)) (by omega)
    · right
      have : t = p.1 := by omega
      subst this
      rw [if_pos (by omega)]
      exact ⟨_, rfl, τ, rfl, t3, t4⟩
end
end FF
