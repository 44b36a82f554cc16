section FB
section
variable {T b n m : Nat} {μ ρ : bM}
/-! the model's -/
theorem Q_put {v : Int} (h0 : 0 ≤ ρ 76 36) (h1 : ρ 76 36 + 1 ≤ 40000) : ∃ ρ', F_X11_put v ρ = some (0, ρ') ∧ AppL 76 36 93 ρ ρ' [b8 v] := by
  refine ⟨_, ?_, AppL.one (by decide) (b8 v)⟩
  unfold F_X11_put
  rw [bG_pos (by omega), bset_q (show 76 ≠ 93 by decide), bG_pos (by constructor <;> omega)]
theorem Q_row {v : Int} (hv : 0 ≤ v ∧ v ≤ 9223372036854775807) (h0 : 0 ≤ ρ 76 36) (h1 : ρ 76 36 + rb v ≤ 40000) : ∃ ρ', F_X11_putRow v ρ = some (0, ρ') ∧ AppL 76 36 93 ρ ρ' (rowL v) := by
  have H : ∀ (f : Nat) (x : Int) (σ : bM), (0 ≤ x ∧ x < 128 ^ (f + 1)) → x ≤ 9223372036854775807 → 0 ≤ σ 76 36 → σ 76 36 + rbI f x ≤ 40000 → ∃ ρ', bLoop (fun z : Int × bM => F_X11_putRow_2 z.1 z.2) (x, σ) = some (0, ρ') ∧ AppL 76 36 93 σ ρ' (rowLf f x) := by
    have last : ∀ (x : Int) (σ : bM), (0 ≤ x ∧ x ≤ 127) → 0 ≤ σ 76 36 → σ 76 36 + 1 ≤ 40000 → ∃ ρ', bLoop (fun z : Int × bM => F_X11_putRow_2 z.1 z.2) (x, σ) = some (0, ρ') ∧ AppL 76 36 93 σ ρ' [b8 (x % 128)] := by
      intro x σ hx s0 s1
      obtain ⟨σ1, a1, a2⟩ := Q_put (ρ := σ) (v := x) s0 s1
      refine ⟨σ1, bLoop_done ?_, by rw [show x % 128 = x by omega]; exact a2⟩
      show F_X11_putRow_2 x σ = _
      unfold F_X11_putRow_2
      rw [if_pos (by have := (bCmp_gt (a := x) (b := 127)); omega), b32i (by constructor <;> omega), a1, bMm_some]
    intro f
    induction f with
    | zero =>
      intro x σ hx hx2 s0 s1
      have e1 : (128 : Int) ^ (0 + 1) = 128 := by decide
      rw [e1] at hx
      exact last x σ (by omega) s0 (by unfold rbI at s1; omega)
    | succ f ih =>
      intro x σ hx hx2 s0 s1
      rw [show rbI (f + 1) x = if x ≤ 127 then 1 else 1 + rbI f (x / 128) from rfl] at s1
      rw [show rowLf (f + 1) x = if x ≤ 127 then [b8 (x % 128)] else b8 (x % 128 + 128) :: rowLf f (x / 128) from rfl]
      by_cases c : x ≤ 127
      · rw [if_pos c] at s1 ⊢
        exact last x σ (by omega) s0 s1
      · rw [if_neg c] at s1 ⊢
        have r1 := rbI_rg f (x / 128)
        obtain ⟨σ1, a1, a2⟩ := Q_put (ρ := σ) (v := x % 128 + 128) s0 (by omega)
        have c1 := a2.cnt
        simp only [List.length_cons, List.length_nil] at c1
        obtain ⟨σ2, b1, b2⟩ := ih (x / 128) σ1 ⟨by omega, by
          have : (128 : Int) ^ (f + 1 + 1) = 128 ^ (f + 1) * 128 := Int.pow_succ ..
          rw [this] at hx
          exact Int.ediv_lt_of_lt_mul (by omega) hx.2⟩ (by omega) (by omega) (by omega)
        refine ⟨σ2, ?_, a2.trans b2 s0⟩
        rw [← b1]
        refine bLoop_step (f := fun z : Int × bM => F_X11_putRow_2 z.1 z.2) ?_
        show F_X11_putRow_2 x σ = _
        unfold F_X11_putRow_2
        rw [if_neg (by have := (bCmp_gt (a := x) (b := 127)); omega), bRemL128 ⟨by omega, hx2⟩, b32i (by constructor <;> omega), bG_pos (by constructor <;> omega), a1, bMm_some, bDivL128 ⟨by omega, hx2⟩]
  exact H 9 v ρ ⟨hv.1, by rw [show (128 : Int) ^ (9 + 1) = 1180591620717411303424 by decide]; omega⟩ hv.2 h0 h1
theorem Q_srow {v : Int} (hv : bRL v) (h0 : 0 ≤ ρ 76 36) (h1 : ρ 76 36 + sr v ≤ 40000) : ∃ ρ', F_X11_putSigned v ρ = some (0, ρ') ∧ AppL 76 36 93 ρ ρ' (srowL v) := by
  have H : ∀ (f : Nat) (x : Int) (σ : bM), (-(64 * 128 ^ f) ≤ x ∧ x < 64 * 128 ^ f) → bRL x → 0 ≤ σ 76 36 → σ 76 36 + srI f x ≤ 40000 → ∃ ρ', bLoop (fun z : Int × bM => F_X11_putSigned_2 z.1 z.2) (x, σ) = some (0, ρ') ∧ AppL 76 36 93 σ ρ' (srowLf f x) := by
    have last : ∀ (x : Int) (σ : bM), (-64 ≤ x ∧ x ≤ 63) → 0 ≤ σ 76 36 → σ 76 36 + 1 ≤ 40000 → ∃ ρ', bLoop (fun z : Int × bM => F_X11_putSigned_2 z.1 z.2) (x, σ) = some (0, ρ') ∧ AppL 76 36 93 σ ρ' [b8 (x % 128)] := by
      intro x σ hx s0 s1
      obtain ⟨σ1, a1, a2⟩ := Q_put (ρ := σ) (v := x % 128) s0 s1
      refine ⟨σ1, bLoop_done ?_, a2⟩
      show F_X11_putSigned_2 x σ = _
      unfold F_X11_putSigned_2
      rw [if_neg (by rw [bCmp_lt]; omega), if_pos (by have := (bCmp_gt (a := x) (b := 63)); omega), bAndL127 ⟨by omega, by omega⟩, b32i (by constructor <;> omega), a1, bMm_some]
    intro f
    induction f with
    | zero =>
      intro x σ hx hb s0 s1
      have e1 : (64 : Int) * 128 ^ 0 = 64 := by decide
      rw [e1] at hx
      exact last x σ (by omega) s0 (by unfold srI at s1; omega)
    | succ f ih =>
      intro x σ hx hb s0 s1
      rw [show srI (f + 1) x = if -64 ≤ x ∧ x ≤ 63 then 1 else 1 + srI f (x / 128) from rfl] at s1
      rw [show srowLf (f + 1) x = if -64 ≤ x ∧ x ≤ 63 then [b8 (x % 128)] else b8 (x % 128 + 128) :: srowLf f (x / 128) from rfl]
      by_cases c : -64 ≤ x ∧ x ≤ 63
      · rw [if_pos c] at s1 ⊢
        exact last x σ c s0 s1
      · rw [if_neg c] at s1 ⊢
        have r1 := srI_rg f (x / 128)
        have hb1 := hb.1
        have hb2 := hb.2
        have e : (128 : Int) ^ (f + 1) = 128 ^ f * 128 := Int.pow_succ ..
        obtain ⟨σ1, a1, a2⟩ := Q_put (ρ := σ) (v := x % 128 + 128) s0 (by omega)
        have c1 := a2.cnt
        simp only [List.length_cons, List.length_nil] at c1
        obtain ⟨σ2, b1, b2⟩ := ih (x / 128) σ1 (by
          rw [e] at hx
          constructor
          · exact Int.le_ediv_of_mul_le (by decide) (by have := hx.1; rw [show -(64 * (128 : Int) ^ f) * 128 = -(64 * (128 ^ f * 128)) by rw [Int.neg_mul, Int.mul_assoc]]; exact this)
          · exact Int.ediv_lt_of_lt_mul (by decide) (by rw [Int.mul_assoc]; exact hx.2)) ⟨by omega, by omega⟩ (by omega) (by omega)
        refine ⟨σ2, ?_, a2.trans b2 s0⟩
        rw [← b1]
        refine bLoop_step (f := fun z : Int × bM => F_X11_putSigned_2 z.1 z.2) ?_
        show F_X11_putSigned_2 x σ = _
        have e18 : F_X11_putSigned_18 x σ = some (.inl (x / 128, σ1)) := by
          unfold F_X11_putSigned_18
          rw [bAndL127 hb, b32i (by constructor <;> omega), bG_pos (by constructor <;> omega), a1, bMm_some, bShrL7 hb]
        unfold F_X11_putSigned_2
        by_cases d : x < -64
        · rw [if_pos (bCmp_lt.mpr d), e18]
        · rw [if_neg (fun hh => d (bCmp_lt.mp hh)), if_neg (by have := (bCmp_gt (a := x) (b := 63)); omega), e18]
  have e : (64 : Int) * 128 ^ 9 = 590295810358705651712 := by decide
  exact H 9 v ρ (by have := hv.1; have := hv.2; rw [e]; omega) hv h0 h1
theorem Q_low {v : Int} {w : Nat} (hw : w ≤ 1000) (h0 : 0 ≤ ρ 76 36) (h1 : ρ 76 36 + w ≤ 40000) : ∃ ρ', F_X11_putNumber v w ρ = some (0, ρ') ∧ AppL 76 36 93 ρ ρ' (lowL v w) := by
  have H : ∀ (k j : Nat) (σ : bM), j + k = w → 0 ≤ σ 76 36 → σ 76 36 + k ≤ 40000 → ∃ ρ', bLoop (fun z : Int × bM => F_X11_putNumber_3 v w z.1 z.2) ((j : Int), σ) = some (0, ρ') ∧ AppL 76 36 93 σ ρ' (lowLf v k j) := by
    intro k
    induction k with
    | zero =>
      intro j σ hj _ _
      refine ⟨σ, bLoop_done ?_, AppL.nil⟩
      show F_X11_putNumber_3 v w j σ = _
      unfold F_X11_putNumber_3
      rw [if_pos (by omega)]
    | succ k ih =>
      intro j σ hj s0 s1
      obtain ⟨σ1, a1, a2⟩ := Q_put (ρ := σ) (v := b32 (bShrL v (8 * (j : Int)))) s0 (by omega)
      have c1 := a2.cnt
      simp only [List.length_cons, List.length_nil] at c1
      obtain ⟨σ2, b1, b2⟩ := ih (j + 1) σ1 (by omega) (by omega) (by omega)
      refine ⟨σ2, ?_, a2.trans b2 s0⟩
      rw [Int.natCast_succ] at b1
      rw [← b1]
      refine bLoop_step (f := fun z : Int × bM => F_X11_putNumber_3 v w z.1 z.2) ?_
      show F_X11_putNumber_3 v w j σ = _
      unfold F_X11_putNumber_3
      rw [if_neg (by omega), bG_pos (by constructor <;> omega), a1, bMm_some, bG_pos (by constructor <;> omega)]
  exact H w 0 ρ (by omega) h0 h1
/-- a text, out of the pool -/
theorem Q_text {a len : Nat} {f : Nat → Int} (ha : a < 6400) (h89 : ρ 89 a = len) (h88 : 0 ≤ ρ 88 a ∧ ρ 88 a + len ≤ 180000) (hf : ∀ i : Nat, i < len → ρ 92 ((ρ 88 a).toNat + i) = f i ∧ -128 ≤ f i ∧ f i ≤ 127) (h0 : 0 ≤ ρ 76 36) (h1 : ρ 76 36 + len ≤ 40000) : ∃ ρ', F_X11_putText a ρ = some (0, ρ') ∧ AppL 76 36 93 ρ ρ' (cpL f len) := by
  have H : ∀ (k j : Nat) (σ : bM), j + k = len → (∀ q, q ≠ 76 → q ≠ 93 → σ q = ρ q) → 0 ≤ σ 76 36 → σ 76 36 + k ≤ 40000 → ∃ ρ', bLoop (fun z : Int × bM => F_X11_putText_2 a z.1 z.2) ((j : Int), σ) = some (0, ρ') ∧ AppL 76 36 93 σ ρ' (cpLf f k j) := by
    intro k
    induction k with
    | zero =>
      intro j σ hj hσ _ _
      refine ⟨σ, bLoop_done ?_, AppL.nil⟩
      show F_X11_putText_2 a j σ = _
      unfold F_X11_putText_2
      rw [bG_pos (by omega), Int.toNat_natCast, hσ 89 (by decide) (by decide), h89, if_pos (by omega)]
    | succ k ih =>
      intro j σ hj hσ s0 s1
      obtain ⟨fj, fr⟩ := hf j (by omega)
      obtain ⟨σ1, a1, a2⟩ := Q_put (ρ := σ) (v := f j) s0 (by omega)
      rw [b8_b fr] at a2
      have c1 := a2.cnt
      simp only [List.length_cons, List.length_nil] at c1
      obtain ⟨σ2, b1, b2⟩ := ih (j + 1) σ1 (by omega) (fun q q1 q2 => by rw [a2.row q1 q2, hσ q q1 q2]) (by omega) (by omega)
      refine ⟨σ2, ?_, a2.trans b2 s0⟩
      rw [Int.natCast_succ] at b1
      rw [← b1]
      refine bLoop_step (f := fun z : Int × bM => F_X11_putText_2 a z.1 z.2) ?_
      show F_X11_putText_2 a j σ = _
      unfold F_X11_putText_2
      rw [bG_pos (by omega), Int.toNat_natCast, hσ 89 (by decide) (by decide), hσ 88 (by decide) (by decide), hσ 92 (by decide) (by decide), h89, if_neg (by omega), bG_pos (by omega), bG_pos (by constructor <;> omega), bG_pos (by omega), show (ρ 88 a + (j : Int)).toNat = (ρ 88 a).toNat + j by omega, fj, a1, bMm_some, bG_pos (by constructor <;> omega)]
  exact H len 0 ρ (by omega) (fun q _ _ => rfl) h0 h1
end
end FB
