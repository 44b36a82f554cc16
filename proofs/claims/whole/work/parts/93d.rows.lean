section ED
/-! sevens: how long a row is -/
theorem i64_t {a : Int} (h : bRL a) : (Int64.ofInt a).toInt = a := Int64.toInt_ofInt_of_le (by have := h.1; omega) (by have := h.2; omega)
theorem sh7 : (((Int32.ofInt 7).toInt64 &&& 63).toBitVec.smod 64).toNat = 7 := by decide +kernel
theorem bShrL7 {a : Int} (h : bRL a) : bShrL a 7 = a / 128 := by
  unfold bShrL
  show ((Int64.ofInt a >>> ((Int32.ofInt 7).toInt64 &&& 63)).toBitVec).toInt = _
  rw [Int64.toBitVec_shiftRight]
  show ((Int64.ofInt a).toBitVec.sshiftRight (((Int32.ofInt 7).toInt64 &&& 63).toBitVec.smod 64).toNat).toInt = _
  rw [BitVec.toInt_sshiftRight, sh7]
  show (Int64.ofInt a).toInt >>> 7 = _
  rw [i64_t h, Int.shiftRight_eq_div_pow]
  rfl
theorem ush7 : ((Int32.ofInt 7).toInt64.toUInt64 &&& Int64.toUInt64 63).toNat % 64 = 7 := by decide +kernel
theorem bUshrL7 {a : Int} (h : 0 ≤ a ∧ a ≤ 9223372036854775807) : bUshrL a 7 = a / 128 := by
  unfold bUshrL
  have e1 : ((Int64.ofInt a).toUInt64 >>> ((Int32.ofInt 7).toInt64.toUInt64 &&& Int64.toUInt64 63)).toNat = a.toNat / 128 := by
    rw [UInt64.toNat_shiftRight, ush7, Nat.shiftRight_eq_div_pow]
    have : (Int64.ofInt a).toUInt64.toNat = a.toNat := by
      rw [Int64.toNat_toUInt64_of_le]
      · unfold Int64.toNatClampNeg
        rw [i64_t ⟨by omega, by omega⟩]
      · rw [Int64.le_iff_toInt_le, i64_t ⟨by omega, by omega⟩]
        exact h.1
    rw [this]
  have e2 : ∀ x : UInt64, x.toNat < 9223372036854775808 → x.toInt64.toInt = x.toNat := fun x hx => by
    show x.toBitVec.toInt = _
    rw [BitVec.toInt_eq_toNat_of_lt (by show 2 * x.toNat < 2 ^ 64; omega)]
    rfl
  rw [e2 _ (by rw [e1]; omega), e1]
  omega
theorem bDivL128 {a : Int} (h : 0 ≤ a ∧ a ≤ 9223372036854775807) : bDivL a 128 = a / 128 := by
  unfold bDivL
  rw [Int64.toInt_div_of_ne_left _ _ (fun hh => by
    have := congrArg Int64.toInt hh
    rw [i64_t ⟨by omega, by omega⟩] at this
    have e : Int64.minValue.toInt = -9223372036854775808 := by decide +kernel
    rw [e] at this
    omega), i64_t ⟨by omega, by omega⟩, i64_t (by decide)]
  exact Int.tdiv_eq_ediv_of_nonneg h.1
theorem bRemL128 {a : Int} (h : 0 ≤ a ∧ a ≤ 9223372036854775807) : bRemL a 128 = a % 128 := by
  unfold bRemL
  have e1 : (Int64.ofInt a / Int64.ofInt 128).toInt = a / 128 := bDivL128 h
  rw [Int64.toInt_sub, Int64.toInt_mul, e1, i64_t ⟨by omega, by omega⟩, i64_t (by decide)]
  have e2 : (a / 128 * 128).bmod (2 ^ 64) = a / 128 * 128 := Int.bmod_eq_of_le (by omega) (by omega)
  rw [e2, Int.bmod_eq_of_le (by omega) (by omega)]
  omega
theorem bAndL127 {a : Int} (h : bRL a) : bAndL a 127 = a % 128 := by
  unfold bAndL
  show (Int64.ofInt a &&& Int64.ofInt 127).toBitVec.toInt = _
  rw [Int64.toBitVec_and, BitVec.toInt_and]
  have e1 : (Int64.ofInt 127).toBitVec.toNat = 127 := by decide +kernel
  have e2 : (Int64.ofInt a).toBitVec.toNat = (a % 18446744073709551616).toNat := by
    show (BitVec.ofInt 64 a).toNat = _
    rw [BitVec.toNat_ofInt]
    rfl
  rw [e1, e2, show (127 : Nat) = 2 ^ 7 - 1 by decide, Nat.and_two_pow_sub_one_eq_mod]
  have := h.1
  have := h.2
  rw [Int.bmod_eq_of_le (by omega) (by omega)]
  omega
theorem bOr128 : ∀ n : Nat, n < 128 → bOr (n : Int) 128 = (n : Int) + 128 := by decide +kernel
/-- how many sevens a number has -/
def rbI : Nat → Int → Int
  | 0, _ => 1
  | f + 1, v => if v ≤ 127 then 1 else 1 + rbI f (v / 128)
def rb (v : Int) : Int := rbI 9 v
theorem rbI_rg : ∀ (f : Nat) (v : Int), 1 ≤ rbI f v ∧ rbI f v ≤ f + 1
  | 0, v => by unfold rbI; omega
  | f + 1, v => by
    unfold rbI
    have := rbI_rg f (v / 128)
    split <;> omega
theorem rbI_mono : ∀ (f : Nat) (v w : Int), v ≤ w → rbI f v ≤ rbI f w
  | 0, v, w, h => by unfold rbI; omega
  | f + 1, v, w, h => by
    unfold rbI
    have := rbI_mono f (v / 128) (w / 128) (by omega)
    have := rbI_rg f (w / 128)
    by_cases c : v ≤ 127
    · rw [if_pos c]
      split <;> omega
    · rw [if_neg c, if_neg (by omega)]
      omega
theorem rb_mono {v w : Int} (h : v ≤ w) : rb v ≤ rb w := rbI_mono 9 v w h
theorem rb_1 {v : Int} : 1 ≤ rb v ∧ rb v ≤ 10 := rbI_rg 9 v
theorem rb_small {v : Int} (h : v ≤ 2097151) : rb v ≤ 3 := by
  unfold rb rbI
  by_cases c : v ≤ 127
  · rw [if_pos c]; omega
  · rw [if_neg c]
    unfold rbI
    by_cases d : v / 128 ≤ 127
    · rw [if_pos d]; omega
    · rw [if_neg d]
      unfold rbI
      rw [if_pos (by omega)]
      omega
section
variable {μ : bM}
theorem M_rowBytes {v : Int} (h : 0 ≤ v ∧ v ≤ 9223372036854775807) : F_X11_rowBytes v μ = some (rb v) := by
  have H : ∀ (f : Nat) (x k : Int), 0 ≤ k → k ≤ 100 - f → (0 ≤ x ∧ x < 128 ^ (f + 1)) → x ≤ 9223372036854775807 → bLoop (fun z : Int × Int => F_X11_rowBytes_4 μ z.1 z.2) (k, x) = some (k + rbI f x - 1 + 0) := by
    intro f
    induction f with
    | zero =>
      intro x k k0 k1 hx hx2
      have e1 : (128 : Int) ^ (0 + 1) = 128 := by decide
      rw [e1] at hx
      rw [bLoop_done (f := fun z : Int × Int => F_X11_rowBytes_4 μ z.1 z.2) (r := k)]
      · unfold rbI; congr 1; omega
      · show F_X11_rowBytes_4 μ k x = _
        unfold F_X11_rowBytes_4
        rw [if_pos (by have := (bCmp_gt (a := x) (b := 127)); omega)]
    | succ f ih =>
      intro x k k0 k1 hx hx2
      unfold rbI
      by_cases c : x ≤ 127
      · rw [if_pos c, bLoop_done (f := fun z : Int × Int => F_X11_rowBytes_4 μ z.1 z.2) (r := k)]
        · congr 1; omega
        · show F_X11_rowBytes_4 μ k x = _
          unfold F_X11_rowBytes_4
          rw [if_pos (by have := (bCmp_gt (a := x) (b := 127)); omega)]
      · rw [if_neg c, bLoop_step (f := fun z : Int × Int => F_X11_rowBytes_4 μ z.1 z.2) (s' := (k + 1, x / 128))]
        · rw [ih (x / 128) (k + 1) (by omega) (by omega) ⟨by omega, ?_⟩ (by omega)]
          · congr 1; omega
          · have : (128 : Int) ^ (f + 1 + 1) = 128 ^ (f + 1) * 128 := Int.pow_succ ..
            rw [this] at hx
            exact Int.ediv_lt_of_lt_mul (by omega) hx.2
        · show F_X11_rowBytes_4 μ k x = _
          unfold F_X11_rowBytes_4
          rw [if_neg (by have := (bCmp_gt (a := x) (b := 127)); omega), bG_pos (by constructor <;> omega), bDivL128 ⟨by omega, hx2⟩]
  have := H 9 v 1 (by omega) (by omega) ⟨h.1, by rw [show (128 : Int) ^ (9 + 1) = 1180591620717411303424 by decide]; omega⟩ h.2
  unfold F_X11_rowBytes
  rw [this]
  unfold rb
  congr 1
  omega
theorem C_rowSize {v : Int} (h : 0 ≤ v ∧ v ≤ 9223372036854775807) : F_X6_rowSize v μ = some (rb v) := by
  have H : ∀ (f : Nat) (x k : Int), k = 9 - (f : Int) → f ≤ 8 → (0 ≤ x ∧ x < 128 ^ f) → x ≤ 72057594037927936 → bLoop (fun z : Int × Int => F_X6_rowSize_7 μ z.1 z.2) (k, x) = some (if x = 0 then k else k + rbI (f + 1) x) := by
    intro f
    induction f with
    | zero =>
      intro x k k0 k1 hx hx9
      have e1 : (128 : Int) ^ 0 = 1 := by decide
      rw [e1] at hx
      have : x = 0 := by omega
      subst this
      rw [if_pos rfl]
      refine bLoop_done ?_
      show F_X6_rowSize_7 μ k 0 = _
      unfold F_X6_rowSize_7
      rw [if_pos (bCmp_eq.mpr rfl)]
    | succ f ih =>
      intro x k k0 k1 hx hx9
      by_cases c : x = 0
      · rw [if_pos c]
        refine bLoop_done ?_
        show F_X6_rowSize_7 μ k x = _
        unfold F_X6_rowSize_7
        rw [if_pos (bCmp_eq.mpr c)]
      · rw [if_neg c]
        rw [bLoop_step (f := fun z : Int × Int => F_X6_rowSize_7 μ z.1 z.2) (s' := (k + 1, x / 128))]
        · rw [ih (x / 128) (k + 1) (by omega) (by omega) ⟨by omega, ?_⟩ (by omega)]
          · rw [show rbI (f + 1 + 1) x = if x ≤ 127 then 1 else 1 + rbI (f + 1) (x / 128) from rfl]
            by_cases d : x ≤ 127
            · rw [if_pos (by omega), if_pos d]
            · rw [if_neg (by omega), if_neg d]
              congr 1
              omega
          · have : (128 : Int) ^ (f + 1) = 128 ^ f * 128 := Int.pow_succ ..
            rw [this] at hx
            exact Int.ediv_lt_of_lt_mul (by omega) hx.2
        · show F_X6_rowSize_7 μ k x = _
          unfold F_X6_rowSize_7
          rw [if_neg (fun hh => c (bCmp_eq.mp hh)), if_neg (by omega), bG_pos (by constructor <;> omega), bUshrL7 ⟨by omega, by omega⟩]
  have := H 8 (v / 128) 1 (by omega) (by omega) ⟨by omega, by rw [show (128 : Int) ^ 8 = 72057594037927936 by decide]; omega⟩ (by omega)
  unfold F_X6_rowSize
  rw [bUshrL7 h, this]
  unfold rb
  rw [show rbI 9 v = if v ≤ 127 then 1 else 1 + rbI 8 (v / 128) from rfl]
  have hfuel : ∀ (f : Nat) (x : Int), 0 ≤ x → x < 128 ^ (f + 1) → rbI (f + 1) x = rbI f x := by
    intro f
    induction f with
    | zero =>
      intro x hx hx2
      have e1 : (128 : Int) ^ (0 + 1) = 128 := by decide
      rw [e1] at hx2
      unfold rbI
      rw [if_pos (by omega)]
    | succ f ih =>
      intro x hx hx2
      rw [show rbI (f + 1 + 1) x = if x ≤ 127 then 1 else 1 + rbI (f + 1) (x / 128) from rfl, show rbI (f + 1) x = if x ≤ 127 then 1 else 1 + rbI f (x / 128) from rfl]
      have : (128 : Int) ^ (f + 1 + 1) = 128 ^ (f + 1) * 128 := Int.pow_succ ..
      rw [this] at hx2
      rw [ih (x / 128) (by omega) (Int.ediv_lt_of_lt_mul (by omega) hx2)]
  by_cases c : v ≤ 127
  · rw [if_pos c, if_pos (by omega)]
  · rw [if_neg c, if_neg (by omega), hfuel 8 (v / 128) (by omega) (by rw [show (128 : Int) ^ (8 + 1) = 9223372036854775808 by decide]; omega)]
/-- how many sevens a number with its sign has -/
def srI : Nat → Int → Int
  | 0, _ => 1
  | f + 1, v => if -64 ≤ v ∧ v ≤ 63 then 1 else 1 + srI f (v / 128)
def sr (v : Int) : Int := srI 9 v
theorem srI_rg : ∀ (f : Nat) (v : Int), 1 ≤ srI f v ∧ srI f v ≤ f + 1
  | 0, v => by unfold srI; omega
  | f + 1, v => by
    unfold srI
    have := srI_rg f (v / 128)
    split <;> omega
theorem sr_1 {v : Int} : 1 ≤ sr v ∧ sr v ≤ 10 := srI_rg 9 v
theorem M_signed {v : Int} (h : bRL v) : F_X11_signedBytes v μ = some (sr v) ∧ F_X6_signedRowSize v μ = some (sr v) := by
  have H : ∀ (f : Nat) (x k : Int), k = 10 - (f : Int) → f ≤ 9 → (-(64 * 128 ^ f) ≤ x ∧ x < 64 * 128 ^ f) → bRL x → bLoop (fun z : Int × Int => F_X11_signedBytes_4 μ z.1 z.2) (k, x) = some (k + srI f x - 1) ∧ bLoop (fun z : Int × Int => F_X6_signedRowSize_4 μ z.1 z.2) (k, x) = some (k + srI f x - 1) := by
    intro f
    induction f with
    | zero =>
      intro x k k0 k1 hx hb
      have e1 : (64 : Int) * 128 ^ 0 = 64 := by decide
      rw [e1] at hx
      unfold srI
      have h1 : ¬ bCmp x (-64) < 0 := by rw [bCmp_lt]; omega
      have h2 : bCmp x 63 ≤ 0 := by have := (bCmp_gt (a := x) (b := 63)); omega
      constructor
      · rw [bLoop_done (f := fun z : Int × Int => F_X11_signedBytes_4 μ z.1 z.2) (r := k)]
        · congr 1; omega
        · show F_X11_signedBytes_4 μ k x = _
          unfold F_X11_signedBytes_4
          rw [if_neg h1, if_pos h2]
      · rw [bLoop_done (f := fun z : Int × Int => F_X6_signedRowSize_4 μ z.1 z.2) (r := k)]
        · congr 1; omega
        · show F_X6_signedRowSize_4 μ k x = _
          unfold F_X6_signedRowSize_4
          rw [if_neg h1, if_pos h2]
    | succ f ih =>
      intro x k k0 k1 hx hb
      unfold srI
      by_cases c : -64 ≤ x ∧ x ≤ 63
      · rw [if_pos c]
        have h1 : ¬ bCmp x (-64) < 0 := by rw [bCmp_lt]; omega
        have h2 : bCmp x 63 ≤ 0 := by have := (bCmp_gt (a := x) (b := 63)); omega
        constructor
        · rw [bLoop_done (f := fun z : Int × Int => F_X11_signedBytes_4 μ z.1 z.2) (r := k)]
          · congr 1; omega
          · show F_X11_signedBytes_4 μ k x = _
            unfold F_X11_signedBytes_4
            rw [if_neg h1, if_pos h2]
        · rw [bLoop_done (f := fun z : Int × Int => F_X6_signedRowSize_4 μ z.1 z.2) (r := k)]
          · congr 1; omega
          · show F_X6_signedRowSize_4 μ k x = _
            unfold F_X6_signedRowSize_4
            rw [if_neg h1, if_pos h2]
      · rw [if_neg c]
        have e : (128 : Int) ^ (f + 1) = 128 ^ f * 128 := Int.pow_succ ..
        have hb1 := hb.1
        have hb2 := hb.2
        have IH := ih (x / 128) (k + 1) (by omega) (by omega) (by
          rw [e] at hx
          constructor
          · exact Int.le_ediv_of_mul_le (by decide) (by have := hx.1; rw [show -(64 * (128 : Int) ^ f) * 128 = -(64 * (128 ^ f * 128)) by rw [Int.neg_mul, Int.mul_assoc]]; exact this)
          · exact Int.ediv_lt_of_lt_mul (by decide) (by rw [Int.mul_assoc]; exact hx.2)) ⟨by omega, by omega⟩
        have G : ∀ p q : Option ((Int × Int) ⊕ Int), p = some (.inl (k + 1, x / 128)) → (if bCmp x (-64) < 0 then p else if bCmp x 63 ≤ 0 then q else p) = some (.inl (k + 1, x / 128)) := fun p q hp => by
          by_cases d : x < -64
          · rw [if_pos (bCmp_lt.mpr d), hp]
          · rw [if_neg (fun hh => d (bCmp_lt.mp hh)), if_neg (by have := (bCmp_gt (a := x) (b := 63)); omega), hp]
        constructor
        · rw [bLoop_step (f := fun z : Int × Int => F_X11_signedBytes_4 μ z.1 z.2) (s' := (k + 1, x / 128)), IH.1]
          · congr 1; omega
          · show F_X11_signedBytes_4 μ k x = _
            unfold F_X11_signedBytes_4
            refine G _ _ ?_
            rw [bG_pos (by constructor <;> omega), bShrL7 hb]
        · rw [bLoop_step (f := fun z : Int × Int => F_X6_signedRowSize_4 μ z.1 z.2) (s' := (k + 1, x / 128)), IH.2]
          · congr 1; omega
          · show F_X6_signedRowSize_4 μ k x = _
            unfold F_X6_signedRowSize_4 F_X6_signedRowSize_20
            refine G _ _ ?_
            rw [if_neg (by omega), bG_pos (by constructor <;> omega), bShrL7 hb]
  have e : (64 : Int) * 128 ^ 9 = 590295810358705651712 := by decide
  have := H 9 v 1 (by omega) (by omega) (by have := h.1; have := h.2; rw [e]; omega) h
  unfold F_X11_signedBytes F_X6_signedRowSize sr
  rw [this.1, this.2]
  constructor <;> (congr 1; omega)
end
end ED
