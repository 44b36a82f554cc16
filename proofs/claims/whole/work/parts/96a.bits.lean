section FJ
/-! numbers of bytes, low first and high first -/
def sg (x : Nat) : Int := (Int64.ofNat x).toInt
theorem sg_id {x : Nat} (h : x < 9223372036854775808) : sg x = x := by
  unfold sg
  rw [Int64.toInt_ofNat_of_lt]
  exact h
theorem sg_neg {x : Nat} (h : 9223372036854775808 ≤ x) (h2 : x < 18446744073709551616) : sg x < 0 := by
  unfold sg
  rw [Int64.toInt_ofNat']
  unfold Int.bmod
  simp only [Int64.size]
  omega
theorem sh_amt : ∀ i : Nat, i < 64 → ((Int32.ofInt (i : Int)).toInt64 &&& 63).toBitVec.smod 64 = BitVec.ofNat 64 i := by decide +kernel
theorem ofInt_n (x : Nat) : Int64.ofInt (x : Int) = Int64.ofNat x := rfl
theorem shl_n {c i : Nat} (hi : i < 64) : bShlL c i = sg (c * 2 ^ i) := by
  unfold bShlL sg
  congr 1
  apply Int64.toBitVec_inj.mp
  rw [Int64.toBitVec_shiftLeft, sh_amt i hi, ofInt_n]
  apply BitVec.eq_of_toNat_eq
  simp [BitVec.toNat_shiftLeft, Nat.shiftLeft_eq, Nat.mod_eq_of_lt (show i < 18446744073709551616 by omega)]
theorem or_n {x y i : Nat} (hx : x < 2 ^ i) : bOrL (sg x) (sg (y * 2 ^ i)) = sg (x + y * 2 ^ i) := by
  unfold bOrL sg
  rw [Int64.ofInt_toInt, Int64.ofInt_toInt]
  congr 1
  apply Int64.toBitVec_inj.mp
  rw [Int64.toBitVec_or]
  apply BitVec.eq_of_toNat_eq
  have : x + y * 2 ^ i = x ||| (y * 2 ^ i) := by
    have := Nat.two_pow_add_eq_or_of_lt hx y
    rw [Nat.or_comm, Nat.mul_comm y, ← this, Nat.add_comm]
  rw [this]
  simp
theorem or_comm' (a b : Int) : bOrL a b = bOrL b a := by
  unfold bOrL
  rw [Int64.or_comm]
theorem and127 : ∀ n : Nat, n < 256 → bAnd (n : Int) 127 = ((n % 128 : Nat) : Int) ∧ bAndL (n : Int) 127 = ((n % 128 : Nat) : Int) := by decide +kernel
theorem and64 : ∀ n : Nat, n < 128 → (bAnd (n : Int) 64 = 0 ↔ n < 64) := by decide +kernel
/-- the octet at i -/
def oc (f : Nat → Int) (i : Nat) : Nat := (f i % 256).toNat
theorem oc_lt {f : Nat → Int} {i : Nat} : oc f i < 256 := by unfold oc; omega
theorem oc_eq {f : Nat → Int} {i : Nat} : f i % 256 = (oc f i : Int) := by unfold oc; omega
def lowN (f : Nat → Int) (p : Nat) : Nat → Nat
  | 0 => 0
  | w + 1 => lowN f p w + oc f (p + w) * 2 ^ (8 * w)
theorem lowN_lt {f : Nat → Int} {p : Nat} : ∀ w, lowN f p w < 2 ^ (8 * w)
  | 0 => by unfold lowN; decide
  | w + 1 => by
    have ih := lowN_lt (f := f) (p := p) w
    have h := oc_lt (f := f) (i := p + w)
    unfold lowN
    rw [show 8 * (w + 1) = 8 * w + 8 by omega, Nat.pow_add]
    have : oc f (p + w) * 2 ^ (8 * w) ≤ 255 * 2 ^ (8 * w) := Nat.mul_le_mul_right _ (by omega)
    omega
theorem lowN_hi {f : Nat → Int} : ∀ (w p : Nat), lowN f p (w + 1) = oc f p + lowN f (p + 1) w * 2 ^ 8
  | 0, p => by simp [lowN]
  | w + 1, p => by
    have ih := lowN_hi (f := f) w p
    have e1 : lowN f p (w + 1 + 1) = lowN f p (w + 1) + oc f (p + (w + 1)) * 2 ^ (8 * (w + 1)) := rfl
    have e2 : lowN f (p + 1) (w + 1) = lowN f (p + 1) w + oc f (p + 1 + w) * 2 ^ (8 * w) := rfl
    rw [e1, ih, e2, show p + 1 + w = p + (w + 1) by omega, show 8 * (w + 1) = 8 * w + 8 by omega, Nat.pow_add, Nat.add_mul, Nat.mul_assoc]
    omega
theorem low_step {f : Nat → Int} {p w : Nat} (hw : w < 8) : bOrL (sg (lowN f p w)) (bShlL (oc f (p + w)) ((8 * w : Nat) : Int)) = sg (lowN f p (w + 1)) := by
  rw [shl_n (by omega), or_n (lowN_lt w)]
  rfl
theorem hi_step {f : Nat → Int} {p w : Nat} (hw : w < 8) : bOrL (bShlL (sg (lowN f (p + 1) w)) 8) (oc f p) = sg (lowN f p (w + 1)) := by
  have hl := lowN_lt (f := f) (p := p + 1) w
  have h8 : 2 ^ (8 * w) ≤ 2 ^ 56 := Nat.pow_le_pow_right (by omega) (by omega)
  rw [sg_id (by omega), show (8 : Int) = ((8 : Nat) : Int) from rfl, shl_n (by omega), lowN_hi w p]
  have ho := oc_lt (f := f) (i := p)
  rw [or_comm', ← sg_id (x := oc f p) (by omega), or_n (by omega)]
/-- the low sevens of a row, n of them -/
def sevN (f : Nat → Int) (p : Nat) : Nat → Nat
  | 0 => 0
  | n + 1 => sevN f p n + (oc f (p + n) % 128) * 2 ^ (7 * n)
theorem sevN_lt {f : Nat → Int} {p : Nat} : ∀ n, sevN f p n < 2 ^ (7 * n)
  | 0 => by unfold sevN; decide
  | n + 1 => by
    have ih := sevN_lt (f := f) (p := p) n
    unfold sevN
    rw [show 7 * (n + 1) = 7 * n + 7 by omega, Nat.pow_add]
    have : (oc f (p + n) % 128) * 2 ^ (7 * n) ≤ 127 * 2 ^ (7 * n) := Nat.mul_le_mul_right _ (by omega)
    omega
theorem sev_step {f : Nat → Int} {p n : Nat} (hn : n < 10) : bOrL (sg (sevN f p n)) (bShlL ((oc f (p + n) % 128 : Nat) : Int) ((7 * n : Nat) : Int)) = sg (sevN f p (n + 1)) := by
  rw [shl_n (by omega), or_n (sevN_lt n)]
  rfl
end FJ
