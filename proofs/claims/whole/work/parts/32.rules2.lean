section BC
/-! arithmetic: what overflows is wrapped (b32, b64), what is cut is cut (b8) -/
def b32 (a : Int) : Int := (a + 2147483648) % 4294967296 - 2147483648
def b64 (a : Int) : Int := (a + 9223372036854775808) % 18446744073709551616 - 9223372036854775808
def b8 (a : Int) : Int := (a + 128) % 256 - 128
theorem b32_R (a : Int) : bR (b32 a) := by unfold b32; constructor <;> omega
theorem b8_B (a : Int) : -128 ≤ b8 a ∧ b8 a ≤ 127 := by unfold b8; constructor <;> omega
theorem b8_R (a : Int) : bR (b8 a) := by unfold b8; constructor <;> omega
theorem b32_id {a : Int} (h : bR a) : b32 a = a := by unfold b32; have := h.1; have := h.2; omega
theorem b8_id {a : Int} (h : -128 ≤ a ∧ a ≤ 127) : b8 a = a := by unfold b8; omega
theorem b32_o (a : Int) : Int32.ofInt (b32 a) = Int32.ofInt a := by
  rw [← Int32.toInt_inj, bi_t (b32_R a), Int32.toInt_ofInt]
  show b32 a = a.bmod 4294967296
  unfold b32 Int.bmod
  simp only
  split <;> omega
theorem b8_o (a : Int) : Int32.ofInt (b8 a) = (Int32.ofInt a).toInt8.toInt32 := by
  rw [Int32.toInt8_ofInt, ← Int32.ofInt_int8ToInt, Int8.toInt_ofInt]
  congr 1
  show b8 a = a.bmod 256
  unfold b8 Int.bmod
  simp only
  split <;> omega
def bAnd (a b : Int) : Int := (Int32.ofInt a &&& Int32.ofInt b).toInt
def bOr (a b : Int) : Int := (Int32.ofInt a ||| Int32.ofInt b).toInt
def bXor (a b : Int) : Int := (Int32.ofInt a ^^^ Int32.ofInt b).toInt
def bDiv (a b : Int) : Int := (Int32.ofInt a / Int32.ofInt b).toInt
def bRem (a b : Int) : Int := (Int32.ofInt a - Int32.ofInt a / Int32.ofInt b * Int32.ofInt b).toInt
def bShr (a b : Int) : Int := (Int32.ofInt a >>> (Int32.ofInt b &&& 31)).toInt
def bUshr (a b : Int) : Int := ((Int32.ofInt a).toUInt32 >>> ((Int32.ofInt b).toUInt32 &&& Int32.toUInt32 31)).toInt32.toInt
def bAndL (a b : Int) : Int := (Int64.ofInt a &&& Int64.ofInt b).toInt
def bOrL (a b : Int) : Int := (Int64.ofInt a ||| Int64.ofInt b).toInt
def bXorL (a b : Int) : Int := (Int64.ofInt a ^^^ Int64.ofInt b).toInt
def bDivL (a b : Int) : Int := (Int64.ofInt a / Int64.ofInt b).toInt
def bRemL (a b : Int) : Int := (Int64.ofInt a - Int64.ofInt a / Int64.ofInt b * Int64.ofInt b).toInt
def bShlL (a b : Int) : Int := (Int64.ofInt a <<< ((Int32.ofInt b).toInt64 &&& 63)).toInt
def bShrL (a b : Int) : Int := (Int64.ofInt a >>> ((Int32.ofInt b).toInt64 &&& 63)).toInt
def bUshrL (a b : Int) : Int := ((Int64.ofInt a).toUInt64 >>> ((Int32.ofInt b).toInt64.toUInt64 &&& Int64.toUInt64 63)).toInt64.toInt
section
variable {L : Nat} {xs : Nat → Int32} {d i pc len r1 r2 : Nat} {kc a b : Int} {lv : List (Nat × Value)} {st : List Value} {μ : bM} {o : Option bX} {ρ : Type} {κ : ρ → Option bX} {E : Option ρ}
theorem b_bipush {n : Int} (h : (ax_dt (ax_T i)).lookup pc = some (.bipush n, len, r1, r2, kc)) (hn : (Int8.ofInt n).toInt32 = Int32.ofInt n) (k : bD L xs d i (pc + len) lv (bI n :: st) μ o) : bD L xs d i pc lv st μ o := b_v h (fun _ => rfl) (congrArg Value.int hn) k
theorem b_sipush {n : Int} (h : (ax_dt (ax_T i)).lookup pc = some (.sipush n, len, r1, r2, kc)) (hn : (Int16.ofInt n).toInt32 = Int32.ofInt n) (k : bD L xs d i (pc + len) lv (bI n :: st) μ o) : bD L xs d i pc lv st μ o := b_v h (fun _ => rfl) (congrArg Value.int hn) k
theorem b_lconst {n : Fin 2} {e : Int} (h : (ax_dt (ax_T i)).lookup pc = some (.lconst n, len, r1, r2, kc)) (hn : Int64.ofNat (n : Nat) = Int64.ofInt e) (k : bD L xs d i (pc + len) lv (bLg e :: st) μ o) : bD L xs d i pc lv st μ o := b_v h (fun _ => rfl) (congrArg Value.long hn) k
theorem b_iadd (h : (ax_dt (ax_T i)).lookup pc = some (.iadd, len, r1, r2, kc)) (k : bR (a + b) → bD L xs d i (pc + len) lv (bI (a + b) :: st) μ (E.bind κ)) : bD L xs d i pc lv (bI b :: bI a :: st) μ ((bG (bR (a + b)) E).bind κ) := b_g fun g => b_v h (fun _ => rfl) (congrArg Value.int (Int32.ofInt_add a b).symm) (k g)
theorem b_isub (h : (ax_dt (ax_T i)).lookup pc = some (.isub, len, r1, r2, kc)) (k : bR (a - b) → bD L xs d i (pc + len) lv (bI (a - b) :: st) μ (E.bind κ)) : bD L xs d i pc lv (bI b :: bI a :: st) μ ((bG (bR (a - b)) E).bind κ) := b_g fun g => b_v h (fun _ => rfl) (congrArg Value.int (Int32.ofInt_sub a b).symm) (k g)
theorem b_imul (h : (ax_dt (ax_T i)).lookup pc = some (.imul, len, r1, r2, kc)) (k : bR (a * b) → bD L xs d i (pc + len) lv (bI (a * b) :: st) μ (E.bind κ)) : bD L xs d i pc lv (bI b :: bI a :: st) μ ((bG (bR (a * b)) E).bind κ) := b_g fun g => b_v h (fun _ => rfl) (congrArg Value.int (Int32.ofInt_mul a b).symm) (k g)
theorem b_iaddw (h : (ax_dt (ax_T i)).lookup pc = some (.iadd, len, r1, r2, kc)) (k : bD L xs d i (pc + len) lv (bI (b32 (a + b)) :: st) μ o) : bD L xs d i pc lv (bI b :: bI a :: st) μ o := b_v h (fun _ => rfl) (congrArg Value.int (by rw [b32_o, Int32.ofInt_add])) k
theorem b_imulw (h : (ax_dt (ax_T i)).lookup pc = some (.imul, len, r1, r2, kc)) (k : bD L xs d i (pc + len) lv (bI (b32 (a * b)) :: st) μ o) : bD L xs d i pc lv (bI b :: bI a :: st) μ o := b_v h (fun _ => rfl) (congrArg Value.int (by rw [b32_o, Int32.ofInt_mul])) k
/-- iinc -/
theorem b_inc {lv' : List (Nat × Value)} {n : Nat} {c : Int} (h : (ax_dt (ax_T i)).lookup pc = some (.iinc n c, len, r1, r2, kc)) (hl : lv.lookup n = some (bI a)) (hn : n < ax_dl (ax_T i)) (hw : bSub lv' (ax_st1 lv n (bI (a + c)))) (k : bR (a + c) → bD L xs d i (pc + len) lv' st μ (E.bind κ)) : bD L xs d i pc lv st μ ((bG (bR (a + c)) E).bind κ) := by
  refine b_g fun g => ?_
  have e : ∀ M, ax_s L xs (ax_dl (ax_T i)) (.iinc n c, len, r1, r2, kc) pc lv st M = some (pc + len, ax_st1 lv n (bI (a + c)), st, M, 0, 0) := by
    intro M
    have : ax_inc (ax_dl (ax_T i)) (.iinc n c, len, r1, r2, kc) pc lv st M = some (pc + len, ax_st1 lv n (bI (a + c)), st, M, 0, 0) := by
      simp only [ax_inc, hl, ax_put1, if_pos hn, ← Int32.ofInt_add]
    show (ax_inc (ax_dl (ax_T i)) (.iinc n c, len, r1, r2, kc) pc lv st M <|> _) = _
    rw [this]
    rfl
  exact b_s h e ((k g).wk hw)
theorem b_iop {v : Int32} (h : (ax_dt (ax_T i)).lookup pc = some (.iand, len, r1, r2, kc)) (k : bD L xs d i (pc + len) lv (bI (bAnd a b) :: st) μ o) : bD L xs d i pc lv (bI b :: bI a :: st) μ o := b_v h (fun _ => rfl) (congrArg Value.int (Int32.ofInt_toInt _).symm) k
theorem b_iand (h : (ax_dt (ax_T i)).lookup pc = some (.iand, len, r1, r2, kc)) (k : bD L xs d i (pc + len) lv (bI (bAnd a b) :: st) μ o) : bD L xs d i pc lv (bI b :: bI a :: st) μ o := b_v h (fun _ => rfl) (congrArg Value.int (Int32.ofInt_toInt _).symm) k
theorem b_ior (h : (ax_dt (ax_T i)).lookup pc = some (.ior, len, r1, r2, kc)) (k : bD L xs d i (pc + len) lv (bI (bOr a b) :: st) μ o) : bD L xs d i pc lv (bI b :: bI a :: st) μ o := b_v h (fun _ => rfl) (congrArg Value.int (Int32.ofInt_toInt _).symm) k
theorem b_ixor (h : (ax_dt (ax_T i)).lookup pc = some (.ixor, len, r1, r2, kc)) (k : bD L xs d i (pc + len) lv (bI (bXor a b) :: st) μ o) : bD L xs d i pc lv (bI b :: bI a :: st) μ o := b_v h (fun _ => rfl) (congrArg Value.int (Int32.ofInt_toInt _).symm) k
theorem b_ishr (h : (ax_dt (ax_T i)).lookup pc = some (.ishr, len, r1, r2, kc)) (k : bD L xs d i (pc + len) lv (bI (bShr a b) :: st) μ o) : bD L xs d i pc lv (bI b :: bI a :: st) μ o := b_v h (fun _ => rfl) (congrArg Value.int (Int32.ofInt_toInt _).symm) k
theorem b_iushr (h : (ax_dt (ax_T i)).lookup pc = some (.iushr, len, r1, r2, kc)) (k : bD L xs d i (pc + len) lv (bI (bUshr a b) :: st) μ o) : bD L xs d i pc lv (bI b :: bI a :: st) μ o := b_v h (fun _ => rfl) (congrArg Value.int (Int32.ofInt_toInt _).symm) k
theorem b_idiv (h : (ax_dt (ax_T i)).lookup pc = some (.idiv, len, r1, r2, kc)) (hb : Int32.ofInt b ≠ 0) (k : bD L xs d i (pc + len) lv (bI (bDiv a b) :: st) μ o) : bD L xs d i pc lv (bI b :: bI a :: st) μ o := by
  refine b_v (v := .int (Int32.ofInt a / Int32.ofInt b)) h (fun M => ?_) (congrArg Value.int (Int32.ofInt_toInt _).symm) k
  show ((if Int32.ofInt b = 0 then none else _) <|> _) = _
  rw [if_neg hb]
  rfl
theorem b_irem (h : (ax_dt (ax_T i)).lookup pc = some (.irem, len, r1, r2, kc)) (hb : Int32.ofInt b ≠ 0) (k : bD L xs d i (pc + len) lv (bI (bRem a b) :: st) μ o) : bD L xs d i pc lv (bI b :: bI a :: st) μ o := by
  refine b_v (v := .int (Int32.ofInt a - Int32.ofInt a / Int32.ofInt b * Int32.ofInt b)) h (fun M => ?_) (congrArg Value.int (Int32.ofInt_toInt _).symm) k
  show ((if Int32.ofInt b = 0 then none else _) <|> _) = _
  rw [if_neg hb]
  rfl
theorem b_ladd (h : (ax_dt (ax_T i)).lookup pc = some (.ladd, len, r1, r2, kc)) (k : bRL (a + b) → bD L xs d i (pc + len) lv (bLg (a + b) :: st) μ (E.bind κ)) : bD L xs d i pc lv (bLg b :: bLg a :: st) μ ((bG (bRL (a + b)) E).bind κ) := b_g fun g => b_v h (fun _ => rfl) (congrArg Value.long (Int64.ofInt_add a b).symm) (k g)
theorem b_lsub (h : (ax_dt (ax_T i)).lookup pc = some (.lsub, len, r1, r2, kc)) (k : bRL (a - b) → bD L xs d i (pc + len) lv (bLg (a - b) :: st) μ (E.bind κ)) : bD L xs d i pc lv (bLg b :: bLg a :: st) μ ((bG (bRL (a - b)) E).bind κ) := b_g fun g => b_v h (fun _ => rfl) (congrArg Value.long (Int64.ofInt_sub a b).symm) (k g)
theorem b_land (h : (ax_dt (ax_T i)).lookup pc = some (.land, len, r1, r2, kc)) (k : bD L xs d i (pc + len) lv (bLg (bAndL a b) :: st) μ o) : bD L xs d i pc lv (bLg b :: bLg a :: st) μ o := b_v h (fun _ => rfl) (congrArg Value.long (Int64.ofInt_toInt _).symm) k
theorem b_lor (h : (ax_dt (ax_T i)).lookup pc = some (.lor, len, r1, r2, kc)) (k : bD L xs d i (pc + len) lv (bLg (bOrL a b) :: st) μ o) : bD L xs d i pc lv (bLg b :: bLg a :: st) μ o := b_v h (fun _ => rfl) (congrArg Value.long (Int64.ofInt_toInt _).symm) k
theorem b_lxor (h : (ax_dt (ax_T i)).lookup pc = some (.lxor, len, r1, r2, kc)) (k : bD L xs d i (pc + len) lv (bLg (bXorL a b) :: st) μ o) : bD L xs d i pc lv (bLg b :: bLg a :: st) μ o := b_v h (fun _ => rfl) (congrArg Value.long (Int64.ofInt_toInt _).symm) k
theorem b_lshl (h : (ax_dt (ax_T i)).lookup pc = some (.lshl, len, r1, r2, kc)) (k : bD L xs d i (pc + len) lv (bLg (bShlL a b) :: st) μ o) : bD L xs d i pc lv (bI b :: bLg a :: st) μ o := b_v h (fun _ => rfl) (congrArg Value.long (Int64.ofInt_toInt _).symm) k
theorem b_lshr (h : (ax_dt (ax_T i)).lookup pc = some (.lshr, len, r1, r2, kc)) (k : bD L xs d i (pc + len) lv (bLg (bShrL a b) :: st) μ o) : bD L xs d i pc lv (bI b :: bLg a :: st) μ o := b_v h (fun _ => rfl) (congrArg Value.long (Int64.ofInt_toInt _).symm) k
theorem b_lushr (h : (ax_dt (ax_T i)).lookup pc = some (.lushr, len, r1, r2, kc)) (k : bD L xs d i (pc + len) lv (bLg (bUshrL a b) :: st) μ o) : bD L xs d i pc lv (bI b :: bLg a :: st) μ o := b_v h (fun _ => rfl) (congrArg Value.long (Int64.ofInt_toInt _).symm) k
theorem b_ldiv (h : (ax_dt (ax_T i)).lookup pc = some (.ldiv, len, r1, r2, kc)) (hb : Int64.ofInt b ≠ 0) (k : bD L xs d i (pc + len) lv (bLg (bDivL a b) :: st) μ o) : bD L xs d i pc lv (bLg b :: bLg a :: st) μ o := by
  refine b_v (v := .long (Int64.ofInt a / Int64.ofInt b)) h (fun M => ?_) (congrArg Value.long (Int64.ofInt_toInt _).symm) k
  show ((if Int64.ofInt b = 0 then none else _) <|> _) = _
  rw [if_neg hb]
  rfl
theorem b_lrem (h : (ax_dt (ax_T i)).lookup pc = some (.lrem, len, r1, r2, kc)) (hb : Int64.ofInt b ≠ 0) (k : bD L xs d i (pc + len) lv (bLg (bRemL a b) :: st) μ o) : bD L xs d i pc lv (bLg b :: bLg a :: st) μ o := by
  refine b_v (v := .long (Int64.ofInt a - Int64.ofInt a / Int64.ofInt b * Int64.ofInt b)) h (fun M => ?_) (congrArg Value.long (Int64.ofInt_toInt _).symm) k
  show ((if Int64.ofInt b = 0 then none else _) <|> _) = _
  rw [if_neg hb]
  rfl
theorem b_i2l (h : (ax_dt (ax_T i)).lookup pc = some (.i2l, len, r1, r2, kc)) (ha : bR a) (k : bD L xs d i (pc + len) lv (bLg a :: st) μ o) : bD L xs d i pc lv (bI a :: st) μ o := b_v h (fun M => by show (ax_ints (.i2l, len, r1, r2, kc) pc lv (bI a :: st) M <|> (ax_longs (.i2l, len, r1, r2, kc) pc lv (bI a :: st) M <|> _)) = _; rw [bz_ints_i2l, bz_longs_i2l]; rfl) (congrArg Value.long (by rw [← Int64.ofInt_int32ToInt, bi_t ha])) k
theorem b_l2i (h : (ax_dt (ax_T i)).lookup pc = some (.l2i, len, r1, r2, kc)) (k : bD L xs d i (pc + len) lv (bI (b32 a) :: st) μ o) : bD L xs d i pc lv (bLg a :: st) μ o := b_v h (fun M => by show (ax_longs (.l2i, len, r1, r2, kc) pc lv (bLg a :: st) M <|> _) = _; rw [bz_longs_l2i]; rfl) (congrArg Value.int (by rw [b32_o, Int64.toInt32_ofInt])) k
theorem b_i2b (h : (ax_dt (ax_T i)).lookup pc = some (.i2b, len, r1, r2, kc)) (k : bD L xs d i (pc + len) lv (bI (b8 a) :: st) μ o) : bD L xs d i pc lv (bI a :: st) μ o := b_v h (fun M => by show (ax_ints (.i2b, len, r1, r2, kc) pc lv (bI a :: st) M <|> (ax_longs (.i2b, len, r1, r2, kc) pc lv (bI a :: st) M <|> _)) = _; rw [bz_ints_i2b, bz_longs_i2b]; rfl) (congrArg Value.int (b8_o a).symm) k
end
/-! memory -/
theorem bSh_id {q : Nat} (h : (bSh q).1 ≠ 99) : ∃ j, q = j + 1 ∧ j < 112 := by
  obtain ⟨h1, h2⟩ := bSh_lt h
  exact ⟨q - 1, by omega, by omega⟩
theorem bN_le : ∀ q, q < 113 → (bSh q).2 ≤ 180000 := by decide +kernel
theorem bN_len {q c n : Nat} (h : bSh q = (c, n)) (hc : c ≠ 99) : n ≤ 180000 := by
  have := bN_le q (bSh_lt (by rw [h]; exact hc)).2
  rw [h] at this
  exact this
theorem bi_c {j : Int} {n : Nat} (hn : n ≤ 180000) (h0 : 0 ≤ j) (h1 : j < n) : ¬ (Int32.ofInt j < 0 ∨ n ≤ j.toNat) ∧ (Int32.ofInt j).toNatClampNeg = j.toNat := by
  have hr : bR j := by constructor <;> omega
  have e : (Int32.ofInt j).toNatClampNeg = j.toNat := by show (Int32.ofInt j).toInt.toNat = _; rw [bi_t hr]
  refine ⟨?_, e⟩
  rw [bi_0, bi_lt hr bR_0]
  omega
section
variable {L : Nat} {xs : Nat → Int32} {d i pc len r1 r2 q n ci k : Nat} {kc j : Int} {lv : List (Nat × Value)} {st : List Value} {μ : bM} {o : Option bX} {ρ : Type} {κ : ρ → Option bX} {E : Option ρ}
theorem b_gf {m : Nat} {w : Value} (h : (ax_dt (ax_T i)).lookup pc = some (.getfield m, len, ci, k, kc)) (hq : bSh q = (ci + 10, n)) (hc : ci < 10) (hk : k < ax_cn ci) (hv : bV (ax_ty ci k) (μ q k) = w) (k1 : bD L xs d i (pc + len) lv (w :: st) μ o) : bD L xs d i pc lv (.ref q :: st) μ o := by
  obtain ⟨q0, rfl, hq0⟩ := bSh_id (q := q) (by rw [hq]; show ci + 10 ≠ 99; omega)
  intro hok r hr
  obtain ⟨a1, a2, a3⟩ := k1 hok r hr
  refine ⟨a1, a2, fun f => bRn.s h ?_ (a3 f)⟩
  have : ax_getf (.getfield m, len, ci, k, kc) pc lv (.ref (q0 + 1) :: st) (112, bH μ, f) = some (pc + len, lv, w :: st, (112, bH μ, f), 0, 0) := by
    simp only [ax_getf]
    rw [bH_o hq]
    simp only [hq0, and_self, if_true, List.getElem?_map, List.getElem?_range hk, Option.map_some, hv, ax_k]
  show (ax_getf (.getfield m, len, ci, k, kc) pc lv (.ref (q0 + 1) :: st) (112, bH μ, f) <|> _) = _
  rw [this]
  rfl
theorem b_pf {m : Nat} {w : Value} {e : Int} (h : (ax_dt (ax_T i)).lookup pc = some (.putfield m, len, ci, k, kc)) (hq : bSh q = (ci + 10, n)) (hc : ci < 10) (hk : k < ax_cn ci) (hw : bV (ax_ty ci k) e = w) (hf : ax_fit (ax_ty ci k) w = true) (he : bIn q k e) (k1 : bD L xs d i (pc + len) lv st (bset μ q k e) o) : bD L xs d i pc lv (w :: .ref q :: st) μ o := by
  have hqq := hq
  obtain ⟨q0, rfl, hq0⟩ := bSh_id (q := q) (by rw [hq]; show ci + 10 ≠ 99; omega)
  intro hok r hr
  obtain ⟨a1, a2, a3⟩ := k1 (bOk_set hok he) r hr
  refine ⟨a1, a2, fun f => bRn.s h ?_ (a3 f)⟩
  have hup : ax_up (bH μ) (q0 + 1) (.inr (ci, ((List.range (ax_cn ci)).map fun k => bV (ax_ty ci k) (μ (q0 + 1) k)).set k w)) = bH (bset μ (q0 + 1) k e) := by
    refine bH_set ?_
    have : bCell (bSh (q0 + 1)) (bset μ (q0 + 1) k e (q0 + 1)) = bH (bset μ (q0 + 1) k e) (q0 + 1) := rfl
    rw [this, bH_o hq]
    congr 2
    apply List.ext_getElem?
    intro z
    rw [List.getElem?_set]
    simp only [List.getElem?_map, List.length_map, List.length_range]
    by_cases hz : z < ax_cn ci
    · rw [List.getElem?_range hz]
      simp only [Option.map_some]
      rw [bset_row]
      by_cases hzk : k = z
      · subst hzk
        rw [if_pos rfl, if_pos rfl, if_pos hz, hw]
      · rw [if_neg hzk, if_neg (fun h => hzk h.symm)]
    · have hzk : ¬ k = z := by omega
      rw [if_neg hzk, List.getElem?_eq_none (by simpa using hz)]
      rfl
  have : ax_putf (.putfield m, len, ci, k, kc) pc lv (w :: .ref (q0 + 1) :: st) (112, bH μ, f) = some (pc + len, lv, st, (112, bH (bset μ (q0 + 1) k e), f), 0, 0) := by
    simp only [ax_putf]
    rw [bH_o hq]
    simp only [hq0, hk, hf, List.length_map, List.length_range, and_self, if_true, hup]
  show (ax_ints (.putfield m, len, ci, k, kc) pc lv (w :: .ref (q0 + 1) :: st) (112, bH μ, f) <|> (ax_longs (.putfield m, len, ci, k, kc) pc lv (w :: .ref (q0 + 1) :: st) (112, bH μ, f) <|> (ax_putf (.putfield m, len, ci, k, kc) pc lv (w :: .ref (q0 + 1) :: st) (112, bH μ, f) <|> _))) = _
  rw [bz_ints_pf, bz_longs_pf, this]
  rfl
theorem b_ial (h : (ax_dt (ax_T i)).lookup pc = some (.iaload, len, r1, r2, kc)) (hq : bSh q = (1, n)) (hj : 0 ≤ j ∧ j < n) (k1 : bD L xs d i (pc + len) lv (bI (μ q j.toNat) :: st) μ o) : bD L xs d i pc lv (bI j :: .ref q :: st) μ o := by
  obtain ⟨q0, rfl, hq0⟩ := bSh_id (q := q) (by rw [hq]; simp)
  have hcc := bi_c (bN_len hq (by decide)) hj.1 hj.2
  intro hok r hr
  obtain ⟨a1, a2, a3⟩ := k1 hok r hr
  refine ⟨a1, a2, fun f => bRn.s h ?_ (a3 f)⟩
  have : ax_aload L xs (.iaload, len, r1, r2, kc) pc lv (bI j :: .ref (q0 + 1) :: st) (112, bH μ, f) = some (pc + len, lv, bI (μ (q0 + 1) j.toNat) :: st, (112, bH μ, f), 0, 0) := by
    simp only [ax_aload]
    rw [bH_i hq]
    simp only [hq0, if_true, hcc.2, if_neg hcc.1, ax_k]
  show (ax_aload L xs (.iaload, len, r1, r2, kc) pc lv (bI j :: .ref (q0 + 1) :: st) (112, bH μ, f) <|> _) = _
  rw [this]
  rfl
theorem b_bal (h : (ax_dt (ax_T i)).lookup pc = some (.baload, len, r1, r2, kc)) (hq : bSh q = (0, n)) (hj : 0 ≤ j ∧ j < n) (k1 : bD L xs d i (pc + len) lv (bI (μ q j.toNat) :: st) μ o) : bD L xs d i pc lv (bI j :: .ref q :: st) μ o := by
  obtain ⟨q0, rfl, hq0⟩ := bSh_id (q := q) (by rw [hq]; simp)
  have hcc := bi_c (bN_len hq (by decide)) hj.1 hj.2
  intro hok r hr
  obtain ⟨a1, a2, a3⟩ := k1 hok r hr
  refine ⟨a1, a2, fun f => bRn.s h ?_ (a3 f)⟩
  have : ax_aload L xs (.baload, len, r1, r2, kc) pc lv (bI j :: .ref (q0 + 1) :: st) (112, bH μ, f) = some (pc + len, lv, bI (μ (q0 + 1) j.toNat) :: st, (112, bH μ, f), 0, 0) := by
    simp only [ax_aload]
    rw [bH_b hq]
    simp only [hq0, if_true, hcc.2, if_neg hcc.1, ax_k]
  show (ax_aload L xs (.baload, len, r1, r2, kc) pc lv (bI j :: .ref (q0 + 1) :: st) (112, bH μ, f) <|> _) = _
  rw [this]
  rfl
theorem b_zal (h : (ax_dt (ax_T i)).lookup pc = some (.baload, len, r1, r2, kc)) (hq : bSh q = (3, n)) (hj : 0 ≤ j ∧ j < n) (k1 : bD L xs d i (pc + len) lv (bI (μ q j.toNat) :: st) μ o) : bD L xs d i pc lv (bI j :: .ref q :: st) μ o := by
  obtain ⟨q0, rfl, hq0⟩ := bSh_id (q := q) (by rw [hq]; simp)
  have hcc := bi_c (bN_len hq (by decide)) hj.1 hj.2
  intro hok r hr
  obtain ⟨a1, a2, a3⟩ := k1 hok r hr
  refine ⟨a1, a2, fun f => bRn.s h ?_ (a3 f)⟩
  have : ax_aload L xs (.baload, len, r1, r2, kc) pc lv (bI j :: .ref (q0 + 1) :: st) (112, bH μ, f) = some (pc + len, lv, bI (μ (q0 + 1) j.toNat) :: st, (112, bH μ, f), 0, 0) := by
    simp only [ax_aload]
    rw [bH_z hq]
    simp only [hq0, if_true, hcc.2, if_neg hcc.1, ax_k]
  show (ax_aload L xs (.baload, len, r1, r2, kc) pc lv (bI j :: .ref (q0 + 1) :: st) (112, bH μ, f) <|> _) = _
  rw [this]
  rfl
theorem b_lal (h : (ax_dt (ax_T i)).lookup pc = some (.laload, len, r1, r2, kc)) (hq : bSh q = (2, n)) (hj : 0 ≤ j ∧ j < n) (k1 : bD L xs d i (pc + len) lv (bLg (μ q j.toNat) :: st) μ o) : bD L xs d i pc lv (bI j :: .ref q :: st) μ o := by
  obtain ⟨q0, rfl, hq0⟩ := bSh_id (q := q) (by rw [hq]; simp)
  have hcc := bi_c (bN_len hq (by decide)) hj.1 hj.2
  intro hok r hr
  obtain ⟨a1, a2, a3⟩ := k1 hok r hr
  refine ⟨a1, a2, fun f => bRn.s h ?_ (a3 f)⟩
  have : ax_aload L xs (.laload, len, r1, r2, kc) pc lv (bI j :: .ref (q0 + 1) :: st) (112, bH μ, f) = some (pc + len, lv, bLg (μ (q0 + 1) j.toNat) :: st, (112, bH μ, f), 0, 0) := by
    simp only [ax_aload]
    rw [bH_l hq]
    simp only [hq0, if_true, hcc.2, if_neg hcc.1, ax_k]
  show (ax_aload L xs (.laload, len, r1, r2, kc) pc lv (bI j :: .ref (q0 + 1) :: st) (112, bH μ, f) <|> _) = _
  rw [this]
  rfl
theorem b_len (h : (ax_dt (ax_T i)).lookup pc = some (.arraylength, len, r1, r2, kc)) {c : Nat} (hq : bSh q = (c, n)) (hc : c < 4) (k1 : bD L xs d i (pc + len) lv (bI (n : Int) :: st) μ o) : bD L xs d i pc lv (.ref q :: st) μ o := by
  obtain ⟨q0, rfl, hq0⟩ := bSh_id (q := q) (by rw [hq]; show c ≠ 99; omega)
  intro hok r hr
  obtain ⟨a1, a2, a3⟩ := k1 hok r hr
  refine ⟨a1, a2, fun f => bRn.s h ?_ (a3 f)⟩
  have : ax_aload L xs (.arraylength, len, r1, r2, kc) pc lv (.ref (q0 + 1) :: st) (112, bH μ, f) = some (pc + len, lv, bI (n : Int) :: st, (112, bH μ, f), 0, 0) := by
    have hcs : c = 0 ∨ c = 1 ∨ c = 2 ∨ c = 3 := by omega
    simp only [ax_aload]
    rcases hcs with rfl | rfl | rfl | rfl
    · rw [bH_b hq]; simp only [hq0, show (0 : Nat) < 4 by decide, and_self, if_true, ax_k, bI, Int32.ofInt_eq_ofNat]
    · rw [bH_i hq]; simp only [hq0, show (1 : Nat) < 4 by decide, and_self, if_true, ax_k, bI, Int32.ofInt_eq_ofNat]
    · rw [bH_l hq]; simp only [hq0, show (2 : Nat) < 4 by decide, and_self, if_true, ax_k, bI, Int32.ofInt_eq_ofNat]
    · rw [bH_z hq]; simp only [hq0, show (3 : Nat) < 4 by decide, and_self, if_true, ax_k, bI, Int32.ofInt_eq_ofNat]
  show (ax_aload L xs (.arraylength, len, r1, r2, kc) pc lv (.ref (q0 + 1) :: st) (112, bH μ, f) <|> _) = _
  rw [this]
  rfl
theorem b_ias {e : Int} (h : (ax_dt (ax_T i)).lookup pc = some (.iastore, len, r1, r2, kc)) (hq : bSh q = (1, n)) (hj : 0 ≤ j ∧ j < n) (he : bR e) (k1 : bD L xs d i (pc + len) lv st (bset μ q j.toNat e) o) : bD L xs d i pc lv (bI e :: bI j :: .ref q :: st) μ o := by
  obtain ⟨q0, rfl, hq0⟩ := bSh_id (q := q) (by rw [hq]; simp)
  have hcc := bi_c (bN_len hq (by decide)) hj.1 hj.2
  intro hok r hr
  obtain ⟨a1, a2, a3⟩ := k1 (bOk_set hok ((bIn_i hq).mpr he)) r hr
  refine ⟨a1, a2, fun f => bRn.s h ?_ (a3 f)⟩
  have hup : ax_up (bH μ) (q0 + 1) (.inl (1, n, .inl (upd (fun k => Int32.ofInt (μ (q0 + 1) k)) j.toNat (Int32.ofInt e)))) = bH (bset μ (q0 + 1) j.toNat e) := by
    refine bH_set ?_
    have : bCell (bSh (q0 + 1)) (bset μ (q0 + 1) j.toNat e (q0 + 1)) = bH (bset μ (q0 + 1) j.toNat e) (q0 + 1) := rfl
    rw [this, bH_i hq]
    congr 4
    funext z
    rw [bset_row]
    unfold upd
    split <;> rfl
  have : ax_astore (.iastore, len, r1, r2, kc) pc lv (bI e :: bI j :: .ref (q0 + 1) :: st) (112, bH μ, f) = some (pc + len, lv, st, (112, bH (bset μ (q0 + 1) j.toNat e), f), 0, 0) := by
    simp only [ax_astore]
    rw [bH_i hq]
    simp only [hq0, if_true, hcc.2, if_neg hcc.1, hup]
  show (ax_astore (.iastore, len, r1, r2, kc) pc lv (bI e :: bI j :: .ref (q0 + 1) :: st) (112, bH μ, f) <|> _) = _
  rw [this]
  rfl
theorem b_las {e : Int} (h : (ax_dt (ax_T i)).lookup pc = some (.lastore, len, r1, r2, kc)) (hq : bSh q = (2, n)) (hj : 0 ≤ j ∧ j < n) (he : bRL e) (k1 : bD L xs d i (pc + len) lv st (bset μ q j.toNat e) o) : bD L xs d i pc lv (bLg e :: bI j :: .ref q :: st) μ o := by
  obtain ⟨q0, rfl, hq0⟩ := bSh_id (q := q) (by rw [hq]; simp)
  have hcc := bi_c (bN_len hq (by decide)) hj.1 hj.2
  intro hok r hr
  obtain ⟨a1, a2, a3⟩ := k1 (bOk_set hok ((bIn_l hq).mpr he)) r hr
  refine ⟨a1, a2, fun f => bRn.s h ?_ (a3 f)⟩
  have hup : ax_up (bH μ) (q0 + 1) (.inl (2, n, .inr (.inl (vp_updL (fun k => Int64.ofInt (μ (q0 + 1) k)) j.toNat (Int64.ofInt e))))) = bH (bset μ (q0 + 1) j.toNat e) := by
    refine bH_set ?_
    have : bCell (bSh (q0 + 1)) (bset μ (q0 + 1) j.toNat e (q0 + 1)) = bH (bset μ (q0 + 1) j.toNat e) (q0 + 1) := rfl
    rw [this, bH_l hq]
    congr 5
    funext z
    rw [bset_row]
    unfold vp_updL
    split <;> rfl
  have : ax_astore (.lastore, len, r1, r2, kc) pc lv (bLg e :: bI j :: .ref (q0 + 1) :: st) (112, bH μ, f) = some (pc + len, lv, st, (112, bH (bset μ (q0 + 1) j.toNat e), f), 0, 0) := by
    simp only [ax_astore]
    rw [bH_l hq]
    simp only [hq0, if_true, hcc.2, if_neg hcc.1, hup]
  show (ax_astore (.lastore, len, r1, r2, kc) pc lv (bLg e :: bI j :: .ref (q0 + 1) :: st) (112, bH μ, f) <|> _) = _
  rw [this]
  rfl
theorem b_nar8 {e : Int} (he : -128 ≤ e ∧ e ≤ 127) : vp_nar .byte (Int32.ofInt e) = Int32.ofInt e := by
  show (Int32.ofInt e).toInt8.toInt32 = _
  rw [← b8_o, b8_id he]
theorem b_nar1 {e : Int} (he : 0 ≤ e ∧ e ≤ 1) : vp_nar .boolean (Int32.ofInt e) = Int32.ofInt e := by
  have : e = 0 ∨ e = 1 := by omega
  rcases this with rfl | rfl <;> decide
theorem b_bas {e : Int} (h : (ax_dt (ax_T i)).lookup pc = some (.bastore, len, r1, r2, kc)) (hq : bSh q = (0, n)) (hj : 0 ≤ j ∧ j < n) (he : -128 ≤ e ∧ e ≤ 127) (k1 : bD L xs d i (pc + len) lv st (bset μ q j.toNat e) o) : bD L xs d i pc lv (bI e :: bI j :: .ref q :: st) μ o := by
  obtain ⟨q0, rfl, hq0⟩ := bSh_id (q := q) (by rw [hq]; simp)
  have hcc := bi_c (bN_len hq (by decide)) hj.1 hj.2
  intro hok r hr
  obtain ⟨a1, a2, a3⟩ := k1 (bOk_set hok ((bIn_b hq).mpr he)) r hr
  refine ⟨a1, a2, fun f => bRn.s h ?_ (a3 f)⟩
  have hup : ax_up (bH μ) (q0 + 1) (.inl (0, n, .inl (upd (fun k => Int32.ofInt (μ (q0 + 1) k)) j.toNat (Int32.ofInt e)))) = bH (bset μ (q0 + 1) j.toNat e) := by
    refine bH_set ?_
    have : bCell (bSh (q0 + 1)) (bset μ (q0 + 1) j.toNat e (q0 + 1)) = bH (bset μ (q0 + 1) j.toNat e) (q0 + 1) := rfl
    rw [this, bH_b hq]
    congr 4
    funext z
    rw [bset_row]
    unfold upd
    split <;> rfl
  have : ax_astore (.bastore, len, r1, r2, kc) pc lv (bI e :: bI j :: .ref (q0 + 1) :: st) (112, bH μ, f) = some (pc + len, lv, st, (112, bH (bset μ (q0 + 1) j.toNat e), f), 0, 0) := by
    simp only [ax_astore]
    rw [bH_b hq]
    simp only [hq0, if_true, hcc.2, if_neg hcc.1, b_nar8 he, hup]
  show (ax_astore (.bastore, len, r1, r2, kc) pc lv (bI e :: bI j :: .ref (q0 + 1) :: st) (112, bH μ, f) <|> _) = _
  rw [this]
  rfl
theorem b_zas {e : Int} (h : (ax_dt (ax_T i)).lookup pc = some (.bastore, len, r1, r2, kc)) (hq : bSh q = (3, n)) (hj : 0 ≤ j ∧ j < n) (he : 0 ≤ e ∧ e ≤ 1) (k1 : bD L xs d i (pc + len) lv st (bset μ q j.toNat e) o) : bD L xs d i pc lv (bI e :: bI j :: .ref q :: st) μ o := by
  obtain ⟨q0, rfl, hq0⟩ := bSh_id (q := q) (by rw [hq]; simp)
  have hcc := bi_c (bN_len hq (by decide)) hj.1 hj.2
  intro hok r hr
  obtain ⟨a1, a2, a3⟩ := k1 (bOk_set hok ((bIn_z hq).mpr he)) r hr
  refine ⟨a1, a2, fun f => bRn.s h ?_ (a3 f)⟩
  have hup : ax_up (bH μ) (q0 + 1) (.inl (3, n, .inl (upd (fun k => Int32.ofInt (μ (q0 + 1) k)) j.toNat (Int32.ofInt e)))) = bH (bset μ (q0 + 1) j.toNat e) := by
    refine bH_set ?_
    have : bCell (bSh (q0 + 1)) (bset μ (q0 + 1) j.toNat e (q0 + 1)) = bH (bset μ (q0 + 1) j.toNat e) (q0 + 1) := rfl
    rw [this, bH_z hq]
    congr 4
    funext z
    rw [bset_row]
    unfold upd
    split <;> rfl
  have : ax_astore (.bastore, len, r1, r2, kc) pc lv (bI e :: bI j :: .ref (q0 + 1) :: st) (112, bH μ, f) = some (pc + len, lv, st, (112, bH (bset μ (q0 + 1) j.toNat e), f), 0, 0) := by
    simp only [ax_astore]
    rw [bH_z hq]
    simp only [hq0, if_true, hcc.2, if_neg hcc.1, b_nar1 he, hup]
  show (ax_astore (.bastore, len, r1, r2, kc) pc lv (bI e :: bI j :: .ref (q0 + 1) :: st) (112, bH μ, f) <|> _) = _
  rw [this]
  rfl
/-- the script -/
theorem b_scr (h : (ax_dt (ax_T i)).lookup pc = some (.iaload, len, r1, r2, kc)) (hj : 0 ≤ j ∧ j < L) (hL : L ≤ 180000) (k1 : bD L xs d i (pc + len) lv (bI (xs j.toNat).toInt :: st) μ o) : bD L xs d i pc lv (bI j :: .ref 0 :: st) μ o := by
  have hcc := bi_c hL hj.1 hj.2
  refine b_v (v := .int (xs j.toNat)) h (fun M => ?_) (congrArg Value.int (Int32.ofInt_toInt _).symm) k1
  show ((if Int32.ofInt j < 0 ∨ L ≤ (Int32.ofInt j).toNatClampNeg then none else _) <|> _) = _
  rw [hcc.2, if_neg hcc.1]
  rfl
theorem b_scl (h : (ax_dt (ax_T i)).lookup pc = some (.arraylength, len, r1, r2, kc)) (k1 : bD L xs d i (pc + len) lv (bI (L : Int) :: st) μ o) : bD L xs d i pc lv (.ref 0 :: st) μ o :=
  b_v h (fun _ => rfl) (congrArg Value.int Int32.ofInt_eq_ofNat.symm) k1
end
end BC
