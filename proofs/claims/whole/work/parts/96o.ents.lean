section FX
/-! all entries of a unit -/
theorem bLoop_up {σ ρ : Type} {f : σ → Option (σ ⊕ ρ)} {s : σ} {x : Option ρ} (h : f s = bUp x) : bLoop f s = x := by
  cases x with
  | some r => exact bLoop_done h
  | none =>
    cases hp : bLoop f s with
    | none => rfl
    | some r =>
      exfalso
      obtain ⟨n, hn⟩ := bLoop_ex hp
      cases n with
      | zero => cases hn
      | succ n =>
        unfold bRep at hn
        rw [h] at hn
        cases hn
def sRc (T q k : Nat) : Prop := q = 46 ∨ q = 30 ∧ k = 4 ∨ 49 ≤ q ∧ q ≤ 60 ∨ T ≤ q ∧ q ≤ T + 14
def sRm (b q k : Nat) : Prop := q = 76 ∧ 37 ≤ k ∧ k ≤ 53 ∨ (q = 78 ∨ q = 79 ∨ q = 90 ∨ q = 91) ∧ k = b ∨ q = 80 ∧ 6 * b ≤ k ∧ k < 6 * b + 6 ∨ 81 ≤ q ∧ q ≤ 84 ∧ 400 * b ≤ k ∧ k < 400 * b + 400 ∨ 85 ≤ q ∧ q ≤ 89 ∧ 3200 * b ≤ k ∧ k < 3200 * b + 3200 ∨ q = 92 ∧ 90000 * b ≤ k ∧ k < 90000 * b + 90000 ∨ 104 ≤ q ∧ q ≤ 111
section
variable {r : Nat → Nat → Int} {sz : Nat → Nat} {μ ν μ' ν' : bM} {T b e A p E L P j s sI N n m S u0 fi n0 m0 : Nat} {o deep : Int}
theorem sYc_R {q k : Nat} (x : sYc T n q k) : sRc T q k := by
  unfold sYc sEc at x
  unfold sRc
  omega
theorem sYm_R (hn : n < 400) {q k : Nat} (x : sYm b n P q k) : sRm b q k := by
  unfold sYm sEm at x
  unfold sRm
  omega
theorem RB_cong (hT : T = 31 ∨ T = 61) (hR : RB r sz T b S n m L P μ ν) (hC : ∀ q, q ≠ 46 → q ≠ 59 → μ' q = μ q) (hM : ∀ q, q ≠ 76 → q ≠ 79 → q ≠ 80 → q ≠ 110 → ν' q = ν q) (h3 : ν' 76 3 = ν 76 3) (h43 : ν' 76 43 = ν 76 43) : RB r sz T b S n m L P μ' ν' := by
  obtain ⟨⟨r1, r2, r3, r4⟩, r5, r6, ⟨r7, r8⟩, ⟨r9, r10, r11, r12, r13, r14, r15⟩, r16, r17⟩ := hR
  have c0 := hC T (by omega) (by omega)
  have c10 := hC (T + 10) (by omega) (by omega)
  have c11 := hC (T + 11) (by omega) (by omega)
  have c14 := hC (T + 14) (by omega) (by omega)
  refine ⟨⟨CSrc_cong r1 fun q x y => hC q (by omega) (by omega), MSrc_cong r2 fun q x y => hM q (by omega) (by omega) (by omega) (by omega), by rw [hC 30 (by omega) (by omega)]; exact r3, by rw [h3]; exact r4⟩, ?_, ?_, by rw [c0]; exact ⟨r7, r8⟩, ?_, ?_, fun e he k hk => ?_⟩
  · exact TB_cong r5 (fun q x y => hC q (by omega) (by omega)) (fun q x y => hM q (by omega) (by omega) (by omega) (by omega)) h43
  · rw [Sk_iff hT] at r6 ⊢
    unfold iChl at r6 ⊢
    rw [c0, c10, hC (T + 1) (by omega) (by omega), hC (T + 2) (by omega) (by omega), hC (T + 3) (by omega) (by omega), hC (T + 4) (by omega) (by omega), hC (T + 5) (by omega) (by omega), hC (T + 6) (by omega) (by omega), hC (T + 7) (by omega) (by omega), hC (T + 8) (by omega) (by omega), hC (T + 9) (by omega) (by omega),
      hM 78 (by omega) (by omega) (by omega) (by omega), hM 81 (by omega) (by omega) (by omega) (by omega), hM 82 (by omega) (by omega) (by omega) (by omega), hM 83 (by omega) (by omega) (by omega) (by omega), hM 84 (by omega) (by omega) (by omega) (by omega)]
    exact r6
  · rw [hC 30 (by omega) (by omega), hM 90 (by omega) (by omega) (by omega) (by omega), hM 91 (by omega) (by omega) (by omega) (by omega), hM 92 (by omega) (by omega) (by omega) (by omega)]
    exact ⟨r9, r10, r11, r12, r13, r14, r15⟩
  · rw [c14, c10]
    exact r16
  · rw [c10] at hk
    obtain ⟨x1, x2⟩ := r17 e he k hk
    rw [c11]
    refine ⟨At0_cong x1 (fun q hq => by rw [hC q (by omega) (by omega)]) (fun q x y => by rw [hM q (by omega) (by omega) (by omega) (by omega)]) (by rw [hM 111 (by omega) (by omega) (by omega) (by omega)]) (by rw [hM 91 (by omega) (by omega) (by omega) (by omega)]; omega) (fun k x y => by rw [hM 92 (by omega) (by omega) (by omega) (by omega)]), x2⟩
/-- the entries of the unit: their places, their unit -/
def RU (T n0 n m0 u0 p : Nat) (μ ν : bM) : Prop := ∀ e, n0 ≤ e → e < n → μ 59 e = ν 110 e ∧ (0 ≤ μ 59 e ∧ μ 59 e < (p : Int) - u0) ∧ μ (T + 4) e = (m0 : Int) ∧ ∀ f, n0 ≤ f → f < e → μ 59 f < μ 59 e
def RO (T b m : Nat) (μ ν : bM) : Prop := ∀ u, u < m → ν 80 (6 * b + u) = μ (T + 1) u
/-- the references of the first n0 entries are found -/
def RR (T n0 m0 : Nat) (μ : bM) : Prop := ∀ e, e < n0 → (μ (T + 4) e < (m0 : Int)) ∧ ∀ k : Nat, (k : Int) < μ (T + 10) e → isRef (μ (T + 12) (8 * e + k)) → (0 ≤ μ (T + 13) (8 * e + k) ∧ μ (T + 13) (8 * e + k) < n0) ∧ μ (T + 4) (μ (T + 13) (8 * e + k)).toNat = μ (T + 4) e
def US (r : Nat → Nat → Int) (sz : Nat → Nat) (T b S n0 m0 u0 n m L P p E : Nat) (μ ν : bM) : Prop := RB r sz T b S n m L P μ ν ∧ Cur 0 p E μ ∧ Mur 0 p E ν ∧ (p ≤ E ∧ u0 ≤ p) ∧ ν 76 52 = (u0 : Int) ∧ ν 79 b = (m0 : Int) + 1 ∧ (n = n0 ∧ m = m0 ∨ n0 < n ∧ m = m0 + 1 ∧ μ (T + 1) m0 = (n0 : Int)) ∧ m0 < 6 ∧ RU T n0 n m0 u0 p μ ν ∧ RO T b m μ ν ∧ RR T n0 m0 μ
def OS (T n0 n : Nat) (o deep : Int) (μ : bM) : Prop := o = -1 ∧ deep = 0 ∧ n = n0 ∨ ∃ on : Nat, o = (on : Int) ∧ n0 ≤ on ∧ on < n ∧ deep = μ (T + 5) on + 1
theorem Opn_of (h : US r sz T b S n0 m0 u0 n m L P p E μ ν) (ho : OS T n0 n o deep μ) : Opn T b n m o deep μ ν := by
  obtain ⟨h1, h2, h3, h4, h5, h6, h7, h8, h9, h10, h11⟩ := h
  rcases ho with ⟨o1, o2, o3⟩ | ⟨on, o1, o2, o3, o4⟩
  · exact Or.inl ⟨o1, o2, by omega, by omega⟩
  · have := (h9 on o2 o3).2.2.1
    refine Or.inr ⟨on, o1, o3, o4, ?_, ?_⟩ <;> omega
theorem US_at {p' : Nat} (hT : T = 31 ∨ T = 61) (h : US r sz T b S n0 m0 u0 n m L P p E μ ν) (h1 : p ≤ p') (h2 : p' ≤ E) : US r sz T b S n0 m0 u0 n m L P p' E (bset μ 46 0 (p' : Int)) (bset ν 76 40 (p' : Int)) := by
  obtain ⟨a1, a2, a3, a4, a5, a6, a7, a8, a9, a10, a11⟩ := h
  have c : ∀ q, q ≠ 46 → bset μ 46 0 (p' : Int) q = μ q := fun q x => bset_q x
  have d : ∀ q, q ≠ 76 → bset ν 76 40 (p' : Int) q = ν q := fun q x => bset_q x
  refine ⟨RB_cong hT a1 (fun q x _ => c q x) (fun q x _ _ _ => d q x) (by simp (disch := first | omega | decide) only [bset_q, bset_k, bset_at]) (by simp (disch := first | omega | decide) only [bset_q, bset_k, bset_at]), Cur_at a2, Mur_at a3, by omega, by simp (disch := first | omega | decide) only [bset_q, bset_k, bset_at, a5], by rw [d 79 (by omega)]; exact a6, by rw [c (T + 1) (by omega)]; exact a7, a8, ?_, ?_, ?_⟩
  · unfold RU
    rw [c 59 (by omega), c (T + 4) (by omega), d 110 (by omega)]
    intro e x y
    obtain ⟨z1, z2, z3, z4⟩ := a9 e x y
    exact ⟨z1, by omega, z3, z4⟩
  · unfold RO
    rw [c (T + 1) (by omega), d 80 (by omega)]
    exact a10
  · unfold RR
    rw [c (T + 10) (by omega), c (T + 12) (by omega), c (T + 13) (by omega), c (T + 4) (by omega)]
    exact a11
theorem M170_w (hb : b = 0 ∨ b = 1) (h3 : ν 76 3 = (b : Int)) (h : ν 76 37 ≠ -1) {v1 v : Int} : bLoop (fun z : Int × bM => F_X11_readEntries_170 v1 z.1 z.2) (v, ν) = some (0, ν) := by
  refine bLoop_done ?_
  show F_X11_readEntries_170 v1 v ν = _
  unfold F_X11_readEntries_170
  rw [h3, bG_pos (by omega), if_pos (c := ¬ ν 76 37 = -1) h]
  split <;> rfl
theorem M138_w (hb : b = 0 ∨ b = 1) (h3 : ν 76 3 = (b : Int)) (h : ν 76 37 ≠ -1) {v1 : Int} : F_X11_readEntries_138 v1 ν = some (0, ν) := by
  unfold F_X11_readEntries_138
  rw [if_pos h, M170_w hb h3 h]
theorem M17_w (hb : b = 0 ∨ b = 1) (h3 : ν 76 3 = (b : Int)) (h : ν 76 37 ≠ -1) {v1 v2 v3 v4 : Int} : bLoop (fun z : Int × Int × Int × bM => F_X11_readEntries_17 v1 z.1 z.2.1 z.2.2.1 z.2.2.2) (v2, v3, v4, ν) = some (0, ν) := by
  rw [← M138_w hb h3 h (v1 := v1)]
  refine bLoop_up ?_
  show F_X11_readEntries_17 v1 v2 v3 v4 ν = _
  unfold F_X11_readEntries_17
  rw [if_pos (c := ¬ ν 76 37 = -1) h]
  split <;> rfl
end
end FX
