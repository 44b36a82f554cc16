section GB
section
variable {r : Nat → Nat → Int} {sz : Nat → Nat} {μ ν μ' ν' ν6 : bM} {T b e A p E L P j s sI N n m S u0 fi n0 m0 p' p2 L' P' c k Z : Nat} {v : Int}
def VS (r : Nat → Nat → Int) (sz : Nat → Nat) (T b S n0 m0 u0 n L P p E Z : Nat) (μ ν : bM) : Prop := US r sz T b S n0 m0 u0 n (m0 + 1) L P p E μ ν ∧ n0 < n ∧ ∀ e k : Nat, n0 ≤ e → e < n → (k : Int) < μ (T + 10) e → 8 * e + k < Z → isRef (μ (T + 12) (8 * e + k)) → (n0 : Int) ≤ μ (T + 13) (8 * e + k) ∧ μ (T + 13) (8 * e + k) < n
theorem At0_val {c : Int} (hT : T = 31 ∨ T = 61) (h : At0 r sz T b μ ν j) (hr : isRef (μ (T + 12) j)) : At0 r sz T b (bset μ (T + 13) j c) (bset ν 87 (3200 * b + j) c) j := by
  obtain ⟨a1, a2, a3⟩ := h
  unfold At0
  rw [bset_at, bset_at, bset_q (q' := T + 11) (by omega), bset_q (q' := T + 12) (by omega), bset_q (q' := T + 14) (by omega)]
  refine ⟨?_, a2, Or.inr ?_⟩
  · simp (disch := first | omega | decide) only [bset_q, bset_k, bset_at]
    exact a1
  · rcases a3 with ⟨b1, _⟩ | ⟨b1, b2, b3, b4, b5⟩
    · unfold isRef at hr
      unfold isLet at b1
      omega
    · refine ⟨b1, b2, rfl, fun hh => ?_, fun hh => ?_⟩
      · unfold isRef at hr
        omega
      · rw [bset_q (q' := 111) (by omega), bset_q (q' := 60) (by omega)]
        exact b5 hh
theorem VS_val (hT : T = 31 ∨ T = 61) (hV : VS r sz T b S n0 m0 u0 n L P p E (8 * e + k) μ ν) (he : n0 ≤ e) (hen : e < n) (hk : (k : Int) < μ (T + 10) e) (hr : isRef (μ (T + 12) (8 * e + k))) (hc : n0 ≤ c ∧ c < n) : VS r sz T b S n0 m0 u0 n L P p E (8 * e + (k + 1)) (bset μ (T + 13) (8 * e + k) (c : Int)) (bset ν 87 (3200 * b + (8 * e + k)) (c : Int)) := by
  obtain ⟨⟨a1, a2, a3, a4, a5, a6, a7, a8, a9, a10, a11⟩, h1, h2⟩ := hV
  obtain ⟨⟨r1, r2, r3, r4⟩, r5, r6, ⟨r7, r8⟩, ⟨r9, r10, r11, r12, r13, r14, r15⟩, r16, r17⟩ := a1
  have hA : ∀ e, e < n → μ (T + 10) e ≤ 8 := fun e he => (((Sk_iff hT).mp r6).2.1 e (by omega)).2.2.2.2.1.2
  have C : ∀ q, q ≠ T + 13 → bset μ (T + 13) (8 * e + k) (c : Int) q = μ q := fun q hq => bset_q hq
  have M : ∀ q, q ≠ 87 → bset ν 87 (3200 * b + (8 * e + k)) (c : Int) q = ν q := fun q hq => bset_q hq
  have C13 : ∀ i, i ≠ 8 * e + k → bset μ (T + 13) (8 * e + k) (c : Int) (T + 13) i = μ (T + 13) i := fun i hi => bset_k hi
  have M87 : ∀ i, i ≠ 8 * e + k → bset ν 87 (3200 * b + (8 * e + k)) (c : Int) 87 (3200 * b + i) = ν 87 (3200 * b + i) := fun i hi => bset_k (by omega)
  have k8 := hA e hen
  have hV1 := At0_val (c := (c : Int)) hT (r17 e hen k hk).1 hr
  obtain ⟨μ', hμ'⟩ : ∃ μ', μ' = bset μ (T + 13) (8 * e + k) (c : Int) := ⟨_, rfl⟩
  obtain ⟨ν', hν'⟩ : ∃ ν', ν' = bset ν 87 (3200 * b + (8 * e + k)) (c : Int) := ⟨_, rfl⟩
  have at13 : μ' (T + 13) (8 * e + k) = c := by rw [hμ', bset_at]
  have hCur : Cur 0 p E μ' := by rw [hμ']; exact Cur_b a2 (by omega)
  have hMur : Mur 0 p E ν' := by rw [hν']; exact Mur_b a3 (by omega)
  rw [← hμ', ← hν'] at hV1
  rw [← hμ'] at C C13
  rw [← hν'] at M M87
  rw [← hμ', ← hν']
  clear hμ' hν'
  have c10 := C (T + 10) (by omega)
  have c11 := C (T + 11) (by omega)
  have c12 := C (T + 12) (by omega)
  have c14 := C (T + 14) (by omega)
  have c0 := C T (by omega)
  refine ⟨⟨⟨⟨CSrc_cong r1 fun q x y => C q (by omega), MSrc_cong r2 fun q x y => M q (by omega), by rw [C 30 (by omega)]; exact r3, by rw [M 76 (by omega)]; exact r4⟩, TB_cong r5 (fun q x y => C q (by omega)) (fun q x y => M q (by omega)) (by rw [M 76 (by omega)]), ?_, by rw [c0]; exact ⟨r7, r8⟩, ?_, by rw [c14, c10]; exact r16, fun e' he' k' hk' => ?_⟩, hCur, hMur, a4, by rw [M 76 (by omega)]; exact a5, by rw [M 79 (by omega)]; exact a6, by rw [C (T + 1) (by omega)]; exact a7, a8, ?_, ?_, ?_⟩, h1, fun e' k' x1 x2 x3 x4 x5 => ?_⟩
  · rw [Sk_iff hT] at r6 ⊢
    unfold iChl at r6 ⊢
    rw [c0, c10, C (T + 1) (by omega), C (T + 2) (by omega), C (T + 3) (by omega), C (T + 4) (by omega), C (T + 5) (by omega), C (T + 6) (by omega), C (T + 7) (by omega), C (T + 8) (by omega), C (T + 9) (by omega), M 78 (by omega), M 81 (by omega), M 82 (by omega), M 83 (by omega), M 84 (by omega)]
    exact r6
  · rw [C 30 (by omega), M 90 (by omega), M 91 (by omega), M 92 (by omega)]
    exact ⟨r9, r10, r11, r12, r13, r14, r15⟩
  · rw [c10] at hk'
    obtain ⟨x1, x2⟩ := r17 e' he' k' hk'
    rw [c11]
    refine ⟨?_, x2⟩
    by_cases g : 8 * e' + k' = 8 * e + k
    · rw [g]; exact hV1
    · refine At0_cong x1 (fun q hq => ?_) (fun q y1 y2 => ?_) (by rw [M 111 (by omega)]) (by rw [M 91 (by omega)]; omega) (fun i y1 y2 => by rw [M 92 (by omega)])
      · by_cases w : q = T + 13
        · rw [w]; exact C13 _ g
        · rw [C q w]
      · by_cases w : q = 87
        · rw [w]; exact M87 _ g
        · rw [M q w]
  · unfold RU
    rw [C 59 (by omega), C (T + 4) (by omega), M 110 (by omega)]
    exact a9
  · unfold RO
    rw [C (T + 1) (by omega), M 80 (by omega)]
    exact a10
  · intro e' he'
    obtain ⟨z1, z2⟩ := a11 e' he'
    rw [C (T + 4) (by omega), c10, c12]
    refine ⟨z1, fun k' hk' => ?_⟩
    have := hA e' (by omega)
    rw [C13 _ (by omega)]
    exact z2 k' hk'
  · rw [c10] at x3
    rw [c12] at x5
    by_cases g : 8 * e' + k' = 8 * e + k
    · rw [g, at13]; omega
    · rw [C13 _ g]
      exact h2 e' k' x1 x2 x3 (by omega) x5
def SlOk (r : Nat → Nat → Int) (sz : Nat → Nat) (T b S n0 m0 u0 n L P p E e k : Nat) (μ ν : bM) : Prop :=
  (∃ μ' ν', bLoop (fun z : Int × bM => F_X4_resolveReferences_15 n0 e z.1 z.2) ((k : Int), μ) = some (.inl ((e : Int) + 1, μ')) ∧ bLoop (fun z : Int × bM => F_X11_resolve_12 n0 (400 * (b : Int) + e) z.1 z.2) (8 * (400 * (b : Int) + e) + k, ν) = some (0, ν') ∧ VS r sz T b S n0 m0 u0 n L P p E (8 * (e + 1)) μ' ν' ∧ Fr (sRc T) μ μ' ∧ Fr (sRm b) ν ν') ∨
  (∃ μ' ν', bLoop (fun z : Int × bM => F_X4_resolveReferences_15 n0 e z.1 z.2) ((k : Int), μ) = some (.inr (.inr ISE, μ')) ∧ bLoop (fun z : Int × bM => F_X11_resolve_12 n0 (400 * (b : Int) + e) z.1 z.2) (8 * (400 * (b : Int) + e) + k, ν) = some (0, ν') ∧ BadP μ' ν' ∧ Fr (sRc T) μ μ' ∧ Fr (sRm b) ν ν')
theorem Sl_go {μ1 ν1 : bM} (h1 : F_X4_resolveReferences_15 n0 e k μ = some (.inl ((k : Int) + 1, μ1))) (h2 : F_X11_resolve_12 n0 (400 * (b : Int) + e) (8 * (400 * (b : Int) + e) + k) ν = some (.inl (8 * (400 * (b : Int) + e) + ((k + 1 : Nat) : Int), ν1))) (f1 : Fr (sRc T) μ μ1) (f2 : Fr (sRm b) ν ν1) (h : SlOk r sz T b S n0 m0 u0 n L P p E e (k + 1) μ1 ν1) : SlOk r sz T b S n0 m0 u0 n L P p E e k μ ν := by
  have s1 := bLoop_step (f := fun z : Int × bM => F_X4_resolveReferences_15 n0 e z.1 z.2) (s := ((k : Int), μ)) h1
  have s2 := bLoop_step (f := fun z : Int × bM => F_X11_resolve_12 n0 (400 * (b : Int) + e) z.1 z.2) (s := (8 * (400 * (b : Int) + e) + (k : Int), ν)) h2
  rcases h with ⟨μ', ν', x1, x2, x3, x4, x5⟩ | ⟨μ', ν', x1, x2, x3, x4, x5⟩
  · exact Or.inl ⟨μ', ν', s1.trans x1, s2.trans x2, x3, Fr_tr f1 x4, Fr_tr f2 x5⟩
  · exact Or.inr ⟨μ', ν', s1.trans x1, s2.trans x2, x3, Fr_tr f1 x4, Fr_tr f2 x5⟩
theorem J_sl1 (hT : T = 31 ∨ T = 61) (hb : b = 0 ∨ b = 1) (he : n0 ≤ e) (hen : e < n) (hk : k ≤ 8) (hV : VS r sz T b S n0 m0 u0 n L P p E (8 * e + k) μ ν)
    (ih : ∀ μ1 ν1, k < 8 → VS r sz T b S n0 m0 u0 n L P p E (8 * e + (k + 1)) μ1 ν1 → SlOk r sz T b S n0 m0 u0 n L P p E e (k + 1) μ1 ν1) : SlOk r sz T b S n0 m0 u0 n L P p E e k μ ν := by
  obtain ⟨⟨a1, a2, a3, a4, a5, a6, a7, a8, a9, a10, a11⟩, h1, h2⟩ := id hV
  obtain ⟨⟨r1, r2, r3, r4⟩, r5, r6, ⟨r7, r8⟩, r9, r16, r17⟩ := id a1
  obtain ⟨⟨s1, s2, s3⟩, s4, s5, s6⟩ := (Sk_iff hT).mp r6
  have n4 : n ≤ 400 := by omega
  have A8 : ∀ e, e < n → 0 ≤ μ (T + 10) e ∧ μ (T + 10) e ≤ 8 := fun e he => (s4 e (by omega)).2.2.2.2.1
  have e84 : ν 84 (400 * b + e) = μ (T + 10) e := (s4 e (by omega)).1.2.2.2
  have A8e := A8 e hen
  have C0 : F_X4_resolveReferences_15 n0 e k μ = if μ (T + 10) e ≤ (k : Int) then some (.inr (.inl ((e : Int) + 1, μ))) else (F_X8_slotAt e k μ).bind fun w3 => bG (0 ≤ w3 ∧ w3 < 3200) ((F_X2_isReference (μ (T + 12) w3.toNat) μ).bind fun w4 => if w4 = 0 then some (.inl (((k : Int) + 1), μ)) else bG (0 ≤ w3 ∧ w3 < 3200) ((F_X4_entryAt n0 (μ (T + 13) w3.toNat) μ).bind fun w7 => if ¬ w7 = (-1) then bG (0 ≤ w3 ∧ w3 < 3200) (some (.inl (((k : Int) + 1), (bset μ (T + 13) w3.toNat w7)))) else bG (0 ≤ w3 ∧ w3 < 3200) (bXm (F_X1_refuse 7 (μ 60 w3.toNat) μ) (fun w12 μ13 => bG (0 ≤ w3 ∧ w3 < 3200) (bG (bR ((k : Int) + 1)) (some (.inl (((k : Int) + 1), (bset μ13 ((μ13 30 0).toNat + 13) w3.toNat w7)))))) (fun e μ => some (.inr (.inr (.inr e, μ))))))) := by
    have g1 : bR ((k : Int) + 1) := by constructor <;> omega
    unfold F_X4_resolveReferences_15
    rw [bG_pos (by omega), r3, Int.toNat_natCast, Int.toNat_natCast, bG_pos (by constructor <;> omega)]
    simp only [bG_pos g1]
  by_cases c : μ (T + 10) e ≤ (k : Int)
  · left
    rw [if_pos c] at C0
    refine ⟨μ, ν, bLoop_done C0, bLoop_done ?_, ⟨hV.1, h1, fun e' k' x1 x2 x3 x4 x5 => h2 e' k' x1 x2 x3 ?_ x5⟩, Fr_rf, Fr_rf⟩
    · show F_X11_resolve_12 n0 (400 * (b : Int) + e) (8 * (400 * (b : Int) + e) + k) ν = _
      unfold F_X11_resolve_12
      rw [bG_pos (by constructor <;> omega), bG_pos (by omega), t400, e84, bG_pos (by constructor <;> omega), if_pos (by omega)]
    · have := A8 e' x2
      by_cases w : e' = e
      · subst w; omega
      · omega
  · rw [if_neg c, C_slotAt (by omega) (by omega), Option.bind_some, bG_pos (by omega), t8, bG_pos (by omega)] at C0
    obtain ⟨⟨at1, at2, at3⟩, at4, at5⟩ := (r17 e hen k (by omega)).1
    have es : 8 * (400 * (b : Int) + (e : Int)) + (k : Int) = ((3200 * b + (8 * e + k) : Nat) : Int) := by omega
    have en : 8 * (400 * (b : Int) + (e : Int)) + (k : Int) + 1 = 8 * (400 * (b : Int) + (e : Int)) + ((k + 1 : Nat) : Int) := by omega
    have S0 : F_X11_resolve_12 n0 (400 * (b : Int) + e) (8 * (400 * (b : Int) + e) + k) ν = (F_X11_isReference (ν 86 (3200 * b + (8 * e + k))) ν).bind fun w4 => if w4 = 0 then some (.inl (8 * (400 * (b : Int) + (e : Int)) + ((k + 1 : Nat) : Int), ν)) else bLoop (fun z => F_X11_resolve_47 n0 (400 * (b : Int) + e) (8 * (400 * (b : Int) + e) + k) ν z.1 z.2) ((-1), (n0 : Int)) := by
      unfold F_X11_resolve_12
      rw [bG_pos (by constructor <;> omega), bG_pos (by omega), t400, e84, bG_pos (by constructor <;> omega), if_neg (by omega), bG_pos (by omega), t3200, bG_pos (by constructor <;> omega), en]
    rw [at2] at S0
    by_cases y : isRef (μ (T + 12) (8 * e + k))
    · rw [M_isReference.1 y, Option.bind_some, if_neg (by decide), es] at S0
      rw [C_isReference.1 y, Option.bind_some, if_neg (by decide)] at C0
      have inc : ∀ e, n0 ≤ e → e < n → ∀ f, n0 ≤ f → f < e → μ 59 f < μ 59 e := fun e x1 x2 => (a9 e x1 x2).2.2.2
      obtain ⟨x, x1, x2⟩ := C_entryAt (v := μ (T + 13) (8 * e + k)) r3 r7 n4 h1 inc
      obtain ⟨z, z1, z2⟩ := M_47 (v3 := 400 * (b : Int) + e) (s := 3200 * b + (8 * e + k)) hb r4 (s3.trans r7) n4 (by omega) (show n0 ≤ n by omega)
      have at5 : (ν 87 (3200 * b + (8 * e + k)) = μ (T + 13) (8 * e + k)) ∧ μ 60 (8 * e + k) = ν 111 (8 * e + k) ∧ 0 ≤ μ 60 (8 * e + k) ∧ μ 60 (8 * e + k) ≤ 24000 := by
        rcases at5 with ⟨b1, _⟩ | ⟨b1, b2, b3, b4, b5⟩
        · unfold isRef at y
          unfold isLet at b1
          omega
        · exact ⟨b3, b5 y⟩
      rw [at5.1] at z2
      have hxz : x = z := Fnd_eq (fun i i1 i2 => (a9 i i1 i2).1) inc x2 z2
      subst hxz
      rw [x1, Option.bind_some] at C0
      rw [z1] at S0
      have Z95 : F_X11_resolve_95 n0 (400 * (b : Int) + e) ((3200 * b + (8 * e + k) : Nat) : Int) x ν = if ¬ x = -1 then some (.inl (8 * (400 * (b : Int) + (e : Int)) + ((k + 1 : Nat) : Int), bset ν 87 (3200 * b + (8 * e + k)) x)) else some (.inl (8 * (400 * (b : Int) + (e : Int)) + ((k + 1 : Nat) : Int), bset (wr ν 7 (0 : Nat) (ν 111 (8 * e + k))) 87 (3200 * b + (8 * e + k)) x)) := by
        unfold F_X11_resolve_95
        rw [r4, M_bad a3.2.2.2, bMm_some, bG_pos (by omega), bG_pos (by constructor <;> omega), bG_pos (by constructor <;> omega), bG_pos (by constructor <;> omega), bG_pos (by omega), bG_pos (by omega), bG_pos (by constructor <;> omega), Int.toNat_natCast, show (((3200 * b + (8 * e + k) : Nat) : Int) + 1) = 8 * (400 * (b : Int) + (e : Int)) + ((k + 1 : Nat) : Int) by omega, show (((3200 * b + (8 * e + k) : Nat) : Int) - 3200 * (b : Int)).toNat = 8 * e + k by omega]
        rfl
      rw [Z95] at S0
      rw [← es] at S0
      rcases x2 with ⟨w1, w2⟩ | ⟨cc, w1, w2, w3, w4⟩
      · right
        rw [if_neg (fun hh => hh w1), bG_pos (by omega), C_refuse, bXm_inr] at C0
        rw [if_neg (fun hh => hh w1)] at S0
        obtain ⟨pl, hpl⟩ : ∃ pl : Nat, μ 60 (8 * e + k) = (pl : Int) := ⟨(μ 60 (8 * e + k)).toNat, by omega⟩
        have B := Bad1_mk0 (μ := μ) (ν := ν) (k := 7) (pl := pl) a2.1 (by omega)
        have BR := Bad1_R (T := T) (b := b) B
        rw [hpl] at C0
        rw [← at5.2.1, hpl] at S0
        obtain ⟨ν1, hν1⟩ : ∃ ν1, ν1 = bset (wr ν 7 (0 : Nat) pl) 87 (3200 * b + (8 * e + k)) x := ⟨_, rfl⟩
        rw [← hν1] at S0
        have f1 : Fr (sRm b) ν ν1 := by rw [hν1]; exact Fr_tr BR.2 (Fr_b (by unfold sRm; omega))
        have B1 : BadP (fl μ 7 pl) ν1 := BadP_same B.1 ⟨by rw [hν1]; simp (disch := first | omega | decide) only [bset_q, bset_k, bset_at], by rw [hν1]; simp (disch := first | omega | decide) only [bset_q, bset_k, bset_at], by rw [hν1]; simp (disch := first | omega | decide) only [bset_q, bset_k, bset_at]⟩
        have f84 : ν1 84 (400 * b + e) = ν 84 (400 * b + e) := by rw [hν1]; unfold wr; simp (disch := first | omega | decide) only [bset_q, bset_k, bset_at]
        obtain ⟨ν2, q1, q2, q3⟩ := M12_w (n := n) hb (show e < 400 by omega) (show n0 ≤ n by omega) n4 (8 - k) (k + 1) ν1 (by omega) (BadP_ne B1) (by rw [f1 76 3 (by unfold sRm; omega)]; exact r4) (by rw [hν1]; unfold wr; simp (disch := first | omega | decide) only [bset_q, bset_k, bset_at]; exact s3.trans r7) (by rw [f84, e84]; exact A8e)
        refine ⟨_, ν2, bLoop_done C0, ?_, BadP_same B1 q2, BR.1, Fr_tr f1 q3⟩
        rw [← q1]
        exact bLoop_step (f := fun z : Int × bM => F_X11_resolve_12 n0 (400 * (b : Int) + e) z.1 z.2) (s := (8 * (400 * (b : Int) + e) + (k : Int), ν)) S0
      · rw [if_pos (by omega), bG_pos (by omega), w1] at C0
        rw [if_pos (by omega), w1] at S0
        refine Sl_go C0 S0 (Fr_b (by unfold sRc; omega)) (Fr_b (by unfold sRm; omega)) (ih _ _ (by omega) (VS_val hT hV he hen (by omega) y ⟨w2, w3⟩))
    · rw [M_isReference.2 y, Option.bind_some, if_pos rfl] at S0
      rw [C_isReference.2 y, Option.bind_some, if_pos rfl] at C0
      refine Sl_go C0 S0 Fr_rf Fr_rf (ih _ _ (by omega) ⟨hV.1, h1, fun e' k' x1 x2 x3 x4 x5 => ?_⟩)
      by_cases g : 8 * e' + k' = 8 * e + k
      · rw [g] at x5; exact absurd x5 y
      · exact h2 e' k' x1 x2 x3 (by omega) x5
theorem J_sl (hT : T = 31 ∨ T = 61) (hb : b = 0 ∨ b = 1) (he : n0 ≤ e) (hen : e < n) : ∀ (d k : Nat) (μ ν : bM), k + d = 8 → VS r sz T b S n0 m0 u0 n L P p E (8 * e + k) μ ν → SlOk r sz T b S n0 m0 u0 n L P p E e k μ ν := by
  intro d
  induction d with
  | zero =>
    intro k μ ν hd hV
    exact J_sl1 hT hb he hen (by omega) hV (fun μ1 ν1 h => by omega)
  | succ d ih =>
    intro k μ ν hd hV
    exact J_sl1 hT hb he hen (by omega) hV (fun μ1 ν1 _ h => ih (k + 1) μ1 ν1 (by omega) h)
def ReOk (r : Nat → Nat → Int) (sz : Nat → Nat) (T b S n0 m0 u0 n L P p E e : Nat) (μ ν : bM) : Prop :=
  (∃ μ' ν', bLoop (fun z : Int × bM => F_X4_resolveReferences_2 n0 z.1 z.2) ((e : Int), μ) = some (.inl 0, μ') ∧ bLoop (fun z : Int × bM => F_X11_readEntries_170 n0 z.1 z.2) ((e : Int), ν) = some (0, ν') ∧ VS r sz T b S n0 m0 u0 n L P p E (8 * n) μ' ν' ∧ Fr (sRc T) μ μ' ∧ Fr (sRm b) ν ν') ∨
  (∃ μ' ν', bLoop (fun z : Int × bM => F_X4_resolveReferences_2 n0 z.1 z.2) ((e : Int), μ) = some (.inr ISE, μ') ∧ bLoop (fun z : Int × bM => F_X11_readEntries_170 n0 z.1 z.2) ((e : Int), ν) = some (0, ν') ∧ BadP μ' ν' ∧ Fr (sRc T) μ μ' ∧ Fr (sRm b) ν ν')
theorem J_re (hT : T = 31 ∨ T = 61) (hb : b = 0 ∨ b = 1) : ∀ (d e : Nat) (μ ν : bM), e + d = n → n0 ≤ e → VS r sz T b S n0 m0 u0 n L P p E (8 * e) μ ν → ReOk r sz T b S n0 m0 u0 n L P p E e μ ν := by
  intro d
  induction d with
  | zero =>
    intro e μ ν hd he hV
    have hen : e = n := by omega
    subst hen
    obtain ⟨⟨r1, r2, r3, r4⟩, r5, r6, ⟨r7, r8⟩, _⟩ := id hV.1.1
    have s3 := ((Sk_iff hT).mp r6).1.2.2
    left
    refine ⟨μ, ν, bLoop_done ?_, bLoop_done ?_, hV, Fr_rf, Fr_rf⟩
    · show F_X4_resolveReferences_2 n0 e μ = _
      unfold F_X4_resolveReferences_2
      rw [r3, Int.toNat_natCast, r7, if_pos (by omega)]
    · show F_X11_readEntries_170 n0 e ν = _
      unfold F_X11_readEntries_170
      rw [r4, bG_pos (by omega), Int.toNat_natCast, s3, r7, if_pos (by omega)]
  | succ d ih =>
    intro e μ ν hd he hV
    obtain ⟨⟨r1, r2, r3, r4⟩, r5, r6, ⟨r7, r8⟩, _⟩ := id hV.1.1
    have s3 := ((Sk_iff hT).mp r6).1.2.2
    have n4 := ((Sk_iff hT).mp r6).1.1.2
    have h37 : ν 76 37 = -1 := hV.1.2.2.1.2.2.2
    have C : F_X4_resolveReferences_2 n0 e μ = bLoop (fun z : Int × bM => F_X4_resolveReferences_15 n0 e z.1 z.2) (((0 : Nat) : Int), μ) := by
      unfold F_X4_resolveReferences_2
      rw [r3, Int.toNat_natCast, r7, if_neg (by omega)]
      rfl
    have M : F_X11_readEntries_170 n0 e ν = bMm (bLoop (fun z : Int × bM => F_X11_resolve_12 n0 (400 * (b : Int) + e) z.1 z.2) (8 * (400 * (b : Int) + e) + ((0 : Nat) : Int), ν)) (fun w3 μ4 => some (.inl (((e : Int) + 1), μ4))) := by
      unfold F_X11_readEntries_170
      rw [r4, bG_pos (by omega), Int.toNat_natCast, s3, r7, if_neg (by omega), if_neg (c := ¬ ν 76 37 = -1) (fun hh => hh h37)]
      unfold F_X11_resolve
      rw [M_at hb r4 (by omega), Option.bind_some, bG_pos (by constructor <;> omega)]
      have g : bR ((e : Int) + 1) := by constructor <;> omega
      simp only [bG_pos g]
      rw [show ((0 : Nat) : Int) = 0 from rfl, Int.add_zero]
    rcases J_sl hT hb he (show e < n by omega) 8 0 μ ν (by omega) hV with ⟨μ1, ν1, q1, q2, q3, q4, q5⟩ | ⟨μ1, ν1, q1, q2, q3, q4, q5⟩
    · rw [q1] at C
      rw [q2, bMm_some] at M
      have x1 := bLoop_step (f := fun z : Int × bM => F_X4_resolveReferences_2 n0 z.1 z.2) (s := ((e : Int), μ)) C
      have x2 := bLoop_step (f := fun z : Int × bM => F_X11_readEntries_170 n0 z.1 z.2) (s := ((e : Int), ν)) M
      rcases ih (e + 1) μ1 ν1 (by omega) (by omega) q3 with ⟨μ', ν', y1, y2, y3, y4, y5⟩ | ⟨μ', ν', y1, y2, y3, y4, y5⟩
      · exact Or.inl ⟨μ', ν', x1.trans y1, x2.trans y2, y3, Fr_tr q4 y4, Fr_tr q5 y5⟩
      · exact Or.inr ⟨μ', ν', x1.trans y1, x2.trans y2, y3, Fr_tr q4 y4, Fr_tr q5 y5⟩
    · right
      rw [q1] at C
      rw [q2, bMm_some] at M
      have x2 := bLoop_step (f := fun z : Int × bM => F_X11_readEntries_170 n0 z.1 z.2) (s := ((e : Int), ν)) M
      exact ⟨μ1, ν1, bLoop_done C, x2.trans (M170_w hb (by rw [q5 76 3 (by unfold sRm; omega)]; exact r4) (BadP_ne q3)), q3, q4, q5⟩
end
end GB
