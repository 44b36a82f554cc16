section GD
/-! a unit read: its table -/
section
variable {r : Nat → Nat → Int} {sz : Nat → Nat} {μ ν μ' ν' μ1 ν1 : bM} {T b a p E w x Z t n m L P S tp j : Nat} {v1 v4 v5 v2 : Int}
/-- what holds of all that has been read, the table of shapes left out -/
def RB0 (r : Nat → Nat → Int) (sz : Nat → Nat) (T b n m L P : Nat) (μ ν : bM) : Prop :=
  (CSrc r sz μ ∧ MSrc r sz ν ∧ μ 30 0 = (T : Int) ∧ ν 76 3 = (b : Int)) ∧ Sk T b μ ν ∧ (μ T 1 = (n : Int) ∧ μ T 0 = (m : Int)) ∧
  (μ 30 4 = (L : Int) ∧ ν 90 b = (L : Int) ∧ L ≤ 30000 ∧ ν 91 b = (P : Int) ∧ P ≤ 8000 + L ∧ sz 2 ≤ P ∧ ∀ i, i < sz 2 → ν 92 (90000 * b + i) = r 2 i) ∧
  (L : Int) = sumI (fun e => sumI (fun k => μ (T + 14) (8 * e + k)) (μ (T + 10) e).toNat) n ∧
  ∀ e, e < n → ∀ k : Nat, (k : Int) < μ (T + 10) e → At0 r sz T b μ ν (8 * e + k) ∧ ∀ i, i < k → μ (T + 11) (8 * e + i) ≠ μ (T + 11) (8 * e + k)
theorem RB_iff : RB r sz T b S n m L P μ ν ↔ RB0 r sz T b n m L P μ ν ∧ TB S μ ν := by
  constructor
  · rintro ⟨h1, h2, h3, h4, h5, h6, h7⟩
    exact ⟨⟨h1, h3, h4, h5, h6, h7⟩, h2⟩
  · rintro ⟨⟨h1, h3, h4, h5, h6, h7⟩, h2⟩
    exact ⟨h1, h2, h3, h4, h5, h6, h7⟩
theorem RB0_cong (hT : T = 31 ∨ T = 61) (hR : RB0 r sz T b n m L P μ ν) (hC : ∀ q, q ≠ 46 → q < 49 ∨ 59 < q → q ≠ 30 → μ' q = μ q) (h30 : ∀ k, k ≠ 3 → μ' 30 k = μ 30 k) (hM : ∀ q, q ≠ 76 → q ≠ 79 → q ≠ 80 → q < 104 ∨ 110 < q → ν' q = ν q) (h3 : ν' 76 3 = ν 76 3) : RB0 r sz T b n m L P μ' ν' := by
  obtain ⟨⟨r1, r2, r3, r4⟩, r6, ⟨r7, r8⟩, ⟨r9, r10, r11, r12, r13, r14, r15⟩, r16, r17⟩ := hR
  have c0 := hC T (by omega) (by omega) (by omega)
  have c10 := hC (T + 10) (by omega) (by omega) (by omega)
  have c11 := hC (T + 11) (by omega) (by omega) (by omega)
  have c14 := hC (T + 14) (by omega) (by omega) (by omega)
  refine ⟨⟨CSrc_cong r1 fun q x y => hC q (by omega) (by omega) (by omega), MSrc_cong r2 fun q x y => hM q (by omega) (by omega) (by omega) (by omega), by rw [h30 0 (by omega)]; exact r3, by rw [h3]; exact r4⟩, ?_, by rw [c0]; exact ⟨r7, r8⟩, ?_, ?_, fun e he k hk => ?_⟩
  · rw [Sk_iff hT] at r6 ⊢
    unfold iChl at r6 ⊢
    rw [c0, c10, hC (T + 1) (by omega) (by omega) (by omega), hC (T + 2) (by omega) (by omega) (by omega), hC (T + 3) (by omega) (by omega) (by omega), hC (T + 4) (by omega) (by omega) (by omega), hC (T + 5) (by omega) (by omega) (by omega), hC (T + 6) (by omega) (by omega) (by omega), hC (T + 7) (by omega) (by omega) (by omega), hC (T + 8) (by omega) (by omega) (by omega), hC (T + 9) (by omega) (by omega) (by omega),
      hM 78 (by omega) (by omega) (by omega) (by omega), hM 81 (by omega) (by omega) (by omega) (by omega), hM 82 (by omega) (by omega) (by omega) (by omega), hM 83 (by omega) (by omega) (by omega) (by omega), hM 84 (by omega) (by omega) (by omega) (by omega)]
    exact r6
  · rw [h30 4 (by omega), hM 90 (by omega) (by omega) (by omega) (by omega), hM 91 (by omega) (by omega) (by omega) (by omega), hM 92 (by omega) (by omega) (by omega) (by omega)]
    exact ⟨r9, r10, r11, r12, r13, r14, r15⟩
  · rw [c14, c10]
    exact r16
  · rw [c10] at hk
    obtain ⟨x1, x2⟩ := r17 e he k hk
    rw [c11]
    refine ⟨At0_cong x1 (fun q hq => by rw [hC q (by omega) (by omega) (by omega)]) (fun q x y => by rw [hM q (by omega) (by omega) (by omega) (by omega)]) (by rw [hM 111 (by omega) (by omega) (by omega) (by omega)]) (by rw [hM 91 (by omega) (by omega) (by omega) (by omega)]; omega) (fun k x y => by rw [hM 92 (by omega) (by omega) (by omega) (by omega)]), x2⟩
/-- between two units -/
def WS (r : Nat → Nat → Int) (sz : Nat → Nat) (T b n m L P a : Nat) (μ ν : bM) : Prop := RB0 r sz T b n m L P μ ν ∧ ν 79 b = (m : Int) ∧ RO T b m μ ν ∧ RR T n m μ ∧ (ν 76 37 = -1 ∧ μ 46 2 = 0 ∧ μ 46 3 = 0) ∧ (m = 0 ∧ μ 30 3 = -1 ∨ 0 < m ∧ μ 30 3 = ν 76 54 ∧ ∃ S, TB S μ ν) ∧ a ≤ sz 0
def ov (μ : bM) (j a E : Nat) : bM := bset (bset (bset (bset μ 46 6 ((7 + 2 * j : Nat) : Int)) 46 5 (j : Int)) 46 0 (a : Int)) 46 1 (E : Int)
theorem C_over (hj : j < 3) : F_X1_over j a E μ = some (0, ov μ j a E) := by
  unfold F_X1_over ov
  have : j = 0 ∨ j = 1 ∨ j = 2 := by omega
  rcases this with c | c | c <;> subst c <;> rfl
theorem Cur_ov (h2 : μ 46 2 = 0) (h3 : μ 46 3 = 0) : Cur j a E (ov μ j a E) := by
  unfold ov
  refine ⟨?_, ⟨?_, ?_, ?_⟩, ?_, ?_⟩
  · simp (disch := first | omega | decide) only [bset_q, bset_k, bset_at]
  · simp (disch := first | omega | decide) only [bset_q, bset_k, bset_at]
  · simp (disch := first | omega | decide) only [bset_q, bset_k, bset_at, h2]
  · simp (disch := first | omega | decide) only [bset_q, bset_k, bset_at, h3]
  · simp (disch := first | omega | decide) only [bset_q, bset_k, bset_at]
  · simp (disch := first | omega | decide) only [bset_q, bset_k, bset_at]
theorem ov_q {q : Nat} (h : q ≠ 46) : ov μ j a E q = μ q := by
  unfold ov
  simp (disch := first | omega | decide) only [bset_q, bset_k, bset_at]
def sTc (q k : Nat) : Prop := q = 46 ∨ q = 30 ∧ k = 3 ∨ 49 ≤ q ∧ q ≤ 58
def sTm (q k : Nat) : Prop := q = 76 ∧ 37 ≤ k ∧ k ≤ 54 ∧ k ≠ 52 ∨ 104 ≤ q ∧ q ≤ 109
theorem FTc_fr (h : FTc μ μ') : Fr sTc μ μ' := fun q k x => by rw [h q (by unfold sTc at x; omega) (by unfold sTc at x; omega)]
theorem FTm_fr (h : FTm ν ν') : Fr sTm ν ν' := fun q k x => by
  by_cases c : q = 76
  · rw [c]; exact h.2 k (by unfold sTm at x; omega)
  · rw [h.1 q c (by unfold sTm at x; omega)]
/-- the table of a unit's shapes, as the units' loop reads it where its place is another than the last one's -/
noncomputable def rT_tab (v2 : Int) (μ : bM) : Option ((Int ⊕ String) × bM) := if v2 = (μ 30 3) then some (.inl 0, μ) else (F_X6_used 9 μ).bind fun w2 => bMm (F_X1_over 1 v2 w2 μ) (fun w3 μ4 => bXm (F_X7_readFrom μ4) (fun w6 μ7 => some (.inl 0, (bset μ7 30 3 v2))) (fun e μ => some (.inr e, μ)))
theorem rT_K {ρ : Type} {o : Option ((Int ⊕ String) × bM)} {K K' : Int → bM → Option ρ} {Z : String → bM → Option ρ} (h : ∀ v μ, K v μ = K' v μ) : bXm o K Z = bXm o K' Z := by
  rw [show K = K' from funext fun v => funext fun μ => h v μ]
theorem rT_step {ρ : Type} {o1 : Option Int} {o2 : Int → Option (Int × bM)} {o3 : bM → Option ((Int ⊕ String) × bM)} {u : bM → bM} {K : bM → Option ρ} {Z : String → bM → Option ρ} :
    (o1.bind fun w5 => bMm (o2 w5) (fun _ μ7 => bXm (o3 μ7) (fun _ μ10 => K (u μ10)) Z)) = bXm (o1.bind fun w2 => bMm (o2 w2) (fun _ μ4 => bXm (o3 μ4) (fun _ μ7 => some (.inl 0, u μ7)) (fun e μ => some (.inr e, μ)))) (fun _ μ5 => K μ5) Z := by
  cases o1 with
  | none => rfl
  | some w =>
    rw [Option.bind_some, Option.bind_some]
    cases o2 w with
    | none => rfl
    | some p =>
      obtain ⟨v, μ8⟩ := p
      rw [bMm_some, bMm_some]
      cases o3 μ8 with
      | none => rfl
      | some q =>
        obtain ⟨x, μ9⟩ := q
        cases x with
        | inl x => rw [bXm_inl, bXm_inl, bXm_inl]
        | inr x => rw [bXm_inr, bXm_inr, bXm_inr]
theorem rT_77 (v2 v3 v4 : Int) (μ : bM) : F_X4_readUnits_77 v2 v3 v4 μ = bXm (F_X4_readHeader v3 μ) (fun w1 μ2 => bXm (rT_tab w1 μ2) (fun _ μ5 => F_X4_readUnits_138 v2 v3 v4 (μ2 46 1) μ5) (fun e μ => some (.inr (.inr e, μ)))) (fun e μ => some (.inr (.inr e, μ))) := by
  unfold F_X4_readUnits_77
  refine rT_K fun w1 μ2 => ?_
  unfold rT_tab
  by_cases c : w1 = μ2 30 3
  · rw [if_pos c, if_pos c, bXm_inl]
  · rw [if_neg c, if_neg c]
    exact rT_step (o1 := F_X6_used 9 μ2) (o2 := fun w5 => F_X1_over 1 w1 w5 μ2) (o3 := F_X7_readFrom) (u := fun μ => bset μ 30 3 w1) (K := fun μ => F_X4_readUnits_138 v2 v3 v4 (μ2 46 1) μ)
def TabOk (a E tp : Nat) (μ ν : bM) : Prop :=
  (∃ (S : Nat) (μ' ν' : bM), rT_tab tp μ = some (.inl 0, μ') ∧ F_X11_readUnit_191 a E tp ν = F_X11_readUnit_234 a E ν' ∧ TB S μ' ν' ∧ (ν' 76 37 = -1 ∧ μ' 46 2 = 0 ∧ μ' 46 3 = 0) ∧ μ' 30 3 = (tp : Int) ∧ ν' 76 54 = (tp : Int) ∧ Fr sTc μ μ' ∧ Fr sTm ν ν') ∨
  (∃ (μ' ν' : bM), rT_tab tp μ = some (.inr ISE, μ') ∧ F_X11_readUnit_191 a E tp ν = some (0, ν') ∧ BadP μ' ν' ∧ Fr sTc μ μ' ∧ Fr sTm ν ν')
theorem J_tab (hs : Src r sz) (hb : b = 0 ∨ b = 1) (hc : CSrc r sz μ) (hm : MSrc r sz ν) (h3 : ν 76 3 = (b : Int)) (h37 : ν 76 37 = -1) (h462 : μ 46 2 = 0) (h463 : μ 46 3 = 0) (h79 : ν 79 b = (m : Int)) (ht : tp ≤ sz 1) (hd : m = 0 ∧ μ 30 3 = -1 ∨ 0 < m ∧ μ 30 3 = ν 76 54 ∧ ∃ S, TB S μ ν) : TabOk a E tp μ ν := by
  have hz := sz_le hs (j := 1) (by omega)
  have C0 : rT_tab tp μ = if (tp : Int) = μ 30 3 then some (.inl 0, μ) else bXm (F_X7_readFrom (ov μ 1 tp (sz 1))) (fun w6 μ7 => some (.inl 0, (bset μ7 30 3 tp))) (fun e μ => some (.inr e, μ)) := by
    unfold rT_tab F_X6_used
    rw [Option.bind_some, (hc 1 (by omega)).1, show (1 : Int) = ((1 : Nat) : Int) from rfl, C_over (by omega), bMm_some]
  by_cases c : (tp : Int) = μ 30 3
  · left
    rcases hd with ⟨d1, d2⟩ | ⟨d1, d2, S, d3⟩
    · omega
    · refine ⟨S, μ, ν, by rw [C0, if_pos c], ?_, d3, ⟨h37, h462, h463⟩, c.symm, by omega, Fr_rf, Fr_rf⟩
      unfold F_X11_readUnit_191
      rw [if_neg (fun hh => hh h37), h3, bG_pos (by omega), Int.toNat_natCast, h79, if_neg (by omega), if_pos (bC0.mpr (by omega))]
  · obtain ⟨μ1, hμ1⟩ : ∃ μ1, μ1 = bset (ov μ 1 tp (sz 1)) 49 5 0 := ⟨_, rfl⟩
    obtain ⟨ν1, hν1⟩ : ∃ ν1, ν1 = bset (bset (bset (bset ν 76 42 1) 76 40 (tp : Int)) 76 41 (sz 1 : Int)) 76 43 0 := ⟨_, rfl⟩
    obtain ⟨μ2, f1, f2, f3⟩ := ch_forget (ρ := μ1) (c := 56) (by decide) (bk := fun s => bkt (μ1 55 s))
    have o1 : ∀ q, q ≠ 46 → q ≠ 49 → μ1 q = μ q := fun q x y => by rw [hμ1, bset_q y, ov_q x]
    have o2 : ∀ q, q ≠ 46 → q ≠ 49 → q ≠ 57 → μ2 q = μ q := fun q x y z => by rw [f3 q z, o1 q x y]
    have n1 : ∀ q, q ≠ 76 → ν1 q = ν q := fun q x => by rw [hν1]; simp (disch := first | omega | decide) only [bset_q, bset_k, bset_at]
    have cu : Cur 1 tp (sz 1) μ2 := by
      have : Cur 1 tp (sz 1) μ1 := by rw [hμ1]; exact Cur_b (Cur_ov h462 h463) (by decide)
      unfold Cur at this ⊢
      rw [f3 46 (by decide)]
      exact this
    have mu : Mur 1 tp (sz 1) ν1 := by
      rw [hν1]
      refine ⟨?_, ?_, ?_, ?_⟩
      · simp (disch := first | omega | decide) only [bset_q, bset_k, bset_at]
        rfl
      · simp (disch := first | omega | decide) only [bset_q, bset_k, bset_at]
      · simp (disch := first | omega | decide) only [bset_q, bset_k, bset_at]
      · simp (disch := first | omega | decide) only [bset_q, bset_k, bset_at, h37]
    have tb : TB 0 μ2 ν1 := by
      refine ⟨by omega, by rw [f3 49 (by decide), hμ1, bset_at]; rfl, by rw [hν1, bset_at]; rfl, chOk_cong f2 rfl rfl (fun s hs => by omega), fun s hs => by omega, fun s hs => by omega⟩
    have e94 : (bset (bset ν 76 42 1) 76 40 (tp : Int)) 94 1 = (sz 1 : Int) := by
      rw [bset_q (by decide), bset_q (by decide)]
      exact (hm 1 (by omega)).1
    have M0 : F_X11_readUnit_191 a E tp ν = bMm (bLoop (fun z : Int × bM => F_X11_readTable_27 z.1 z.2) (1, ν1)) (fun w1 μ2 => F_X11_readUnit_234 a E (bset μ2 76 54 tp)) := by
      have e221 : F_X11_readUnit_221 a E tp ν = bMm (bLoop (fun z : Int × bM => F_X11_readTable_27 z.1 z.2) (1, ν1)) (fun w1 μ2 => F_X11_readUnit_234 a E (bset μ2 76 54 tp)) := by
        unfold F_X11_readUnit_221 F_X11_readTable
        rw [b32_n (by omega), e94, hν1]
      unfold F_X11_readUnit_191
      rw [if_neg (fun hh => hh h37), h3, bG_pos (by omega), Int.toNat_natCast, h79, e221]
      rcases hd with ⟨d1, d2⟩ | ⟨d1, d2, S, d3⟩
      · rw [if_pos (by omega)]
      · rw [if_neg (by omega), if_neg (fun hh => c (by have := bC0.mp hh; omega))]
    have hc2 : CSrc r sz μ2 := CSrc_cong hc fun q x y => o2 q (by omega) (by omega) (by omega)
    have hm1 : MSrc r sz ν1 := MSrc_cong hm fun q x y => n1 q (by omega)
    have fa : Fr sTc μ μ2 := fun q k x => by rw [o2 q (by unfold sTc at x; omega) (by unfold sTc at x; omega) (by unfold sTc at x; omega)]
    have fb : Fr sTm ν ν1 := by
      rw [hν1]
      exact Fr_tr (Fr_tr (Fr_tr (Fr_b (by unfold sTm; omega)) (Fr_b (by unfold sTm; omega))) (Fr_b (by unfold sTm; omega))) (Fr_b (by unfold sTm; omega))
    rw [if_neg c] at C0
    have C1 : F_X7_readFrom (ov μ 1 tp (sz 1)) = bLoop (fun z : Int × bM => F_X7_readFrom_14 z.1 z.2) (((0 : Nat) : Int), μ2) := by
      unfold F_X7_readFrom
      rw [← hμ1, f1, bMm_some]
      rfl
    rw [C1] at C0
    rcases J_tloop hs (Nat.le_refl _) (sz 1 - tp) 0 tp μ2 ν1 (Nat.le_refl _) ht hc2 hm1 cu mu tb with ⟨S', μ', ν', q1, q2, q3, q4, q5, q6⟩ | ⟨μ', ν', q1, q2, q3, q4, q5⟩
    · left
      rw [q1, bXm_inl] at C0
      rw [q2, bMm_some] at M0
      refine ⟨S', _, _, C0, M0, TB_cong q3 (fun q x y => bset_q (by omega)) (fun q x y => bset_q (by omega)) (by simp (disch := first | omega | decide) only [bset_q, bset_k, bset_at]), ⟨by simp (disch := first | omega | decide) only [bset_q, bset_k, bset_at, q4.1], by simp (disch := first | omega | decide) only [bset_q, bset_k, bset_at, q4.2.1], by simp (disch := first | omega | decide) only [bset_q, bset_k, bset_at, q4.2.2]⟩, by simp (disch := first | omega | decide) only [bset_q, bset_k, bset_at], by simp (disch := first | omega | decide) only [bset_q, bset_k, bset_at], Fr_tr (Fr_tr fa (FTc_fr q5)) (Fr_b (by unfold sTc; omega)), Fr_tr (Fr_tr fb (FTm_fr q6)) (Fr_b (by unfold sTm; omega))⟩
    · right
      rw [q1, bXm_inr] at C0
      have B : BadP μ' (bset ν' 76 54 (tp : Int)) := BadP_same q3 ⟨by simp (disch := first | omega | decide) only [bset_q, bset_k, bset_at], by simp (disch := first | omega | decide) only [bset_q, bset_k, bset_at], by simp (disch := first | omega | decide) only [bset_q, bset_k, bset_at]⟩
      rw [q2, bMm_some, M234_w (BadP_ne B)] at M0
      exact ⟨_, _, C0, M0, B, Fr_tr fa (FTc_fr q4), Fr_tr (Fr_tr fb (FTm_fr q5)) (Fr_b (by unfold sTm; omega))⟩
end
end GD
