section FC
def wdt (f : Int) : Nat := if f = 5 then 2 else if f = 6 then 4 else if f = 7 then 8 else if f = 11 ∨ f = 12 then 1 else 0
def txtF (T : Nat) (μ : bM) (a i : Nat) : Int := μ 5 ((μ (T + 13) a).toNat + i)
/-- the bytes of a value -/
def valL (T : Nat) (μ : bM) (X tp : Nat → Int) (a : Nat) : List Int :=
  if μ (T + 12) a = 13 then srowL (μ (T + 13) a) else if μ (T + 12) a = 15 then rowL (μ (T + 13) a) else if μ (T + 12) a = 8 then cpL (txtF T μ a) (μ (T + 14) a).toNat ++ [b8 0] else if μ (T + 12) a = 10 then [b8 (μ (T + 14) a)] ++ cpL (txtF T μ a) (μ (T + 14) a).toNat
  else if μ (T + 12) a = 14 then lowL (tp a) 4 else if μ (T + 12) a = 19 then lowL (X (μ (T + 13) a).toNat) 4 else if μ (T + 12) a = 21 then rowL (X (μ (T + 13) a).toNat) else lowL (μ (T + 13) a) (wdt (μ (T + 12) a))
section
variable {T b n m : Nat} {μ ρ : bM} {X tp : Nat → Int}
theorem form_13 (h : cT T n m μ) {e k : Nat} (he : e < n) (hk : (k : Int) < μ (T + 10) e) : μ (T + 12) (8 * e + k) = 5 ∨ μ (T + 12) (8 * e + k) = 6 ∨ μ (T + 12) (8 * e + k) = 7 ∨ μ (T + 12) (8 * e + k) = 8 ∨ μ (T + 12) (8 * e + k) = 10 ∨ μ (T + 12) (8 * e + k) = 11 ∨ μ (T + 12) (8 * e + k) = 12 ∨ μ (T + 12) (8 * e + k) = 13 ∨ μ (T + 12) (8 * e + k) = 14 ∨ μ (T + 12) (8 * e + k) = 15 ∨ μ (T + 12) (8 * e + k) = 19 ∨ μ (T + 12) (8 * e + k) = 21 ∨ μ (T + 12) (8 * e + k) = 25 := by
  have fm := form_any h he hk
  unfold isNum isLet isRef at fm
  omega
theorem len_rg (h : cT T n m μ) {e k : Nat} (he : e < n) (hk : (k : Int) < μ (T + 10) e) : 0 ≤ μ (T + 14) (8 * e + k) ∧ μ (T + 14) (8 * e + k) ≤ 255 := by
  rcases (h.2.2.2.2.2.2.1 e he k hk).2 with ⟨-, x, -⟩ | ⟨-, x, -⟩
  · exact x
  · omega
theorem valL_len (h : cT T n m μ) {e k : Nat} (he : e < n) (hk : (k : Int) < μ (T + 10) e) : ((valL T μ X tp (8 * e + k)).length : Int) = if μ (T + 12) (8 * e + k) = 21 then rowsOf T μ X (8 * e + k) else svz T μ (8 * e + k) := by
  have l := len_rg h he hk
  unfold valL svz rowsOf
  rcases form_13 h he hk with c | c | c | c | c | c | c | c | c | c | c | c | c
  · simp (disch := first | omega | decide) only [bG_pos, bMm_some, bXm_inl, bXm_inr, Option.bind_some, bset_q, bset_k, bset_at, if_pos, if_neg, Int.toNat_natCast]; rw [lowL_len, c]; rfl
  · simp (disch := first | omega | decide) only [bG_pos, bMm_some, bXm_inl, bXm_inr, Option.bind_some, bset_q, bset_k, bset_at, if_pos, if_neg, Int.toNat_natCast]; rw [lowL_len, c]; rfl
  · simp (disch := first | omega | decide) only [bG_pos, bMm_some, bXm_inl, bXm_inr, Option.bind_some, bset_q, bset_k, bset_at, if_pos, if_neg, Int.toNat_natCast]; rw [lowL_len, c]; rfl
  · simp (disch := first | omega | decide) only [bG_pos, bMm_some, bXm_inl, bXm_inr, Option.bind_some, bset_q, bset_k, bset_at, if_pos, if_neg, Int.toNat_natCast]
    rw [List.length_append, cpL_len]
    show (((μ (T + 14) (8 * e + k)).toNat + 1 : Nat) : Int) = _
    omega
  · simp (disch := first | omega | decide) only [bG_pos, bMm_some, bXm_inl, bXm_inr, Option.bind_some, bset_q, bset_k, bset_at, if_pos, if_neg, Int.toNat_natCast]
    rw [List.length_append, cpL_len]
    show ((1 + (μ (T + 14) (8 * e + k)).toNat : Nat) : Int) = _
    omega
  · simp (disch := first | omega | decide) only [bG_pos, bMm_some, bXm_inl, bXm_inr, Option.bind_some, bset_q, bset_k, bset_at, if_pos, if_neg, Int.toNat_natCast]; rw [lowL_len, c]; rfl
  · simp (disch := first | omega | decide) only [bG_pos, bMm_some, bXm_inl, bXm_inr, Option.bind_some, bset_q, bset_k, bset_at, if_pos, if_neg, Int.toNat_natCast]; rw [lowL_len, c]; rfl
  · simp (disch := first | omega | decide) only [bG_pos, bMm_some, bXm_inl, bXm_inr, Option.bind_some, bset_q, bset_k, bset_at, if_pos, if_neg, Int.toNat_natCast]; exact srowL_len
  · simp (disch := first | omega | decide) only [bG_pos, bMm_some, bXm_inl, bXm_inr, Option.bind_some, bset_q, bset_k, bset_at, if_pos, if_neg, Int.toNat_natCast]; rw [lowL_len]; rfl
  · simp (disch := first | omega | decide) only [bG_pos, bMm_some, bXm_inl, bXm_inr, Option.bind_some, bset_q, bset_k, bset_at, if_pos, if_neg, Int.toNat_natCast]; exact rowL_len
  · simp (disch := first | omega | decide) only [bG_pos, bMm_some, bXm_inl, bXm_inr, Option.bind_some, bset_q, bset_k, bset_at, if_pos, if_neg, Int.toNat_natCast]; rw [lowL_len]; rfl
  · simp (disch := first | omega | decide) only [bG_pos, bMm_some, bXm_inl, bXm_inr, Option.bind_some, bset_q, bset_k, bset_at, if_pos, if_neg, Int.toNat_natCast]; exact rowL_len
  · simp (disch := first | omega | decide) only [bG_pos, bMm_some, bXm_inl, bXm_inr, Option.bind_some, bset_q, bset_k, bset_at, if_pos, if_neg, Int.toNat_natCast]; rw [lowL_len, c]; rfl
/-- the class, while it writes: its tree and its layout stand -/
def wC (T : Nat) (μ lm ρ : bM) : Prop := (∀ q, (T ≤ q ∧ q ≤ T + 14 ∨ q = 4 ∨ q = 5) → ρ q = μ q) ∧ (∀ q, 13 ≤ q → q ≤ 29 → ρ q = lm q) ∧ bOk ρ
theorem wC_app {lm ρ' : bM} {s : Nat} {L : List Int} (hT : T = 31 ∨ T = 61) (h : wC T μ lm ρ) (hs : s = 7 ∨ s = 9 ∨ s = 11) (ha : AppL s 1 (s + 1) ρ ρ' L) (hb : bOk ρ') : wC T μ lm ρ' := ⟨fun q hq => by rw [ha.row (by omega) (by omega), h.1 q hq], fun q q1 q2 => by rw [ha.row (by omega) (by omega), h.2.1 q q1 q2], hb⟩
theorem txt_cp (h : cT T n m μ) {a : Nat} : cpL (fun i => μ 5 ((μ (T + 13) a).toNat + i)) (μ (T + 14) a).toNat = cpL (txtF T μ a) (μ (T + 14) a).toNat := rfl
theorem C_value (hbμ : bOk μ) (h : cT T n m μ) {lm : bM} (hw : wC T μ lm ρ) (hX : ∀ e, e < n → 0 ≤ lm 19 e ∧ lm 19 e ≤ 900000) {e k : Nat} (he : e < n) (hk : (k : Int) < μ (T + 10) e) (hs : sOk 7 ρ) (hr : ρ 7 1 + (valL T μ (lm 19) (lm 22) (8 * e + k)).length ≤ 24000) : ∃ ρ', F_X9_writeValue T 4 7 ((8 * e + k : Nat) : Int) ρ = some (0, ρ') ∧ AppL 7 1 8 ρ ρ' (valL T μ (lm 19) (lm 22) (8 * e + k)) ∧ wC T μ lm ρ' := by
  have hT := h.1
  have hTb : bTree T := by rcases hT with rfl | rfl <;> rfl
  have n4 := h.2.1.2
  have a8 := (h.2.2.2.1 e he).2.2.2.1
  have h4 := h.2.2.2.2.2.2.2
  have l := len_rg h he hk
  have hcl := (h.2.2.2.2.2.2.1 e he k hk).2
  have hN7 : ((bN (7 + 1) : Nat) : Int) = 24000 := by decide
  have r4 : ρ 4 1 = μ 4 1 := by rw [hw.1 4 (by omega)]
  have hs4 : sOk 4 ρ := ⟨by omega, by rw [r4]; exact h4.2⟩
  suffices hh : ∃ ρ', F_X9_writeValue T 4 7 ((8 * e + k : Nat) : Int) ρ = some (0, ρ') ∧ AppL 7 1 8 ρ ρ' (valL T μ (lm 19) (lm 22) (8 * e + k)) by
    obtain ⟨ρ', x1, x2⟩ := hh
    exact ⟨ρ', x1, x2, wC_app hT hw (Or.inl rfl) x2 (kp_X9_writeValue T hTb 4 rfl 7 rfl _ (by constructor <;> omega) hw.2.2 x1)⟩
  obtain ⟨a, ha⟩ : ∃ a, a = 8 * e + k := ⟨_, rfl⟩
  have ha32 : a < 3200 := by omega
  have r12 : ρ (T + 12) = μ (T + 12) := hw.1 (T + 12) (by omega)
  have r13 : ρ (T + 13) = μ (T + 13) := hw.1 (T + 13) (by omega)
  have r14 : ρ (T + 14) = μ (T + 14) := hw.1 (T + 14) (by omega)
  have r5 : ρ 5 = μ 5 := hw.1 5 (by omega)
  have vL := val_L hbμ hT a
  have fm := form_13 h he hk
  rw [← ha] at hr l hcl fm ⊢
  -- the text of the slot
  have hstart : isLet (μ (T + 12) a) → ∃ st : Nat, μ (T + 13) a = st ∧ (st : Int) + μ (T + 14) a ≤ ρ 4 1 ∧ F_X8_start T a ρ = some (st : Int) := fun hl => by
    rcases hcl with ⟨x1, x2, x3⟩ | ⟨x1, -⟩
    · refine ⟨(μ (T + 13) a).toNat, by omega, by omega, ?_⟩
      unfold F_X8_start
      rw [bG_pos (by omega), Int.toNat_natCast, r13, b32i (by constructor <;> omega)]
      congr 1
      omega
    · unfold isNum isRef at x1
      unfold isLet at hl
      omega
  have hcopy : ∀ (ρ1 : bM), (∀ q, q ≠ 7 → q ≠ 8 → ρ1 q = ρ q) → bOk ρ1 → sOk 7 ρ1 → isLet (μ (T + 12) a) → ρ1 7 1 + (μ (T + 14) a).toNat ≤ 24000 → ∃ st : Nat, F_X8_start T a ρ1 = some (st : Int) ∧ ∃ ρ2, F_X6_addFrom 7 4 st (μ (T + 14) a) ρ1 = some (0, ρ2) ∧ AppL 7 1 8 ρ1 ρ2 (cpL (txtF T μ a) (μ (T + 14) a).toNat) := fun ρ1 hρ hb1 hs1 hl hroom => by
    obtain ⟨st, s1, s2, s3⟩ := hstart hl
    refine ⟨st, ?_, ?_⟩
    · unfold F_X8_start at s3 ⊢
      rw [hρ (T + 13) (by omega) (by omega)]
      exact s3
    · have f4 : ρ1 4 = ρ 4 := hρ 4 (by omega) (by omega)
      obtain ⟨ρ2, p1, p2⟩ := P_cp (s := 7) (s2 := 4) (ρ := ρ1) (a := st) (n := (μ (T + 14) a).toNat) hb1 bSt4 hs1 ⟨by rw [f4]; exact hs4.1, by rw [f4]; exact hs4.2⟩ (by omega) (by rw [f4]; omega) (by omega)
      rw [show (((μ (T + 14) a).toNat : Nat) : Int) = μ (T + 14) a by omega] at p1
      refine ⟨ρ2, p1, ?_⟩
      have : (fun i => ρ1 (4 + 1) (st + i)) = txtF T μ a := by
        funext i
        unfold txtF
        rw [hρ 5 (by omega) (by omega), r5, s1, Int.toNat_natCast]
      rw [this] at p2
      exact p2
  unfold F_X9_writeValue
  rw [bG_pos (by omega), bG_pos (by omega), Int.toNat_natCast, r12, r13, r14]
  rcases fm with c | c | c | c | c | c | c | c | c | c | c | c | c
  · have eV : valL T μ (lm 19) (lm 22) a = lowL (μ (T + 13) a) 2 := by
      unfold valL
      simp (disch := first | omega | decide) only [bG_pos, bMm_some, bXm_inl, bXm_inr, Option.bind_some, bset_q, bset_k, bset_at, if_pos, if_neg, Int.toNat_natCast]
      rw [show wdt (μ (T + 12) a) = 2 by rw [c]; rfl]
    rw [eV] at hr ⊢
    rw [lowL_len] at hr
    obtain ⟨ρ', p1, p2⟩ := P_low (s := 7) (v := μ (T + 13) a) (w := 2) (by omega) hs (by omega)
    refine ⟨ρ', ?_, p2⟩
    simp (disch := first | omega | decide) only [bG_pos, bMm_some, bXm_inl, bXm_inr, Option.bind_some, bset_q, bset_k, bset_at, if_pos, if_neg, Int.toNat_natCast, C_width (v := μ (T + 12) a) (ρ := ρ) (Or.inl (by unfold isNum; omega)) (by omega) (by omega) (by omega) (by omega)]
    rw [show (2 : Int) = ((2 : Nat) : Int) from rfl, p1, bMm_some]
  · have eV : valL T μ (lm 19) (lm 22) a = lowL (μ (T + 13) a) 4 := by
      unfold valL
      simp (disch := first | omega | decide) only [bG_pos, bMm_some, bXm_inl, bXm_inr, Option.bind_some, bset_q, bset_k, bset_at, if_pos, if_neg, Int.toNat_natCast]
      rw [show wdt (μ (T + 12) a) = 4 by rw [c]; rfl]
    rw [eV] at hr ⊢
    rw [lowL_len] at hr
    obtain ⟨ρ', p1, p2⟩ := P_low (s := 7) (v := μ (T + 13) a) (w := 4) (by omega) hs (by omega)
    refine ⟨ρ', ?_, p2⟩
    simp (disch := first | omega | decide) only [bG_pos, bMm_some, bXm_inl, bXm_inr, Option.bind_some, bset_q, bset_k, bset_at, if_pos, if_neg, Int.toNat_natCast, C_width (v := μ (T + 12) a) (ρ := ρ) (Or.inl (by unfold isNum; omega)) (by omega) (by omega) (by omega) (by omega)]
    rw [show (4 : Int) = ((4 : Nat) : Int) from rfl, p1, bMm_some]
  · have eV : valL T μ (lm 19) (lm 22) a = lowL (μ (T + 13) a) 8 := by
      unfold valL
      simp (disch := first | omega | decide) only [bG_pos, bMm_some, bXm_inl, bXm_inr, Option.bind_some, bset_q, bset_k, bset_at, if_pos, if_neg, Int.toNat_natCast]
      rw [show wdt (μ (T + 12) a) = 8 by rw [c]; rfl]
    rw [eV] at hr ⊢
    rw [lowL_len] at hr
    obtain ⟨ρ', p1, p2⟩ := P_low (s := 7) (v := μ (T + 13) a) (w := 8) (by omega) hs (by omega)
    refine ⟨ρ', ?_, p2⟩
    simp (disch := first | omega | decide) only [bG_pos, bMm_some, bXm_inl, bXm_inr, Option.bind_some, bset_q, bset_k, bset_at, if_pos, if_neg, Int.toNat_natCast, C_width (v := μ (T + 12) a) (ρ := ρ) (Or.inl (by unfold isNum; omega)) (by omega) (by omega) (by omega) (by omega)]
    rw [show (8 : Int) = ((8 : Nat) : Int) from rfl, p1, bMm_some]
  · have eV : valL T μ (lm 19) (lm 22) a = cpL (txtF T μ a) (μ (T + 14) a).toNat ++ [b8 0] := by unfold valL; simp (disch := first | omega | decide) only [bG_pos, bMm_some, bXm_inl, bXm_inr, Option.bind_some, bset_q, bset_k, bset_at, if_pos, if_neg, Int.toNat_natCast]
    rw [eV] at hr ⊢
    rw [List.length_append, cpL_len] at hr
    simp only [List.length_cons, List.length_nil] at hr
    obtain ⟨st, s1, ρ1, s2, s3⟩ := hcopy ρ (fun q _ _ => rfl) hw.2.2 hs (by unfold isLet; omega) (by omega)
    have c1 := s3.cnt
    rw [cpL_len] at c1
    obtain ⟨ρ2, p1, p2⟩ := P_add (s := 7) (ρ := ρ1) (sOk_app hs (by rw [cpL_len]; omega) s3) (by omega) 0
    rw [if_pos c, s1, Option.bind_some, bG_pos (by omega), s2, bMm_some, p1, bMm_some]
    exact ⟨ρ2, rfl, s3.trans p2 hs.1⟩
  · have eV : valL T μ (lm 19) (lm 22) a = [b8 (μ (T + 14) a)] ++ cpL (txtF T μ a) (μ (T + 14) a).toNat := by unfold valL; simp (disch := first | omega | decide) only [bG_pos, bMm_some, bXm_inl, bXm_inr, Option.bind_some, bset_q, bset_k, bset_at, if_pos, if_neg, Int.toNat_natCast]
    rw [eV] at hr ⊢
    rw [List.length_append, cpL_len] at hr
    simp only [List.length_cons, List.length_nil] at hr
    obtain ⟨ρ1, p1, p2⟩ := P_add (s := 7) (ρ := ρ) hs (by omega) (μ (T + 14) a)
    have c1 := p2.cnt
    simp only [List.length_cons, List.length_nil] at c1
    obtain ⟨st, s1, ρ2, s2, s3⟩ := hcopy ρ1 (fun q q1 q2 => p2.row q1 q2) (kp_X6_add 7 rfl _ (by constructor <;> omega) hw.2.2 p1) (sOk_app hs (by simp only [List.length_cons, List.length_nil]; omega) p2) (by unfold isLet; omega) (by omega)
    rw [if_neg (by omega), if_neg (by omega), if_pos c, bG_pos (by omega), p1, bMm_some, s1, Option.bind_some, bG_pos (by omega), p2.row (show T + 14 ≠ 7 by omega) (show T + 14 ≠ 7 + 1 by omega), r14, s2, bMm_some]
    exact ⟨ρ2, rfl, p2.trans s3 hs.1⟩
  · have eV : valL T μ (lm 19) (lm 22) a = lowL (μ (T + 13) a) 1 := by
      unfold valL
      simp (disch := first | omega | decide) only [bG_pos, bMm_some, bXm_inl, bXm_inr, Option.bind_some, bset_q, bset_k, bset_at, if_pos, if_neg, Int.toNat_natCast]
      rw [show wdt (μ (T + 12) a) = 1 by rw [c]; rfl]
    rw [eV] at hr ⊢
    rw [lowL_len] at hr
    obtain ⟨ρ', p1, p2⟩ := P_low (s := 7) (v := μ (T + 13) a) (w := 1) (by omega) hs (by omega)
    refine ⟨ρ', ?_, p2⟩
    simp (disch := first | omega | decide) only [bG_pos, bMm_some, bXm_inl, bXm_inr, Option.bind_some, bset_q, bset_k, bset_at, if_pos, if_neg, Int.toNat_natCast, C_width (v := μ (T + 12) a) (ρ := ρ) (Or.inl (by unfold isNum; omega)) (by omega) (by omega) (by omega) (by omega)]
    rw [show (1 : Int) = ((1 : Nat) : Int) from rfl, p1, bMm_some]
  · have eV : valL T μ (lm 19) (lm 22) a = lowL (μ (T + 13) a) 1 := by
      unfold valL
      simp (disch := first | omega | decide) only [bG_pos, bMm_some, bXm_inl, bXm_inr, Option.bind_some, bset_q, bset_k, bset_at, if_pos, if_neg, Int.toNat_natCast]
      rw [show wdt (μ (T + 12) a) = 1 by rw [c]; rfl]
    rw [eV] at hr ⊢
    rw [lowL_len] at hr
    obtain ⟨ρ', p1, p2⟩ := P_low (s := 7) (v := μ (T + 13) a) (w := 1) (by omega) hs (by omega)
    refine ⟨ρ', ?_, p2⟩
    simp (disch := first | omega | decide) only [bG_pos, bMm_some, bXm_inl, bXm_inr, Option.bind_some, bset_q, bset_k, bset_at, if_pos, if_neg, Int.toNat_natCast, C_width (v := μ (T + 12) a) (ρ := ρ) (Or.inl (by unfold isNum; omega)) (by omega) (by omega) (by omega) (by omega)]
    rw [show (1 : Int) = ((1 : Nat) : Int) from rfl, p1, bMm_some]
  · have eV : valL T μ (lm 19) (lm 22) a = srowL (μ (T + 13) a) := by unfold valL; simp (disch := first | omega | decide) only [bG_pos, bMm_some, bXm_inl, bXm_inr, Option.bind_some, bset_q, bset_k, bset_at, if_pos, if_neg, Int.toNat_natCast]
    rw [eV] at hr ⊢
    have := srowL_len (v := μ (T + 13) a)
    obtain ⟨ρ', p1, p2⟩ := P_srow (s := 7) vL hs (by omega)
    refine ⟨ρ', ?_, p2⟩
    simp (disch := first | omega | decide) only [bG_pos, bMm_some, bXm_inl, bXm_inr, Option.bind_some, bset_q, bset_k, bset_at, if_pos, if_neg, Int.toNat_natCast, p1]
  · have eV : valL T μ (lm 19) (lm 22) a = lowL (lm 22 a) 4 := by unfold valL; simp (disch := first | omega | decide) only [bG_pos, bMm_some, bXm_inl, bXm_inr, Option.bind_some, bset_q, bset_k, bset_at, if_pos, if_neg, Int.toNat_natCast]
    rw [eV] at hr ⊢
    rw [lowL_len] at hr
    obtain ⟨ρ', p1, p2⟩ := P_low (s := 7) (v := lm 22 a) (w := 4) (by omega) hs (by omega)
    refine ⟨ρ', ?_, p2⟩
    simp (disch := first | omega | decide) only [bG_pos, bMm_some, bXm_inl, bXm_inr, Option.bind_some, bset_q, bset_k, bset_at, if_pos, if_neg, Int.toNat_natCast, hw.2.1 22 (by omega) (by omega)]
    rw [show (4 : Int) = ((4 : Nat) : Int) from rfl, p1, bMm_some]
  · have eV : valL T μ (lm 19) (lm 22) a = rowL (μ (T + 13) a) := by unfold valL; simp (disch := first | omega | decide) only [bG_pos, bMm_some, bXm_inl, bXm_inr, Option.bind_some, bset_q, bset_k, bset_at, if_pos, if_neg, Int.toNat_natCast]
    rw [eV] at hr ⊢
    have := rowL_len (v := μ (T + 13) a)
    have v0 : 0 ≤ μ (T + 13) a := by
      rcases hcl with ⟨x, -⟩ | ⟨-, -, x, -⟩
      · unfold isLet at x; omega
      · exact x c
    obtain ⟨ρ', p1, p2⟩ := P_row (s := 7) ⟨v0, vL.2⟩ hs (by omega)
    refine ⟨ρ', ?_, p2⟩
    simp (disch := first | omega | decide) only [bG_pos, bMm_some, bXm_inl, bXm_inr, Option.bind_some, bset_q, bset_k, bset_at, if_pos, if_neg, Int.toNat_natCast, p1]
  · have eV : valL T μ (lm 19) (lm 22) a = lowL (lm 19 (μ (T + 13) a).toNat) 4 := by unfold valL; simp (disch := first | omega | decide) only [bG_pos, bMm_some, bXm_inl, bXm_inr, Option.bind_some, bset_q, bset_k, bset_at, if_pos, if_neg, Int.toNat_natCast]
    rw [eV] at hr ⊢
    rw [lowL_len] at hr
    obtain ⟨w, w1, w2⟩ : ∃ w : Nat, μ (T + 13) a = w ∧ w < n := by
      rcases hcl with ⟨x, -⟩ | ⟨-, -, -, x⟩
      · unfold isLet at x; omega
      · have := x (by unfold isRef; omega)
        exact ⟨(μ (T + 13) a).toNat, by omega, by omega⟩
    rw [w1, Int.toNat_natCast]
    obtain ⟨ρ', p1, p2⟩ := P_low (s := 7) (v := lm 19 w) (w := 4) (by omega) hs (by omega)
    refine ⟨ρ', ?_, p2⟩
    simp (disch := first | omega | decide) only [bG_pos, bMm_some, bXm_inl, bXm_inr, Option.bind_some, bset_q, bset_k, bset_at, if_pos, if_neg, Int.toNat_natCast, hw.2.1 19 (by omega) (by omega), b32i (a := (w : Int)) (by constructor <;> omega)]
    rw [show (4 : Int) = ((4 : Nat) : Int) from rfl, p1, bMm_some]
  · have eV : valL T μ (lm 19) (lm 22) a = rowL (lm 19 (μ (T + 13) a).toNat) := by unfold valL; simp (disch := first | omega | decide) only [bG_pos, bMm_some, bXm_inl, bXm_inr, Option.bind_some, bset_q, bset_k, bset_at, if_pos, if_neg, Int.toNat_natCast]
    rw [eV] at hr ⊢
    obtain ⟨w, w1, w2⟩ : ∃ w : Nat, μ (T + 13) a = w ∧ w < n := by
      rcases hcl with ⟨x, -⟩ | ⟨-, -, -, x⟩
      · unfold isLet at x; omega
      · have := x (by unfold isRef; omega)
        exact ⟨(μ (T + 13) a).toNat, by omega, by omega⟩
    rw [w1, Int.toNat_natCast] at hr ⊢
    have := rowL_len (v := lm 19 w)
    have := hX w w2
    obtain ⟨ρ', p1, p2⟩ := P_row (s := 7) (v := lm 19 w) (by omega) hs (by omega)
    refine ⟨ρ', ?_, p2⟩
    simp (disch := first | omega | decide) only [bG_pos, bMm_some, bXm_inl, bXm_inr, Option.bind_some, bset_q, bset_k, bset_at, if_pos, if_neg, Int.toNat_natCast, hw.2.1 19 (by omega) (by omega), b32i (a := (w : Int)) (by constructor <;> omega), p1]
  · have eV : valL T μ (lm 19) (lm 22) a = lowL (μ (T + 13) a) 0 := by
      unfold valL
      simp (disch := first | omega | decide) only [bG_pos, bMm_some, bXm_inl, bXm_inr, Option.bind_some, bset_q, bset_k, bset_at, if_pos, if_neg, Int.toNat_natCast]
      rw [show wdt (μ (T + 12) a) = 0 by rw [c]; rfl]
    rw [eV] at hr ⊢
    rw [lowL_len] at hr
    obtain ⟨ρ', p1, p2⟩ := P_low (s := 7) (v := μ (T + 13) a) (w := 0) (by omega) hs (by omega)
    refine ⟨ρ', ?_, p2⟩
    simp (disch := first | omega | decide) only [bG_pos, bMm_some, bXm_inl, bXm_inr, Option.bind_some, bset_q, bset_k, bset_at, if_pos, if_neg, Int.toNat_natCast, C_width (v := μ (T + 12) a) (ρ := ρ) (Or.inl (by unfold isNum; omega)) (by omega) (by omega) (by omega) (by omega)]
    rw [show (0 : Int) = ((0 : Nat) : Int) from rfl, p1, bMm_some]
end
end FC
