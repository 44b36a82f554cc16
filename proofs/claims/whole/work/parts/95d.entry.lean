section FD
section
variable {T b n m : Nat} {μ σ : bM} {X tp : Nat → Int} {ord : Nat → Nat}
theorem Q_value (hbμ : bOk μ) (h : cT T n m μ) (ho : ∀ k, k < n → ord k < n) (hM : mA T b n m μ σ) (hX : ∀ e, e < n → σ 101 e = X e ∧ 0 ≤ X e ∧ X e ≤ 900000) (hx : txM T b μ (tA T μ ord n) σ) (htp : ∀ a, slT T n μ a → ∃ t : Nat, t < (tA T μ ord n).1 ∧ scan (fun t => tm T μ ((tA T μ ord n).2 t) a) 1 0 (tA T μ ord n).1 = t ∧ tp a = tP T μ (tA T μ ord n) t)
    {e k : Nat} (he : e < n) (hk : (k : Int) < μ (T + 10) e) (h0 : 0 ≤ σ 76 36) (hr : σ 76 36 + (valL T μ X tp (8 * e + k)).length ≤ 40000) : ∃ ρ', F_X11_putValue ((3200 * b + (8 * e + k) : Nat) : Int) σ = some (0, ρ') ∧ AppL 76 36 93 σ ρ' (valL T μ X tp (8 * e + k)) := by
  have hT := h.1
  have n4 := h.2.1.2
  have a8 := (h.2.2.2.1 e he).2.2.2.1
  have l := len_rg h he hk
  have hcl := (h.2.2.2.2.2.2.1 e he k hk).2
  have hb01 := hM.1.1
  have hsz := M_sizeOf hbμ h hM he hk
  obtain ⟨⟨r85, r86, r89⟩, r87, r88⟩ := hM.2.2 e he k hk
  have fm := form_13 h he hk
  have hsl : μ (T + 12) (8 * e + k) = 14 → slT T n μ (8 * e + k) := fun c => ⟨e, k, he, hk, rfl, c⟩
  obtain ⟨a, ha⟩ : ∃ a, a = 8 * e + k := ⟨_, rfl⟩
  have ha32 : a < 3200 := by omega
  rw [← ha] at hr l hcl fm r86 r89 r87 r88 hsz hsl ⊢
  have vL := val_L hbμ hT a
  have hcopy : ∀ (ρ1 : bM), (∀ q, q ≠ 76 → q ≠ 93 → ρ1 q = σ q) → isLet (μ (T + 12) a) → 0 ≤ ρ1 76 36 → ρ1 76 36 + (μ (T + 14) a).toNat ≤ 40000 → ∃ ρ2, F_X11_putText ((3200 * b + a : Nat) : Int) ρ1 = some (0, ρ2) ∧ AppL 76 36 93 ρ1 ρ2 (cpL (txtF T μ a) (μ (T + 14) a).toNat) := fun ρ1 hρ hl s0 s1 => by
    obtain ⟨x1, x2⟩ := r88 hl
    refine Q_text (a := 3200 * b + a) (len := (μ (T + 14) a).toNat) (by omega) (by rw [hρ 89 (by decide) (by decide), r89]; omega) (by rw [hρ 88 (by decide) (by decide)]; omega) (fun i hi => ?_) s0 s1
    rw [hρ 88 (by decide) (by decide), hρ 92 (by decide) (by decide)]
    refine ⟨x2 i (by omega), ?_⟩
    unfold txtF
    exact bO_b (q := 5) (n := 30000) hbμ rfl
  unfold F_X11_putValue
  rw [bG_pos (by omega), Int.toNat_natCast, r86, r89]
  rcases fm with c | c | c | c | c | c | c | c | c | c | c | c | c
  · have eV : valL T μ X tp a = lowL (μ (T + 13) a) 2 := by
      unfold valL
      simp (disch := first | omega | decide) only [bG_pos, bMm_some, bXm_inl, bXm_inr, Option.bind_some, bset_q, bset_k, bset_at, if_pos, if_neg, Int.toNat_natCast]
      rw [show wdt (μ (T + 12) a) = 2 by rw [c]; rfl]
    rw [eV] at hr ⊢
    rw [lowL_len] at hr
    obtain ⟨ρ', p1, p2⟩ := Q_low (ρ := σ) (v := μ (T + 13) a) (w := 2) (by omega) h0 (by omega)
    refine ⟨ρ', ?_, p2⟩
    unfold F_X11_putValue_193
    have hz : svz T μ a = 2 := by unfold svz; simp (disch := first | omega | decide) only [bG_pos, bMm_some, bXm_inl, bXm_inr, Option.bind_some, bset_q, bset_k, bset_at, if_pos, if_neg, Int.toNat_natCast]
    simp (disch := first | omega | decide) only [bG_pos, bMm_some, bXm_inl, bXm_inr, Option.bind_some, bset_q, bset_k, bset_at, if_pos, if_neg, Int.toNat_natCast, hsz, hz, r87 (Or.inl (by unfold isNum; omega))]
    rw [show (2 : Int) = ((2 : Nat) : Int) from rfl, p1, bMm_some]
  · have eV : valL T μ X tp a = lowL (μ (T + 13) a) 4 := by
      unfold valL
      simp (disch := first | omega | decide) only [bG_pos, bMm_some, bXm_inl, bXm_inr, Option.bind_some, bset_q, bset_k, bset_at, if_pos, if_neg, Int.toNat_natCast]
      rw [show wdt (μ (T + 12) a) = 4 by rw [c]; rfl]
    rw [eV] at hr ⊢
    rw [lowL_len] at hr
    obtain ⟨ρ', p1, p2⟩ := Q_low (ρ := σ) (v := μ (T + 13) a) (w := 4) (by omega) h0 (by omega)
    refine ⟨ρ', ?_, p2⟩
    unfold F_X11_putValue_193
    have hz : svz T μ a = 4 := by unfold svz; simp (disch := first | omega | decide) only [bG_pos, bMm_some, bXm_inl, bXm_inr, Option.bind_some, bset_q, bset_k, bset_at, if_pos, if_neg, Int.toNat_natCast]
    simp (disch := first | omega | decide) only [bG_pos, bMm_some, bXm_inl, bXm_inr, Option.bind_some, bset_q, bset_k, bset_at, if_pos, if_neg, Int.toNat_natCast, hsz, hz, r87 (Or.inl (by unfold isNum; omega))]
    rw [show (4 : Int) = ((4 : Nat) : Int) from rfl, p1, bMm_some]
  · have eV : valL T μ X tp a = lowL (μ (T + 13) a) 8 := by
      unfold valL
      simp (disch := first | omega | decide) only [bG_pos, bMm_some, bXm_inl, bXm_inr, Option.bind_some, bset_q, bset_k, bset_at, if_pos, if_neg, Int.toNat_natCast]
      rw [show wdt (μ (T + 12) a) = 8 by rw [c]; rfl]
    rw [eV] at hr ⊢
    rw [lowL_len] at hr
    obtain ⟨ρ', p1, p2⟩ := Q_low (ρ := σ) (v := μ (T + 13) a) (w := 8) (by omega) h0 (by omega)
    refine ⟨ρ', ?_, p2⟩
    unfold F_X11_putValue_193
    have hz : svz T μ a = 8 := by unfold svz; simp (disch := first | omega | decide) only [bG_pos, bMm_some, bXm_inl, bXm_inr, Option.bind_some, bset_q, bset_k, bset_at, if_pos, if_neg, Int.toNat_natCast]
    simp (disch := first | omega | decide) only [bG_pos, bMm_some, bXm_inl, bXm_inr, Option.bind_some, bset_q, bset_k, bset_at, if_pos, if_neg, Int.toNat_natCast, hsz, hz, r87 (Or.inl (by unfold isNum; omega))]
    rw [show (8 : Int) = ((8 : Nat) : Int) from rfl, p1, bMm_some]
  · have eV : valL T μ X tp a = cpL (txtF T μ a) (μ (T + 14) a).toNat ++ [b8 0] := by unfold valL; simp (disch := first | omega | decide) only [bG_pos, bMm_some, bXm_inl, bXm_inr, Option.bind_some, bset_q, bset_k, bset_at, if_pos, if_neg, Int.toNat_natCast]
    rw [eV] at hr ⊢
    rw [List.length_append, cpL_len] at hr
    simp only [List.length_cons, List.length_nil] at hr
    obtain ⟨ρ1, s2, s3⟩ := hcopy σ (fun q _ _ => rfl) (by unfold isLet; omega) h0 (by omega)
    have c1 := s3.cnt
    rw [cpL_len] at c1
    obtain ⟨ρ2, p1, p2⟩ := Q_put (ρ := ρ1) (v := 0) (by omega) (by omega)
    rw [if_pos c, s2, bMm_some, p1, bMm_some]
    exact ⟨ρ2, rfl, s3.trans p2 h0⟩
  · have eV : valL T μ X tp a = [b8 (μ (T + 14) a)] ++ cpL (txtF T μ a) (μ (T + 14) a).toNat := by unfold valL; simp (disch := first | omega | decide) only [bG_pos, bMm_some, bXm_inl, bXm_inr, Option.bind_some, bset_q, bset_k, bset_at, if_pos, if_neg, Int.toNat_natCast]
    rw [eV] at hr ⊢
    rw [List.length_append, cpL_len] at hr
    simp only [List.length_cons, List.length_nil] at hr
    obtain ⟨ρ1, p1, p2⟩ := Q_put (ρ := σ) (v := μ (T + 14) a) h0 (by omega)
    have c1 := p2.cnt
    simp only [List.length_cons, List.length_nil] at c1
    obtain ⟨ρ2, s2, s3⟩ := hcopy ρ1 (fun q q1 q2 => p2.row q1 q2) (by unfold isLet; omega) (by omega) (by omega)
    rw [if_neg (by omega), if_neg (by omega), if_pos c, bG_pos (by omega), p1, bMm_some, s2, bMm_some]
    exact ⟨ρ2, rfl, p2.trans s3 h0⟩
  · have eV : valL T μ X tp a = lowL (μ (T + 13) a) 1 := by
      unfold valL
      simp (disch := first | omega | decide) only [bG_pos, bMm_some, bXm_inl, bXm_inr, Option.bind_some, bset_q, bset_k, bset_at, if_pos, if_neg, Int.toNat_natCast]
      rw [show wdt (μ (T + 12) a) = 1 by rw [c]; rfl]
    rw [eV] at hr ⊢
    rw [lowL_len] at hr
    obtain ⟨ρ', p1, p2⟩ := Q_low (ρ := σ) (v := μ (T + 13) a) (w := 1) (by omega) h0 (by omega)
    refine ⟨ρ', ?_, p2⟩
    unfold F_X11_putValue_193
    have hz : svz T μ a = 1 := by unfold svz; simp (disch := first | omega | decide) only [bG_pos, bMm_some, bXm_inl, bXm_inr, Option.bind_some, bset_q, bset_k, bset_at, if_pos, if_neg, Int.toNat_natCast]
    simp (disch := first | omega | decide) only [bG_pos, bMm_some, bXm_inl, bXm_inr, Option.bind_some, bset_q, bset_k, bset_at, if_pos, if_neg, Int.toNat_natCast, hsz, hz, r87 (Or.inl (by unfold isNum; omega))]
    rw [show (1 : Int) = ((1 : Nat) : Int) from rfl, p1, bMm_some]
  · have eV : valL T μ X tp a = lowL (μ (T + 13) a) 1 := by
      unfold valL
      simp (disch := first | omega | decide) only [bG_pos, bMm_some, bXm_inl, bXm_inr, Option.bind_some, bset_q, bset_k, bset_at, if_pos, if_neg, Int.toNat_natCast]
      rw [show wdt (μ (T + 12) a) = 1 by rw [c]; rfl]
    rw [eV] at hr ⊢
    rw [lowL_len] at hr
    obtain ⟨ρ', p1, p2⟩ := Q_low (ρ := σ) (v := μ (T + 13) a) (w := 1) (by omega) h0 (by omega)
    refine ⟨ρ', ?_, p2⟩
    unfold F_X11_putValue_193
    have hz : svz T μ a = 1 := by unfold svz; simp (disch := first | omega | decide) only [bG_pos, bMm_some, bXm_inl, bXm_inr, Option.bind_some, bset_q, bset_k, bset_at, if_pos, if_neg, Int.toNat_natCast]
    simp (disch := first | omega | decide) only [bG_pos, bMm_some, bXm_inl, bXm_inr, Option.bind_some, bset_q, bset_k, bset_at, if_pos, if_neg, Int.toNat_natCast, hsz, hz, r87 (Or.inl (by unfold isNum; omega))]
    rw [show (1 : Int) = ((1 : Nat) : Int) from rfl, p1, bMm_some]
  · have eV : valL T μ X tp a = srowL (μ (T + 13) a) := by unfold valL; simp (disch := first | omega | decide) only [bG_pos, bMm_some, bXm_inl, bXm_inr, Option.bind_some, bset_q, bset_k, bset_at, if_pos, if_neg, Int.toNat_natCast]
    rw [eV] at hr ⊢
    have := srowL_len (v := μ (T + 13) a)
    obtain ⟨ρ', p1, p2⟩ := Q_srow (ρ := σ) vL h0 (by omega)
    refine ⟨ρ', ?_, p2⟩
    simp (disch := first | omega | decide) only [bG_pos, bMm_some, bXm_inl, bXm_inr, Option.bind_some, bset_q, bset_k, bset_at, if_pos, if_neg, Int.toNat_natCast, r87 (Or.inl (by unfold isNum; omega)), p1]
  · have eV : valL T μ X tp a = lowL (tp a) 4 := by unfold valL; simp (disch := first | omega | decide) only [bG_pos, bMm_some, bXm_inl, bXm_inr, Option.bind_some, bset_q, bset_k, bset_at, if_pos, if_neg, Int.toNat_natCast]
    rw [eV] at hr ⊢
    rw [lowL_len] at hr
    obtain ⟨t, t1, t2, t3⟩ := htp a (hsl c)
    have hle := tA_le h ho n (Nat.le_refl n)
    have hok := tA_ok hbμ h ho n (Nat.le_refl n)
    have hto := M_textOf hbμ h hM (fun t ht => (hok.1 t ht).2) (by omega) hx (hsl c)
    rw [t2] at hto
    have h100 := hx.2.2.1 t t1
    obtain ⟨ρ', p1, p2⟩ := Q_low (ρ := σ) (v := tp a) (w := 4) (by omega) h0 (by omega)
    refine ⟨ρ', ?_, p2⟩
    simp (disch := first | omega | decide) only [bG_pos, bMm_some, bXm_inl, bXm_inr, Option.bind_some, bset_q, bset_k, bset_at, if_pos, if_neg, Int.toNat_natCast, hto, h100]
    rw [← t3, show (4 : Int) = ((4 : Nat) : Int) from rfl, p1, bMm_some]
  · have eV : valL T μ X tp a = rowL (μ (T + 13) a) := by unfold valL; simp (disch := first | omega | decide) only [bG_pos, bMm_some, bXm_inl, bXm_inr, Option.bind_some, bset_q, bset_k, bset_at, if_pos, if_neg, Int.toNat_natCast]
    rw [eV] at hr ⊢
    have := rowL_len (v := μ (T + 13) a)
    have v0 : 0 ≤ μ (T + 13) a := by
      rcases hcl with ⟨x, -⟩ | ⟨-, -, x, -⟩
      · unfold isLet at x; omega
      · exact x c
    obtain ⟨ρ', p1, p2⟩ := Q_row (ρ := σ) ⟨v0, vL.2⟩ h0 (by omega)
    refine ⟨ρ', ?_, p2⟩
    simp (disch := first | omega | decide) only [bG_pos, bMm_some, bXm_inl, bXm_inr, Option.bind_some, bset_q, bset_k, bset_at, if_pos, if_neg, Int.toNat_natCast, r87 (Or.inl (by unfold isNum; omega)), p1]
  · have eV : valL T μ X tp a = lowL (X (μ (T + 13) a).toNat) 4 := by unfold valL; simp (disch := first | omega | decide) only [bG_pos, bMm_some, bXm_inl, bXm_inr, Option.bind_some, bset_q, bset_k, bset_at, if_pos, if_neg, Int.toNat_natCast]
    rw [eV] at hr ⊢
    rw [lowL_len] at hr
    obtain ⟨w, w1, w2⟩ : ∃ w : Nat, μ (T + 13) a = w ∧ w < n := by
      rcases hcl with ⟨x, -⟩ | ⟨-, -, -, x⟩
      · unfold isLet at x; omega
      · have := x (by unfold isRef; omega)
        exact ⟨(μ (T + 13) a).toNat, by omega, by omega⟩
    have hXw := hX w w2
    have r87w : σ 87 (3200 * b + a) = w := by rw [r87 (Or.inr (by unfold isRef; omega)), w1]
    rw [w1, Int.toNat_natCast]
    obtain ⟨ρ', p1, p2⟩ := Q_low (ρ := σ) (v := X w) (w := 4) (by omega) h0 (by omega)
    refine ⟨ρ', ?_, p2⟩
    simp (disch := first | omega | decide) only [bG_pos, bMm_some, bXm_inl, bXm_inr, Option.bind_some, bset_q, bset_k, bset_at, if_pos, if_neg, Int.toNat_natCast, r87w, b32i (a := (w : Int)) (by constructor <;> omega), hXw.1]
    rw [show (4 : Int) = ((4 : Nat) : Int) from rfl, p1, bMm_some]
  · have eV : valL T μ X tp a = rowL (X (μ (T + 13) a).toNat) := by unfold valL; simp (disch := first | omega | decide) only [bG_pos, bMm_some, bXm_inl, bXm_inr, Option.bind_some, bset_q, bset_k, bset_at, if_pos, if_neg, Int.toNat_natCast]
    rw [eV] at hr ⊢
    obtain ⟨w, w1, w2⟩ : ∃ w : Nat, μ (T + 13) a = w ∧ w < n := by
      rcases hcl with ⟨x, -⟩ | ⟨-, -, -, x⟩
      · unfold isLet at x; omega
      · have := x (by unfold isRef; omega)
        exact ⟨(μ (T + 13) a).toNat, by omega, by omega⟩
    have hXw := hX w w2
    have r87w : σ 87 (3200 * b + a) = w := by rw [r87 (Or.inr (by unfold isRef; omega)), w1]
    rw [w1, Int.toNat_natCast] at hr ⊢
    have := rowL_len (v := X w)
    obtain ⟨ρ', p1, p2⟩ := Q_row (ρ := σ) (v := X w) (by omega) h0 (by omega)
    refine ⟨ρ', ?_, p2⟩
    simp (disch := first | omega | decide) only [bG_pos, bMm_some, bXm_inl, bXm_inr, Option.bind_some, bset_q, bset_k, bset_at, if_pos, if_neg, Int.toNat_natCast, r87w, b32i (a := (w : Int)) (by constructor <;> omega), hXw.1, p1]
  · have eV : valL T μ X tp a = lowL (μ (T + 13) a) 0 := by
      unfold valL
      simp (disch := first | omega | decide) only [bG_pos, bMm_some, bXm_inl, bXm_inr, Option.bind_some, bset_q, bset_k, bset_at, if_pos, if_neg, Int.toNat_natCast]
      rw [show wdt (μ (T + 12) a) = 0 by rw [c]; rfl]
    rw [eV] at hr ⊢
    rw [lowL_len] at hr
    obtain ⟨ρ', p1, p2⟩ := Q_low (ρ := σ) (v := μ (T + 13) a) (w := 0) (by omega) h0 (by omega)
    refine ⟨ρ', ?_, p2⟩
    unfold F_X11_putValue_193
    have hz : svz T μ a = 0 := by unfold svz; simp (disch := first | omega | decide) only [bG_pos, bMm_some, bXm_inl, bXm_inr, Option.bind_some, bset_q, bset_k, bset_at, if_pos, if_neg, Int.toNat_natCast]
    simp (disch := first | omega | decide) only [bG_pos, bMm_some, bXm_inl, bXm_inr, Option.bind_some, bset_q, bset_k, bset_at, if_pos, if_neg, Int.toNat_natCast, hsz, hz, r87 (Or.inl (by unfold isNum; omega))]
    rw [show (0 : Int) = ((0 : Nat) : Int) from rfl, p1, bMm_some]
/-! an entry's bytes -/
def valsF (T : Nat) (μ : bM) (X tp : Nat → Int) (e : Nat) : Nat → Nat → List Int
  | 0, _ => []
  | k + 1, j => valL T μ X tp (8 * e + j) ++ valsF T μ X tp e k (j + 1)
theorem valsF_len (h : cT T n m μ) {e : Nat} (he : e < n) : ∀ (k j : Nat), ((j + k : Nat) : Int) ≤ μ (T + 10) e → sumI (fun k => if μ (T + 12) (8 * e + k) = 21 then rowsOf T μ X (8 * e + k) else svz T μ (8 * e + k)) j + ((valsF T μ X tp e k j).length : Int) = sumI (fun k => if μ (T + 12) (8 * e + k) = 21 then rowsOf T μ X (8 * e + k) else svz T μ (8 * e + k)) (j + k)
  | 0, j, _ => Int.add_zero _
  | k + 1, j, hk => by
    have ih := valsF_len h he k (j + 1) (by omega)
    unfold valsF
    have hl := valL_len (X := X) (tp := tp) h he (k := j) (by omega)
    rw [List.length_append]
    rw [show sumI (fun k => if μ (T + 12) (8 * e + k) = 21 then rowsOf T μ X (8 * e + k) else svz T μ (8 * e + k)) (j + 1) = sumI (fun k => if μ (T + 12) (8 * e + k) = 21 then rowsOf T μ X (8 * e + k) else svz T μ (8 * e + k)) j + (if μ (T + 12) (8 * e + j) = 21 then rowsOf T μ X (8 * e + j) else svz T μ (8 * e + j)) from rfl, show j + 1 + k = j + (k + 1) by omega] at ih
    omega
theorem shr0 {x : Int} : bShrL 0 x = 0 := by
  unfold bShrL
  show ((Int64.ofInt 0 >>> ((Int32.ofInt x).toInt64 &&& 63)).toBitVec).toInt = 0
  rw [Int64.toBitVec_shiftRight]
  show ((Int64.ofInt 0).toBitVec.sshiftRight (((Int32.ofInt x).toInt64 &&& 63).toBitVec.smod 64).toNat).toInt = 0
  rw [BitVec.toInt_sshiftRight]
  show (0 : Int) >>> _ = 0
  exact Int.zero_shiftRight _
theorem low0 : ∀ (k j : Nat), lowLf 0 k j = List.replicate k 0
  | 0, _ => rfl
  | k + 1, j => by
    unfold lowLf
    rw [shr0, low0 k (j + 1)]
    rfl
def entL (T : Nat) (μ : bM) (X tp sh clo : Nat → Int) (e : Nat) : List Int := rowL (sh e) ++ (valsF T μ X tp e (μ (T + 10) e).toNat 0 ++ lowL 0 (clo e).toNat)
theorem entL_len (h : cT T n m μ) {e : Nat} (he : e < n) {sh clo : Nat → Int} (hc : 0 ≤ clo e) : ((entL T μ X tp sh clo e).length : Int) = rb (sh e) + svs T μ e + clo e + rrs T μ e (rowsOf T μ X) := by
  have a8 := (h.2.2.2.1 e he).2.2.2.1
  have h1 := valsF_len h he (X := X) (tp := tp) (μ (T + 10) e).toNat 0 (by omega)
  have h2 := rowL_len (v := sh e)
  have h3 := sum_split (T := T) (μ := μ) (e := e) (R := rowsOf T μ X)
  rw [Nat.zero_add, h3] at h1
  rw [show sumI (fun k => if μ (T + 12) (8 * e + k) = 21 then rowsOf T μ X (8 * e + k) else svz T μ (8 * e + k)) 0 = 0 from rfl] at h1
  unfold entL
  rw [List.length_append, List.length_append, lowL_len]
  omega
theorem C_entry (hbμ : bOk μ) (h : cT T n m μ) {lm ρ : bM} (hw : wC T μ lm ρ) (hX : ∀ e, e < n → 0 ≤ lm 19 e ∧ lm 19 e ≤ 900000) (h20 : ∀ e, e < n → 1 ≤ lm 20 e ∧ lm 20 e ≤ 400) (h17 : ∀ e, e < n → 0 ≤ lm 17 e ∧ lm 17 e ≤ 30) {e : Nat} (he : e < n) (hs : sOk 7 ρ) (hr : ρ 7 1 + (entL T μ (lm 19) (lm 22) (lm 20) (lm 17) e).length ≤ 24000) :
    ∃ ρ', F_X9_writeEntry T 4 7 e ρ = some (0, ρ') ∧ AppL 7 1 8 ρ ρ' (entL T μ (lm 19) (lm 22) (lm 20) (lm 17) e) ∧ wC T μ lm ρ' := by
  have hT := h.1
  have hTb : bTree T := by rcases hT with rfl | rfl <;> rfl
  have n4 := h.2.1.2
  have a8 := (h.2.2.2.1 e he).2.2.2.1
  have hN7 : ((bN (7 + 1) : Nat) : Int) = 24000 := by decide
  have s20 := h20 e he
  have s17 := h17 e he
  obtain ⟨A, hA⟩ : ∃ A : Nat, μ (T + 10) e = A := ⟨(μ (T + 10) e).toNat, by omega⟩
  unfold entL at hr ⊢
  rw [hA, Int.toNat_natCast] at hr ⊢
  rw [List.length_append, List.length_append, lowL_len] at hr
  have hs0 := hs.1
  have h2 := rowL_len (v := lm 20 e)
  obtain ⟨ρ1, a1, a2⟩ := P_row (s := 7) (ρ := ρ) (v := lm 20 e) (by omega) hs (by omega)
  have hw1 : wC T μ lm ρ1 := wC_app hT hw (Or.inl rfl) a2 (kp_X6_addRow 7 rfl _ ⟨by omega, by omega⟩ hw.2.2 a1)
  have c1 := a2.cnt
  have hs1 : sOk 7 ρ1 := sOk_app hs (by omega) a2
  have H : ∀ (k j : Nat) (τ : bM), j + k = A → wC T μ lm τ → sOk 7 τ → τ 7 1 + ((valsF T μ (lm 19) (lm 22) e k j).length : Int) + ((lm 17 e).toNat : Int) ≤ 24000 → ∃ ρ', bLoop (fun z : Int × bM => F_X9_writeEntry_15 T 4 7 e z.1 z.2) ((j : Int), τ) = some (0, ρ') ∧ AppL 7 1 8 τ ρ' (valsF T μ (lm 19) (lm 22) e k j ++ lowL 0 (lm 17 e).toNat) := by
    intro k
    induction k with
    | zero =>
      intro j τ hj hwτ hsτ hrτ
      obtain ⟨ρ', b1, b2⟩ := P_low (s := 7) (ρ := τ) (v := 0) (w := (lm 17 e).toNat) (by omega) hsτ (by unfold valsF at hrτ; simp only [List.length_nil] at hrτ; omega)
      refine ⟨ρ', bLoop_done ?_, b2⟩
      show F_X9_writeEntry_15 T 4 7 e j τ = _
      unfold F_X9_writeEntry_15
      rw [bG_pos (by omega), Int.toNat_natCast, hwτ.1 (T + 10) (by omega), if_pos (by omega), bG_pos (by omega), hwτ.2.1 17 (by omega) (by omega)]
      rw [show (((lm 17 e).toNat : Nat) : Int) = lm 17 e by omega] at b1
      rw [b1, bMm_some]
    | succ k ih =>
      intro j τ hj hwτ hsτ hrτ
      unfold valsF at hrτ ⊢
      rw [List.length_append] at hrτ
      obtain ⟨τ1, b1, b2, b3⟩ := C_value hbμ h hwτ hX he (k := j) (by omega) hsτ (by omega)
      have c2 := b2.cnt
      obtain ⟨ρ', d1, d2⟩ := ih (j + 1) τ1 (by omega) b3 (sOk_app hsτ (by omega) b2) (by omega)
      refine ⟨ρ', ?_, by rw [List.append_assoc]; exact b2.trans d2 hsτ.1⟩
      rw [Int.natCast_succ] at d1
      rw [← d1]
      refine bLoop_step (f := fun z : Int × bM => F_X9_writeEntry_15 T 4 7 e z.1 z.2) ?_
      show F_X9_writeEntry_15 T 4 7 e j τ = _
      unfold F_X9_writeEntry_15
      rw [bG_pos (by omega), Int.toNat_natCast, hwτ.1 (T + 10) (by omega), if_neg (by omega), C_slotAt (by omega) (by omega), Option.bind_some, show ((e : Int) * 8 + (j : Int)) = ((8 * e + j : Nat) : Int) by omega, b1, bMm_some, bG_pos (by constructor <;> omega)]
  obtain ⟨ρ', d1, d2⟩ := H A 0 ρ1 (by omega) hw1 hs1 (by omega)
  have E : F_X9_writeEntry T 4 7 e ρ = some (0, ρ') := by
    unfold F_X9_writeEntry
    rw [bG_pos (by omega), Int.toNat_natCast, hw.2.1 20 (by omega) (by omega), a1, bMm_some]
    exact d1
  have hap := a2.trans d2 hs0
  exact ⟨ρ', E, hap, wC_app hT hw (Or.inl rfl) hap (kp_X9_writeEntry T hTb 4 rfl 7 rfl _ (by constructor <;> omega) hw.2.2 E)⟩
end
end FD
