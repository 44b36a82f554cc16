section EM
section
variable {T b n m : Nat} {μ ν ρ : bM} {ord : Nat → Nat}
theorem isPl_mono (h : cT T n m μ) (ho : ordOk (μ (T + 3)) n ord) {st X Y R R' : Nat → Int} (hY : isPl T n μ ord st Y R) (hX : isPl T n μ ord st X R') (hR : ∀ e k : Nat, e < n → (k : Int) < μ (T + 10) e → μ (T + 12) (8 * e + k) = 21 → R (8 * e + k) ≤ R' (8 * e + k)) : ∀ e, e < n → Y e ≤ X e := by
  have H : ∀ i, i < n → Y (ord i) ≤ X (ord i) := by
    intro i
    induction i with
    | zero =>
      intro hi
      rw [hY 0 hi, hX 0 hi]
      by_cases c : μ (T + 3) (ord 0) = -1
      · rw [if_pos c, if_pos c]; exact Int.le_refl _
      · exfalso
        obtain ⟨u, v1, v2, v3, v4⟩ := unit_in h ho hi
        have hU := unit_R h ho v1
        have s0 := start_0 h
        have sm := start_mono h (show 0 ≤ u by omega) (by omega)
        have e0 : (startP T n m μ u).toNat = 0 := by omega
        have := hU.2.2.1
        rw [e0] at this
        exact c this
    | succ i ih =>
      intro hi
      have h1 := ih (by omega)
      rw [hY (i + 1) hi, hX (i + 1) hi]
      by_cases c : μ (T + 3) (ord (i + 1)) = -1
      · rw [if_pos c, if_pos c]; exact Int.le_refl _
      · rw [if_neg c, if_neg c, Nat.add_sub_cancel]
        have h2 : rrs T μ (ord i) R ≤ rrs T μ (ord i) R' := rrs_mono (fun k hk hf => hR (ord i) k (ho.1 i (by omega)).1 hk hf)
        omega
  intro e he
  obtain ⟨k, k1, k2, -⟩ := ho.2 e he
  rw [← k2]
  exact H k k1
theorem sum_split {e : Nat} {R : Nat → Int} : sumI (fun k => if μ (T + 12) (8 * e + k) = 21 then R (8 * e + k) else svz T μ (8 * e + k)) (μ (T + 10) e).toNat = svs T μ e + rrs T μ e R := by
  unfold svs rrs
  generalize (μ (T + 10) e).toNat = A
  induction A with
  | zero => rfl
  | succ A ih =>
    unfold sumI
    rw [ih]
    (try simp only)
    by_cases c : μ (T + 12) (8 * e + A) = 21
    · have : svz T μ (8 * e + A) = 0 := by unfold svz; simp (disch := first | omega | decide) only [bG_pos, bMm_some, bXm_inl, bXm_inr, Option.bind_some, bset_q, bset_k, bset_at, if_pos, if_neg, Int.toNat_natCast]
      rw [if_pos c, if_pos c, this]; omega
    · rw [if_neg c, if_neg c]; omega
/-- one entry's bytes, in the model -/
theorem M_entry (hb : bOk μ) (h : cT T n m μ) {σ : bM} (hM : mA T b n m μ σ) {o e : Nat} (ho4 : o < 400) (he : e < n) {at_ : Int} (hat : 0 ≤ at_ ∧ at_ ≤ 1800000) (h97 : 1 ≤ σ 97 e ∧ σ 97 e ≤ 400) (h96 : 0 ≤ σ 96 o ∧ σ 96 o ≤ 30) (hR : ∀ a : Nat, a < 3200 → 1 ≤ σ 102 a ∧ σ 102 a ≤ 3) :
    F_X11_reckon_43 o e (400 * (b : Int) + e) at_ σ = some (.inl (at_ + (rb (σ 97 e) + svs T μ e + σ 96 o) + rrs T μ e (σ 102), (o : Int) + 1, bset (bset σ 101 e at_) 103 (μ (T + 4) e).toNat (at_ + (rb (σ 97 e) + svs T μ e + σ 96 o) + rrs T μ e (σ 102)))) := by
  have n4 := h.2.1.2
  have m6 := h.2.2.1.2
  have hb01 := hM.1.1
  obtain ⟨-, -, q3, a8, -⟩ := h.2.2.2.1 e he
  obtain ⟨A, hA⟩ : ∃ A : Nat, μ (T + 10) e = A := ⟨(μ (T + 10) e).toNat, by omega⟩
  obtain ⟨r81, r83, r84⟩ := hM.2.1 e he
  obtain ⟨τ, hτ⟩ : ∃ τ, τ = bset σ 101 e at_ := ⟨_, rfl⟩
  have τq : ∀ q, q ≠ 101 → τ q = σ q := fun q hq => by rw [hτ, bset_q hq]
  have hMτ : mA T b n m μ τ := mA_congr hM (by rw [τq 76 (by omega)]) (fun q q1 q2 => τq q (by omega))
  have a1 := rb_1 (v := σ 97 e)
  have sv := svs_rg hb h he
  have rr := rrs_rg h he (R := σ 102) (fun k hk _ => hR (8 * e + k) (by omega))
  obtain ⟨f, hf⟩ : ∃ f : Nat → Int, f = fun k => if μ (T + 12) (8 * e + k) = 21 then σ 102 (8 * e + k) else svz T μ (8 * e + k) := ⟨_, rfl⟩
  have hsum : sumI f A = svs T μ e + rrs T μ e (σ 102) := by
    have := sum_split (T := T) (μ := μ) (e := e) (R := σ 102)
    rw [hA, Int.toNat_natCast] at this
    rw [hf]
    exact this
  have frg : ∀ j : Nat, j ≤ A → 0 ≤ sumI f j ∧ sumI f j ≤ 300 * j := fun j hj => by
    have := sumI_rg' (f := f) (lo := 0) (hi := 300) j (fun i hi => by
      rw [hf]
      have x1 := hR (8 * e + i) (by omega)
      have x2 := svz_rg hb h he (k := i) (by omega)
      (try simp only)
      split <;> omega)
    omega
  have e104 : F_X11_reckon_104 (at_ + rb (σ 97 e) + sumI f A) o (400 * (b : Int) + e) τ = some (.inl (at_ + (rb (σ 97 e) + svs T μ e + σ 96 o) + rrs T μ e (σ 102), (o : Int) + 1, bset τ 103 (μ (T + 4) e).toNat (at_ + (rb (σ 97 e) + svs T μ e + σ 96 o) + rrs T μ e (σ 102)))) := by
    unfold F_X11_reckon_104
    rw [bG_pos (by omega), Int.toNat_natCast, τq 96 (by omega), τq 83 (by omega), t400, r83, hsum, bG_pos (by constructor <;> omega), bG_pos (by omega), bG_pos (by omega), bG_pos (by constructor <;> omega)]
    rw [show at_ + rb (σ 97 e) + (svs T μ e + rrs T μ e (σ 102)) + σ 96 o = at_ + (rb (σ 97 e) + svs T μ e + σ 96 o) + rrs T μ e (σ 102) by omega]
  have L : ∀ k j : Nat, j + k = A → bLoop (fun z : Int × Int => F_X11_reckon_71 o (400 * (b : Int) + e) τ z.1 z.2) (at_ + rb (σ 97 e) + sumI f j, ((3200 * b + (8 * e + j) : Nat) : Int)) = some (.inl (at_ + (rb (σ 97 e) + svs T μ e + σ 96 o) + rrs T μ e (σ 102), (o : Int) + 1, bset τ 103 (μ (T + 4) e).toNat (at_ + (rb (σ 97 e) + svs T μ e + σ 96 o) + rrs T μ e (σ 102)))) := by
    intro k
    induction k with
    | zero =>
      intro j hj
      rw [show j = A by omega]
      refine bLoop_done ?_
      show F_X11_reckon_71 o (400 * (b : Int) + e) τ _ _ = _
      unfold F_X11_reckon_71
      rw [bG_pos (by constructor <;> omega), bG_pos (by omega), t400, τq 84 (by omega), r84, bG_pos (by constructor <;> omega), if_pos (by omega), e104]
      rfl
    | succ k ih =>
      intro j hj
      have fj := frg j (by omega)
      have fj1 := frg (j + 1) (by omega)
      have ih := ih (j + 1) (by omega)
      rw [show sumI f (j + 1) = sumI f j + f j from rfl] at ih fj1
      have hsz := M_sizeOf hb h hMτ he (k := j) (by omega)
      rw [τq 102 (by omega)] at hsz
      have hfj : f j = if μ (T + 12) (8 * e + j) = 21 then σ 102 (8 * e + j) else svz T μ (8 * e + j) := by rw [hf]
      rw [← hfj] at hsz
      refine (bLoop_step (f := fun z : Int × Int => F_X11_reckon_71 o (400 * (b : Int) + e) τ z.1 z.2) (s' := (at_ + rb (σ 97 e) + (sumI f j + f j), ((3200 * b + (8 * e + (j + 1)) : Nat) : Int))) ?_).trans ih
      show F_X11_reckon_71 o (400 * (b : Int) + e) τ _ _ = _
      unfold F_X11_reckon_71
      rw [bG_pos (by constructor <;> omega), bG_pos (by omega), t400, τq 84 (by omega), r84, bG_pos (by constructor <;> omega), if_neg (by omega), hsz, Option.bind_some, bG_pos (by constructor <;> omega), bG_pos (by constructor <;> omega), show at_ + rb (σ 97 e) + sumI f j + f j = at_ + rb (σ 97 e) + (sumI f j + f j) by omega, show ((3200 * b + (8 * e + j) : Nat) : Int) + 1 = ((3200 * b + (8 * e + (j + 1)) : Nat) : Int) by omega]
  unfold F_X11_reckon_43
  rw [bG_pos (by omega), bG_pos (by omega), Int.toNat_natCast, ← hτ, τq 97 (by omega), M_rowBytes (by omega), Option.bind_some, bG_pos (by constructor <;> omega), bG_pos (by constructor <;> omega)]
  have := L A 0 (by omega)
  rw [show sumI f 0 = 0 from rfl, Int.add_zero] at this
  rw [show 8 * (400 * (b : Int) + e) = ((3200 * b + (8 * e + 0) : Nat) : Int) by omega]
  exact this
def stM (T : Nat) (μ σ : bM) (clo : Nat → Int) (e : Nat) : Int := rb (σ 97 e) + svs T μ e + clo e
theorem M_reckon (hb : bOk μ) (h : cT T n m μ) (ho : ordOk (μ (T + 3)) n ord) {ρ : bM} (hM : mA T b n m μ ρ) (h23 : ρ 76 23 = n) (h95 : ∀ k, k < n → ρ 95 k = ord k) {clo : Nat → Int} (h96 : ∀ k, k < n → ρ 96 k = clo (ord k)) (hclo : ∀ e, e < n → 0 ≤ clo e ∧ clo e ≤ 30) (h97 : ∀ e, e < n → 1 ≤ ρ 97 e ∧ ρ 97 e ≤ 400) (hR : ∀ a : Nat, a < 3200 → 1 ≤ ρ 102 a ∧ ρ 102 a ≤ 3) :
    ∃ ρ', F_X11_reckon ρ = some (0, ρ') ∧ (∀ q, q ≠ 101 → q ≠ 103 → ρ' q = ρ q) ∧ isPl T n μ ord (stM T μ ρ clo) (ρ' 101) (ρ 102) ∧ (∀ e, e < n → 11 ≤ ρ' 101 e ∧ ρ' 101 e ≤ 900000) ∧
      ∀ u, u < m → ρ' 103 u = ρ' 101 (ord ((startP T n m μ (u + 1)).toNat - 1)) + stM T μ ρ clo (ord ((startP T n m μ (u + 1)).toNat - 1)) + rrs T μ (ord ((startP T n m μ (u + 1)).toNat - 1)) (ρ 102) := by
  have n4 := h.2.1.2
  have m6 := h.2.2.1.2
  have hb01 := hM.1.1
  have H := bLoop_inv (f := fun z : Int × Int × bM => F_X11_reckon_4 z.1 z.2.1 z.2.2)
    (fun z => ∃ o : Nat, o ≤ n ∧ z.2.1 = o ∧ (∀ q, q ≠ 101 → q ≠ 103 → z.2.2 q = ρ q) ∧ (∀ i, i < o → z.2.2 101 (ord i) = if μ (T + 3) (ord i) = -1 then 11 else z.2.2 101 (ord (i - 1)) + stM T μ ρ clo (ord (i - 1)) + rrs T μ (ord (i - 1)) (ρ 102)) ∧
      (1 ≤ o → z.1 = z.2.2 101 (ord (o - 1)) + stM T μ ρ clo (ord (o - 1)) + rrs T μ (ord (o - 1)) (ρ 102)) ∧ (0 ≤ z.1 ∧ z.1 ≤ 11 + 2104 * o) ∧ (∀ i, i < o → 11 ≤ z.2.2 101 (ord i) ∧ z.2.2 101 (ord i) ≤ 900000) ∧
      ∀ u, u < m → startP T n m μ u < o → ∃ j : Nat, j < o ∧ (startP T n m μ (u + 1) ≤ o → j + 1 = (startP T n m μ (u + 1)).toNat) ∧ ((o : Int) ≤ startP T n m μ (u + 1) → j + 1 = o) ∧ z.2.2 103 u = z.2.2 101 (ord j) + stM T μ ρ clo (ord j) + rrs T μ (ord j) (ρ 102))
    (fun z => n - z.2.1.toNat)
    (fun r => ∃ ρ', r = (0, ρ') ∧ (∀ q, q ≠ 101 → q ≠ 103 → ρ' q = ρ q) ∧ isPl T n μ ord (stM T μ ρ clo) (ρ' 101) (ρ 102) ∧ (∀ e, e < n → 11 ≤ ρ' 101 e ∧ ρ' 101 e ≤ 900000) ∧
      ∀ u, u < m → ρ' 103 u = ρ' 101 (ord ((startP T n m μ (u + 1)).toNat - 1)) + stM T μ ρ clo (ord ((startP T n m μ (u + 1)).toNat - 1)) + rrs T μ (ord ((startP T n m μ (u + 1)).toNat - 1)) (ρ 102)) ?_ (0, 0, ρ) ⟨0, by omega, rfl, fun q _ _ => rfl, fun i hi => by omega, fun hh => by omega, ⟨Int.le_refl 0, by (simp only; omega)⟩, fun i hi => by omega, fun u hu hh => by have := start_rg h hu; omega⟩
  · obtain ⟨r, x1, ρ', x2, x3⟩ := H
    refine ⟨ρ', ?_, x3⟩
    unfold F_X11_reckon
    rw [x1, x2]
  · rintro ⟨at_, z2, σ⟩ ⟨o, o1, o2, k1, k2, k3, k4, k5, k6⟩
    simp only at o2 k1 k2 k3 k4 k5 k6
    subst o2
    show (∃ s', F_X11_reckon_4 at_ o σ = some (Sum.inl s') ∧ _) ∨ ∃ q, F_X11_reckon_4 at_ o σ = some (Sum.inr q) ∧ _
    unfold F_X11_reckon_4
    rw [k1 76 (by omega) (by omega), h23]
    by_cases c : o < n
    · left
      have hoi := (ho.1 o c).1
      obtain ⟨e, he⟩ : ∃ e, e = ord o := ⟨_, rfl⟩
      have hen : e < n := by rw [he]; exact hoi
      have hMσ : mA T b n m μ σ := mA_congr hM (by rw [k1 76 (by omega) (by omega)]) (fun q q1 q2 => k1 q (by omega) (by omega))
      have e3 : σ 76 3 = b := hMσ.1.2.1
      have e96 : σ 96 o = clo e := by rw [k1 96 (by omega) (by omega), h96 o c, he]
      have hcl := hclo e hen
      have s97 : σ 97 e = ρ 97 e := by rw [k1 97 (by omega) (by omega)]
      have r97 := h97 e hen
      obtain ⟨y0, hy0⟩ : ∃ y0 : Int, y0 = if μ (T + 3) e = -1 then 11 else at_ := ⟨_, rfl⟩
      have hy0r : 11 ≤ y0 ∧ y0 ≤ 11 + 2104 * o := by
        rw [hy0]
        by_cases q : μ (T + 3) e = -1
        · rw [if_pos q]; omega
        · rw [if_neg q]
          by_cases w : o = 0
          · exfalso
            obtain ⟨u, v1, v2, v3, v4⟩ := unit_in h ho (show 0 < n by omega)
            have hU := unit_R h ho v1
            have e0 : (startP T n m μ u).toNat = 0 := by
              have := start_rg h v1
              omega
            have := hU.2.2.1
            rw [e0] at this
            rw [he, w] at q
            exact q this
          · have k3o := k3 (by omega)
            have k5o := k5 (o - 1) (by omega)
            have ho1 := (ho.1 (o - 1) (by omega)).1
            have x1 := rb_1 (v := ρ 97 (ord (o - 1)))
            have x2 := svs_rg hb h ho1
            have x3 := hclo _ ho1
            have x5 := (h.2.2.2.1 _ ho1).2.2.2.1
            have x4 := rrs_rg h ho1 (R := ρ 102) (fun k hk _ => hR _ (by omega))
            unfold stM at k3o
            omega
      have hE := M_entry (at_ := y0) hb h hMσ (o := o) (by omega) hen (by omega) (by rw [s97]; exact r97) (by rw [e96]; exact hcl) (fun a ha => by rw [k1 102 (by omega) (by omega)]; exact hR a ha)
      rw [e96, s97, k1 102 (by omega) (by omega)] at hE
      have hst : rb (ρ 97 e) + svs T μ e + clo e = stM T μ ρ clo e := rfl
      rw [hst] at hE
      obtain ⟨E, hEE⟩ : ∃ E, E = y0 + stM T μ ρ clo e + rrs T μ e (ρ 102) := ⟨_, rfl⟩
      rw [← hEE] at hE
      have Er : E ≤ y0 + 2104 ∧ y0 ≤ E := by
        have x1 := rb_1 (v := ρ 97 e)
        have x1' := rb_mono (show ρ 97 e ≤ 400 from r97.2)
        have x1'' : rb 400 = 2 := by decide
        have x2 := svs_rg hb h hen
        have x5 := (h.2.2.2.1 _ hen).2.2.2.1
        have x4 := rrs_rg h hen (R := ρ 102) (fun k hk _ => hR _ (by omega))
        unfold stM at hEE
        omega
      have step : (if ¬ σ 82 (400 * b + e) = -1 then F_X11_reckon_43 o e (400 * (b : Int) + e) at_ σ else F_X11_reckon_43 o e (400 * (b : Int) + e) 11 σ) = F_X11_reckon_43 o e (400 * (b : Int) + e) y0 σ := by
        rw [hMσ.1.2.2.2.2.1 e hen, hy0]
        by_cases q : μ (T + 3) e = -1
        · rw [if_neg (fun w => w q), if_pos q]
        · rw [if_pos q, if_neg q]
      have hu0 := (h.2.2.2.1 e hen).2.2.1
      obtain ⟨uu, huu⟩ : ∃ uu : Nat, μ (T + 4) e = uu := ⟨(μ (T + 4) e).toNat, by omega⟩
      rw [if_neg (by omega), bG_pos (by omega), Int.toNat_natCast, k1 95 (by omega) (by omega), h95 o c, ← he, M_at hb01 e3 (by omega), Option.bind_some, bG_pos (by omega), t400, step, hE, huu, Int.toNat_natCast]
      have r101 : ∀ x, bset (bset σ 101 e y0) 103 uu E 101 x = if x = e then y0 else σ 101 x := fun x => by rw [bset_q (by omega), bset_row]
      have hinj : ∀ j, j < n → ord j = e → j = o := fun j hj hje => ord_inj ho hj c (by rw [hje, he])
      refine ⟨_, rfl, ⟨o + 1, by omega, by simp, fun q q1 q2 => by (simp only; rw [bset_q q2, bset_q q1, k1 q q1 q2]), fun i hi => ?_, fun _ => ?_, by (simp only; omega), fun i hi => ?_, fun u hu hlt => ?_⟩, by simp only; omega⟩
      · simp only
        rw [r101, r101]
        by_cases q : i = o
        · rw [q, ← he, if_pos rfl, hy0]
          by_cases w : μ (T + 3) e = -1
          · rw [if_pos w, if_pos w]
          · rw [if_neg w, if_neg w]
            have o1' : 1 ≤ o := by
              by_cases z : o = 0
              · exfalso
                obtain ⟨u, v1, v2, v3, v4⟩ := unit_in h ho (show 0 < n by omega)
                have hU := unit_R h ho v1
                have e0 : (startP T n m μ u).toNat = 0 := by
                  have := start_rg h v1
                  omega
                have := hU.2.2.1
                rw [e0] at this
                rw [he, z] at w
                exact w this
              · omega
            rw [if_neg (fun z => by have := hinj (o - 1) (by omega) z; omega)]
            exact k3 o1'
        · rw [if_neg (fun z => q (hinj i (by omega) z)), if_neg (c := ord (i - 1) = e) (fun z => by have := hinj (i - 1) (by omega) z; omega)]
          exact k2 i (by omega)
      · simp only
        rw [Nat.add_sub_cancel, ← he, r101, if_pos rfl, hEE]
      · simp only
        rw [r101]
        by_cases q : ord i = e
        · rw [if_pos q]; omega
        · rw [if_neg q]
          exact k5 i (by
            by_cases z : i = o
            · rw [z, he] at q; exact absurd rfl q
            · omega)
      · simp only
        obtain ⟨v, v1, v2, v3, v4⟩ := unit_in h ho c
        rw [← he, huu] at v2
        have hv : v = uu := by omega
        rw [hv] at v1 v3 v4
        by_cases q : u = uu
        · rw [q]
          refine ⟨o, by omega, fun hh => by omega, fun hh => rfl, ?_⟩
          rw [bset_at, ← he, r101, if_pos rfl, hEE]
        · have su := start_rg h hu
          -- another unit: it has ended, or not begun
          have hu' : startP T n m μ (u + 1) ≤ o := by
            by_cases w : u < uu
            · have := start_mono h (show u + 1 ≤ uu by omega) (by omega); omega
            · have := start_mono h (show uu + 1 ≤ u by omega) (by omega); omega
          obtain ⟨j, j1, j2, j3, j4⟩ := k6 u hu (by omega)
          refine ⟨j, by omega, fun _ => j2 hu', fun hh => by omega, ?_⟩
          rw [bset_k q, bset_q (by omega), r101, if_neg (fun z => by have := hinj j (by omega) z; omega)]
          exact j4
    · right
      have : o = n := by omega
      subst this
      rw [if_pos (by omega)]
      refine ⟨_, rfl, σ, rfl, k1, k2, fun e he => ?_, fun u hu => ?_⟩
      · obtain ⟨k, x1, x2, -⟩ := ho.2 e he
        rw [← x2]
        exact k5 k x1
      · have su := start_rg h hu
        obtain ⟨j, j1, j2, j3, j4⟩ := k6 u hu (by omega)
        have := j2 (by omega)
        rw [show (startP T o m μ (u + 1)).toNat - 1 = j by omega]
        exact j4
end
end EM
