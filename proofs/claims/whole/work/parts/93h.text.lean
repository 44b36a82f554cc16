section EH
/-! texts kept once -/
/-- the slot of a kept text -/
def slT (T n : Nat) (μ : bM) (a : Nat) : Prop := ∃ e k : Nat, e < n ∧ (k : Int) < μ (T + 10) e ∧ a = 8 * e + k ∧ μ (T + 12) a = 14
/-- two slots of one text -/
def stx (T : Nat) (μ : bM) (a c : Nat) : Prop := μ (T + 14) a = μ (T + 14) c ∧ ∀ i : Nat, (i : Int) < μ (T + 14) a → μ 5 ((μ (T + 13) a).toNat + i) = μ 5 ((μ (T + 13) c).toNat + i)
noncomputable def tm (T : Nat) (μ : bM) (a c : Nat) : Int := if μ (T + 14) a = μ (T + 14) c then (F_X6_same 4 4 (μ (T + 13) a) (μ (T + 13) c) (μ (T + 14) a) μ).getD 0 else 0
/-- the hash of a text's bytes -/
def thF (f : Nat → Int) : Nat → Nat → Int → Int
  | 0, _, v => v
  | k + 1, j, v => thF f k (j + 1) (b32 ((b32 (v * 31)) + f j % 256))
def txh (T : Nat) (μ : bM) (a : Nat) : Int := thF (fun i => μ 5 ((μ (T + 13) a).toNat + i)) (μ (T + 14) a).toNat 0 (μ (T + 14) a)
section
variable {T b n m : Nat} {μ ν ρ : bM}
theorem stx_symm {a c : Nat} (h : stx T μ a c) : stx T μ c a := ⟨h.1.symm, fun i hi => (h.2 i (by rw [h.1]; exact hi)).symm⟩
theorem stx_trans {a c d : Nat} (h : stx T μ a c) (g : stx T μ c d) : stx T μ a d := ⟨h.1.trans g.1, fun i hi => (h.2 i hi).trans (g.2 i (by rw [← h.1]; exact hi))⟩
theorem slT_rg (h : cT T n m μ) {a : Nat} (ha : slT T n μ a) : a < 3200 ∧ (0 ≤ μ (T + 14) a ∧ μ (T + 14) a ≤ 255) ∧ 0 ≤ μ (T + 13) a ∧ μ (T + 13) a + μ (T + 14) a ≤ μ 4 1 := by
  obtain ⟨e, k, h1, h2, h3, h4⟩ := ha
  have n4 := h.2.1.2
  have a8 := (h.2.2.2.1 e h1).2.2.2.1
  have hc := (h.2.2.2.2.2.2.1 e h1 k h2).2
  rw [← h3] at hc
  refine ⟨by omega, ?_⟩
  rcases hc with ⟨x1, x2, x3⟩ | ⟨x1, -⟩
  · exact ⟨x2, x3⟩
  · unfold isNum isRef at x1; omega
theorem thF_congr {f g : Nat → Int} : ∀ (k j : Nat) (v : Int), (∀ i, j ≤ i → i < j + k → f i = g i) → thF f k j v = thF g k j v
  | 0, _, _, _ => rfl
  | k + 1, j, v, h => by
    unfold thF
    rw [h j (by omega) (by omega)]
    exact thF_congr k (j + 1) _ (fun i a b => h i (by omega) (by omega))
theorem txh_same {a c : Nat} (h : stx T μ a c) : txh T μ a = txh T μ c := by
  unfold txh
  rw [← h.1]
  refine thF_congr _ _ _ (fun i _ hi => ?_)
  exact h.2 i (by omega)
theorem C_texth {st ln : Nat} (hb : bOk ρ) (h4 : sOk 4 ρ) (hs : (st : Int) + ln ≤ ρ 4 1) : F_X6_hash 4 st ln ρ = some (thF (fun i => ρ 5 (st + i)) ln 0 ln) := by
  have h42 := h4.2
  have hN : ((bN (4 + 1) : Nat) : Int) = 30000 := by decide
  have L : ∀ (k j : Nat) (v : Int), j + k = ln → bLoop (fun z : Int × Int => F_X6_hash_5 4 st ln ρ z.1 z.2) (v, (j : Int)) = some (thF (fun i => ρ 5 (st + i)) k j v) := by
    intro k
    induction k with
    | zero =>
      intro j v hj
      refine bLoop_done ?_
      show F_X6_hash_5 4 st ln ρ v j = _
      unfold F_X6_hash_5
      rw [if_pos (by omega)]
      rfl
    | succ k ih =>
      intro j v hj
      have hat : F_X6_at 4 (b32 ((st : Int) + j)) ρ = some (ρ 5 (st + j) % 256) := by
        rw [b32i (by constructor <;> omega), S_at hb bSt4 h4]
        unfold sAt
        rw [if_pos (by omega), show ((st : Int) + (j : Int)).toNat = st + j by omega]
      rw [bLoop_step (f := fun z : Int × Int => F_X6_hash_5 4 st ln ρ z.1 z.2) (s' := (b32 ((b32 (v * 31)) + ρ 5 (st + j) % 256), (j : Int) + 1))]
      · have := ih (j + 1) (b32 ((b32 (v * 31)) + ρ 5 (st + j) % 256)) (by omega)
        rw [Int.natCast_succ] at this
        exact this
      · show F_X6_hash_5 4 st ln ρ v j = _
        unfold F_X6_hash_5
        rw [if_neg (by omega), hat, Option.bind_some, bG_pos (by constructor <;> omega)]
  exact L ln 0 ln (by omega)
theorem tm_is (hb : bOk μ) (h : cT T n m μ) {a c : Nat} (ha : slT T n μ a) (hc : slT T n μ c) : (stx T μ a c → tm T μ a c = 1) ∧ (¬ stx T μ a c → tm T μ a c = 0) := by
  obtain ⟨a1, a2, a3, a4⟩ := slT_rg h ha
  obtain ⟨c1, c2, c3, c4⟩ := slT_rg h hc
  have h4 := h.2.2.2.2.2.2.2
  unfold tm stx
  by_cases x : μ (T + 14) a = μ (T + 14) c
  · rw [if_pos x]
    have S := C_same (s := 4) (s2 := 4) (a := (μ (T + 13) a).toNat) (c := (μ (T + 13) c).toNat) (n := (μ (T + 14) a).toNat) hb bSt4 bSt4 ⟨h4.1, h4.2⟩ ⟨h4.1, h4.2⟩ (by omega) (by omega)
    rw [show (((μ (T + 13) a).toNat : Nat) : Int) = μ (T + 13) a by omega, show (((μ (T + 13) c).toNat : Nat) : Int) = μ (T + 13) c by omega, show (((μ (T + 14) a).toNat : Nat) : Int) = μ (T + 14) a by omega] at S
    refine ⟨fun q => ?_, fun q => ?_⟩
    · rw [S.1 (fun i hi => q.2 i (by omega))]; rfl
    · rw [S.2 (fun z => q ⟨x, fun i hi => z i (by omega)⟩)]; rfl
  · rw [if_neg x]
    exact ⟨fun q => absurd q.1 x, fun _ => rfl⟩
theorem tm_iff (hb : bOk μ) (h : cT T n m μ) {a c : Nat} (ha : slT T n μ a) (hc : slT T n μ c) : tm T μ a c = 1 ↔ stx T μ a c := by
  have := tm_is hb h ha hc
  constructor
  · intro x
    by_cases y : stx T μ a c
    · exact y
    · rw [this.2 y] at x; omega
  · exact this.1
/-- one text more: how many there are, and each one's first slot -/
noncomputable def tStep (T : Nat) (μ : bM) (p : Nat × (Nat → Nat)) (a : Nat) : Nat × (Nat → Nat) := if scan (fun t => tm T μ (p.2 t) a) 1 0 p.1 = -1 then (p.1 + 1, fun t => if t = p.1 then a else p.2 t) else p
noncomputable def tE (T : Nat) (μ : bM) (e : Nat) : Nat → Nat × (Nat → Nat) → Nat × (Nat → Nat)
  | 0, p => p
  | k + 1, p => if μ (T + 12) (8 * e + k) = 14 then tStep T μ (tE T μ e k p) (8 * e + k) else tE T μ e k p
noncomputable def tA (T : Nat) (μ : bM) (ord : Nat → Nat) : Nat → Nat × (Nat → Nat)
  | 0 => (0, fun _ => 0)
  | i + 1 => tE T μ (ord i) (μ (T + 10) (ord i)).toNat (tA T μ ord i)
/-- where a text stands among the texts -/
def tP (T : Nat) (μ : bM) (p : Nat × (Nat → Nat)) (t : Nat) : Int := sumI (fun t => μ (T + 14) (p.2 t) + 1) t
/-- what is sound of the texts -/
def tOk (T n : Nat) (μ : bM) (V : Nat → Prop) (p : Nat × (Nat → Nat)) : Prop := (∀ t, t < p.1 → V (p.2 t) ∧ slT T n μ (p.2 t)) ∧ (∀ t t', t < t' → t' < p.1 → ¬ stx T μ (p.2 t) (p.2 t')) ∧ ∀ a, V a → slT T n μ a ∧ ∃ t, t < p.1 ∧ stx T μ (p.2 t) a
theorem tP_rg (h : cT T n m μ) {p : Nat × (Nat → Nat)} (hp : ∀ t, t < p.1 → slT T n μ (p.2 t)) : ∀ t, t ≤ p.1 → 0 ≤ tP T μ p t ∧ tP T μ p t ≤ 256 * t := by
  intro t
  induction t with
  | zero => intro _; unfold tP sumI; omega
  | succ t ih =>
    intro ht
    have := ih (by omega)
    have r := (slT_rg h (hp t (by omega))).2.1
    unfold tP at this ⊢
    unfold sumI
    (try simp only)
    omega
theorem tStep_cases (hb : bOk μ) (h : cT T n m μ) {V : Nat → Prop} {p : Nat × (Nat → Nat)} (hp : tOk T n μ V p) {a : Nat} (ha : slT T n μ a) : (scan (fun t => tm T μ (p.2 t) a) 1 0 p.1 = -1 ∧ (∀ t, t < p.1 → ¬ stx T μ (p.2 t) a)) ∨ ∃ t : Nat, t < p.1 ∧ scan (fun t => tm T μ (p.2 t) a) 1 0 p.1 = t ∧ stx T μ (p.2 t) a ∧ ∀ t', t' < p.1 → stx T μ (p.2 t') a → t' = t := by
  rcases scan_spec (f := fun t => tm T μ (p.2 t) a) (p := 1) p.1 0 with ⟨x, g⟩ | ⟨t, g1, g2, g3, g4, g5⟩
  · exact Or.inl ⟨x, fun t ht hs => g t (by omega) (by omega) ((tm_iff hb h (hp.1 t ht).2 ha).mpr hs)⟩
  · have hs := (tm_iff hb h (hp.1 t (by omega)).2 ha).mp g3
    refine Or.inr ⟨t, by omega, g4, hs, fun t' ht' hs' => ?_⟩
    by_cases x : t' < t
    · exact absurd (stx_trans hs' (stx_symm hs)) (hp.2.1 t' t x (by omega))
    · by_cases y : t < t'
      · exact absurd (stx_trans hs (stx_symm hs')) (hp.2.1 t t' y ht')
      · omega
theorem tOk_step (hb : bOk μ) (h : cT T n m μ) {V : Nat → Prop} {p : Nat × (Nat → Nat)} (hp : tOk T n μ V p) {a : Nat} (ha : slT T n μ a) : tOk T n μ (fun x => V x ∨ x = a) (tStep T μ p a) := by
  unfold tStep
  rcases tStep_cases hb h hp ha with ⟨x, g⟩ | ⟨t, g1, g2, g3, g4⟩
  · rw [if_pos x]
    refine ⟨fun t ht => ?_, fun t t' htt ht' => ?_, fun y hy => ?_⟩
    · simp only at ht ⊢
      by_cases q : t = p.1
      · rw [if_pos q]; exact ⟨Or.inr rfl, ha⟩
      · rw [if_neg q]; exact ⟨Or.inl (hp.1 t (by omega)).1, (hp.1 t (by omega)).2⟩
    · simp only at ht' ⊢
      rw [if_neg (by omega)]
      by_cases q : t' = p.1
      · rw [if_pos q]; exact g t (by omega)
      · rw [if_neg q]; exact hp.2.1 t t' htt (by omega)
    · simp only
      rcases hy with hy | hy
      · obtain ⟨q1, t, q2, q3⟩ := hp.2.2 y hy
        exact ⟨q1, t, by omega, by rw [if_neg (by omega)]; exact q3⟩
      · rw [hy]
        exact ⟨ha, p.1, by omega, by rw [if_pos rfl]; exact ⟨rfl, fun _ _ => rfl⟩⟩
  · rw [g2, if_neg (by omega)]
    refine ⟨fun t ht => ⟨Or.inl (hp.1 t ht).1, (hp.1 t ht).2⟩, hp.2.1, fun y hy => ?_⟩
    rcases hy with hy | hy
    · exact hp.2.2 y hy
    · rw [hy]
      exact ⟨ha, t, g1, g3⟩
/-- the class's rows of texts -/
def txC (T : Nat) (μ : bM) (V : Nat → Prop) (p : Nat × (Nat → Nat)) (ρ : bM) : Prop := ρ 13 1 = (p.1 : Int) ∧ (∀ t, t < p.1 → ρ 23 t = (p.2 t : Int)) ∧ chOk 27 p.1 (fun t => bkt (txh T μ (p.2 t))) ρ ∧ (∀ a, V a → ∀ t, t < p.1 → stx T μ (p.2 t) a → ρ 22 a = tP T μ p t) ∧ ρ 13 4 = tP T μ p p.1
def frT (μ ρ : bM) : Prop := (∀ q, q ≠ 13 → q ≠ 22 → q ≠ 23 → q ≠ 28 → q ≠ 29 → ρ q = μ q) ∧ ∀ k, k ≠ 1 → k ≠ 4 → ρ 13 k = μ 13 k
theorem C_placeText (hbμ : bOk μ) (h : cT T n m μ) (hb : bOk ρ) (hr : ∀ q, (T ≤ q ∧ q ≤ T + 14 ∨ q = 4 ∨ q = 5) → ρ q = μ q) {V : Nat → Prop} {p : Nat × (Nat → Nat)} (hp : tOk T n μ V p) (hx : txC T μ V p ρ) (hp3 : p.1 < 3200) {a : Nat} (ha : slT T n μ a) (hV : ¬ V a) :
    ∃ ρ', F_X3_placeText T 4 a ρ = some (0, ρ') ∧ frT ρ ρ' ∧ txC T μ (fun x => V x ∨ x = a) (tStep T μ p a) ρ' := by
  have hT := h.1
  have h4 := h.2.2.2.2.2.2.2
  obtain ⟨a1, a2, a3, a4⟩ := slT_rg h ha
  obtain ⟨x1, x2, x3, x4, x5⟩ := hx
  have r4 : ρ 4 1 = μ 4 1 := by rw [hr 4 (by omega)]
  have hsOk : sOk 4 ρ := ⟨by omega, by rw [r4]; exact h4.2⟩
  obtain ⟨st, hst⟩ : ∃ st : Nat, μ (T + 13) a = st := ⟨(μ (T + 13) a).toNat, by omega⟩
  obtain ⟨ln, hln⟩ : ∃ ln : Nat, μ (T + 14) a = ln := ⟨(μ (T + 14) a).toNat, by omega⟩
  have hstart : ∀ c : Nat, slT T n μ c → F_X8_start T c ρ = some (μ (T + 13) c) := fun c hc => by
    obtain ⟨c1, c2, c3, c4⟩ := slT_rg h hc
    unfold F_X8_start
    rw [bG_pos (by omega), Int.toNat_natCast, hr (T + 13) (by omega), b32i (by constructor <;> omega)]
  have hhash : F_X6_hash 4 (μ (T + 13) a) (μ (T + 14) a) ρ = some (txh T μ a) := by
    rw [hst, hln, C_texth hb hsOk (by omega)]
    unfold txh
    rw [hst, hln, hr 5 (by omega), Int.toNat_natCast, Int.toNat_natCast]
  -- the search
  have hsame : ∀ c : Nat, slT T n μ c → μ (T + 14) a = μ (T + 14) c → (stx T μ c a → F_X6_same 4 4 (μ (T + 13) a) (μ (T + 13) c) (μ (T + 14) a) ρ = some 1) ∧ (¬ stx T μ c a → F_X6_same 4 4 (μ (T + 13) a) (μ (T + 13) c) (μ (T + 14) a) ρ = some 0) := fun c hc hl => by
    obtain ⟨c1, c2, c3, c4⟩ := slT_rg h hc
    have S := C_same (s := 4) (s2 := 4) (a := (μ (T + 13) a).toNat) (c := (μ (T + 13) c).toNat) (n := (μ (T + 14) a).toNat) hb bSt4 bSt4 hsOk hsOk (by omega) (by omega)
    rw [show (((μ (T + 13) a).toNat : Nat) : Int) = μ (T + 13) a by omega, show (((μ (T + 13) c).toNat : Nat) : Int) = μ (T + 13) c by omega, show (((μ (T + 14) a).toNat : Nat) : Int) = μ (T + 14) a by omega] at S
    rw [show (4 + 1 : Nat) = 5 from rfl, hr 5 (by omega)] at S
    refine ⟨fun q => S.1 (fun i hi => ?_), fun q => S.2 (fun z => q ⟨hl.symm, fun i hi => ?_⟩)⟩
    · exact (q.2 i (by rw [← hl]; omega)).symm
    · exact (z i (by rw [hl]; omega)).symm
  have CF := chain_find (F := fun z : Int × Int => F_X3_knownText_14 T 4 a ρ z.1 z.2) (S := p.1) (bk := fun t => bkt (txh T μ (p.2 t))) (w := bkt (txh T μ a)) (P := fun t => stx T μ (p.2 t) a) ?_ ?_ ?_ ?_
  · obtain ⟨r, r1, r2⟩ := CF
    have hknown : F_X3_knownText T 4 a (txh T μ a) ρ = some (scan (fun t => tm T μ (p.2 t) a) 1 0 p.1) := by
      unfold F_X3_knownText
      rw [ch_first x3, Option.bind_some, r1]
      congr 1
      rcases tStep_cases hbμ h hp ha with ⟨y, g⟩ | ⟨t, g1, g2, g3, g4⟩
      · rw [y]
        rcases r2 with ⟨z1, z2⟩ | ⟨s, z1, z2, z3, z4⟩
        · exact z1
        · exact absurd z4 (g s z1)
      · rw [g2]
        rcases r2 with ⟨z1, z2⟩ | ⟨s, z1, z2, z3, z4⟩
        · exact absurd g3 (z2 t g1 (by (try simp only); rw [txh_same g3]))
        · rw [z2, g4 s z1 z4]
    unfold F_X3_placeText
    rw [hstart a ha, Option.bind_some, bG_pos (by omega), Int.toNat_natCast, hr (T + 14) (by omega), hhash, Option.bind_some, hknown, Option.bind_some]
    unfold tStep
    rcases tStep_cases hbμ h hp ha with ⟨y, g⟩ | ⟨t, g1, g2, g3, g4⟩
    · rw [y, if_neg (by decide), if_pos rfl, x1, bG_pos (by omega), Int.toNat_natCast]
      obtain ⟨P, hP⟩ : ∃ P, P = p.1 := ⟨_, rfl⟩
      obtain ⟨sl', hsl'⟩ : ∃ sl', sl' = fun t => if t = P then a else p.2 t := ⟨_, rfl⟩
      have hold : ∀ t, t < P → sl' t = p.2 t := fun s hs => by rw [hsl']; exact if_neg (by omega)
      have hnw : sl' P = a := by rw [hsl']; exact if_pos rfl
      rw [← hP] at x1 x2 x3 x5 hp3 ⊢
      rw [← hsl']
      have e131 : bset ρ 23 P a 13 1 = P := by rw [bset_q (by omega), x1]
      have c3' : chOk 27 P (fun t => bkt (txh T μ (sl' t))) (bset ρ 23 P a) := by
        refine ⟨fun w hw => ?_, fun s hs => ?_⟩
        · rw [bset_q (by omega), x3.1 w hw]
          exact lstC_congr P (fun k hk => by (try simp only); rw [hold k hk])
        · rw [bset_q (by omega), x3.2 s hs]
          (try simp only)
          rw [hold s hs]
          exact lstC_congr s (fun k hk => by (try simp only); rw [hold k (by omega)])
      obtain ⟨τ, t1, t2, t3⟩ := ch_add (h := txh T μ a) c3' (by rw [show bN (27 + 2) = 3200 from rfl]; omega) (by (try simp only); rw [hnw])
      have tpr := tP_rg h (p := p) (fun t ht => (hp.1 t ht).2) P (by omega)
      have τ1 : τ 13 1 = P := by rw [t3 13 (by omega) (by omega), e131]
      have τ4 : τ 13 4 = tP T μ p P := by rw [t3 13 (by omega) (by omega), bset_q (by omega), x5]
      have τ14 : τ (T + 14) a = ln := by rw [t3 (T + 14) (by omega) (by omega), bset_q (by omega), hr (T + 14) (by omega), hln]
      rw [e131, t1, bMm_some, τ1]
      have hPs : ∀ t, t ≤ P → tP T μ (P + 1, sl') t = tP T μ p t := fun t ht => sumI_congr t (fun i hi => by (try simp only); rw [hold i (by omega)])
      simp (disch := first | omega | decide) only [bG_pos, bMm_some, bXm_inl, bXm_inr, Option.bind_some, bset_q, bset_k, bset_at, if_pos, if_neg, Int.toNat_natCast, τ4, τ14]
      refine ⟨_, rfl, ⟨fun q q1 q2 q3 q4 q5 => ?_, fun k k1 k4 => ?_⟩, ?_, fun t ht => ?_, ⟨fun w hw => ?_, fun s hs => ?_⟩, fun c hc t ht hs => ?_, ?_⟩
      · simp (disch := first | omega | decide) only [bset_q, bset_k, bset_at]
        rw [t3 q (by omega) (by omega), bset_q q3]
      · simp (disch := first | omega | decide) only [bset_q, bset_k, bset_at]
        rw [t3 13 (by omega) (by omega), bset_q (by omega)]
      · simp (disch := first | omega | decide) only [bset_q, bset_k, bset_at]
        omega
      · simp (disch := first | omega | decide) only [bset_q, bset_k, bset_at]
        rw [t3 23 (by omega) (by omega), bset_row]
        simp only at ht
        by_cases q : t = P
        · rw [if_pos q, q]
          (try simp only)
          rw [hnw]
        · rw [if_neg q, x2 t (by omega)]
          (try simp only)
          rw [hold t (by omega)]
      · simp (disch := first | omega | decide) only [bset_q, bset_k, bset_at]
        exact t2.1 w hw
      · simp (disch := first | omega | decide) only [bset_q, bset_k, bset_at]
        exact t2.2 s hs
      · simp only at ht hs
        rw [hPs t (by omega)]
        simp (disch := omega) only [bset_q]
        rw [bset_row]
        by_cases q : c = a
        · rw [if_pos q]
          by_cases u : t = P
          · rw [u]
          · rw [hold t (by omega), q] at hs
            exact absurd hs (g t (by omega))
        · rw [if_neg q, bset_q (by omega), t3 22 (by omega) (by omega), bset_q (by omega)]
          have hVc : V c := hc.resolve_right q
          by_cases u : t = P
          · rw [u, hnw] at hs
            obtain ⟨v1, t', v2, v3⟩ := hp.2.2 c hVc
            exact absurd (stx_trans v3 (stx_symm hs)) (g t' (by omega))
          · rw [hold t (by omega)] at hs
            exact x4 c hVc t (by omega) hs
      · simp (disch := first | omega | decide) only [bset_q, bset_k, bset_at]
        show tP T μ p P + _ = tP T μ (P + 1, sl') P + (μ (T + 14) (sl' P) + 1)
        rw [hPs P (by omega), hnw, hln]
    · obtain ⟨c1, c2, c3, c4⟩ := slT_rg h (hp.1 t g1).2
      have e22 : ρ 22 (p.2 t) = tP T μ p t := x4 (p.2 t) (hp.1 t g1).1 t g1 ⟨rfl, fun _ _ => rfl⟩
      rw [g2, if_pos (by omega), if_neg (by omega), bG_pos (by omega), Int.toNat_natCast, x2 t g1, bG_pos (by omega), bG_pos (by omega), Int.toNat_natCast, e22]
      refine ⟨_, rfl, ⟨fun q q1 q2 q3 q4 q5 => bset_q q2, fun k k1 k4 => by rw [bset_q (by omega)]⟩, by rw [bset_q (by omega)]; exact x1, fun t ht => by rw [bset_q (by omega)]; exact x2 t ht, ⟨fun w hw => by rw [bset_q (by omega)]; exact x3.1 w hw, fun s hs => by rw [bset_q (by omega)]; exact x3.2 s hs⟩, fun c hc s hs hss => ?_, by rw [bset_q (by omega)]; exact x5⟩
      rw [bset_row]
      by_cases q : c = a
      · rw [if_pos q]
        rw [q] at hss
        rw [g4 s hs hss]
      · rw [if_neg q]
        exact x4 c (hc.resolve_right q) s hs hss
  · intro v k hk
    show F_X3_knownText_14 T 4 a ρ v k = _
    unfold F_X3_knownText_14
    rw [x1, if_pos (by omega)]
  · intro k k0 hk
    show F_X3_knownText_14 T 4 a ρ (-1) k = _
    unfold F_X3_knownText_14
    rw [x1, if_neg (by omega), if_pos rfl]
  · intro t k ht k0 hk hP
    obtain ⟨c1, c2, c3, c4⟩ := slT_rg h (hp.1 t ht).2
    show F_X3_knownText_14 T 4 a ρ t k = _
    unfold F_X3_knownText_14
    rw [x1, if_neg (by omega), if_neg (by omega), bG_pos (by omega), bG_pos (by omega), Int.toNat_natCast, Int.toNat_natCast, x2 t ht, bG_pos (by omega), Int.toNat_natCast, hr (T + 14) (by omega), if_neg (fun q => q hP.1.symm), hstart a ha, Option.bind_some, hstart _ (hp.1 t ht).2, Option.bind_some, bG_pos (by omega), (hsame _ (hp.1 t ht).2 hP.1.symm).1 hP, Option.bind_some, if_neg (by decide)]
  · intro t k ht k0 hk hP
    obtain ⟨c1, c2, c3, c4⟩ := slT_rg h (hp.1 t ht).2
    show F_X3_knownText_14 T 4 a ρ t k = _
    unfold F_X3_knownText_14
    rw [x1, if_neg (by omega), if_neg (by omega), bG_pos (by omega), bG_pos (by omega), Int.toNat_natCast, Int.toNat_natCast, x2 t ht, bG_pos (by omega), Int.toNat_natCast, hr (T + 14) (by omega)]
    by_cases q : μ (T + 14) a = μ (T + 14) (p.2 t)
    · rw [if_neg (fun z => z q), hstart a ha, Option.bind_some, hstart _ (hp.1 t ht).2, Option.bind_some, bG_pos (by omega), (hsame _ (hp.1 t ht).2 q).2 hP, Option.bind_some, if_pos rfl, ch_after x3 (by rw [show bN (27 + 2) = 3200 from rfl]; omega) ht, Option.bind_some, bG_pos (by constructor <;> omega)]
    · rw [if_pos q, ch_after x3 (by rw [show bN (27 + 2) = 3200 from rfl]; omega) ht, Option.bind_some, bG_pos (by constructor <;> omega)]
end
end EH
