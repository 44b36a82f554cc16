section FY
section
variable {r : Nat → Nat → Int} {sz : Nat → Nat} {μ ν μ' ν' ν6 : bM} {T b e A p E L P j s sI N n m S u0 fi n0 m0 p' p2 L' P' c : Nat} {o deep : Int}
theorem US_add (hT : T = 31 ∨ T = 61) (hU : US r sz T b S n0 m0 u0 n m L P p E μ ν) (ho : OS T n0 n o deep μ) (hp : p < p2)
    (hR : RB r sz T b S (n + 1) (m + if o = -1 then 1 else 0) L' P' μ' ν') (hc : Cur 0 p2 E μ') (hm : Mur 0 p2 E ν') (hp2 : p2 ≤ E) (h110 : ν' 110 n = (p : Int) - u0) (hrow : n < 400 ∧ (∀ j : Nat, μ' (T + 1) j = if o = -1 ∧ j = m then (n : Int) else μ (T + 1) j) ∧ (∀ j : Nat, μ' (T + 4) j = if j = n then ν 79 b - 1 else μ (T + 4) j) ∧ ∀ j, j < n → μ' (T + 10) j = μ (T + 10) j)
    (fC : ∀ q k, q ≠ 46 → ¬ sYc T n q k → μ' q k = μ q k) (fM : ∀ q k, q ≠ 76 → ¬ sYm b n P q k → ν' q k = ν q k) (h52 : ν' 76 52 = ν 76 52)
    (h6 : ∀ q, q ≠ 76 → q ≠ 80 → ν6 q = ν' q) (h6' : ∀ k, k ≠ 53 → ν6 76 k = ν' 76 k) (h80 : ∀ u, u < 6 → ν6 80 (6 * b + u) = if o = -1 ∧ u = m0 then (n : Int) else ν' 80 (6 * b + u)) :
    US r sz T b S n0 m0 u0 (n + 1) (m0 + 1) L' P' p2 E (bset μ' 59 n ((p : Int) - u0)) ν6 := by
  obtain ⟨a1, a2, a3, a4, a5, a6, a7, a8, a9, a10, a11⟩ := hU
  obtain ⟨b1, b2, b3, b4⟩ := hrow
  have hsk := (Sk_iff hT).mp a1.2.2.1
  have hn1 : μ T 1 = (n : Int) := a1.2.2.2.1.1
  obtain ⟨⟨s1, s2, s3⟩, s4, s5, s6⟩ := hsk
  have hm1 : m + (if o = -1 then 1 else 0) = m0 + 1 := by
    rcases ho with ⟨o1, o2, o3⟩ | ⟨on, o1, o2, o3, o4⟩
    · rw [if_pos o1]; omega
    · rw [if_neg (by omega)]; omega
  rw [hm1] at hR
  have hm2 : o = -1 ∧ n = n0 ∧ m = m0 ∨ 0 ≤ o ∧ n0 < n ∧ m = m0 + 1 ∧ μ (T + 1) m0 = (n0 : Int) := by
    rcases ho with ⟨o1, o2, o3⟩ | ⟨on, o1, o2, o3, o4⟩
    · rcases a7 with x | x
      · exact Or.inl ⟨o1, x⟩
      · omega
    · rcases a7 with x | x
      · omega
      · exact Or.inr ⟨by omega, x⟩
  have r59 : ∀ k, μ' 59 k = μ 59 k := fun k => fC 59 k (by omega) (by unfold sYc sEc; omega)
  have r110 : ∀ k, k ≠ n → ν6 110 k = ν 110 k := fun k hk => by rw [h6 110 (by omega) (by omega), fM 110 k (by omega) (by unfold sYm sEm; omega)]
  have w : ∀ q, q ≠ 59 → bset μ' 59 n ((p : Int) - u0) q = μ' q := fun q hq => bset_q hq
  refine ⟨RB_cong hT hR (fun q _ x => w q x) (fun q x _ y _ => h6 q x y) (h6' 3 (by omega)) (h6' 43 (by omega)), ?_, ?_, by omega, by rw [h6' 52 (by omega), h52]; exact a5, ?_, ?_, a8, ?_, ?_, ?_⟩
  · exact Cur_b hc (by omega)
  · unfold Mur
    rw [h6' 42 (by omega), h6' 40 (by omega), h6' 41 (by omega), h6' 37 (by omega)]
    exact hm
  · rw [h6 79 (by omega) (by omega), fM 79 b (by omega) (by unfold sYm sEm; omega)]; exact a6
  · right
    rw [w (T + 1) (by omega), b2]
    rcases hm2 with ⟨o1, o2, o3⟩ | ⟨o1, o2, o3, o4⟩
    · rw [if_pos ⟨o1, o3.symm⟩]; exact ⟨by omega, rfl, by omega⟩
    · rw [if_neg (by omega)]; exact ⟨by omega, rfl, o4⟩
  · intro e x y
    rw [w (T + 4) (by omega), b3]
    have hold : ∀ f, f < n → bset μ' 59 n ((p : Int) - u0) 59 f = μ 59 f := fun f hf => by rw [bset_k (by omega), r59]
    by_cases c : e = n
    · subst c
      rw [bset_at, if_pos rfl, h6 110 (by omega) (by omega), h110, a6]
      refine ⟨rfl, by omega, by omega, fun f f1 f2 => ?_⟩
      rw [hold f f2]
      exact (a9 f f1 f2).2.1.2
    · obtain ⟨z1, z2, z3, z4⟩ := a9 e x (by omega)
      rw [hold e (by omega), if_neg c, r110 e c]
      refine ⟨z1, by omega, z3, fun f f1 f2 => ?_⟩
      rw [hold f (by omega)]
      exact z4 f f1 f2
  · intro u hu
    rw [w (T + 1) (by omega), b2, h80 u (by omega)]
    rcases hm2 with ⟨o1, o2, o3⟩ | ⟨o1, o2, o3, o4⟩
    · by_cases c : u = m0
      · rw [if_pos ⟨o1, c⟩, if_pos ⟨o1, by omega⟩]
      · rw [if_neg (fun hh => c hh.2), if_neg (fun hh => c (by omega)), fM 80 _ (by omega) (by unfold sYm sEm; omega)]
        exact a10 u (by omega)
    · rw [if_neg (by omega), if_neg (by omega), fM 80 _ (by omega) (by unfold sYm sEm; omega)]
      exact a10 u (by omega)
  · intro e he
    have hn0 : n0 ≤ n := by omega
    refine ⟨by rw [w (T + 4) (by omega), b3, if_neg (by omega)]; exact (a11 e he).1, fun k hk => ?_⟩
    rw [w (T + 10) (by omega), b4 e (by omega)] at hk
    have z := (s4 e (by omega)).2.2.2.2.1
    rw [w (T + 12) (by omega), w (T + 13) (by omega), w (T + 4) (by omega), fC (T + 12) _ (by omega) (by unfold sYc sEc; omega), fC (T + 13) _ (by omega) (by unfold sYc sEc; omega)]
    intro hr
    obtain ⟨x1, x2⟩ := (a11 e he).2 k hk hr
    refine ⟨x1, ?_⟩
    rw [b3, b3, if_neg (by omega), if_neg (by omega)]
    exact x2
def EntsOk (r : Nat → Nat → Int) (sz : Nat → Nat) (T b S n0 m0 u0 E c : Nat) (o deep : Int) (μ ν : bM) : Prop :=
  (∃ (n' L' P' p' : Nat) (μ' ν' : bM), bLoop (fun z : Int × Int × bM => F_X4_readEntries_5 u0 z.1 z.2.1 z.2.2) (o, (c : Int), μ) = some (.inl 0, μ') ∧ bLoop (fun z : Int × Int × Int × bM => F_X11_readEntries_17 n0 z.1 z.2.1 z.2.2.1 z.2.2.2) (o, deep, 1, ν) = F_X11_readEntries_138 n0 ν' ∧ US r sz T b S n0 m0 u0 n' (m0 + 1) L' P' p' E μ' ν' ∧ n0 < n' ∧ Fr (sRc T) μ μ' ∧ Fr (sRm b) ν ν') ∨
  (∃ (μ' ν' : bM), bLoop (fun z : Int × Int × bM => F_X4_readEntries_5 u0 z.1 z.2.1 z.2.2) (o, (c : Int), μ) = some (.inr ISE, μ') ∧ bLoop (fun z : Int × Int × Int × bM => F_X11_readEntries_17 n0 z.1 z.2.1 z.2.2.1 z.2.2.2) (o, deep, 1, ν) = some (0, ν') ∧ BadP μ' ν' ∧ Fr (sRc T) μ μ' ∧ Fr (sRm b) ν ν')
theorem Ents_go {μ1 ν1 : bM} {o' deep' : Int} {c' : Nat} (h1 : F_X4_readEntries_5 u0 o c μ = some (.inl (o', (c' : Int), μ1))) (h2 : F_X11_readEntries_17 n0 o deep 1 ν = some (.inl (o', deep', 1, ν1))) (f1 : Fr (sRc T) μ μ1) (f2 : Fr (sRm b) ν ν1) (h : EntsOk r sz T b S n0 m0 u0 E c' o' deep' μ1 ν1) : EntsOk r sz T b S n0 m0 u0 E c o deep μ ν := by
  have s1 := bLoop_step (f := fun z : Int × Int × bM => F_X4_readEntries_5 u0 z.1 z.2.1 z.2.2) (s := (o, (c : Int), μ)) h1
  have s2 := bLoop_step (f := fun z : Int × Int × Int × bM => F_X11_readEntries_17 n0 z.1 z.2.1 z.2.2.1 z.2.2.2) (s := (o, deep, 1, ν)) h2
  rcases h with ⟨n', L', P', p', μ', ν', x1, x2, x3, x4, x5, x6⟩ | ⟨μ', ν', x1, x2, x3, x4, x5⟩
  · exact Or.inl ⟨n', L', P', p', μ', ν', s1.trans x1, s2.trans x2, x3, x4, Fr_tr f1 x5, Fr_tr f2 x6⟩
  · exact Or.inr ⟨μ', ν', s1.trans x1, s2.trans x2, x3, Fr_tr f1 x4, Fr_tr f2 x5⟩
theorem Ents_bad {μ1 ν1 : bM} {x y z : Int} (hb : b = 0 ∨ b = 1) (h3 : ν1 76 3 = (b : Int)) (h1 : F_X4_readEntries_5 u0 o c μ = some (.inr (.inr ISE, μ1))) (h2 : F_X11_readEntries_17 n0 o deep 1 ν = some (.inl (x, y, z, ν1))) (hB : BadP μ1 ν1) (f1 : Fr (sRc T) μ μ1) (f2 : Fr (sRm b) ν ν1) : EntsOk r sz T b S n0 m0 u0 E c o deep μ ν := by
  have s2 := bLoop_step (f := fun z : Int × Int × Int × bM => F_X11_readEntries_17 n0 z.1 z.2.1 z.2.2.1 z.2.2.2) (s := (o, deep, 1, ν)) h2
  exact Or.inr ⟨μ1, ν1, bLoop_done h1, s2.trans (M17_w hb h3 (BadP_ne hB)), hB, f1, f2⟩
theorem Ents_done {n' : Nat} {μ1 ν1 : bM} {x y : Int} (h1 : F_X4_readEntries_5 u0 o c μ = some (.inr (.inl 0, μ1))) (h2 : F_X11_readEntries_17 n0 o deep 1 ν = some (.inl (x, y, 0, ν1))) (hU : US r sz T b S n0 m0 u0 n' (m0 + 1) L' P' p' E μ1 ν1) (hn : n0 < n') (f1 : Fr (sRc T) μ μ1) (f2 : Fr (sRm b) ν ν1) : EntsOk r sz T b S n0 m0 u0 E c o deep μ ν := by
  have s2 := bLoop_step (f := fun z : Int × Int × Int × bM => F_X11_readEntries_17 n0 z.1 z.2.1 z.2.2.1 z.2.2.2) (s := (o, deep, 1, ν)) h2
  refine Or.inl ⟨n', L', P', p', μ1, ν1, bLoop_done h1, s2.trans (bLoop_up ?_), hU, hn, f1, f2⟩
  show F_X11_readEntries_17 n0 x y 0 ν1 = _
  unfold F_X11_readEntries_17
  rw [if_pos rfl]
theorem Bad1_R (h : Bad1 μ ν μ' ν') : Fr (sRc T) μ μ' ∧ Fr (sRm b) ν ν' :=
  ⟨fun q k x => by rw [h.2.1 q (by unfold sRc at x; omega)], Bad1_frX (fun k h1 h2 => by unfold sRm; omega) h⟩
end
end FY
