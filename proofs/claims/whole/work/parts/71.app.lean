section DB
/-- μ' is μ with n more in the row q2, whose count lies at k1 of q1: the j-th of them is f j -/
def App (q1 k1 q2 : Nat) (μ μ' : bM) (n : Nat) (f : Nat → Int) : Prop :=
  μ' q1 k1 = μ q1 k1 + n ∧ (∀ q, q ≠ q1 → q ≠ q2 → μ' q = μ q) ∧ (∀ k, k ≠ k1 → μ' q1 k = μ q1 k) ∧ ∀ k : Nat, μ' q2 k = if (μ q1 k1).toNat ≤ k ∧ k < (μ q1 k1).toNat + n then f (k - (μ q1 k1).toNat) else μ q2 k
section
variable {q1 k1 q2 : Nat} {μ μ1 μ2 : bM} {n m : Nat} {f g : Nat → Int}
theorem App.refl : App q1 k1 q2 μ μ 0 f := ⟨by omega, fun _ _ _ => rfl, fun _ _ => rfl, fun k => by rw [if_neg (by omega)]⟩
theorem App.one (hq : q1 ≠ q2) (v : Int) : App q1 k1 q2 μ (bset (bset μ q2 (μ q1 k1).toNat v) q1 k1 (μ q1 k1 + 1)) 1 (fun _ => v) := by
  refine ⟨by rw [bset_at]; omega, fun q h1 h2 => by rw [bset_q h1, bset_q h2], fun k hk => by rw [bset_k hk, bset_q hq], fun k => ?_⟩
  rw [bset_q (fun h => hq h.symm)]
  by_cases c : k = (μ q1 k1).toNat
  · rw [if_pos (by omega), c, bset_at]
  · rw [if_neg (by omega), bset_k c]
theorem App.trans (h1 : App q1 k1 q2 μ μ1 n f) (h2 : App q1 k1 q2 μ1 μ2 m g) (h0 : 0 ≤ μ q1 k1) : App q1 k1 q2 μ μ2 (n + m) (fun j => if j < n then f j else g (j - n)) := by
  obtain ⟨a1, a2, a3, a4⟩ := h1
  obtain ⟨b1, b2, b3, b4⟩ := h2
  have e : (μ1 q1 k1).toNat = (μ q1 k1).toNat + n := by rw [a1]; omega
  refine ⟨by rw [b1, a1]; omega, fun q h1 h2 => by rw [b2 q h1 h2, a2 q h1 h2], fun k hk => by rw [b3 k hk, a3 k hk], fun k => ?_⟩
  rw [b4 k, e]
  by_cases c : (μ q1 k1).toNat + n ≤ k ∧ k < (μ q1 k1).toNat + n + m
  · rw [if_pos c, if_pos (by omega)]
    simp only
    rw [if_neg (by omega)]
    congr 1
    omega
  · rw [if_neg c, a4 k]
    by_cases c2 : (μ q1 k1).toNat ≤ k ∧ k < (μ q1 k1).toNat + n
    · rw [if_pos c2, if_pos (by omega)]
      simp only
      rw [if_pos (by omega)]
    · rw [if_neg c2, if_neg (by omega)]
theorem App.congr {n' : Nat} {f' : Nat → Int} (h : App q1 k1 q2 μ μ1 n f) (hn : n = n') (hf : ∀ j, j < n → f j = f' j) : App q1 k1 q2 μ μ1 n' f' := by
  subst hn
  refine ⟨h.1, h.2.1, h.2.2.1, fun k => ?_⟩
  rw [h.2.2.2 k]
  by_cases c : (μ q1 k1).toNat ≤ k ∧ k < (μ q1 k1).toNat + n
  · rw [if_pos c, if_pos c]; exact hf _ (by omega)
  · rw [if_neg c, if_neg c]
/-- what was there before stays -/
theorem App.old (h : App q1 k1 q2 μ μ1 n f) {k : Nat} (hk : (k : Int) < μ q1 k1) : μ1 q2 k = μ q2 k := by rw [h.2.2.2 k, if_neg (by omega)]
theorem App.new (h : App q1 k1 q2 μ μ1 n f) (h0 : 0 ≤ μ q1 k1) {j : Nat} (hj : j < n) : μ1 q2 ((μ q1 k1).toNat + j) = f j := by
  rw [h.2.2.2, if_pos (by omega)]
  congr 1
  omega
/-- a loop each turn of which adds one: from i0, as long as i < n -/
theorem App.loop {ρ : Type} {F : Int × bM → Option ((Int × bM) ⊕ ρ)} {N : Nat} {fin : bM → ρ} (h0 : 0 ≤ μ q1 k1)
    (hstep : ∀ (j : Nat) (ν : bM), j < N → App q1 k1 q2 μ ν j f → ∃ ν', F ((j : Int), ν) = some (.inl ((j : Int) + 1, ν')) ∧ App q1 k1 q2 ν ν' 1 (fun _ => f j)) (hend : ∀ ν, App q1 k1 q2 μ ν N f → F ((N : Int), ν) = some (.inr (fin ν))) :
    ∃ ν, bLoop F (0, μ) = some (fin ν) ∧ App q1 k1 q2 μ ν N f := by
  have H := bLoop_inv (f := F) (fun z => ∃ j : Nat, j ≤ N ∧ z.1 = j ∧ App q1 k1 q2 μ z.2 j f) (fun z => N - z.1.toNat) (fun r => ∃ ν, r = fin ν ∧ App q1 k1 q2 μ ν N f) ?_ (0, μ) ⟨0, by omega, rfl, App.refl⟩
  · obtain ⟨r, h1, ν, h2, h3⟩ := H
    exact ⟨ν, by rw [h1, h2], h3⟩
  · intro z hz
    obtain ⟨z1, ν⟩ := z
    obtain ⟨j, hj, h1, h2⟩ := hz
    simp only at h1 h2
    subst h1
    by_cases c : j < N
    · left
      obtain ⟨ν', e1, e2⟩ := hstep j ν c h2
      refine ⟨_, e1, ⟨j + 1, by omega, by simp, (h2.trans e2 h0).congr rfl (fun i hi => ?_)⟩, by simp only; omega⟩
      by_cases c2 : i < j
      · rw [if_pos c2]
      · rw [if_neg c2]
        congr 1
        omega
    · right
      have : j = N := by omega
      subst this
      exact ⟨_, hend ν h2, ν, rfl, h2⟩
end
section
variable {s : Nat} {μ : bM}
theorem A_add (h : sOk s μ) (hr : μ s 1 < (bN (s + 1) : Int)) (o : Int) : ∃ μ', F_X6_add s o μ = some (0, μ') ∧ App s 1 (s + 1) μ μ' 1 (fun _ => b8 o) := ⟨_, S_add h hr o, App.one (by omega) _⟩
def hiB (v : Int) (j : Nat) : Int := b8 (bShr v (24 - 8 * (j : Int)))
theorem A_hi (h : sOk s μ) (hr : μ s 1 + 4 ≤ (bN (s + 1) : Int)) (v : Int) : ∃ μ', F_X6_addHighFirst s v μ = some (0, μ') ∧ App s 1 (s + 1) μ μ' 4 (hiB v) := by
  unfold F_X6_addHighFirst
  have H := bLoop_inv (f := fun z : Int × bM => F_X6_addHighFirst_3 s v z.1 z.2) (fun z => ∃ j : Nat, j ≤ 4 ∧ z.1 = 24 - 8 * (j : Int) ∧ App s 1 (s + 1) μ z.2 j (hiB v)) (fun z => (z.1 + 8).toNat) (fun r => ∃ ν, r = (0, ν) ∧ App s 1 (s + 1) μ ν 4 (hiB v)) ?_ (24, μ) ⟨0, by omega, rfl, App.refl⟩
  · obtain ⟨r, h1, ν, h2, h3⟩ := H
    exact ⟨ν, by rw [h1, h2], h3⟩
  · intro z hz
    obtain ⟨z1, ν⟩ := z
    obtain ⟨j, hj, h1, h2⟩ := hz
    simp only at h1 h2
    subst h1
    have h0 := h.1
    have e1 := h2.1
    by_cases c : j < 4
    · left
      obtain ⟨ν', f1, f2⟩ := A_add (s := s) (μ := ν) ⟨by omega, by omega⟩ (by omega) (bShr v (24 - 8 * (j : Int)))
      refine ⟨(24 - 8 * (j : Int) + (-8), ν'), ?_, ⟨j + 1, by omega, by simp only; omega, (h2.trans f2 h0).congr rfl (fun i hi => ?_)⟩, by simp only; omega⟩
      · show F_X6_addHighFirst_3 s v (24 - 8 * (j : Int)) ν = _
        unfold F_X6_addHighFirst_3
        rw [if_neg (by omega), f1, bMm_some]
        exact bG_mk (by constructor <;> omega) rfl
      · by_cases c2 : i < j
        · rw [if_pos c2]
        · rw [if_neg c2]
          have : i = j := by omega
          subst this
          rfl
    · right
      have : j = 4 := by omega
      subst this
      refine ⟨(0, ν), ?_, ν, rfl, h2⟩
      show F_X6_addHighFirst_3 s v (24 - 8 * ((4 : Nat) : Int)) ν = _
      unfold F_X6_addHighFirst_3
      rw [if_pos (by omega)]
/-- a copy from another store -/
theorem A_from {s2 : Nat} (hb : bOk μ) (h2s : bStore s2) (h : sOk s μ) (h2 : sOk s2 μ) (hne : s ≠ s2 ∧ s + 1 ≠ s2 ∧ s ≠ s2 + 1) {a : Int} {n : Nat} (ha : 0 ≤ a) (hn : a + n ≤ μ s2 1) (hr : μ s 1 + n ≤ (bN (s + 1) : Int)) :
    ∃ μ', F_X6_addFrom s s2 a n μ = some (0, μ') ∧ App s 1 (s + 1) μ μ' n (fun j => μ (s2 + 1) (a.toNat + j)) := by
  have h0 := h.1
  have hm := bN_max (s2 + 1)
  have h22 := h2.2
  have L := App.loop (q1 := s) (k1 := 1) (q2 := s + 1) (μ := μ) (F := fun z => F_X6_addFrom_3 s s2 a n z.1 z.2) (N := n) (f := fun j => μ (s2 + 1) (a.toNat + j)) (fin := fun ν => ((0 : Int), ν)) h0 ?_ ?_
  · exact L
  · intro j ν hj hA
    have e2 : ν s2 = μ s2 := hA.2.1 s2 (fun h => hne.1 h.symm) (fun h => hne.2.1 h.symm)
    have e3 : ν (s2 + 1) = μ (s2 + 1) := hA.2.1 (s2 + 1) (fun h => hne.2.2 h.symm) (by omega)
    have e1 := hA.1
    have hat : F_X6_at s2 (a + j) ν = some (μ (s2 + 1) (a.toNat + j) % 256) := by
      unfold F_X6_at
      rw [if_neg (by omega), e2, e3, if_neg (by omega), bG_pos (by omega), bAnd_b (bO_b hb (bStore_d h2s)), show (a + (j : Int)).toNat = a.toNat + j by omega]
    obtain ⟨ν', f1, f2⟩ := A_add (s := s) (μ := ν) ⟨by omega, by omega⟩ (by omega) (μ (s2 + 1) (a.toNat + j) % 256)
    refine ⟨ν', ?_, f2.congr rfl (fun i hi => b8_mod (bO_b hb (bStore_d h2s)))⟩
    show F_X6_addFrom_3 s s2 a n j ν = _
    unfold F_X6_addFrom_3
    rw [if_neg (by omega), bG_pos (by constructor <;> omega), hat]
    simp only [Option.bind_some]
    rw [f1, bMm_some]
    exact bG_mk (by constructor <;> omega) rfl
  · intro ν hA
    show F_X6_addFrom_3 s s2 a n n ν = _
    unfold F_X6_addFrom_3
    rw [if_pos (by omega)]
end
end DB
