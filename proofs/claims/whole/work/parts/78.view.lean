section DI
/-! scans, counts and lasts -/
section
variable {f g : Nat → Int} {p : Int}
theorem scan_spec : ∀ (m a : Nat), (scan f p a m = -1 ∧ ∀ k, a ≤ k → k < a + m → f k ≠ p) ∨ ∃ c : Nat, a ≤ c ∧ c < a + m ∧ f c = p ∧ scan f p a m = c ∧ ∀ k, a ≤ k → k < c → f k ≠ p
  | 0, a => Or.inl ⟨rfl, fun k h1 h2 => by omega⟩
  | m + 1, a => by
    by_cases c : f a = p
    · exact Or.inr ⟨a, by omega, by omega, c, by unfold scan; rw [if_pos c], fun k h1 h2 => by omega⟩
    · have e : scan f p a (m + 1) = scan f p (a + 1) m := by rw [scan, if_neg c]
      rcases scan_spec m (a + 1) with ⟨h1, h2⟩ | ⟨d, h1, h2, h3, h4, h5⟩
      · refine Or.inl ⟨by rw [e, h1], fun k k1 k2 => ?_⟩
        by_cases ck : k = a
        · rw [ck]; exact c
        · exact h2 k (by omega) (by omega)
      · refine Or.inr ⟨d, by omega, by omega, h3, by rw [e, h4], fun k k1 k2 => ?_⟩
        by_cases ck : k = a
        · rw [ck]; exact c
        · exact h5 k (by omega) k2
theorem scan_is {a m c : Nat} (h1 : a ≤ c) (h2 : c < a + m) (h3 : f c = p) (h4 : ∀ k, a ≤ k → k < c → f k ≠ p) : scan f p a m = c := by
  rcases scan_spec (f := f) (p := p) m a with ⟨e, h⟩ | ⟨d, d1, d2, d3, d4, d5⟩
  · exact absurd h3 (h c h1 h2)
  · by_cases x : d < c
    · exact absurd d3 (h4 d d1 x)
    · by_cases y : c < d
      · exact absurd h3 (d5 c h1 y)
      · rw [d4]; congr 1; omega
theorem scan_no {a m : Nat} (h : ∀ k, a ≤ k → k < a + m → f k ≠ p) : scan f p a m = -1 := by
  rcases scan_spec (f := f) (p := p) m a with ⟨e, _⟩ | ⟨d, d1, d2, d3, d4, d5⟩
  · exact e
  · exact absurd d3 (h d d1 d2)
theorem scan_congr {a m : Nat} (h : ∀ k, a ≤ k → k < a + m → f k = g k) : scan f p a m = scan g p a m := by
  rcases scan_spec (f := f) (p := p) m a with ⟨e, h2⟩ | ⟨d, d1, d2, d3, d4, d5⟩
  · rw [e]; exact (scan_no fun k k1 k2 => by rw [← h k k1 k2]; exact h2 k k1 k2).symm
  · rw [d4]; exact (scan_is d1 d2 (by rw [← h d d1 d2]; exact d3) fun k k1 k2 => by rw [← h k k1 (by omega)]; exact d5 k k1 k2).symm
theorem scan_snoc {a m : Nat} : scan f p a (m + 1) = if scan f p a m = -1 then (if f (a + m) = p then ((a + m : Nat) : Int) else -1) else scan f p a m := by
  rcases scan_spec (f := f) (p := p) m a with ⟨e, h⟩ | ⟨d, d1, d2, d3, d4, d5⟩
  · rw [e, if_pos rfl]
    by_cases c : f (a + m) = p
    · rw [if_pos c]; exact scan_is (by omega) (by omega) c (fun k k1 k2 => h k k1 (by omega))
    · rw [if_neg c]
      refine scan_no fun k k1 k2 => ?_
      by_cases ck : k = a + m
      · rw [ck]; exact c
      · exact h k k1 (by omega)
  · rw [d4, if_neg (by omega)]
    exact scan_is d1 (by omega) d3 d5
theorem cntC_0 : ∀ n, 0 ≤ cntC f p n
  | 0 => by unfold cntC; omega
  | n + 1 => by
    unfold cntC
    have := cntC_0 n
    split <;> omega
theorem cntC_le : ∀ n : Nat, cntC f p n ≤ n
  | 0 => by unfold cntC; omega
  | n + 1 => by
    unfold cntC
    have := cntC_le n
    split <;> omega
theorem cntC_congr : ∀ n : Nat, (∀ k, k < n → f k = g k) → cntC f p n = cntC g p n
  | 0, _ => rfl
  | n + 1, h => by
    unfold cntC
    rw [cntC_congr n (fun k hk => h k (by omega)), h n (by omega)]
theorem lstC_congr : ∀ n : Nat, (∀ k, k < n → f k = g k) → lstC f p n = lstC g p n
  | 0, _ => rfl
  | n + 1, h => by
    unfold lstC
    rw [lstC_congr n (fun k hk => h k (by omega)), h n (by omega)]
theorem cntC_scan : ∀ n : Nat, cntC f p n = 0 ↔ scan f p 0 n = -1
  | 0 => by unfold cntC scan; decide
  | n + 1 => by
    have ih := cntC_scan n
    have h0 := cntC_0 (f := f) (p := p) n
    rw [scan_snoc]
    unfold cntC
    simp only [Nat.zero_add]
    by_cases c : scan f p 0 n = -1
    · rw [if_pos c]
      by_cases c2 : f n = p
      · rw [if_pos c2, if_pos c2]; omega
      · rw [if_neg c2, if_neg c2, ih.mpr c]; decide
    · rw [if_neg c]
      have : cntC f p n ≠ 0 := fun h => c (ih.mp h)
      constructor
      · intro h
        split at h <;> omega
      · intro h
        exact absurd h c
theorem lstC_spec : ∀ n : Nat, (lstC f p n = -1 ∧ ∀ k, k < n → f k ≠ p) ∨ ∃ c : Nat, c < n ∧ f c = p ∧ lstC f p n = c ∧ ∀ k, c < k → k < n → f k ≠ p
  | 0 => Or.inl ⟨rfl, fun k hk => by omega⟩
  | n + 1 => by
    by_cases c : f n = p
    · exact Or.inr ⟨n, by omega, c, by unfold lstC; rw [if_pos c], fun k h1 h2 => by omega⟩
    · have e : lstC f p (n + 1) = lstC f p n := by rw [lstC, if_neg c]
      rcases lstC_spec n with ⟨h1, h2⟩ | ⟨d, h2, h3, h4, h5⟩
      · refine Or.inl ⟨by rw [e, h1], fun k k2 => ?_⟩
        by_cases ck : k = n
        · rw [ck]; exact c
        · exact h2 k (by omega)
      · refine Or.inr ⟨d, by omega, h3, by rw [e, h4], fun k k1 k2 => ?_⟩
        by_cases ck : k = n
        · rw [ck]; exact c
        · exact h5 k (by omega) (by omega)
end
theorem t400 {b e : Nat} : (400 * (b : Int) + (e : Int)).toNat = 400 * b + e := by omega
theorem t6 {b e : Nat} : (6 * (b : Int) + (e : Int)).toNat = 6 * b + e := by omega
theorem t3200 {b e k : Nat} : (8 * (400 * (b : Int) + (e : Int)) + (k : Int)).toNat = 3200 * b + (8 * e + k) := by omega
theorem t8 {e k : Nat} : ((e : Int) * 8 + (k : Int)).toNat = 8 * e + k := by omega
/-- what the invariant says of the numbers of the tree and of the bank -/
def iNum (T b n m : Nat) (μ : bM) : Prop := (T = 31 ∨ T = 61) ∧ (b = 0 ∨ b = 1) ∧ μ 1 5 = (T : Int) ∧ μ 76 3 = (b : Int) ∧ μ T 1 = (n : Int) ∧ μ T 0 = (m : Int) ∧ n ≤ 400 ∧ m ≤ 6 ∧ μ 78 b = (n : Int) ∧ μ 79 b = (m : Int)
theorem iMain_view {μ : bM} (h : iMain μ) : ∃ T b n m : Nat, iNum T b n m μ ∧ iBank T b μ ∧ iTree T b μ := by
  obtain ⟨T, b, hb, ht⟩ := h
  have hc := ht.1
  unfold iCnt at hc
  refine ⟨T, b, (μ T 1).toNat, (μ T 0).toNat, ⟨?_, hb.2.2.1, hb.2.1, hb.2.2.2, ?_, ?_, ?_, ?_, ?_, ?_⟩, hb, ht⟩
  · rcases hb.1 with h | h <;> omega
  · omega
  · omega
  · omega
  · omega
  · rw [hc.2.2.1]; omega
  · rw [hc.2.2.2]; omega
end DI
