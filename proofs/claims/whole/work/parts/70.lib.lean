/-! PLAIN REASONING OVER THE FUNCTIONS: tools -/
section DA
theorem bG_mk {α : Type} {p : Prop} [Decidable p] {o : Option α} {r : α} (hp : p) (h : o = some r) : bG p o = some r := by unfold bG; rw [if_pos hp]; exact h
theorem bG_pos {α : Type} {p : Prop} [Decidable p] {o : Option α} (hp : p) : bG p o = o := by unfold bG; rw [if_pos hp]
theorem bMm_some {ρ : Type} {v : Int} {μ : bM} {K : Int → bM → Option ρ} : bMm (some (v, μ)) K = K v μ := rfl
theorem bXm_inl {ρ : Type} {v : Int} {μ : bM} {K : Int → bM → Option ρ} {Z : String → bM → Option ρ} : bXm (some (.inl v, μ)) K Z = K v μ := rfl
theorem bXm_inr {ρ : Type} {e : String} {μ : bM} {K : Int → bM → Option ρ} {Z : String → bM → Option ρ} : bXm (some (.inr e, μ)) K Z = Z e μ := rfl
/-- a loop that keeps I, whose measure falls, ends in Q -/
theorem bLoop_inv {σ ρ : Type} {f : σ → Option (σ ⊕ ρ)} (I : σ → Prop) (m : σ → Nat) (Q : ρ → Prop) (hstep : ∀ s, I s → (∃ s', f s = some (.inl s') ∧ I s' ∧ m s' < m s) ∨ ∃ r, f s = some (.inr r) ∧ Q r) (s : σ) (hs : I s) : ∃ r, bLoop f s = some r ∧ Q r := by
  have H : ∀ n s, m s ≤ n → I s → ∃ r, bLoop f s = some r ∧ Q r := by
    intro n
    induction n with
    | zero =>
      intro s hm hi
      rcases hstep s hi with ⟨s', h1, h2, h3⟩ | ⟨r, h1, h2⟩
      · omega
      · exact ⟨r, bLoop_done h1, h2⟩
    | succ n ih =>
      intro s hm hi
      rcases hstep s hi with ⟨s', h1, h2, h3⟩ | ⟨r, h1, h2⟩
      · rw [bLoop_step h1]
        exact ih s' (by omega) h2
      · exact ⟨r, bLoop_done h1, h2⟩
  exact H (m s) s (Nat.le_refl _) hs
theorem bset_at {μ : bM} {q k : Nat} {v : Int} : bset μ q k v q k = v := by unfold bset; rw [if_pos ⟨rfl, rfl⟩]
theorem bset_q {μ : bM} {q k q' : Nat} {v : Int} (h : q' ≠ q) : bset μ q k v q' = μ q' := by
  funext k'
  unfold bset
  rw [if_neg (fun hh => h hh.1)]
theorem bset_k {μ : bM} {q k q' k' : Nat} {v : Int} (h : k' ≠ k) : bset μ q k v q' k' = μ q' k' := by
  unfold bset
  rw [if_neg (fun hh => h hh.2)]
theorem bset_id {μ : bM} {q k : Nat} {v : Int} (h : μ q k = v) : bset μ q k v = μ := by
  funext q' k'
  unfold bset
  by_cases c : q' = q ∧ k' = k
  · rw [if_pos c, c.1, c.2, h]
  · rw [if_neg c]
/-- a piece of a row, told anew -/
def bcp (μ : bM) (q a n : Nat) (f : Nat → Int) : bM := fun q' k => if q' = q ∧ a ≤ k ∧ k < a + n then f k else μ q' k
theorem bcp_q {μ : bM} {q a n q' : Nat} {f : Nat → Int} (h : q' ≠ q) : bcp μ q a n f q' = μ q' := by
  funext k
  unfold bcp
  rw [if_neg (fun hh => h hh.1)]
theorem bcp_in {μ : bM} {q a n k : Nat} {f : Nat → Int} (h : a ≤ k ∧ k < a + n) : bcp μ q a n f q k = f k := by unfold bcp; rw [if_pos ⟨rfl, h⟩]
theorem bcp_out {μ : bM} {q a n k q' : Nat} {f : Nat → Int} (h : ¬ (a ≤ k ∧ k < a + n)) : bcp μ q a n f q' k = μ q' k := by unfold bcp; rw [if_neg (fun hh => h hh.2)]
theorem bcp_0 {μ : bM} {q a : Nat} {f : Nat → Int} : bcp μ q a 0 f = μ := by
  funext q' k
  unfold bcp
  rw [if_neg (by omega)]
theorem bcp_succ {μ : bM} {q a n : Nat} {f : Nat → Int} {v : Int} (h : v = f (a + n)) : bset (bcp μ q a n f) q (a + n) v = bcp μ q a (n + 1) f := by
  funext q' k
  unfold bset bcp
  by_cases c : q' = q
  · by_cases c2 : k = a + n
    · rw [if_pos ⟨c, c2⟩, if_pos ⟨c, by omega, by omega⟩, h, c2]
    · rw [if_neg (fun hh => c2 hh.2)]
      by_cases c3 : a ≤ k ∧ k < a + n
      · rw [if_pos ⟨c, c3⟩, if_pos ⟨c, by omega, by omega⟩]
      · rw [if_neg (fun hh => c3 hh.2), if_neg (fun hh => by omega)]
  · rw [if_neg (fun hh => c hh.1), if_neg (fun hh => c hh.1), if_neg (fun hh => c hh.1)]
/-! bytes -/
theorem bAnd_byte : ∀ n : Nat, n < 256 → bAnd ((n : Int) - 128) 255 = ((n : Int) - 128) % 256 := by decide +kernel
theorem bAnd_b {a : Int} (h : -128 ≤ a ∧ a ≤ 127) : bAnd a 255 = a % 256 := by
  have := bAnd_byte (a + 128).toNat (by omega)
  rw [show (((a + 128).toNat : Nat) : Int) - 128 = a by omega] at this
  exact this
theorem b8_mod {a : Int} (h : -128 ≤ a ∧ a ≤ 127) : b8 (a % 256) = a := by unfold b8; omega
theorem mod_inj {a b : Int} (ha : -128 ≤ a ∧ a ≤ 127) (hb : -128 ≤ b ∧ b ≤ 127) (h : a % 256 = b % 256) : a = b := by omega
/-! every method keeps the memory's types -/
theorem okP {F : Option (Int × bM)} {i : Nat} {lv : List (Nat × Value)} {μ μ' : bM} {v : Int} (d : Nat) (h : bD 0 (fun _ => 0) d i 0 lv [] μ (F.bind bMc)) (hok : bOk μ) (e : F = some (v, μ')) : bOk μ' := by
  subst e
  exact (h hok (.inl v, μ', 0) rfl).1
theorem okX {F : Option ((Int ⊕ String) × bM)} {i : Nat} {lv : List (Nat × Value)} {μ μ' : bM} {v : Int ⊕ String} (d : Nat) (h : bD 0 (fun _ => 0) d i 0 lv [] μ (F.bind bXc)) (hok : bOk μ) (e : F = some (v, μ')) : bOk μ' := by
  subst e
  exact (h hok (v, μ', _) rfl).1
theorem okC {F : Option (Int × bM × Nat)} {i : Nat} {lv : List (Nat × Value)} {μ μ' : bM} {v : Int} {n : Nat} (d : Nat) (h : bD 0 (fun _ => 0) d i 0 lv [] μ (F.bind bCc)) (hok : bOk μ) (e : F = some (v, μ', n)) : bOk μ' := by
  subst e
  exact (h hok (.inl v, μ', n) rfl).1
/-! stores -/
def sOk (s : Nat) (μ : bM) : Prop := 0 ≤ μ s 1 ∧ μ s 1 ≤ (bN (s + 1) : Int)
def sAt (s : Nat) (μ : bM) (i : Int) : Int := if 0 ≤ i ∧ i < μ s 1 then (μ (s + 1) i.toNat) % 256 else 0
section
variable {s s2 : Nat} {μ : bM}
theorem bN_max (q : Nat) : bN q ≤ 180000 := by
  by_cases h : (bSh q).1 = 99
  · unfold bN
    by_cases c : q < 113
    · exact bN_le q c
    · match q, c with
      | j + 1, c =>
        show (bShs.getD j (99, 0)).2 ≤ 180000
        rw [List.getD_eq_getElem?_getD, List.getElem?_eq_none (by show 112 ≤ j; omega)]
        decide
      | 0, c => omega
  · exact bN_le q (bSh_lt h).2
theorem S_at (hb : bOk μ) (hs : bStore s) (h : sOk s μ) (i : Int) : F_X6_at s i μ = some (sAt s μ i) := by
  unfold F_X6_at sAt
  by_cases c1 : i < 0
  · rw [if_pos c1, if_neg (by omega)]
  · rw [if_neg c1]
    by_cases c2 : μ s 1 ≤ i
    · rw [if_pos c2, if_neg (by omega)]
    · rw [if_neg c2, if_pos (by omega)]
      have := h.2
      exact bG_mk (by omega) (by rw [bAnd_b (bO_b hb (bStore_d hs))])
theorem sAt_R (i : Int) : 0 ≤ sAt s μ i ∧ sAt s μ i ≤ 255 := by
  unfold sAt
  split
  · omega
  · decide
theorem S_cut {n : Int} (h0 : 0 ≤ n) (h1 : n ≤ μ s 1) : F_X6_cut s n μ = some (0, bset μ s 1 n) := by
  unfold F_X6_cut
  rw [if_neg (by omega)]
  by_cases c : μ s 1 ≤ n
  · rw [if_pos c, bset_id (by omega)]
  · rw [if_neg c]
theorem S_add (h : sOk s μ) (hr : μ s 1 < (bN (s + 1) : Int)) (o : Int) : F_X6_add s o μ = some (0, bset (bset μ (s + 1) (μ s 1).toNat (b8 o)) s 1 (μ s 1 + 1)) := by
  unfold F_X6_add
  have e : bset μ (s + 1) (μ s 1).toNat (b8 o) s 1 = μ s 1 := by rw [bset_q (by omega)]
  have := h.1
  have hm := bN_max (s + 1)
  rw [if_neg (by omega), bG_pos (by omega), e, bG_pos (by constructor <;> omega)]
end
end DA
