section EA
/-! the order in which a tree is written: places and sizes of its entries in that order -/
def szK (par : Nat → Int) (n : Nat) : Nat → Int → Nat
  | 0, _ => 1
  | k + 1, p => szK par n k p + (if par (n - (k + 1)) = p then szK par n k ((n - (k + 1) : Nat) : Int) else 0)
def szT (par : Nat → Int) (n j : Nat) (p : Int) : Nat := szK par n (n - j) p
def posF (par : Nat → Int) (n : Nat) : Nat → Nat → Int
  | 0, _ => 0
  | f + 1, e => (if par e = -1 then -1 else posF par n f (par e).toNat) + 1 + ((szT par n 0 (par e) : Int) - szT par n e (par e))
def posE (par : Nat → Int) (n e : Nat) : Int := posF par n (e + 1) e
/-- what comes behind all that lies below an entry, and how many lists end before it -/
def aftF (par : Nat → Int) (n : Nat) : Nat → Nat → Int × Int
  | 0, _ => (-1, 0)
  | f + 1, e => if par e = -1 then (-1, 0) else if scan par (par e) (e + 1) (n - (e + 1)) = -1 then ((aftF par n f (par e).toNat).1, (aftF par n f (par e).toNat).2 + 1) else (scan par (par e) (e + 1) (n - (e + 1)), 0)
def aftE (par : Nat → Int) (n e : Nat) : Int × Int := aftF par n (e + 1) e
def rtF (par : Nat → Int) : Nat → Nat → Nat
  | 0, e => e
  | f + 1, e => if par e = -1 then e else rtF par f (par e).toNat
def rtE (par : Nat → Int) (e : Nat) : Nat := rtF par (e + 1) e
def nexE (par : Nat → Int) (n e : Nat) : Int × Int := if scan par e 0 n = -1 then aftE par n e else (scan par e 0 n, 0)
/-- each entry's parent comes before it -/
def parOk (par : Nat → Int) (n : Nat) : Prop := ∀ e, e < n → -1 ≤ par e ∧ par e < e
section
variable {par : Nat → Int} {n : Nat}
theorem szT_n {p : Int} : szT par n n p = 1 := by unfold szT; rw [Nat.sub_self]; rfl
theorem szT_step {j : Nat} {p : Int} (h : j < n) : szT par n j p = szT par n (j + 1) p + (if par j = p then szT par n (j + 1) j else 0) := by
  unfold szT
  rw [show n - j = (n - (j + 1)) + 1 by omega]
  unfold szK
  rw [show n - (n - (j + 1) + 1) = j by omega]
  cases n - (j + 1) <;> rfl
theorem szT_ge {p : Int} : ∀ k j : Nat, j + k = n → 1 ≤ szT par n j p
  | 0, j, h => by rw [show j = n by omega, szT_n]; omega
  | k + 1, j, h => by
    rw [szT_step (by omega)]
    have := szT_ge (p := p) k (j + 1) (by omega)
    omega
theorem szT_ge' {p : Int} {j : Nat} (h : j ≤ n) : 1 ≤ szT par n j p := szT_ge (n - j) j (by omega)
theorem szT_flat {p : Int} {a : Nat} : ∀ k c : Nat, a + k = c → c ≤ n → (∀ i, a ≤ i → i < c → par i ≠ p) → szT par n a p = szT par n c p
  | 0, c, h, _, _ => by rw [show a = c by omega]
  | k + 1, c, h, hc, hk => by
    have h1 := szT_flat (a := a) (p := p) k (c - 1) (by omega) (by omega) (fun i a b => hk i a (by omega))
    rw [h1, szT_step (by omega), if_neg (hk (c - 1) (by omega) (by omega)), show c - 1 + 1 = c by omega]
    omega
theorem szT_flat' {p : Int} {a c : Nat} (h : a ≤ c) (hc : c ≤ n) (hk : ∀ i, a ≤ i → i < c → par i ≠ p) : szT par n a p = szT par n c p := szT_flat (c - a) c (by omega) hc hk
theorem szT_mono {p : Int} {a : Nat} : ∀ k c : Nat, a + k = c → c ≤ n → szT par n c p ≤ szT par n a p
  | 0, c, h, _ => by rw [show a = c by omega]; omega
  | k + 1, c, h, hc => by
    have := szT_mono (a := a) (p := p) k (c - 1) (by omega) (by omega)
    rw [szT_step (j := c - 1) (by omega), show c - 1 + 1 = c by omega] at this
    omega
theorem szT_own (hp : parOk par n) {e : Nat} (he : e < n) : szT par n (e + 1) e = szT par n 0 e := by
  refine (szT_flat' (by omega) (by omega) fun i _ hi => ?_).symm
  have := hp i (by omega)
  omega
theorem szT_at (hp : parOk par n) {c : Nat} (hc : c < n) : szT par n c (par c) = szT par n (c + 1) (par c) + szT par n 0 c := by
  rw [szT_step hc, if_pos rfl, szT_own hp hc]
theorem posF_fuel (hp : parOk par n) : ∀ (e f : Nat), e < n → e < f → posF par n f e = posE par n e := by
  intro e
  induction e using Nat.strongRecOn with
  | _ e ih =>
    intro f he hf
    unfold posE
    match f, hf with
    | f + 1, hf =>
      unfold posF
      by_cases c : par e = -1
      · rw [if_pos c, if_pos c]
      · have := hp e he
        rw [if_neg c, if_neg c, ih (par e).toNat (by omega) f (by omega) (by omega), ih (par e).toNat (by omega) e (by omega) (by omega)]
theorem posE_eq (hp : parOk par n) {e : Nat} (he : e < n) : posE par n e = (if par e = -1 then -1 else posE par n (par e).toNat) + 1 + ((szT par n 0 (par e) : Int) - szT par n e (par e)) := by
  show posF par n (e + 1) e = _
  unfold posF
  by_cases c : par e = -1
  · rw [if_pos c, if_pos c]
  · have := hp e he
    rw [if_neg c, if_neg c, posF_fuel hp _ _ (by omega) (by omega)]
theorem aftF_fuel (hp : parOk par n) : ∀ (e f : Nat), e < n → e < f → aftF par n f e = aftE par n e := by
  intro e
  induction e using Nat.strongRecOn with
  | _ e ih =>
    intro f he hf
    unfold aftE
    match f, hf with
    | f + 1, hf =>
      unfold aftF
      by_cases c : par e = -1
      · rw [if_pos c, if_pos c]
      · have := hp e he
        rw [if_neg c, if_neg c, ih (par e).toNat (by omega) f (by omega) (by omega), ih (par e).toNat (by omega) e (by omega) (by omega)]
theorem aftE_eq (hp : parOk par n) {e : Nat} (he : e < n) : aftE par n e = if par e = -1 then (-1, 0) else if scan par (par e) (e + 1) (n - (e + 1)) = -1 then ((aftE par n (par e).toNat).1, (aftE par n (par e).toNat).2 + 1) else (scan par (par e) (e + 1) (n - (e + 1)), 0) := by
  show aftF par n (e + 1) e = _
  unfold aftF
  by_cases c : par e = -1
  · rw [if_pos c, if_pos c]
  · have := hp e he
    rw [if_neg c, if_neg c, aftF_fuel hp _ _ (by omega) (by omega)]
theorem rtF_fuel (hp : parOk par n) : ∀ (e f : Nat), e < n → e < f → rtF par f e = rtE par e := by
  intro e
  induction e using Nat.strongRecOn with
  | _ e ih =>
    intro f he hf
    unfold rtE
    match f, hf with
    | f + 1, hf =>
      unfold rtF
      by_cases c : par e = -1
      · rw [if_pos c, if_pos c]
      · have := hp e he
        rw [if_neg c, if_neg c, ih (par e).toNat (by omega) f (by omega) (by omega), ih (par e).toNat (by omega) e (by omega) (by omega)]
theorem rtE_eq (hp : parOk par n) {e : Nat} (he : e < n) : rtE par e = if par e = -1 then e else rtE par (par e).toNat := by
  show rtF par (e + 1) e = _
  unfold rtF
  by_cases c : par e = -1
  · rw [if_pos c, if_pos c]
  · have := hp e he
    rw [if_neg c, if_neg c, rtF_fuel hp _ _ (by omega) (by omega)]
/-- the first child comes right behind its parent -/
theorem pos_first (hp : parOk par n) {e c : Nat} (he : e < n) (h : scan par e 0 n = c) : c < n ∧ par c = e ∧ posE par n c = posE par n e + 1 := by
  rcases scan_spec (f := par) (p := (e : Int)) n 0 with ⟨x, _⟩ | ⟨d, d1, d2, d3, d4, d5⟩
  · omega
  · have : d = c := by omega
    subst this
    refine ⟨by omega, d3, ?_⟩
    rw [posE_eq hp (e := d) (by omega), d3, if_neg (by omega), Int.toNat_natCast, szT_flat' (a := 0) (c := d) (by omega) (by omega) (fun i a b => d5 i a b)]
    omega
theorem pos_next (hp : parOk par n) {e c : Nat} (he : e < n) (h : scan par (par e) (e + 1) (n - (e + 1)) = c) : c < n ∧ par c = par e ∧ posE par n c = posE par n e + szT par n 0 e := by
  rcases scan_spec (f := par) (p := par e) (n - (e + 1)) (e + 1) with ⟨x, _⟩ | ⟨d, d1, d2, d3, d4, d5⟩
  · omega
  · have : d = c := by omega
    subst this
    refine ⟨by omega, d3, ?_⟩
    have h1 := szT_at hp he
    have h2 := szT_flat' (par := par) (n := n) (p := par e) (a := e + 1) (c := d) d1 (by omega) (fun i a b => d5 i a b)
    rw [posE_eq hp (e := d) (by omega), d3, posE_eq hp he, ← h2]
    omega
theorem pos_last (hp : parOk par n) {e : Nat} (he : e < n) (h : scan par (par e) (e + 1) (n - (e + 1)) = -1) : posE par n e + szT par n 0 e = (if par e = -1 then -1 else posE par n (par e).toNat) + szT par n 0 (par e) := by
  rcases scan_spec (f := par) (p := par e) (n - (e + 1)) (e + 1) with ⟨_, x⟩ | ⟨d, d1, d2, d3, d4, d5⟩
  · have h1 := szT_at hp he
    have h2 := szT_flat' (par := par) (n := n) (p := par e) (a := e + 1) (c := n) (by omega) (by omega) (fun i a b => x i a (by omega))
    rw [szT_n] at h2
    rw [posE_eq hp he]
    omega
  · omega
theorem sz_leaf (hp : parOk par n) {e : Nat} (he : e < n) (h : scan par e 0 n = -1) : szT par n 0 e = 1 := by
  rcases scan_spec (f := par) (p := (e : Int)) n 0 with ⟨_, x⟩ | ⟨d, d1, d2, d3, d4, d5⟩
  · rw [szT_flat' (par := par) (n := n) (p := (e : Int)) (a := 0) (c := n) (by omega) (by omega) (fun i a b => x i a (by omega)), szT_n]
  · omega
/-- the entry behind all below e lies behind them in the order, in the same unit; or the unit ends there -/
theorem pos_aft (hp : parOk par n) : ∀ e : Nat, e < n → (∃ c : Nat, (aftE par n e).1 = c ∧ c < n ∧ posE par n c = posE par n e + szT par n 0 e ∧ rtE par c = rtE par e) ∨ (aftE par n e).1 = -1 ∧ posE par n e + szT par n 0 e = posE par n (rtE par e) + szT par n 0 (rtE par e) := by
  intro e
  induction e using Nat.strongRecOn with
  | _ e ih =>
    intro he
    rw [aftE_eq hp he, rtE_eq hp he]
    by_cases c : par e = -1
    · right
      rw [if_pos c, if_pos c]
      exact ⟨rfl, rfl⟩
    · have hpe := hp e he
      rw [if_neg c, if_neg c]
      rcases scan_spec (f := par) (p := par e) (n - (e + 1)) (e + 1) with ⟨x, _⟩ | ⟨d, d1, d2, d3, d4, d5⟩
      · rw [if_pos x]
        have hl := pos_last hp he x
        rw [if_neg c] at hl
        have hq : ((par e).toNat : Int) = par e := by omega
        rcases ih (par e).toNat (by omega) (by omega) with ⟨d, d1, d2, d3, d4⟩ | ⟨d1, d2⟩
        · left
          rw [hq] at d3
          exact ⟨d, d1, d2, by omega, d4⟩
        · right
          rw [hq] at d2
          exact ⟨d1, by omega⟩
      · left
        rw [d4, if_neg (by omega)]
        have := pos_next hp he d4
        refine ⟨d, rfl, this.1, this.2.2, ?_⟩
        rw [rtE_eq hp this.1, this.2.1, if_neg c]
theorem pos_nexE (hp : parOk par n) {e : Nat} (he : e < n) : (∃ c : Nat, (nexE par n e).1 = c ∧ c < n ∧ posE par n c = posE par n e + 1 ∧ rtE par c = rtE par e) ∨ (nexE par n e).1 = -1 ∧ posE par n e + 1 = posE par n (rtE par e) + szT par n 0 (rtE par e) := by
  unfold nexE
  rcases scan_spec (f := par) (p := (e : Int)) n 0 with ⟨x, _⟩ | ⟨d, d1, d2, d3, d4, d5⟩
  · rw [if_pos x]
    have h1 := sz_leaf hp he x
    have h2 := pos_aft hp e he
    rw [h1] at h2
    exact h2
  · rw [d4, if_neg (by omega)]
    left
    have := pos_first hp he d4
    refine ⟨d, rfl, this.1, this.2.2, ?_⟩
    rw [rtE_eq hp this.1, this.2.1, if_neg (by omega), Int.toNat_natCast]
def sumN (f : Nat → Nat) : Nat → Nat
  | 0 => 0
  | k + 1 => sumN f k + f k
theorem sumN_add {f g : Nat → Nat} : ∀ k, sumN (fun i => f i + g i) k = sumN f k + sumN g k
  | 0 => rfl
  | k + 1 => by
    unfold sumN
    rw [sumN_add k]
    omega
theorem sumN_congr {f g : Nat → Nat} : ∀ k, (∀ i, i < k → f i = g i) → sumN f k = sumN g k
  | 0, _ => rfl
  | k + 1, h => by
    unfold sumN
    rw [sumN_congr k (fun i hi => h i (by omega)), h k (by omega)]
theorem sumN_pt {q : Int} {v : Nat} : ∀ k : Nat, sumN (fun i => if q = (i : Int) then v else 0) k = if 0 ≤ q ∧ q < k then v else 0
  | 0 => by rw [if_neg (by omega)]; rfl
  | k + 1 => by
    unfold sumN
    rw [sumN_pt k]
    by_cases c : q = k
    · rw [if_pos c, if_neg (by omega), if_pos (by omega)]; omega
    · rw [if_neg c]
      by_cases d : 0 ≤ q ∧ q < k
      · rw [if_pos d, if_pos (by omega)]; rfl
      · rw [if_neg d, if_neg (by omega)]
theorem sumN_one : ∀ k : Nat, sumN (fun _ => 1) k = k
  | 0 => rfl
  | k + 1 => by unfold sumN; rw [sumN_one k]
end
section
variable {par : Nat → Int} {n : Nat}
theorem sz_total (hp : parOk par n) : ∀ k j : Nat, j + k = n → szT par n j (-1) + sumN (fun i => szT par n j i) j = n + 1
  | 0, j, h => by
    rw [show j = n by omega, szT_n, sumN_congr (g := fun _ => 1) n (fun i _ => szT_n), sumN_one]
    omega
  | k + 1, j, h => by
    have ih := sz_total hp k (j + 1) (by omega)
    rw [← ih, szT_step (by omega)]
    have e : sumN (fun i => szT par n j i) j = sumN (fun i => szT par n (j + 1) i) j + (if 0 ≤ par j ∧ par j < j then szT par n (j + 1) j else 0) := by
      rw [← sumN_pt, ← sumN_add]
      exact sumN_congr j (fun i _ => szT_step (by omega))
    have e2 : sumN (fun i => szT par n (j + 1) i) (j + 1) = sumN (fun i => szT par n (j + 1) i) j + szT par n (j + 1) j := rfl
    rw [e, e2]
    have hpj := hp j (by omega)
    by_cases c : par j = -1
    · rw [if_pos c, if_neg (by omega)]; omega
    · rw [if_neg c, if_pos (by omega)]; omega
theorem sz_all (hp : parOk par n) : szT par n 0 (-1) = n + 1 := by
  have := sz_total hp n 0 (by omega)
  unfold sumN at this
  omega
theorem pos_rg (hp : parOk par n) : ∀ e : Nat, e < n → 0 ≤ posE par n e ∧ posE par n e + szT par n 0 e ≤ n := by
  intro e
  induction e using Nat.strongRecOn with
  | _ e ih =>
    intro he
    have h1 := posE_eq hp he
    have h2 := szT_mono (par := par) (n := n) (p := par e) (a := 0) e e (by omega) (by omega)
    have h3 := szT_at hp he
    have h4 := szT_ge' (par := par) (n := n) (p := par e) (j := e + 1) (by omega)
    have hpe := hp e he
    by_cases c : par e = -1
    · rw [if_pos c] at h1
      have := sz_all hp
      rw [c] at h1 h2 h3 h4
      omega
    · rw [if_neg c] at h1
      have := ih (par e).toNat (by omega) (by omega)
      rw [show (((par e).toNat : Nat) : Int) = par e by omega] at this
      omega
theorem sz_pos (hp : parOk par n) {e : Nat} (he : e < n) : 1 ≤ szT par n 0 e := szT_ge' (by omega)
/-- n things in n places, no two in one: every place is taken -/
theorem pigeon : ∀ (n : Nat) (f : Nat → Nat), (∀ k, k < n → f k < n) → (∀ j k, j < n → k < n → f j = f k → j = k) → ∀ e, e < n → ∃ k, k < n ∧ f k = e
  | 0, _, _, _, e, he => by omega
  | n + 1, f, h1, h2, e, he => by
    -- move the value n out of the way
    by_cases c : ∃ k, k < n ∧ f k = n
    · obtain ⟨k, k1, k2⟩ := c
      have hfn : f n ≠ n := fun h => by have := h2 k n (by omega) (by omega) (by rw [k2, h]); omega
      have hfn' : f n < n := by have := h1 n (by omega); omega
      have H := pigeon n (fun i => if i = k then f n else f i) (fun i hi => by
        by_cases x : i = k
        · rw [if_pos x]; exact hfn'
        · rw [if_neg x]
          have := h1 i (by omega)
          by_cases y : f i = n
          · have := h2 i k (by omega) (by omega) (by rw [y, k2]); omega
          · omega) (fun i j hi hj hij => by
        by_cases x : i = k
        · by_cases y : j = k
          · omega
          · rw [if_pos x, if_neg y] at hij
            have := h2 n j (by omega) (by omega) hij
            omega
        · by_cases y : j = k
          · rw [if_neg x, if_pos y] at hij
            have := h2 i n (by omega) (by omega) hij
            omega
          · rw [if_neg x, if_neg y] at hij
            exact h2 i j (by omega) (by omega) hij)
      by_cases y : e = n
      · exact ⟨k, by omega, by rw [k2, y]⟩
      · obtain ⟨i, i1, i2⟩ := H e (by omega)
        by_cases x : i = k
        · rw [if_pos x] at i2
          exact ⟨n, by omega, i2⟩
        · rw [if_neg x] at i2
          exact ⟨i, by omega, i2⟩
    · have hlt : ∀ k, k < n → f k < n := fun k hk => by
        have := h1 k (by omega)
        by_cases y : f k = n
        · exact absurd ⟨k, hk, y⟩ c
        · omega
      have H := pigeon n f hlt (fun i j hi hj => h2 i j (by omega) (by omega))
      by_cases y : e = n
      · refine ⟨n, by omega, ?_⟩
        have := h1 n (by omega)
        by_cases z : f n = n
        · omega
        · obtain ⟨k, k1, k2⟩ := H (f n) (by omega)
          have := h2 k n (by omega) (by omega) k2
          omega
      · obtain ⟨k, k1, k2⟩ := H e (by omega)
        exact ⟨k, by omega, k2⟩
end
end EA
