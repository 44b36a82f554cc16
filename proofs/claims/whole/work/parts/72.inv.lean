/-! WHAT THE CLASS'S CELLS AND THE MODEL'S HAVE TO DO WITH EACH OTHER, BETWEEN TWO CALLS -/
section DC
def iTape (μ : bM) : Prop := μ 76 2 = μ 2 1 ∧ 0 ≤ μ 2 1 ∧ μ 2 1 ≤ 12000 ∧ ∀ k : Nat, (k : Int) < μ 2 1 → μ 77 k = μ 3 k
def iSec1 (s j off cap : Nat) (μ : bM) : Prop := μ 94 j = μ s 1 ∧ 0 ≤ μ s 1 ∧ μ s 1 ≤ (cap : Int) ∧ ∀ k : Nat, (k : Int) < μ s 1 → μ 93 (off + k) = μ (s + 1) k
def iSec (μ : bM) : Prop := iSec1 7 0 0 24000 μ ∧ iSec1 9 1 24000 8000 μ ∧ iSec1 11 2 32000 8000 μ
def iFault (μ : bM) : Prop := μ 76 21 = μ 46 2 ∧ μ 76 22 = μ 46 3
/-- the first from a on, of m, where f is p; -1 -/
def scan (f : Nat → Int) (p : Int) : Nat → Nat → Int
  | _, 0 => -1
  | a, m + 1 => if f a = p then (a : Int) else scan f p (a + 1) m
/-- how many of the first n where f is p -/
def cntC (f : Nat → Int) (p : Int) : Nat → Int
  | 0 => 0
  | n + 1 => cntC f p n + (if f n = p then 1 else 0)
/-- the last of the first n where f is p; -1 -/
def lstC (f : Nat → Int) (p : Int) : Nat → Int
  | 0 => -1
  | n + 1 => if f n = p then (n : Int) else lstC f p n
def iCnt (T b : Nat) (μ : bM) : Prop := (0 ≤ μ T 1 ∧ μ T 1 ≤ 400) ∧ (0 ≤ μ T 0 ∧ μ T 0 ≤ 6) ∧ μ 78 b = μ T 1 ∧ μ 79 b = μ T 0
def iEnt (T b : Nat) (μ : bM) : Prop := ∀ e : Nat, (e : Int) < μ T 1 →
  (μ 81 (400 * b + e) = μ (T + 2) e ∧ μ 82 (400 * b + e) = μ (T + 3) e ∧ μ 83 (400 * b + e) = μ (T + 4) e ∧ μ 84 (400 * b + e) = μ (T + 10) e) ∧
  (1 ≤ μ (T + 2) e ∧ μ (T + 2) e ≤ 16383) ∧ (-1 ≤ μ (T + 3) e ∧ μ (T + 3) e < e) ∧ (0 ≤ μ (T + 4) e ∧ μ (T + 4) e < μ T 0) ∧ (0 ≤ μ (T + 10) e ∧ μ (T + 10) e ≤ 8) ∧ (0 ≤ μ (T + 5) e ∧ μ (T + 5) e ≤ 30) ∧
  (μ (T + 3) e = -1 → μ (T + 5) e = 0 ∧ μ (T + 1) (μ (T + 4) e).toNat = e) ∧ (0 ≤ μ (T + 3) e → μ (T + 5) e = μ (T + 5) (μ (T + 3) e).toNat + 1 ∧ μ (T + 4) e = μ (T + 4) (μ (T + 3) e).toNat)
def iRoot (T b : Nat) (μ : bM) : Prop := ∀ u : Nat, (u : Int) < μ T 0 → μ 80 (6 * b + u) = μ (T + 1) u ∧ (0 ≤ μ (T + 1) u ∧ μ (T + 1) u < μ T 1) ∧ μ (T + 3) (μ (T + 1) u).toNat = -1 ∧ μ (T + 4) (μ (T + 1) u).toNat = u ∧ ∀ v : Nat, v < u → μ (T + 1) v < μ (T + 1) u
def iChl (T : Nat) (μ : bM) : Prop := ∀ e : Nat, (e : Int) < μ T 1 →
  μ (T + 6) e = cntC (μ (T + 3)) e (μ T 1).toNat ∧ μ (T + 7) e = scan (μ (T + 3)) e 0 (μ T 1).toNat ∧ μ (T + 8) e = lstC (μ (T + 3)) e (μ T 1).toNat ∧
  (0 ≤ μ (T + 3) e → μ (T + 9) e = scan (μ (T + 3)) (μ (T + 3) e) (e + 1) ((μ T 1).toNat - (e + 1))) ∧ (μ (T + 3) e = -1 → μ (T + 9) e = -1)
def isLet (f : Int) : Prop := f = 8 ∨ f = 14 ∨ f = 10
def isNum (f : Int) : Prop := f = 5 ∨ f = 6 ∨ f = 7 ∨ f = 11 ∨ f = 12 ∨ f = 13 ∨ f = 15 ∨ f = 25
def isRef (f : Int) : Prop := f = 19 ∨ f = 21
/-- the attribute in the slot j of the entry e -/
def iAt1 (T b : Nat) (μ : bM) (e j : Nat) : Prop :=
  (μ 85 (3200 * b + j) = μ (T + 11) j ∧ μ 86 (3200 * b + j) = μ (T + 12) j ∧ μ 89 (3200 * b + j) = μ (T + 14) j) ∧ (1 ≤ μ (T + 11) j ∧ μ (T + 11) j ≤ 16383) ∧
  ((isLet (μ (T + 12) j) ∧ (0 ≤ μ (T + 14) j ∧ μ (T + 14) j ≤ 255) ∧ (0 ≤ μ (T + 13) j ∧ μ (T + 13) j + μ (T + 14) j ≤ μ 4 1) ∧ (90000 * (b : Int) ≤ μ 88 (3200 * b + j) ∧ μ 88 (3200 * b + j) + μ (T + 14) j ≤ 90000 * b + μ 91 b) ∧
      ∀ i : Nat, (i : Int) < μ (T + 14) j → μ 92 ((μ 88 (3200 * b + j)).toNat + i) = μ 5 ((μ (T + 13) j).toNat + i)) ∨
    ((isNum (μ (T + 12) j) ∨ isRef (μ (T + 12) j)) ∧ μ (T + 14) j = 0 ∧ μ 87 (3200 * b + j) = μ (T + 13) j ∧ (μ (T + 12) j = 15 → 0 ≤ μ (T + 13) j) ∧ (isRef (μ (T + 12) j) → (0 ≤ μ (T + 13) j ∧ μ (T + 13) j < μ T 1) ∧ μ (T + 4) (μ (T + 13) j).toNat = μ (T + 4) e)))
def iAtt (T b : Nat) (μ : bM) : Prop := ∀ e : Nat, (e : Int) < μ T 1 → ∀ k : Nat, (k : Int) < μ (T + 10) e → iAt1 T b μ e (8 * e + k) ∧ ∀ i : Nat, i < k → μ (T + 11) (8 * e + i) ≠ μ (T + 11) (8 * e + k)
def iLet (b : Nat) (μ : bM) : Prop := μ 90 b = μ 4 1 ∧ (0 ≤ μ 4 1 ∧ μ 4 1 ≤ 30000) ∧ (0 ≤ μ 91 b ∧ μ 91 b ≤ μ 4 1 + 8000)
/-- the cells that the layout is reckoned from -/
def iTids (T : Nat) (q : Nat) : Prop := T ≤ q ∧ q ≤ T + 14 ∨ q = 4 ∨ q = 5
def iLay (T : Nat) (μ : bM) : Prop := μ 13 6 = 0 ∨ μ 13 6 = 1 ∧ ∃ μ0 μ1 : bM, bOk μ0 ∧ (∀ q, iTids T q → μ0 q = μ q) ∧ μ0 13 6 = 0 ∧ F_X3_reckon T 4 μ0 = some (0, μ1) ∧ ∀ q, 13 ≤ q → q ≤ 29 → μ1 q = μ q
def iTree (T b : Nat) (μ : bM) : Prop := iCnt T b μ ∧ iEnt T b μ ∧ iRoot T b μ ∧ iChl T μ ∧ iAtt T b μ ∧ iLet b μ ∧ iLay T μ
def iBank (T b : Nat) (μ : bM) : Prop := (T = 31 ∧ μ 30 0 = 61 ∨ T = 61 ∧ μ 30 0 = 31) ∧ μ 1 5 = T ∧ (b = 0 ∨ b = 1) ∧ μ 76 3 = b
def iMain (μ : bM) : Prop := ∃ T b : Nat, iBank T b μ ∧ iTree T b μ
def Inv (μ : bM) : Prop := bOk μ ∧ iTape μ ∧ iSec μ ∧ iFault μ ∧ iMain μ
/-- the cells that iMain speaks of -/
def mainIds (q : Nat) : Prop := q = 1 ∨ q = 4 ∨ q = 5 ∨ 13 ≤ q ∧ q ≤ 45 ∨ 61 ≤ q ∧ q ≤ 75 ∨ 78 ≤ q ∧ q ≤ 92
theorem iMain_congr {μ μ' : bM} (h : ∀ q, mainIds q → μ' q = μ q) (h3 : μ' 76 3 = μ 76 3) (hm : iMain μ) : iMain μ' := by
  obtain ⟨T, b, hb, hc, he, hr, hch, ha, hl, hy⟩ := hm
  have hT : T = 31 ∨ T = 61 := by rcases hb.1 with h | h <;> omega
  have e1 : μ' 1 = μ 1 := h 1 (Or.inl rfl)
  have e4 : μ' 4 = μ 4 := h 4 (Or.inr (Or.inl rfl))
  have e5 : μ' 5 = μ 5 := h 5 (Or.inr (Or.inr (Or.inl rfl)))
  have eT : ∀ k, k ≤ 14 → μ' (T + k) = μ (T + k) := fun k hk => h _ (by unfold mainIds; omega)
  have eM : ∀ q, 78 ≤ q → q ≤ 92 → μ' q = μ q := fun q h1 h2 => h q (by unfold mainIds; omega)
  have eL : ∀ q, 13 ≤ q → q ≤ 30 → μ' q = μ q := fun q h1 h2 => h q (by unfold mainIds; omega)
  have t0 : μ' T = μ T := eT 0 (by omega)
  have t1 := eT 1 (by omega)
  have t2 := eT 2 (by omega)
  have t3 := eT 3 (by omega)
  have t4 := eT 4 (by omega)
  have t5 := eT 5 (by omega)
  have t6 := eT 6 (by omega)
  have t7 := eT 7 (by omega)
  have t8 := eT 8 (by omega)
  have t9 := eT 9 (by omega)
  have t10 := eT 10 (by omega)
  have t11 := eT 11 (by omega)
  have t12 := eT 12 (by omega)
  have t13 := eT 13 (by omega)
  have t14 := eT 14 (by omega)
  have m78 := eM 78 (by omega) (by omega)
  have m79 := eM 79 (by omega) (by omega)
  have m80 := eM 80 (by omega) (by omega)
  have m81 := eM 81 (by omega) (by omega)
  have m82 := eM 82 (by omega) (by omega)
  have m83 := eM 83 (by omega) (by omega)
  have m84 := eM 84 (by omega) (by omega)
  have m85 := eM 85 (by omega) (by omega)
  have m86 := eM 86 (by omega) (by omega)
  have m87 := eM 87 (by omega) (by omega)
  have m88 := eM 88 (by omega) (by omega)
  have m89 := eM 89 (by omega) (by omega)
  have m90 := eM 90 (by omega) (by omega)
  have m91 := eM 91 (by omega) (by omega)
  have m92 := eM 92 (by omega) (by omega)
  have l13 := eL 13 (by omega) (by omega)
  have l30 := eL 30 (by omega) (by omega)
  refine ⟨T, b, ?_, ?_, ?_, ?_, ?_, ?_, ?_, ?_⟩
  · unfold iBank at hb ⊢; rw [e1, l30, h3]; exact hb
  · unfold iCnt at hc ⊢; rw [t0, m78, m79]; exact hc
  · unfold iEnt at he ⊢; rw [t0, t1, t2, t3, t4, t5, t10, m81, m82, m83, m84]; exact he
  · unfold iRoot at hr ⊢; rw [t0, t1, t3, t4, m80]; exact hr
  · unfold iChl at hch ⊢; rw [t0, t3, t6, t7, t8, t9]; exact hch
  · unfold iAtt iAt1 at ha ⊢; rw [t0, t4, t10, t11, t12, t13, t14, m85, m86, m87, m88, m89, m91, m92, e4, e5]; exact ha
  · unfold iLet at hl ⊢; rw [m90, m91, e4]; exact hl
  · unfold iLay at hy ⊢
    rw [l13]
    rcases hy with hy | ⟨h1, μ0, μ1, g1, g2, g3, g4, g5⟩
    · exact Or.inl hy
    · refine Or.inr ⟨h1, μ0, μ1, g1, fun q hq => ?_, g3, g4, fun q h1 h2 => ?_⟩
      · rw [g2 q hq]
        refine (h q ?_).symm
        unfold iTids at hq
        unfold mainIds
        omega
      · rw [g5 q h1 h2, eL q h1 (by omega)]
end DC
