section DF
/-! sections -/
def secS (v : Int) : Nat := if v = 0 then 7 else if v = 1 then 9 else 11
def secO (v : Int) : Nat := if v = 0 then 0 else if v = 1 then 24000 else 32000
def secC (v : Int) : Nat := if v = 0 then 24000 else 8000
theorem sec_c {v : Int} (h : 0 ≤ v ∧ v ≤ 2) : v = 0 ∨ v = 1 ∨ v = 2 := by omega
theorem sec_of {v : Int} (h : 0 ≤ v ∧ v ≤ 2) {μ : bM} : F_X5_of v μ = some ((secS v : Nat) : Int) := by rcases sec_c h with rfl | rfl | rfl <;> rfl
theorem sec_from {v : Int} (h : 0 ≤ v ∧ v ≤ 2) {μ : bM} : F_X11_from v μ = some ((secO v : Nat) : Int) := by rcases sec_c h with rfl | rfl | rfl <;> rfl
theorem sec_most {v : Int} (h : 0 ≤ v ∧ v ≤ 2) {μ : bM} : F_X11_most v μ = some ((secC v : Nat) : Int) := by rcases sec_c h with rfl | rfl | rfl <;> rfl
theorem sec_st {v : Int} (h : 0 ≤ v ∧ v ≤ 2) : bStore (secS v) ∧ bN (secS v + 1) = secC v := by rcases sec_c h with rfl | rfl | rfl <;> exact ⟨rfl, rfl⟩
theorem sec_rg {v : Int} (h : 0 ≤ v ∧ v ≤ 2) : (secS v = 7 ∨ secS v = 9 ∨ secS v = 11) ∧ secO v + secC v ≤ 40000 := by rcases sec_c h with rfl | rfl | rfl <;> decide
theorem sec_i {v : Int} (h : 0 ≤ v ∧ v ≤ 2) {μ : bM} (hi : iSec μ) : iSec1 (secS v) v.toNat (secO v) (secC v) μ := by
  rcases sec_c h with rfl | rfl | rfl
  · exact hi.1
  · exact hi.2.1
  · exact hi.2.2
theorem M_isSec {v : Int} {μ : bM} : F_X11_isSection v μ = some (b01 (0 ≤ v ∧ v ≤ 2)) := by unfold F_X11_isSection; rw [M_in]; rfl
theorem C_needSec {v : Int} {μ : bM} : F_X10_needSection v μ = if 0 ≤ v ∧ v ≤ 2 then some (.inl 0, μ) else some (.inr "java/lang/IndexOutOfBoundsException", μ) := by
  unfold F_X10_needSection
  by_cases c1 : v < 0
  · rw [if_pos c1, if_neg (by omega)]
  · rw [if_neg c1]
    by_cases c2 : v ≤ 2
    · rw [if_pos c2, if_pos (by omega)]
    · rw [if_neg c2, if_neg (by omega)]
theorem st_size {μ : bM} (h : Inv μ) {v : Int} (hv : bR v) : Step (F_L_size v μ) (F_X11_size v) := by
  obtain ⟨hok, h1, h2, h3, h4⟩ := id h
  by_cases c : 0 ≤ v ∧ v ≤ 2
  · have hs := sec_i c h2
    refine St_tell h (i := 227) (d1 := 2) (j := 181) (d2 := 2) (w := μ (secS v) 1) (r_L_size (d := 0) v hv) ?_ (r_X11_size (d := 0) v hv) ?_
    · have E0 : F_X10_size v μ = some (.inl (μ (secS v) 1), μ) := by
        unfold F_X10_size
        rw [C_needSec, if_pos c, bXm_inl, sec_of c]
        rfl
      unfold F_L_size
      rw [E0]
      rfl
    · unfold F_X11_size
      rw [M_isSec, b01_1 c]
      rw [Option.bind_some, goes_1, bMm_some, if_neg (by decide), bG_pos (by omega), bset_q (by decide), bset_q (by decide), hs.1]
  · refine St_thr h (j := 181) (d2 := 2) (k := 1) (r := 0) (by decide) ?_ (r_X11_size (d := 0) v hv) ?_
    · have E0 : F_X10_size v μ = some (.inr "java/lang/IndexOutOfBoundsException", μ) := by
        unfold F_X10_size
        rw [C_needSec, if_neg c]
        rfl
      unfold F_L_size
      rw [E0]
      rfl
    · unfold F_X11_size
      rw [M_isSec, b01_0 c]
      rw [Option.bind_some, goes_0, bMm_some]
      rfl
theorem C_needByte {v i : Int} {μ : bM} : F_X10_needByte v i μ = if (0 ≤ v ∧ v ≤ 2) ∧ 0 ≤ i ∧ i < μ (secS v) 1 then some (.inl 0, μ) else some (.inr "java/lang/IndexOutOfBoundsException", μ) := by
  unfold F_X10_needByte
  rw [C_needSec]
  by_cases c : 0 ≤ v ∧ v ≤ 2
  · rw [if_pos c, bXm_inl]
    by_cases c1 : i < 0
    · rw [if_pos c1, if_neg (by omega)]
    · rw [if_neg c1, sec_of c]
      rw [Option.bind_some, Int.toNat_natCast]
      show (if i < μ (secS v) 1 then _ else _) = _
      by_cases c2 : i < μ (secS v) 1
      · rw [if_pos c2, if_pos ⟨c, by omega, c2⟩]
      · rw [if_neg c2, if_neg (by omega)]
  · rw [if_neg c, if_neg (fun hh => c hh.1)]
    rfl
theorem M_isOctet {v i : Int} {μ : bM} (h : iSec μ) : F_X11_isOctet v i μ = some (b01 ((0 ≤ v ∧ v ≤ 2) ∧ 0 ≤ i ∧ i < μ (secS v) 1)) := by
  unfold F_X11_isOctet
  rw [M_isSec]
  by_cases c : 0 ≤ v ∧ v ≤ 2
  · have hs := sec_i c h
    have hb := sec_rg c
    rw [b01_1 c]
    rw [Option.bind_some, if_neg (by decide), bG_pos (by omega), hs.1]
    have h1 := hs.2.1
    have h2 := hs.2.2.1
    rw [bG_pos (by constructor <;> omega), M_in]
    by_cases c2 : 0 ≤ i ∧ i < μ (secS v) 1
    · rw [b01_1 (by omega), b01_1 ⟨c, c2⟩]; rfl
    · rw [b01_0 (by omega), b01_0 (fun hh => c2 hh.2)]; rfl
  · rw [b01_0 c, b01_0 (fun hh => c hh.1)]; rfl
theorem iSec_set {μ : bM} {q k : Nat} {x : Int} (h : iSec μ) (hq : q = 76 ∨ q = 112) : iSec (bset μ q k x) := iSec_congr h (fun z _ _ => bset_q (by omega)) (bset_q (by omega)) (bset_q (by omega))
theorem st_octet {μ : bM} (h : Inv μ) {v i : Int} (hv : bR v) (hi : bR i) : Step (F_L_octet v i μ) (F_X11_octet v i) := by
  obtain ⟨hok, h1, h2, h3, h4⟩ := id h
  by_cases c : (0 ≤ v ∧ v ≤ 2) ∧ 0 ≤ i ∧ i < μ (secS v) 1
  · have hs := sec_i c.1 h2
    have hst := sec_st c.1
    have hrg := sec_rg c.1
    have hs2 := hs.2.2.1
    refine St_tell h (i := 228) (d1 := 3) (j := 183) (d2 := 3) (w := sAt (secS v) μ i) (r_L_octet (d := 0) v hv i hi) ?_ (r_X11_octet (d := 0) v hv i hi) ?_
    · have E0 : F_X10_octet v i μ = some (.inl (sAt (secS v) μ i), μ) := by
        unfold F_X10_octet
        rw [C_needByte, if_pos c, bXm_inl, sec_of c.1]
        rw [Option.bind_some, Int.toNat_natCast, S_at hok hst.1 ⟨hs.2.1, by rw [hst.2]; exact hs2⟩]
        rfl
      unfold F_L_octet
      rw [E0]
      rfl
    · have e1 : ∀ q, q ≠ 112 → bset μ 112 0 (sAt (secS v) μ i) q = μ q := fun q hq => bset_q hq
      unfold F_X11_octet
      rw [M_isOctet (iSec_set h2 (Or.inr rfl)), e1 (secS v) (by omega), b01_1 c]
      rw [Option.bind_some, goes_1, bMm_some, if_neg (by decide), sec_from c.1, Option.bind_some, bG_pos (by constructor <;> omega), bG_pos (by omega), bset_q (by decide), e1 93 (by decide)]
      have e2 := hs.2.2.2 i.toNat (by omega)
      rw [show ((secO v : Int) + i).toNat = secO v + i.toNat by omega, e2, bAnd_b (bO_b hok (bStore_d hst.1))]
      unfold sAt
      rw [if_pos c.2]
  · refine St_thr h (j := 183) (d2 := 3) (k := 1) (r := 0) (by decide) ?_ (r_X11_octet (d := 0) v hv i hi) ?_
    · have E0 : F_X10_octet v i μ = some (.inr "java/lang/IndexOutOfBoundsException", μ) := by
        unfold F_X10_octet
        rw [C_needByte, if_neg c]
        rfl
      unfold F_L_octet
      rw [E0]
      rfl
    · unfold F_X11_octet
      rw [M_isOctet h2, b01_0 c]
      rw [Option.bind_some, goes_0, bMm_some]
      rfl
/-- one section's bytes and size told anew, the others as they were -/
theorem iSec_new {μ μ' : bM} {v : Int} (hv : 0 ≤ v ∧ v ≤ 2) (h : iSec μ) (hn : iSec1 (secS v) v.toNat (secO v) (secC v) μ') (ho : ∀ q, q ≠ secS v → q ≠ secS v + 1 → q ≠ 93 → q ≠ 94 → 7 ≤ q → q ≤ 12 → μ' q = μ q) (h94 : ∀ k, k ≠ v.toNat → μ' 94 k = μ 94 k)
    (h93 : ∀ k, (k < secO v ∨ secO v + secC v ≤ k) → μ' 93 k = μ 93 k) : iSec μ' := by
  rcases sec_c hv with rfl | rfl | rfl
  · refine ⟨hn, ?_, ?_⟩
    · obtain ⟨a1, a2, a3, a4⟩ := h.2.1
      unfold iSec1
      rw [ho 9 (by decide) (by decide) (by decide) (by decide) (by decide) (by decide), ho (9 + 1) (by decide) (by decide) (by decide) (by decide) (by decide) (by decide), h94 1 (by decide)]
      exact ⟨a1, a2, a3, fun k hk => (h93 _ (Or.inr (by show 0 + 24000 ≤ _; omega))).trans (a4 k hk)⟩
    · obtain ⟨a1, a2, a3, a4⟩ := h.2.2
      unfold iSec1
      rw [ho 11 (by decide) (by decide) (by decide) (by decide) (by decide) (by decide), ho (11 + 1) (by decide) (by decide) (by decide) (by decide) (by decide) (by decide), h94 2 (by decide)]
      exact ⟨a1, a2, a3, fun k hk => (h93 _ (Or.inr (by show 0 + 24000 ≤ _; omega))).trans (a4 k hk)⟩
  · refine ⟨?_, hn, ?_⟩
    · obtain ⟨a1, a2, a3, a4⟩ := h.1
      unfold iSec1
      rw [ho 7 (by decide) (by decide) (by decide) (by decide) (by decide) (by decide), ho (7 + 1) (by decide) (by decide) (by decide) (by decide) (by decide) (by decide), h94 0 (by decide)]
      exact ⟨a1, a2, a3, fun k hk => (h93 _ (Or.inl (by show _ < 24000; omega))).trans (a4 k hk)⟩
    · obtain ⟨a1, a2, a3, a4⟩ := h.2.2
      unfold iSec1
      rw [ho 11 (by decide) (by decide) (by decide) (by decide) (by decide) (by decide), ho (11 + 1) (by decide) (by decide) (by decide) (by decide) (by decide) (by decide), h94 2 (by decide)]
      exact ⟨a1, a2, a3, fun k hk => (h93 _ (Or.inr (by show 24000 + 8000 ≤ _; omega))).trans (a4 k hk)⟩
  · refine ⟨?_, ?_, hn⟩
    · obtain ⟨a1, a2, a3, a4⟩ := h.1
      unfold iSec1
      rw [ho 7 (by decide) (by decide) (by decide) (by decide) (by decide) (by decide), ho (7 + 1) (by decide) (by decide) (by decide) (by decide) (by decide) (by decide), h94 0 (by decide)]
      exact ⟨a1, a2, a3, fun k hk => (h93 _ (Or.inl (by show _ < 32000; omega))).trans (a4 k hk)⟩
    · obtain ⟨a1, a2, a3, a4⟩ := h.2.1
      unfold iSec1
      rw [ho 9 (by decide) (by decide) (by decide) (by decide) (by decide) (by decide), ho (9 + 1) (by decide) (by decide) (by decide) (by decide) (by decide) (by decide), h94 1 (by decide)]
      exact ⟨a1, a2, a3, fun k hk => (h93 _ (Or.inl (by show _ < 32000; omega))).trans (a4 k hk)⟩
end DF
