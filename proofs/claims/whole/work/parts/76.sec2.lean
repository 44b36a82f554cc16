section DG
theorem st_alter {μ : bM} (h : Inv μ) {v i m : Int} (hv : bR v) (hi : bR i) (hm : bR m) : Step (F_L_alter v i m μ) (F_X11_alter v i m) := by
  obtain ⟨hok, h1, h2, h3, h4⟩ := id h
  by_cases c : (0 ≤ v ∧ v ≤ 2) ∧ 0 ≤ i ∧ i < μ (secS v) 1
  · have hs := sec_i c.1 h2
    have hst := sec_st c.1
    have hrg := sec_rg c.1
    have hs2 := hs.2.2.1
    have hs1 := hs.2.1
    obtain ⟨x, hx⟩ : ∃ x, x = b8 (bXor (μ (secS v + 1) i.toNat) m) := ⟨_, rfl⟩
    have hxb : -128 ≤ x ∧ x ≤ 127 := by rw [hx]; exact b8_B _
    obtain ⟨ν, hν⟩ : ∃ ν, ν = bset μ (secS v + 1) i.toNat x := ⟨_, rfl⟩
    have hν1 : ν (secS v) = μ (secS v) := by rw [hν, bset_q (by omega)]
    have hνx : ν (secS v + 1) i.toNat = x := by rw [hν, bset_at]
    have hch : F_X6_change (secS v) i m μ = some (0, ν) := by
      unfold F_X6_change
      rw [if_neg (by omega), if_neg (by omega), bG_pos (by rw [hst.2]; omega), bG_pos (by rw [hst.2]; omega), hν, hx]
    have hat : F_X6_at (secS v) i ν = some (x % 256) := by
      unfold F_X6_at
      rw [if_neg (by omega), hν1, if_neg (by omega), bG_pos (by rw [hst.2]; omega), hνx, bAnd_b hxb]
    have E0 : F_X10_alter v i m μ = some (.inl (x % 256), ν) := by
      unfold F_X10_alter
      rw [C_needByte, if_pos c, bXm_inl, sec_of c.1]
      rw [Option.bind_some, Int.toNat_natCast, hch, bMm_some]
      rw [hat]
      rfl
    have E1 : F_L_alter v i m μ = some (0, bset ν 112 0 (x % 256), 0) := by unfold F_L_alter; rw [E0]; rfl
    have hiS : iSec (bset ν 112 0 (x % 256)) → True := fun _ => trivial
    -- the model's own size and bytes are not touched yet
    have f93 : bset ν 112 0 (x % 256) 93 = μ 93 := by rw [bset_q (by decide), hν, bset_q (by omega)]
    have f94 : bset ν 112 0 (x % 256) 94 = μ 94 := by rw [bset_q (by decide), hν, bset_q (by omega)]
    have hoct : F_X11_isOctet v i (bset ν 112 0 (x % 256)) = some 1 := by
      unfold F_X11_isOctet
      rw [M_isSec, b01_1 c.1]
      rw [Option.bind_some, if_neg (by decide), bG_pos (by omega), f94, hs.1, bG_pos (by constructor <;> omega), M_in, b01_1 (by omega)]
      rfl
    have e93 : μ 93 (secO v + i.toNat) = μ (secS v + 1) i.toNat := hs.2.2.2 i.toNat (by omega)
    have E2 : F_X11_alter v i m (bset ν 112 0 (x % 256)) = some (x % 256, bset (bset (bset ν 112 0 (x % 256)) 76 0 0) 93 (secO v + i.toNat) x) := by
      unfold F_X11_alter
      rw [hoct]
      rw [Option.bind_some, goes_1, bMm_some, if_pos (by decide), sec_from c.1, Option.bind_some, bG_pos (by constructor <;> omega), bG_pos (by omega), bG_pos (by omega), bG_pos (by omega), show ((secO v : Int) + i).toNat = secO v + i.toNat by omega, bset_q (show 93 ≠ 76 by decide), f93, e93, ← hx, bset_at, bAnd_b hxb]
    have ok1 := okC 3 (r_L_alter (d := 0) v hv i hi m hm) hok E1
    have ok2 := okP 3 (r_X11_alter (d := 0) v hv i hi m hm) ok1 E2
    have fr : ∀ q, q ≠ 93 → q ≠ 76 → q ≠ 112 → q ≠ secS v + 1 → bset (bset (bset ν 112 0 (x % 256)) 76 0 0) 93 (secO v + i.toNat) x q = μ q := fun q q1 q2 q3 q4 => by rw [bset_q q1, bset_q q2, bset_q q3, hν, bset_q q4]
    have fr76 : ∀ k, k ≠ 0 → bset (bset (bset ν 112 0 (x % 256)) 76 0 0) 93 (secO v + i.toNat) x 76 k = μ 76 k := fun k k0 => by rw [bset_q (by decide), bset_k k0, bset_q (by decide), hν, bset_q (by omega)]
    have fs1 : ∀ k, bset (bset (bset ν 112 0 (x % 256)) 76 0 0) 93 (secO v + i.toNat) x (secS v + 1) k = ν (secS v + 1) k := fun k => by rw [bset_q (by omega), bset_q (by omega), bset_q (by omega)]
    refine ⟨0, _, _, _, 0, E1, by omega, E2, by rw [bset_q (by decide), bset_at], fun _ => by rw [bset_q (by decide), bset_q (by decide), bset_at], ok2, iTape_congr h1 (fr76 2 (by decide)) (by rw [fr 2 (by decide) (by decide) (by decide) (by omega)]) (fr 3 (by decide) (by decide) (by decide) (by omega)) (fr 77 (by decide) (by decide) (by decide) (by omega)), iSec_new c.1 h2 ⟨?_, ?_, ?_, fun k hk => ?_⟩ (fun q q1 q2 q3 q4 q5 q6 => fr q q3 (by omega) (by omega) q2) (fun k hk => by rw [fr 94 (by decide) (by decide) (by decide) (by omega)]) (fun k hk => ?_), iFault_congr h3 (fr 46 (by decide) (by decide) (by decide) (by omega)) (fr76 21 (by decide)) (fr76 22 (by decide)), iMain_congr (fun q m => ?_) (fr76 3 (by decide)) h4⟩
    · rw [fr 94 (by decide) (by decide) (by decide) (by omega), fr (secS v) (by omega) (by omega) (by omega) (by omega)]; exact hs.1
    · rw [fr (secS v) (by omega) (by omega) (by omega) (by omega)]; exact hs1
    · rw [fr (secS v) (by omega) (by omega) (by omega) (by omega)]; exact hs2
    · rw [fr (secS v) (by omega) (by omega) (by omega) (by omega)] at hk
      rw [fs1]
      by_cases ck : k = i.toNat
      · rw [ck, bset_at, hνx]
      · rw [bset_k (by omega), bset_q (by decide), f93, hν, bset_k ck]
        exact hs.2.2.2 k hk
    · rw [bset_k (by omega), bset_q (by decide), f93]
    · unfold mainIds at m
      exact fr q (by omega) (by omega) (by omega) (by omega)
  · refine St_thr h (j := 185) (d2 := 3) (k := 1) (r := 0) (by decide) ?_ (r_X11_alter (d := 0) v hv i hi m hm) ?_
    · have E0 : F_X10_alter v i m μ = some (.inr "java/lang/IndexOutOfBoundsException", μ) := by
        unfold F_X10_alter
        rw [C_needByte, if_neg c]
        rfl
      unfold F_L_alter
      rw [E0]
      rfl
    · unfold F_X11_alter
      rw [M_isOctet h2, b01_0 c]
      rw [Option.bind_some, goes_0, bMm_some]
      rfl
end DG
