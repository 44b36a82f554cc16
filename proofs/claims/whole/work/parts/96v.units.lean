section GE
/-! all units read -/
section
variable {r : Nat → Nat → Int} {sz : Nat → Nat} {μ ν μ' ν' μ1 ν1 : bM} {T b a p E w x Z t n m L P S tp j : Nat}
def sWc (T q k : Nat) : Prop := sRc T q k ∨ q = 30 ∧ k = 3
def sWm (b q k : Nat) : Prop := sRm b q k ∨ q = 76 ∧ k = 54
theorem W_c (h : Fr (sRc T) μ μ') : Fr (sWc T) μ μ' := Fr_mono h fun _ _ => Or.inl
theorem W_m (h : Fr (sRm b) ν ν') : Fr (sWm b) ν ν' := Fr_mono h fun _ _ => Or.inl
theorem hC_R {q k : Nat} (x : hC q k) : sWc T q k := Or.inl (Or.inl x)
theorem hM_R {q k : Nat} (x : hM q k) : sWm b q k := by unfold hM at x; unfold sWm sRm; omega
theorem sTc_R {q k : Nat} (x : sTc q k) : sWc T q k := by unfold sTc at x; unfold sWc sRc; omega
theorem sTm_R {q k : Nat} (x : sTm q k) : sWm b q k := by unfold sTm at x; unfold sWm sRm; omega
def UnOk (r : Nat → Nat → Int) (sz : Nat → Nat) (T b m a : Nat) (μ ν : bM) : Prop :=
  (∃ (n' L' P' E' : Nat) (μ' ν' : bM), a < E' ∧ m + 1 ≤ 6 ∧ F_X4_readUnits_37 (sz 0) a m μ = some (.inl ((E' : Int), (m : Int) + 1, μ')) ∧ F_X11_readUnit a ν = some (0, ν') ∧ ν' 76 40 = (E' : Int) ∧ WS r sz T b n' (m + 1) L' P' E' μ' ν' ∧ Fr (sWc T) μ μ' ∧ Fr (sWm b) ν ν') ∨
  (∃ (μ' ν' : bM), F_X4_readUnits_37 (sz 0) a m μ = some (.inr (.inr ISE, μ')) ∧ F_X11_readUnit a ν = some (0, ν') ∧ BadP μ' ν' ∧ Fr (sWc T) μ μ' ∧ Fr (sWm b) ν ν')
/-- behind the table: the entries and the references -/
theorem J_body (hs : Src r sz) (hT : T = 31 ∨ T = 61) (hb : b = 0 ∨ b = 1) (hR : RB0 r sz T b n m L P μ ν) (h79 : ν 79 b = (m : Int)) (hO : RO T b m μ ν) (hRR : RR T n m μ) (h37 : ν 76 37 = -1) (h46 : μ 46 2 = 0 ∧ μ 46 3 = 0) (hTB : TB S μ ν) (h54 : μ 30 3 = (tp : Int) ∧ ν 76 54 = (tp : Int)) (h52 : ν 76 52 = (a : Int)) (m6 : m < 6) (h1 : a + 11 ≤ E) (h2 : E ≤ sz 0) :
    (∃ (n' L' P' : Nat) (μ' ν' : bM), (bXm (F_X4_readEntries a (ov μ 0 (a + 11) E)) (fun w11 μ12 => if (E : Int) ≤ (μ12 46 0) then F_X4_readUnits_186 (sz 0) m E μ12 else bXm (F_X1_refuse 5 (μ12 46 0) μ12) (fun w15 μ16 => F_X4_readUnits_186 (sz 0) m E μ16) (fun e μ => some (.inr (.inr e, μ)))) (fun e μ => some (.inr (.inr e, μ)))) = some (.inl ((E : Int), (m : Int) + 1, μ')) ∧ F_X11_readUnit_234 a E ν = some (0, ν') ∧ ν' 76 40 = (E : Int) ∧ WS r sz T b n' (m + 1) L' P' E μ' ν' ∧ Fr (sRc T) μ μ' ∧ Fr (sRm b) ν ν') ∨
    (∃ (μ' ν' : bM), (bXm (F_X4_readEntries a (ov μ 0 (a + 11) E)) (fun w11 μ12 => if (E : Int) ≤ (μ12 46 0) then F_X4_readUnits_186 (sz 0) m E μ12 else bXm (F_X1_refuse 5 (μ12 46 0) μ12) (fun w15 μ16 => F_X4_readUnits_186 (sz 0) m E μ16) (fun e μ => some (.inr (.inr e, μ)))) (fun e μ => some (.inr (.inr e, μ)))) = some (.inr (.inr ISE, μ')) ∧ F_X11_readUnit_234 a E ν = some (0, ν') ∧ BadP μ' ν' ∧ Fr (sRc T) μ μ' ∧ Fr (sRm b) ν ν') := by
  have hz := sz_le hs (j := 0) (by omega)
  have h3 := hR.1.2.2.2
  obtain ⟨μ9, hμ9⟩ : ∃ μ9, μ9 = ov μ 0 (a + 11) E := ⟨_, rfl⟩
  obtain ⟨ν4, hν4⟩ : ∃ ν4, ν4 = bset (bset (bset (bset ν 79 b ((m : Int) + 1)) 76 42 0) 76 40 ((a + 11 : Nat) : Int)) 76 41 (E : Int) := ⟨_, rfl⟩
  have o9 : ∀ q, q ≠ 46 → μ9 q = μ q := fun q x => by rw [hμ9, ov_q x]
  have n4 : ∀ q, q ≠ 76 → q ≠ 79 → ν4 q = ν q := fun q x y => by rw [hν4]; simp (disch := first | omega | decide) only [bset_q, bset_k, bset_at]
  have k4 : ∀ k, k < 40 ∨ 42 < k → ν4 76 k = ν 76 k := fun k x => by rw [hν4]; simp (disch := first | omega | decide) only [bset_q, bset_k, bset_at]
  have m4 : ν4 79 b = (m : Int) + 1 := by rw [hν4]; simp (disch := first | omega | decide) only [bset_q, bset_k, bset_at]
  have fa : Fr (sRc T) μ μ9 := fun q k x => by rw [o9 q (by unfold sRc at x; omega)]
  have fb : Fr (sRm b) ν ν4 := by
    rw [hν4]
    exact Fr_tr (Fr_tr (Fr_tr (Fr_b (by unfold sRm; omega)) (Fr_b (by unfold sRm; omega))) (Fr_b (by unfold sRm; omega))) (Fr_b (by unfold sRm; omega))
  have hsk := (Sk_iff hT).mp hR.2.1
  have hn := hR.2.2.1.1
  have e78 : ν 78 b = (n : Int) := by rw [hsk.1.2.2]; exact hn
  have M0 : F_X11_readUnit_234 a E ν = bMm (bLoop (fun z : Int × Int × Int × bM => F_X11_readEntries_17 n z.1 z.2.1 z.2.2.1 z.2.2.2) (-1, 0, 1, ν4)) (fun w8 μ9 => some (0, (bset μ9 76 40 (E : Int)))) := by
    unfold F_X11_readUnit_234 F_X11_readEntries
    rw [if_pos h37, h3, bG_pos (by omega), Int.toNat_natCast, h79, bG_pos (by constructor <;> omega), bG_pos (by omega), bG_pos (by constructor <;> omega), show (a : Int) + 11 = ((a + 11 : Nat) : Int) from rfl, ← hν4, k4 3 (by omega), h3, bG_pos (by omega), Int.toNat_natCast, n4 78 (by omega) (by omega), e78]
  have hU : US r sz T b S n m a n m L P (a + 11) E μ9 ν4 := by
    refine ⟨RB_iff.mpr ⟨RB0_cong hT hR (fun q x _ _ => o9 q x) (fun k _ => by rw [o9 30 (by omega)]) (fun q x y _ _ => n4 q x y) (k4 3 (by omega)), TB_cong hTB (fun q x y => o9 q (by omega)) (fun q x y => n4 q (by omega) (by omega)) (k4 43 (by omega))⟩, by rw [hμ9]; exact Cur_ov h46.1 h46.2, ?_, by omega, by rw [k4 52 (by omega)]; exact h52, m4, Or.inl ⟨rfl, rfl⟩, m6, fun e x y => by omega, ?_, ?_⟩
    · refine ⟨?_, ?_, ?_, ?_⟩
      · rw [hν4]; simp (disch := first | omega | decide) only [bset_q, bset_k, bset_at]; rfl
      · rw [hν4]; simp (disch := first | omega | decide) only [bset_q, bset_k, bset_at]
      · rw [hν4]; simp (disch := first | omega | decide) only [bset_q, bset_k, bset_at]
      · rw [k4 37 (by omega)]; exact h37
    · unfold RO
      rw [o9 (T + 1) (by omega), n4 80 (by omega) (by omega)]
      exact hO
    · unfold RR
      rw [o9 (T + 4) (by omega), o9 (T + 10) (by omega), o9 (T + 12) (by omega), o9 (T + 13) (by omega)]
      exact hRR
  have C0 : F_X4_readEntries a μ9 = bLoop (fun z : Int × Int × bM => F_X4_readEntries_5 a z.1 z.2.1 z.2.2) (-1, ((0 : Nat) : Int), μ9) := rfl
  rw [← hμ9, C0]
  rcases J_es hs hT hb h2 (E - (a + 11)) n m L P (a + 11) 0 (-1) 0 μ9 ν4 (Nat.le_refl _) hU (Or.inl ⟨rfl, rfl, rfl⟩) (by omega) with ⟨n', L', P', p', μ1, ν1, q1, q2, q3, q4, q5, q6⟩ | ⟨μ1, ν1, q1, q2, q3, q4, q5⟩
  · rw [q1, bXm_inl]
    rw [q2] at M0
    obtain ⟨u1, u2, u3, u4, u5, u6, u7, u8, u9, u10, u11⟩ := id q3
    have w37 : ν1 76 37 = -1 := u3.2.2.2
    have w3 : ν1 76 3 = (b : Int) := u1.1.2.2.2
    have l303 : μ1 30 3 = (tp : Int) := by
      rw [q5 30 3 (by unfold sRc; omega), o9 30 (by omega)]; exact h54.1
    have l54 : ν1 76 54 = (tp : Int) := by
      rw [q6 76 54 (by unfold sRm; omega), k4 54 (by omega)]; exact h54.2
    by_cases c : E ≤ p'
    · rw [if_pos (by rw [u2.2.2.1]; omega)]
      have hV : VS r sz T b S n m a n' L' P' p' E (8 * n) μ1 ν1 := ⟨q3, q4, fun e k x1 x2 x3 x4 x5 => by omega⟩
      have e1 : μ1 (T + 1) m = (n : Int) := by
        rcases u7 with x | x
        · omega
        · exact x.2.2
      have C1 : F_X4_readUnits_186 (sz 0) m E μ1 = bXm (bLoop (fun z : Int × bM => F_X4_resolveReferences_2 n z.1 z.2) ((n : Int), μ1)) (fun w1 μ2 => some (.inl ((E : Int), ((m : Int) + 1), μ2))) (fun e μ => some (.inr (.inr e, μ))) := by
        have g : bR ((m : Int) + 1) := by constructor <;> omega
        unfold F_X4_readUnits_186 F_X4_resolveReferences
        rw [bG_pos (by omega), u1.1.2.2.1, Int.toNat_natCast, Int.toNat_natCast, e1]
        simp only [bG_pos g]
      have M1 : F_X11_readEntries_138 n ν1 = bLoop (fun z : Int × bM => F_X11_readEntries_170 n z.1 z.2) ((n : Int), ν1) := by
        unfold F_X11_readEntries_138
        rw [if_neg (fun hh => hh w37), u3.2.2.1, u3.2.1, if_pos (by omega)]
      rw [C1]
      rw [M1] at M0
      rcases J_re hT hb (n' - n) n μ1 ν1 (by omega) (Nat.le_refl _) hV with ⟨μ2, ν2, y1, y2, y3, y4, y5⟩ | ⟨μ2, ν2, y1, y2, y3, y4, y5⟩
      · left
        rw [y1, bXm_inl]
        rw [y2, bMm_some] at M0
        obtain ⟨⟨v1, v2, v3, v4, v5, v6, v7, v8, v9, v10, v11⟩, z1, z2⟩ := id y3
        obtain ⟨rb, tb⟩ := RB_iff.mp v1
        have sk2 := (Sk_iff hT).mp v1.2.2.1
        have g2 : ∀ q, q ≠ 76 → bset ν2 76 40 (E : Int) q = ν2 q := fun q x => bset_q x
        refine ⟨n', L', P', μ2, _, rfl, M0, by simp (disch := first | omega | decide) only [bset_q, bset_k, bset_at], ⟨RB0_cong hT rb (fun _ _ _ _ => rfl) (fun _ _ => rfl) (fun q x _ _ _ => g2 q x) (by simp (disch := first | omega | decide) only [bset_q, bset_k, bset_at]), by rw [g2 79 (by omega)]; exact v6, ?_, ?_, ⟨by simp (disch := first | omega | decide) only [bset_q, bset_k, bset_at]; exact v3.2.2.2, v2.2.1.2.1, v2.2.1.2.2⟩, Or.inr ⟨by omega, ?_, S, TB_cong tb (fun _ _ _ => rfl) (fun q x y => g2 q (by omega)) (by simp (disch := first | omega | decide) only [bset_q, bset_k, bset_at])⟩, h2⟩, Fr_tr fa (Fr_tr q5 y4), Fr_tr fb (Fr_tr q6 (Fr_tr y5 (Fr_b (by unfold sRm; omega))))⟩
        · unfold RO
          rw [g2 80 (by omega)]
          exact v10
        · intro e he
          by_cases x : e < n
          · obtain ⟨t1, t2⟩ := v11 e x
            refine ⟨by omega, fun k hk hr => ?_⟩
            obtain ⟨t3, t4⟩ := t2 k hk hr
            exact ⟨by omega, t4⟩
          · have t1 := (v9 e (by omega) he).2.2.1
            refine ⟨by omega, fun k hk hr => ?_⟩
            have k8 := (sk2.2.1 e (by rw [v1.2.2.2.1.1]; omega)).2.2.2.2.1
            have t2 := z2 e k (by omega) he hk (by omega) hr
            refine ⟨by omega, ?_⟩
            rw [t1]
            exact (v9 _ (by omega) (by omega)).2.2.1
        · rw [y4 30 3 (by unfold sRc; omega), l303, bset_k (by omega), y5 76 54 (by unfold sRm; omega), l54]
      · right
        rw [y1, bXm_inr]
        rw [y2, bMm_some] at M0
        exact ⟨μ2, _, rfl, M0, BadP_same y3 ⟨by simp (disch := first | omega | decide) only [bset_q, bset_k, bset_at], by simp (disch := first | omega | decide) only [bset_q, bset_k, bset_at], by simp (disch := first | omega | decide) only [bset_q, bset_k, bset_at]⟩, Fr_tr fa (Fr_tr q5 y4), Fr_tr fb (Fr_tr q6 (Fr_tr y5 (Fr_b (by unfold sRm; omega))))⟩
    · right
      rw [if_neg (by rw [u2.2.2.1]; omega), C_refuse, bXm_inr]
      have B := Bad1_mk0 (μ := μ1) (ν := ν1) (k := 5) (pl := p') u2.1 (by omega)
      have BR := Bad1_R (T := T) (b := b) B
      have M1 : F_X11_readEntries_138 n ν1 = some (0, wr ν1 5 (0 : Nat) p') := by
        unfold F_X11_readEntries_138
        rw [if_neg (fun hh => hh w37), u3.2.2.1, u3.2.1, if_neg (by omega), M_bad w37, bMm_some]
        exact M170_w hb (by unfold wr; simp (disch := first | omega | decide) only [bset_q, bset_k, bset_at]; exact w3) (BadP_ne B.1)
      rw [M1, bMm_some] at M0
      rw [u2.2.2.1]
      exact ⟨_, _, rfl, M0, BadP_same B.1 ⟨by simp (disch := first | omega | decide) only [bset_q, bset_k, bset_at], by simp (disch := first | omega | decide) only [bset_q, bset_k, bset_at], by simp (disch := first | omega | decide) only [bset_q, bset_k, bset_at]⟩, Fr_tr fa (Fr_tr q5 BR.1), Fr_tr fb (Fr_tr q6 (Fr_tr BR.2 (Fr_b (by unfold sRm; omega))))⟩
  · right
    rw [q1, bXm_inr]
    rw [q2, bMm_some] at M0
    exact ⟨μ1, _, rfl, M0, BadP_same q3 ⟨by simp (disch := first | omega | decide) only [bset_q, bset_k, bset_at], by simp (disch := first | omega | decide) only [bset_q, bset_k, bset_at], by simp (disch := first | omega | decide) only [bset_q, bset_k, bset_at]⟩, Fr_tr fa q4, Fr_tr fb (Fr_tr q5 (Fr_b (by unfold sRm; omega)))⟩
theorem M47_w (h : ν 76 37 ≠ -1) : F_X11_readUnit_47 (a : Int) ν = some (0, ν) := by
  unfold F_X11_readUnit_47
  rw [M_fixed_w (w := 4) h, bMm_some, if_pos h, M87_w h]
theorem J_unit (hs : Src r sz) (hT : T = 31 ∨ T = 61) (hb : b = 0 ∨ b = 1) (hW : WS r sz T b n m L P a μ ν) (m6 : m ≤ 6) (ha : a < sz 0) : UnOk r sz T b m a μ ν := by
  have hz := sz_le hs (j := 0) (by omega)
  obtain ⟨hR, h79, hO, hRR, ⟨h37, h462, h463⟩, hd, _⟩ := id hW
  obtain ⟨⟨r1, r2, r3, r4⟩, _⟩ := id hR
  obtain ⟨μ1, hμ1⟩ : ∃ μ1, μ1 = ov μ 0 a (sz 0) := ⟨_, rfl⟩
  obtain ⟨ν1, hν1⟩ : ∃ ν1, ν1 = bset (bset (bset (bset ν 76 52 (a : Int)) 76 42 0) 76 41 (sz 0 : Int)) 76 40 (a : Int) := ⟨_, rfl⟩
  have o1 : ∀ q, q ≠ 46 → μ1 q = μ q := fun q x => by rw [hμ1, ov_q x]
  have n1 : ∀ q, q ≠ 76 → ν1 q = ν q := fun q x => by rw [hν1]; simp (disch := first | omega | decide) only [bset_q, bset_k, bset_at]
  have k1 : ∀ k, k < 40 ∨ 42 < k ∧ k ≠ 52 → ν1 76 k = ν 76 k := fun k x => by rw [hν1]; simp (disch := first | omega | decide) only [bset_q, bset_k, bset_at]
  have fa : Fr (sWc T) μ μ1 := fun q k x => by rw [o1 q (by unfold sWc sRc at x; omega)]
  have fb : Fr (sWm b) ν ν1 := by
    rw [hν1]
    exact Fr_tr (Fr_tr (Fr_tr (Fr_b (by unfold sWm sRm; omega)) (Fr_b (by unfold sWm sRm; omega))) (Fr_b (by unfold sWm sRm; omega))) (Fr_b (by unfold sWm sRm; omega))
  have e94 : (bset (bset ν 76 52 (a : Int)) 76 42 0) 94 0 = (sz 0 : Int) := by
    rw [bset_q (by decide), bset_q (by decide)]
    exact (r2 0 (by omega)).1
  have cu : Cur 0 a (sz 0) μ1 := by rw [hμ1]; exact Cur_ov h462 h463
  have mu : Mur 0 a (sz 0) ν1 := by
    rw [hν1]
    refine ⟨?_, ?_, ?_, ?_⟩
    · simp (disch := first | omega | decide) only [bset_q, bset_k, bset_at]
      rfl
    · simp (disch := first | omega | decide) only [bset_q, bset_k, bset_at]
    · simp (disch := first | omega | decide) only [bset_q, bset_k, bset_at]
    · simp (disch := first | omega | decide) only [bset_q, bset_k, bset_at, h37]
  have C0 : F_X4_readUnits_37 (sz 0) a m μ = if ¬ (m : Int) = 6 then F_X4_readUnits_77 (sz 0) a m μ1 else some (.inr (.inr ISE, fl μ1 8 a)) := by
    unfold F_X4_readUnits_37
    rw [if_neg (by omega), if_neg (by omega), show (0 : Int) = ((0 : Nat) : Int) from rfl, C_over (by omega), bMm_some, ← hμ1, C_refuse, bXm_inr]
  have M0 : F_X11_readUnit a ν = if ¬ (m : Int) = 6 then F_X11_readUnit_47 a ν1 else bMm (F_X11_bad 8 0 a ν1) (fun w6 μ7 => F_X11_readUnit_47 a μ7) := by
    unfold F_X11_readUnit
    rw [e94, ← hν1, k1 3 (by omega), r4, bG_pos (by omega), Int.toNat_natCast, n1 79 (by omega), h79]
  by_cases c : (m : Int) = 6
  · right
    rw [if_neg (fun hh => hh c)] at C0 M0
    have B := Bad1_mk0 (μ := μ1) (ν := ν1) (k := 8) (pl := a) cu.1 (by omega)
    have BR := Bad1_R (T := T) (b := b) B
    rw [M_bad mu.2.2.2, bMm_some] at M0
    exact ⟨_, _, C0, M0.trans (M47_w (BadP_ne B.1)), B.1, Fr_tr fa (W_c BR.1), Fr_tr fb (W_m BR.2)⟩
  · rw [if_pos c] at C0 M0
    rw [rT_77] at C0
    have hc1 : CSrc r sz μ1 := CSrc_cong r1 fun q x y => o1 q (by omega)
    have hm1 : MSrc r sz ν1 := MSrc_cong r2 fun q x y => n1 q (by omega)
    rcases J_head hs hc1 hm1 cu mu (by omega) with ⟨E, tp, μ2, ν2, x1, x2, x3, x4, x5, x6, x7, x8, x9⟩ | ⟨μ2, ν2, x1, x2, x3, x4, x5⟩
    · rw [x4, bXm_inl] at C0
      rw [x5] at M0
      have o2 : ∀ q, q ≠ 46 → μ2 q = μ q := fun q x => by
        rw [← o1 q x]
        exact funext fun k => x8 q k x
      have n2 : ∀ q, q ≠ 76 → ν2 q = ν q := fun q x => by
        rw [← n1 q x]
        exact funext fun k => x9 q k (fun hh => x hh.1)
      have k2 : ∀ k, k < 37 ∨ 42 < k ∧ k ≠ 52 → ν2 76 k = ν 76 k := fun k x => by
        rw [x9 76 k (by unfold hM; omega), k1 k (by omega)]
      have f2 : Fr (sWc T) μ μ2 := Fr_tr fa (Fr_mono x8 fun q k x => hC_R x)
      have g2 : Fr (sWm b) ν ν2 := Fr_tr fb (Fr_mono x9 fun q k x => hM_R x)
      rcases J_tab (a := a) (E := E) (tp := tp) hs hb (CSrc_cong r1 fun q x y => o2 q (by omega)) (MSrc_cong r2 fun q x y => n2 q (by omega)) (by rw [k2 3 (by omega)]; exact r4) x7.2.2.2 x6.2.1.2.1 x6.2.1.2.2 (by rw [n2 79 (by omega)]; exact h79) x3 (by
          rcases hd with ⟨d1, d2⟩ | ⟨d1, d2, S, d3⟩
          · exact Or.inl ⟨d1, by rw [o2 30 (by omega)]; exact d2⟩
          · exact Or.inr ⟨d1, by rw [o2 30 (by omega), k2 54 (by omega)]; exact d2, S, TB_cong d3 (fun q x y => o2 q (by omega)) (fun q x y => n2 q (by omega)) (k2 43 (by omega))⟩) with ⟨S, μ3, ν3, y1, y2, y3, y4, y5, y6, y7, y8⟩ | ⟨μ3, ν3, y1, y2, y3, y4, y5⟩
      · rw [y1, bXm_inl] at C0
        unfold F_X4_readUnits_138 at C0
        rw [bG_pos (by constructor <;> omega), show (0 : Int) = ((0 : Nat) : Int) from rfl, show (a : Int) + 11 = ((a + 11 : Nat) : Int) from rfl, x6.2.2.2, C_over (by omega), bMm_some] at C0
        rw [y2] at M0
        have o3 : ∀ q, q ≠ 46 → q < 49 ∨ 58 < q → q ≠ 30 → μ3 q = μ q := fun q z1 z2 z3 => by
          rw [← o2 q z1]
          exact funext fun k => y7 q k (by unfold sTc; omega)
        have n3 : ∀ q, q ≠ 76 → q < 104 ∨ 109 < q → ν3 q = ν q := fun q z1 z2 => by
          rw [← n2 q z1]
          exact funext fun k => y8 q k (by unfold sTm; omega)
        have f3 : Fr (sWc T) μ μ3 := Fr_tr f2 (Fr_mono y7 fun q k x => sTc_R x)
        have g3 : Fr (sWm b) ν ν3 := Fr_tr g2 (Fr_mono y8 fun q k x => sTm_R x)
        have hR3 : RB0 r sz T b n m L P μ3 ν3 := RB0_cong hT hR (fun q z1 z2 z3 => o3 q z1 (by omega) z3) (fun k hk => by rw [y7 30 k (by unfold sTc; omega), o2 30 (by omega)]) (fun q z1 _ _ z2 => n3 q z1 (by omega)) (by rw [y8 76 3 (by unfold sTm; omega), k2 3 (by omega)])
        have h52 : ν3 76 52 = (a : Int) := by
          rw [y8 76 52 (by unfold sTm; omega), x9 76 52 (by unfold hM; omega), hν1]
          simp (disch := first | omega | decide) only [bset_q, bset_k, bset_at]
        have hO3 : RO T b m μ3 ν3 := by
          unfold RO
          rw [o3 (T + 1) (by omega) (by omega) (by omega), n3 80 (by omega) (by omega)]
          exact hO
        have hRR3 : RR T n m μ3 := by
          unfold RR
          rw [o3 (T + 4) (by omega) (by omega) (by omega), o3 (T + 10) (by omega) (by omega) (by omega), o3 (T + 12) (by omega) (by omega) (by omega), o3 (T + 13) (by omega) (by omega) (by omega)]
          exact hRR
        rcases J_body hs hT hb hR3 (by rw [n3 79 (by omega) (by omega)]; exact h79) hO3 hRR3 y4.1 y4.2 y3 ⟨y5, y6⟩ h52 (by omega) x1 x2 with ⟨n', L', P', μ', ν', z1, z2, z3, z4, z5, z6⟩ | ⟨μ', ν', z1, z2, z3, z4, z5⟩
        · exact Or.inl ⟨n', L', P', E, μ', ν', by omega, by omega, C0.trans z1, M0.trans z2, z3, z4, Fr_tr f3 (W_c z5), Fr_tr g3 (W_m z6)⟩
        · exact Or.inr ⟨μ', ν', C0.trans z1, M0.trans z2, z3, Fr_tr f3 (W_c z4), Fr_tr g3 (W_m z5)⟩
      · right
        rw [y1, bXm_inr] at C0
        exact ⟨_, _, C0, M0.trans y2, y3, Fr_tr f2 (Fr_mono y4 fun q k x => sTc_R x), Fr_tr g2 (Fr_mono y5 fun q k x => sTm_R x)⟩
    · right
      rw [x1, bXm_inr] at C0
      exact ⟨_, _, C0, M0.trans x2, x3, Fr_tr fa (Fr_mono x4 fun q k x => hC_R x), Fr_tr fb (Fr_mono x5 fun q k x => hM_R x)⟩
/-- all units: from the place a on -/
def AllOk (r : Nat → Nat → Int) (sz : Nat → Nat) (T b m a : Nat) (μ ν : bM) : Prop :=
  (∃ (n' m' L' P' : Nat) (μ' ν' : bM), m' ≤ 6 ∧ bLoop (fun z : Int × Int × bM => F_X4_readUnits_37 (sz 0) z.1 z.2.1 z.2.2) ((a : Int), (m : Int), μ) = some (.inl 0, μ') ∧ bLoop (fun z : Int × bM => F_X11_read_77 z.1 z.2) ((a : Int), ν) = F_X11_read_108 ν' ∧ WS r sz T b n' m' L' P' (sz 0) μ' ν' ∧ Fr (sWc T) μ μ' ∧ Fr (sWm b) ν ν') ∨
  (∃ (μ' ν' : bM), bLoop (fun z : Int × Int × bM => F_X4_readUnits_37 (sz 0) z.1 z.2.1 z.2.2) ((a : Int), (m : Int), μ) = some (.inr ISE, μ') ∧ bLoop (fun z : Int × bM => F_X11_read_77 z.1 z.2) ((a : Int), ν) = F_X11_read_108 ν' ∧ BadP μ' ν' ∧ Fr (sWc T) μ μ' ∧ Fr (sWm b) ν ν')
theorem J_all (hs : Src r sz) (hT : T = 31 ∨ T = 61) (hb : b = 0 ∨ b = 1) : ∀ (d n m L P a : Nat) (μ ν : bM), sz 0 - a ≤ d → m ≤ 6 → WS r sz T b n m L P a μ ν → AllOk r sz T b m a μ ν := by
  intro d
  induction d with
  | zero =>
    intro n m L P a μ ν hd m6 hW
    have ha : a = sz 0 := by
      have := hW.2.2.2.2.2.2
      omega
    subst ha
    left
    refine ⟨n, m, L, P, μ, ν, m6, bLoop_done ?_, bLoop_up ?_, hW, Fr_rf, Fr_rf⟩
    · show F_X4_readUnits_37 (sz 0) (sz 0) m μ = _
      unfold F_X4_readUnits_37
      rw [if_neg (by omega), if_pos (by omega)]
    · show F_X11_read_77 (sz 0) ν = _
      unfold F_X11_read_77
      rw [if_neg (fun hh => hh hW.2.2.2.2.1.1), (hW.1.1.2.1 0 (by omega)).1, if_pos (by omega)]
  | succ d ih =>
    intro n m L P a μ ν hd m6 hW
    by_cases ha : a < sz 0
    · have M0 : F_X11_read_77 a ν = bMm (F_X11_readUnit a ν) (fun w3 μ4 => some (.inl ((μ4 76 40), μ4))) := by
        unfold F_X11_read_77
        rw [if_neg (fun hh => hh hW.2.2.2.2.1.1), (hW.1.1.2.1 0 (by omega)).1, if_neg (by omega)]
      rcases J_unit hs hT hb hW m6 ha with ⟨n', L', P', E', μ1, ν1, x1, x2, x3, x4, x5, x6, x7, x8⟩ | ⟨μ1, ν1, x1, x2, x3, x4, x5⟩
      · rw [x4, bMm_some, x5] at M0
        have s1 := bLoop_step (f := fun z : Int × Int × bM => F_X4_readUnits_37 (sz 0) z.1 z.2.1 z.2.2) (s := ((a : Int), (m : Int), μ)) x3
        have s2 := bLoop_step (f := fun z : Int × bM => F_X11_read_77 z.1 z.2) (s := ((a : Int), ν)) M0
        rcases ih n' (m + 1) L' P' E' μ1 ν1 (by omega) x2 x6 with ⟨n2, m2, L2, P2, μ2, ν2, y0, y1, y2, y3, y4, y5⟩ | ⟨μ2, ν2, y1, y2, y3, y4, y5⟩
        · exact Or.inl ⟨n2, m2, L2, P2, μ2, ν2, y0, s1.trans y1, s2.trans y2, y3, Fr_tr x7 y4, Fr_tr x8 y5⟩
        · exact Or.inr ⟨μ2, ν2, s1.trans y1, s2.trans y2, y3, Fr_tr x7 y4, Fr_tr x8 y5⟩
      · right
        rw [x2, bMm_some] at M0
        have s2 := bLoop_step (f := fun z : Int × bM => F_X11_read_77 z.1 z.2) (s := ((a : Int), ν)) M0
        refine ⟨μ1, ν1, bLoop_done x1, s2.trans (bLoop_up ?_), x3, x4, x5⟩
        show F_X11_read_77 (ν1 76 40) ν1 = _
        unfold F_X11_read_77
        rw [if_pos (BadP_ne x3)]
    · exact ih n m L P a μ ν (by omega) m6 hW
end
end GE
