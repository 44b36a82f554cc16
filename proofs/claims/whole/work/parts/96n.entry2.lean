section FW
def sYc (T n q k : Nat) : Prop := sEc T n q k ∨ T ≤ q ∧ q ≤ T + 10
def sYm (b n P q k : Nat) : Prop := sEm b n P q k ∨ q = 78 ∧ k = b ∨ 81 ≤ q ∧ q ≤ 84 ∧ k = 400 * b + n ∨ q = 110 ∧ k = n
section
variable {r : Nat → Nat → Int} {sz : Nat → Nat} {μ ν μ' ν' : bM} {T b e A p E L P j s sI N n m S u0 fi : Nat} {o deep : Int}
/-- where the next entry goes -/
def Opn (T b n m : Nat) (o deep : Int) (μ ν : bM) : Prop := o = -1 ∧ deep = 0 ∧ m < 6 ∧ ν 79 b = (m : Int) + 1 ∨ ∃ on : Nat, o = (on : Int) ∧ on < n ∧ deep = μ (T + 5) on + 1 ∧ ν 79 b = (m : Int) ∧ μ (T + 4) on = (m : Int) - 1
theorem C_readE (hT : T = 31 ∨ T = 61) (h30 : μ 30 0 = (T : Int)) (hS : Sk T b μ ν) (hn : μ T 1 = (n : Int)) (hm : μ T 0 = (m : Int)) (ho : Opn T b n m o deep μ ν) (hsI : sI < 200) :
    ((n = 400 ∨ 30 < deep) ∧ F_X4_readEntry o sI fi μ = some (.inr ISE, fl μ 8 fi)) ∨ (n < 400 ∧ deep ≤ 30 ∧ ∃ μ3, addC T n m (μ 50 sI) o (ν 79 b - 1) deep μ μ3 ∧ (∀ q, (q < T ∨ T + 10 < q) → μ3 q = μ q) ∧ F_X4_readEntry o sI fi μ = bLoop (fun z : Int × bM => F_X4_readEntry_89 sI n z.1 z.2) (0, μ3)) := by
  obtain ⟨⟨s1, s2, s3⟩, s4, s5, s6⟩ := (Sk_iff hT).mp hS
  have R : ∀ v2, F_X4_readEntry_32 v2 sI fi μ = some (.inr ISE, fl μ 8 fi) := fun v2 => by
    unfold F_X4_readEntry_32
    rw [C_refuse, bXm_inr]
  unfold F_X4_readEntry
  rw [h30, Int.toNat_natCast, hn, R]
  by_cases c4 : n = 400
  · left
    rw [if_pos (by omega)]
    exact ⟨Or.inl c4, rfl⟩
  · rw [if_neg (by omega)]
    rcases ho with ⟨o1, o2, o3, o4⟩ | ⟨on, o1, o2, o3, o4, o5⟩
    · right
      subst o1
      obtain ⟨μ3, a1, a2, a3⟩ := C_addRoot (T := T) (n := n) (m := m) (μ := μ) (tag := μ 50 sI) hn hm (by omega) o3
      refine ⟨by omega, by omega, μ3, ?_, a3, ?_⟩
      · rw [o4, o2, show (m : Int) + 1 - 1 = m by omega]; exact a2
      · rw [if_pos rfl]
        unfold F_X4_readEntry_43
        rw [if_neg (fun hh => hh rfl), bG_pos (by omega), h30, Int.toNat_natCast, Int.toNat_natCast, a1, bMm_some]
    · subst o1
      obtain ⟨⟨p1, p2, p3, p4⟩, p5, p6, p7, p8, p9, p10, p11⟩ := s4 on (by omega)
      obtain ⟨q1, q2, q3, q4, q5⟩ := s6 on (by omega)
      rw [show (μ T 1).toNat = n by omega] at q1 q2 q3
      rw [if_neg (c := (on : Int) = -1) (by omega), bG_pos (by omega), Int.toNat_natCast]
      by_cases c : μ (T + 5) on = 30
      · left
        rw [if_neg (fun hh => hh c)]
        exact ⟨Or.inr (by omega), rfl⟩
      · right
        obtain ⟨μ3, a1, a2, a3⟩ := C_addChild (T := T) (n := n) (m := m) (p := on) (μ := μ) (tag := μ 50 sI) hn (by omega) hm o2 (by
            rw [q1]
            have := cntC_0 (f := μ (T + 3)) (p := (on : Int)) n
            have := cntC_le (f := μ (T + 3)) (p := (on : Int)) n
            omega) (by
            rw [q1, q3]
            intro hne
            rcases lstC_spec (f := μ (T + 3)) (p := (on : Int)) n with ⟨x1, x2⟩ | ⟨x, x1, x2, x3, x4⟩
            · exfalso
              apply hne
              exact (cntC_scan n).mpr (scan_no fun k _ hk => x2 k (by omega))
            · rw [x3]; omega) p9
        refine ⟨by omega, by omega, μ3, ?_, a3, ?_⟩
        · rw [o4, o3, ← o5]; exact a2
        · rw [if_pos c]
          unfold F_X4_readEntry_43
          rw [if_pos (by omega), bG_pos (by omega), h30, Int.toNat_natCast, Int.toNat_natCast, a1, bMm_some]
theorem M_ent_w {v1 v3 v6 : Int} (h : ν 76 37 ≠ -1) : F_X11_readEntry_96 v1 v3 v6 ν = some (-1, ν) := by
  unfold F_X11_readEntry_96
  rw [if_neg h]
theorem M_67_w {v1 v2 v3 v6 : Int} (hb : b = 0 ∨ b = 1) (h3 : ν 76 3 = (b : Int)) (h : ν 76 37 ≠ -1) : F_X11_readEntry_67 v1 v2 v3 v6 ν = some (-1, ν) := by
  unfold F_X11_readEntry_67 F_X11_readEntry_88
  rw [M_badno h, bMm_some, M_ent_w h, h3, bG_pos (by omega)]
  split
  · rfl
  · split <;> rfl
def EntOk (r : Nat → Nat → Int) (sz : Nat → Nat) (T b S n m P p E u0 fi sI : Nat) (o deep : Int) (μ ν : bM) : Prop :=
  (∃ (p' L' P' : Nat) (μ' ν' : bM), F_X4_readEntry o sI fi μ = some (.inl (n : Int), μ') ∧ F_X11_readEntry_67 o deep fi sI ν = some ((n : Int), bset ν' 76 53 (ν' 106 sI)) ∧ RB r sz T b S (n + 1) (m + if o = -1 then 1 else 0) L' P' μ' ν' ∧ Cur 0 p' E μ' ∧ Mur 0 p' E ν' ∧ p ≤ p' ∧ p' ≤ E ∧ ν' 110 n = (fi : Int) - u0 ∧
    (n < 400 ∧ deep ≤ 30 ∧ (∀ j : Nat, μ' (T + 1) j = if o = -1 ∧ j = m then (n : Int) else μ (T + 1) j) ∧ (∀ j : Nat, μ' (T + 3) j = if j = n then o else μ (T + 3) j) ∧ (∀ j : Nat, μ' (T + 4) j = if j = n then ν 79 b - 1 else μ (T + 4) j) ∧ (∀ j : Nat, μ' (T + 5) j = if j = n then deep else μ (T + 5) j) ∧ ∀ j, j < n → μ' (T + 10) j = μ (T + 10) j) ∧ Fr (sYc T n) μ μ' ∧ Fr (sYm b n P) ν ν') ∨
  (∃ (μ' ν' : bM) (v : Int), F_X4_readEntry o sI fi μ = some (.inr ISE, μ') ∧ F_X11_readEntry_67 o deep fi sI ν = some (v, ν') ∧ BadP μ' ν' ∧ Fr (sYc T n) μ μ' ∧ (n < 400 ∧ Fr (sYm b n P) ν ν' ∨ Fr (fun q k => q = 76 ∧ 37 ≤ k ∧ k ≤ 40) ν ν'))
theorem addC_fr {tag par u d : Int} (h : ∀ q, (q < T ∨ T + 10 < q) → μ' q = μ q) : Fr (sYc T n) μ μ' := fun q k x => by
  rw [h q (by unfold sYc at x; omega)]
theorem mkM_fr {tag par u : Int} : Fr (sYm b n P) ν (mkM ν b n tag par u) := by
  unfold mkM
  exact Fr_tr (Fr_tr (Fr_tr (Fr_tr (Fr_b (by unfold sYm; omega)) (Fr_b (by unfold sYm; omega))) (Fr_b (by unfold sYm; omega))) (Fr_b (by unfold sYm; omega))) (Fr_b (by unfold sYm; omega))
theorem J_entry (hs : Src r sz) (hT : T = 31 ∨ T = 61) (hb : b = 0 ∨ b = 1) (hR : RB r sz T b S n m L P μ ν) (h : Cur 0 p E μ) (h' : Mur 0 p E ν) (hp : p ≤ E) (hE : E ≤ sz 0) (hsI : sI < S) (ho : Opn T b n m o deep μ ν) (hfi : fi ≤ 24000) (hu : ν 76 52 = (u0 : Int)) (huf : u0 ≤ fi) : EntOk r sz T b S n m P p E u0 fi sI o deep μ ν := by
  obtain ⟨⟨r1, r2, r3, r4⟩, r5, r6, ⟨r7, r8⟩, ⟨r9, r10, r11, r12, r13, r14, r15⟩, r16, r17⟩ := id hR
  obtain ⟨⟨s1, s2, s3⟩, s4, s5, s6⟩ := (Sk_iff hT).mp r6
  have S2 : S ≤ 200 := r5.1
  obtain ⟨⟨t1, t2⟩, t3, N, t4, t5, t6, t7⟩ := (r5.2.2.2.2.1 sI hsI).1
  have h37 : ν 76 37 = -1 := h'.2.2.2
  rcases C_readE (fi := fi) hT r3 r6 r7 r8 ho (show sI < 200 by omega) with ⟨c1, c2⟩ | ⟨c1, c2, μ3, c3, c4, c5⟩
  · right
    have hk : F_X11_readEntry_67 o deep fi sI ν = some (-1, wr ν 8 (0 : Nat) fi) := by
      have e88 : F_X11_readEntry_88 o fi sI ν = some (-1, wr ν 8 (0 : Nat) fi) := by
        unfold F_X11_readEntry_88
        rw [M_bad h37, bMm_some, M_ent_w (by unfold wr; simp (disch := first | omega | decide) only [bset_q, bset_k, bset_at]; omega)]
        rfl
      unfold F_X11_readEntry_67
      rw [e88, r4, bG_pos (by omega), Int.toNat_natCast, s3, r7]
      by_cases x : n = 400
      · rw [if_pos (by omega)]
      · rw [if_neg (by omega), if_neg (by omega)]
    have B := Bad1_mk0 (μ := μ) (ν := ν) (k := 8) h.1 hfi
    refine ⟨_, _, _, c2, hk, B.1, fun q k x => ?_, Or.inr fun q k x => ?_⟩
    · rw [B.2.1 q (by unfold sYc sEc at x; omega)]
    · by_cases y : q = 76
      · subst y
        exact B.2.2.2 k (by omega)
      · rw [B.2.2.1 q y]
  · obtain ⟨ν4, hν4⟩ : ∃ ν4, ν4 = bset (mkM ν b n (ν 105 sI) o (ν 79 b - 1)) 110 n ((fi : Int) - u0) := ⟨_, rfl⟩
    have f4 : Fr (sYm b n P) ν ν4 := by rw [hν4]; exact Fr_tr mkM_fr (Fr_b (by unfold sYm; omega))
    have f3 : Fr (sYc T n) μ μ3 := fun q k x => by rw [c4 q (by unfold sYc at x; omega)]
    have u79 : 0 ≤ ν 79 b ∧ ν 79 b ≤ 7 := by
      rcases ho with ⟨o1, o2, o3, o4⟩ | ⟨on, o1, o2, o3, o4, o5⟩ <;> omega
    have M67 : F_X11_readEntry_67 o deep fi sI ν = bLoop (fun z : Int × bM => F_X11_readEntry_147 sI n z.1 z.2) (0, ν4) := by
      unfold F_X11_readEntry_67
      rw [r4, bG_pos (by omega), Int.toNat_natCast, s3, r7, if_neg (by omega), if_pos c2]
      unfold F_X11_readEntry_96
      rw [if_pos h37, bG_pos (by omega), r4, bG_pos (by omega), Int.toNat_natCast, Int.toNat_natCast, bG_pos (by constructor <;> omega), M_make2 hb r4 (by rw [s3]; exact r7) c1, bMm_some,
        show mkM ν b n (ν 105 sI) o (ν 79 b - 1) 76 52 = u0 by unfold mkM; simp (disch := first | omega | decide) only [bset_q, bset_k, bset_at, hu], bG_pos (by constructor <;> omega), bG_pos (by omega), Int.toNat_natCast, hν4]
    have sk4 : Sk T b μ3 ν4 := by
      have q0 : Sk T b μ3 (mkM ν b n (μ 50 sI) o (ν 79 b - 1)) := by
        refine Sk_add hT r6 r7 r8 c1 (by omega) (by rw [t1]; exact t2) ?_ c3
        rcases ho with ⟨o1, o2, o3, o4⟩ | ⟨on, o1, o2, o3, o4, o5⟩
        · exact Or.inl ⟨o1, by omega, o2, o3⟩
        · refine Or.inr ⟨by omega, ?_, ?_, c2⟩
          · rw [o1, Int.toNat_natCast]; omega
          · rw [o1, Int.toNat_natCast]; exact o3
      rw [t1] at q0
      rw [Sk_iff hT] at q0 ⊢
      rw [hν4, bset_q (by decide), bset_q (by decide), bset_q (by decide), bset_q (by decide), bset_q (by decide)]
      exact q0
    obtain ⟨⟨k1, k0⟩, a1, a2, a3, a4, a5, a6, a7, a8, a9, a10⟩ := id c3
    have c4r : ∀ q k, (q < T ∨ T + 10 < q) → μ3 q k = μ q k := fun q k x => by rw [c4 q x]
    have hm4 : ∀ q, 85 ≤ q → q ≠ 110 → ν4 q = ν q := fun q x y => by rw [hν4, bset_q y]; unfold mkM; simp (disch := first | omega | decide) only [bset_q, bset_k, bset_at]
    have h476 : ∀ k, ν4 76 k = ν 76 k := fun k => by rw [hν4, bset_q (by decide)]; unfold mkM; simp (disch := first | omega | decide) only [bset_q, bset_k, bset_at]
    have hec : EC r sz T b sI N P μ3 ν4 := by
      refine ⟨CSrc_cong r1 fun q x y => c4 q (by omega), MSrc_cong r2 fun q x y => hm4 q (by omega) (by omega), by rw [c4r 30 0 (by omega)]; exact r3, by rw [h476]; exact r4, by rw [c4r 52 _ (by omega)]; exact t5, by rw [hm4 107 (by omega) (by omega)]; exact t6, ?_, r14, fun i hi => by rw [hm4 92 (by omega) (by omega)]; exact r15 i hi⟩
      unfold rowsP
      rw [c4 53 (by omega), c4 54 (by omega), hm4 108 (by omega) (by omega), hm4 109 (by omega) (by omega)]
      exact t7
    have hes : ES r sz T b n E L sI 0 p L P μ3 ν4 := by
      refine ⟨?_, ?_, hp, by rw [a10, if_pos rfl]; rfl, by rw [hν4, bset_q (by decide)]; unfold mkM; simp (disch := first | omega | decide) only [bset_q, bset_k, bset_at]; rfl, by rw [c4r 30 4 (by omega)]; exact r9, by rw [hm4 90 (by omega) (by omega)]; exact r10, r11, by rw [hm4 91 (by omega) (by omega)]; exact r12, r13, ?_, fun k hk => by omega⟩
      · unfold Cur
        rw [c4 46 (by omega)]
        exact h
      · unfold Mur
        rw [h476, h476, h476, h476]
        exact h'
      · show (L : Int) = L + 0
        omega
    have monoC : ∀ q k, sEc T n q k → sYc T n q k := fun q k x => Or.inl x
    have monoM : ∀ q k, sEm b n P q k → sYm b n P q k := fun q k x => Or.inl x
    rcases J_ats hs hT hb hE c1 (show sI < 200 by omega) t4 N 0 p L P μ3 ν4 (by omega) hec hes with ⟨p', L', P', μ', ν', q1, q2, q3, q4, q5, q6, q7⟩ | ⟨μ', ν', q1, q2, q3, q4, q5⟩
    · left
      obtain ⟨e1, e2, e3, e4, e5, e6, e7, e8, e9, e10, e11, e12⟩ := id q3
      have gC : Fr (sYc T n) μ μ' := Fr_tr f3 (Fr_mono q6 monoC)
      have gM : Fr (sYm b n P) ν ν' := Fr_tr f4 (Fr_mono q7 monoM)
      have rC : ∀ q, T ≤ q → q ≤ T + 9 → μ' q = μ3 q := fun q x y => funext fun k => q6 q k (by unfold sEc; omega)
      have x10 : ∀ j, j < n → μ' (T + 10) j = μ (T + 10) j := fun j hj => by rw [q6 (T + 10) j (by unfold sEc; omega), a10, if_neg (by omega)]
      have slot : ∀ q j, T + 11 ≤ q → q ≤ T + 14 → j < 8 * n → μ' q j = μ q j := fun q j x y z => by rw [q6 q j (by unfold sEc; omega), c4 q (by omega)]
      have P2 : ν 91 b ≤ ν' 91 b := by omega
      refine ⟨p', L', P', μ', ν', c5.trans q1, M67.trans q2, ?_, e1, e2, q4, e3, ?_, ⟨c1, c2, ?_, ?_, ?_, ?_, x10⟩, gC, gM⟩
      · refine ⟨⟨CSrc_fr r1 gC fun q k x y => by unfold sYc sEc; omega, MSrc_fr r2 gM fun q k x y => by unfold sYm sEm; omega, ?_, ?_⟩, ?_, ?_, ⟨?_, ?_⟩, ⟨e6, e7, e8, e9, e10, by omega, fun i hi => ?_⟩, ?_, fun e he k hk => ?_⟩
        · rw [gC 30 0 (by unfold sYc sEc; omega)]; exact r3
        · rw [gM 76 3 (by unfold sYm sEm; omega)]; exact r4
        · refine TB_cong r5 (fun q x y => funext fun k => gC q k (by unfold sYc sEc; omega)) (fun q x y => funext fun k => gM q k (by unfold sYm sEm; omega)) (gM 76 43 (by unfold sYm sEm; omega))
        · refine Sk_att (n := n + 1) (e := n) hT sk4 (by rw [k1]; rfl) rC (fun q k x => q7 q k (by unfold sEm; omega)) (fun j x y => ⟨q6 _ _ (by unfold sEc; omega), q7 _ _ (by unfold sEm; omega)⟩) e4 e5 t4
        · rw [rC T (by omega) (by omega), k1]; rfl
        · rw [rC T (by omega) (by omega), k0]
          by_cases x : o = -1
          · rw [if_pos x, if_pos x]; rfl
          · rw [if_neg x, if_neg x]; rfl
        · rw [gM 92 _ (by unfold sYm sEm; omega)]; exact r15 i hi
        · show _ = sumI (fun e => sumI (fun k => μ' (T + 14) (8 * e + k)) (μ' (T + 10) e).toNat) n + sumI (fun k => μ' (T + 14) (8 * n + k)) (μ' (T + 10) n).toNat
          rw [e4, Int.toNat_natCast, sumI_congr (g := fun e => sumI (fun k => μ (T + 14) (8 * e + k)) (μ (T + 10) e).toNat) n (fun i hi => ?_), ← r16]
          · exact e11
          · rw [x10 i hi]
            have z := (s4 i (by omega)).2.2.2.2.1
            exact sumI_congr _ fun k hk => slot _ _ (by omega) (by omega) (by omega)
        · by_cases c : e = n
          · subst c
            rw [e4] at hk
            obtain ⟨x1, x2⟩ := e12 k (by omega)
            refine ⟨x1, fun i hi => ?_⟩
            rw [x2, (e12 i (by omega)).2, show ν' 108 = ν 108 from funext fun k => gM 108 k (by unfold sYm sEm; omega)]
            exact (t7 k (by omega)).2.2.2 i hi
          · have he2 : e < n := by omega
            rw [x10 e he2] at hk
            have z := (s4 e (by omega)).2.2.2.2.1
            obtain ⟨x1, x2⟩ := r17 e he2 k hk
            have gq : ∀ q, q = 60 ∨ T + 11 ≤ q ∧ q ≤ T + 14 → μ' q (8 * e + k) = μ q (8 * e + k) := fun q hq => by
              rcases hq with hq | hq
              · rw [hq]; exact gC _ _ (by unfold sYc sEc; omega)
              · exact slot _ _ (by omega) (by omega) (by omega)
            refine ⟨At0_cong x1 gq (fun q x y => gM _ _ (by unfold sYm sEm; omega)) (gM _ _ (by unfold sYm sEm; omega)) P2 (fun k x y => gM _ _ (by unfold sYm sEm; omega)), fun i hi => ?_⟩
            rw [slot _ _ (by omega) (by omega) (by omega), slot _ _ (by omega) (by omega) (by omega)]
            exact x2 i hi
      · rw [q7 110 n (by unfold sEm; omega), hν4, bset_at]
      · intro j; rw [rC (T + 1) (by omega) (by omega)]; exact a1 j
      · intro j; rw [rC (T + 3) (by omega) (by omega)]; exact a3 j
      · intro j; rw [rC (T + 4) (by omega) (by omega)]; exact a4 j
      · intro j; rw [rC (T + 5) (by omega) (by omega)]; exact a5 j
    · right
      exact ⟨μ', ν', _, c5.trans q1, M67.trans q2, q3, Fr_tr f3 (Fr_mono q4 monoC), Or.inl ⟨c1, Fr_tr f4 (Fr_mono q5 monoM)⟩⟩
end
end FW
