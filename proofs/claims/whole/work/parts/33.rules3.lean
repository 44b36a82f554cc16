section BE
section
variable {L : Nat} {xs : Nat → Int32} {d i pc len r1 r2 : Nat} {kc v : Int} {lv : List (Nat × Value)} {st : List Value} {μ : bM} {ρ : Type} {κ : ρ → Option bX} {r : ρ}
theorem b_end {x : ax_I} (h : (ax_dt (ax_T i)).lookup pc = some x) (hr : ax_ret (ax_dr (ax_T i)) x st = some (bRv (ax_dr (ax_T i)) v)) (hv : bRt (ax_dr (ax_T i)) v) (hκ : κ r = some (.inl v, μ, 0)) : bD L xs d i pc lv st μ ((some r).bind κ) := by
  show bD L xs d i pc lv st μ (κ r)
  rw [hκ]
  intro hok r' hr'
  cases hr'
  exact ⟨hok, hv, fun f => bRn.ret h hr⟩
theorem b_reti (h : (ax_dt (ax_T i)).lookup pc = some (.ireturn, len, r1, r2, kc)) (hrt : ax_dr (ax_T i) = some .int) (hv : bR v) (hκ : κ r = some (.inl v, μ, 0)) : bD L xs d i pc lv [bI v] μ ((some r).bind κ) :=
  b_end h (by rw [hrt]; rfl) (by rw [hrt]; exact hv) hκ
theorem b_retz (h : (ax_dt (ax_T i)).lookup pc = some (.ireturn, len, r1, r2, kc)) (hrt : ax_dr (ax_T i) = some .boolean) (hv : 0 ≤ v ∧ v ≤ 1) (hκ : κ r = some (.inl v, μ, 0)) : bD L xs d i pc lv [bI v] μ ((some r).bind κ) := by
  refine b_end h ?_ (by rw [hrt]; exact hv) hκ
  rw [hrt]
  have : v = 0 ∨ v = 1 := by omega
  rcases this with rfl | rfl <;> rfl
theorem b_retl (h : (ax_dt (ax_T i)).lookup pc = some (.lreturn, len, r1, r2, kc)) (hrt : ax_dr (ax_T i) = some .long) (hv : bRL v) (hκ : κ r = some (.inl v, μ, 0)) : bD L xs d i pc lv [bLg v] μ ((some r).bind κ) :=
  b_end h (by rw [hrt]; rfl) (by rw [hrt]; exact hv) hκ
theorem b_reta {q : Nat} {c : String} (h : (ax_dt (ax_T i)).lookup pc = some (.areturn, len, r1, r2, kc)) (hrt : ax_dr (ax_T i) = some (.object c)) (hv : bStore q) (hκ : κ r = some (.inl (q : Int), μ, 0)) : bD L xs d i pc lv [.ref q] μ ((some r).bind κ) :=
  b_end h (by rw [hrt]; rfl) (by rw [hrt]; exact hv) hκ
theorem b_retv (h : (ax_dt (ax_T i)).lookup pc = some (.return_, len, r1, r2, kc)) (hrt : ax_dr (ax_T i) = none) (hκ : κ r = some (.inl v, μ, 0)) : bD L xs d i pc lv [] μ ((some r).bind κ) :=
  b_end h (by rw [hrt]; rfl) (by rw [hrt]; trivial) hκ
theorem b_thr {cls text : String} {ik is ic : Nat} {wide : Bool} (h : (ax_dx (ax_T i)).lookup pc = some (cls, text, ik, is, ic, wide)) (hE : cls ∈ ax_Ex) (hst : (st.map fun v => v.category).sum ≤ 30) (hκ : κ r = some (.inr cls, μ, 1)) : bD L xs d i pc lv st μ ((some r).bind κ) := by
  show bD L xs d i pc lv st μ (κ r)
  rw [hκ]
  intro hok r' hr'
  cases hr'
  exact ⟨hok, hE, fun f => bRn.throw_ h hst⟩
end
/-! calls -/
theorem b_rc {μ : bM} {q ci n m len j r2 : Nat} {kc : Int} {as : List Value} (hq : bSh q = (ci + 10, n)) (hc : ci < 10) (hcl : (vwCl[ci]?).map (fun q => q.1) = some (ax_dy (ax_T j)).cls) (f : Bool) : ax_recv ax_T (.invokevirtual m, len, j, r2, kc) (.ref q :: as) (112, bH μ, f) := by
  obtain ⟨q0, rfl, hq0⟩ := bSh_id (q := q) (by rw [hq]; show ci + 10 ≠ 99; omega)
  simp only [ax_recv]
  rw [bH_o hq]
  exact ⟨hq0, hcl⟩
def bXc (r : (Int ⊕ String) × bM) : Option bX := some (r.1, r.2, match r.1 with | .inl _ => 0 | .inr _ => 1)
def bMc (r : Int × bM) : Option bX := some (.inl r.1, r.2, 0)
def bPc (μ : bM) (v : Int) : Option bX := some (.inl v, μ, 0)
def bCc (r : Int × bM × Nat) : Option bX := some (.inl r.1, r.2.1, r.2.2)
def bXm {ρ : Type} (o : Option ((Int ⊕ String) × bM)) (K : Int → bM → Option ρ) (Z : String → bM → Option ρ) : Option ρ := o.bind fun r => match r.1 with
  | .inl v => K v r.2
  | .inr e => Z e r.2
section
variable {L : Nat} {xs : Nat → Int32} {d i pc j : Nat} {lv : List (Nat × Value)} {st as rest : List Value} {μ : bM} {x : ax_I} {ρ : Type} {κ : ρ → Option bX}
theorem b_cM {F : Option (Int × bM)} {K : Int × bM → Option ρ} (h : (ax_dt (ax_T i)).lookup pc = some x) (hc : ax_call x st = some (j, as, rest)) (hre : ∀ f, ax_recv ax_T x as (112, bH μ, f)) (h4 : (rest.map fun v => v.category).sum ≤ 8) (h5 : (lg_sl as).length ≤ ax_dl (ax_T j))
    (kj : bD L xs d j 0 (lv_args 0 as) [] μ (F.bind bMc)) (k : ∀ v μ1, bRt (ax_dr (ax_T j)) v → bD L xs (d + 1) i (pc + 3) lv ((bRv (ax_dr (ax_T j)) v).toList ++ rest) μ1 ((K (v, μ1)).bind κ)) : bD L xs (d + 1) i pc lv st μ ((F.bind K).bind κ) := by
  cases F with
  | none => exact b_n
  | some r =>
    obtain ⟨v, μ1⟩ := r
    intro hok r hr
    obtain ⟨a1, a2, a3⟩ := kj hok (.inl v, μ1, 0) rfl
    obtain ⟨b1, b2, b3⟩ := k v μ1 a2 a1 r hr
    refine ⟨b1, b2, fun f => ?_⟩
    rw [← ax_add0 (bOut (ax_dr (ax_T i)) r f)]
    exact bRn.call h hc (hre f) h4 h5 (a3 f) (fun hh => ⟨hh, rfl⟩) (b3 f)
theorem b_cP {F : Option Int} {K : Int → Option ρ} (h : (ax_dt (ax_T i)).lookup pc = some x) (hc : ax_call x st = some (j, as, rest)) (hre : ∀ f, ax_recv ax_T x as (112, bH μ, f)) (h4 : (rest.map fun v => v.category).sum ≤ 8) (h5 : (lg_sl as).length ≤ ax_dl (ax_T j))
    (kj : bD L xs d j 0 (lv_args 0 as) [] μ (F.bind (bPc μ))) (k : ∀ v, bRt (ax_dr (ax_T j)) v → bD L xs (d + 1) i (pc + 3) lv ((bRv (ax_dr (ax_T j)) v).toList ++ rest) μ ((K v).bind κ)) : bD L xs (d + 1) i pc lv st μ ((F.bind K).bind κ) := by
  cases F with
  | none => exact b_n
  | some v =>
    intro hok r hr
    obtain ⟨a1, a2, a3⟩ := kj hok (.inl v, μ, 0) rfl
    obtain ⟨b1, b2, b3⟩ := k v a2 a1 r hr
    refine ⟨b1, b2, fun f => ?_⟩
    rw [← ax_add0 (bOut (ax_dr (ax_T i)) r f)]
    exact bRn.call h hc (hre f) h4 h5 (a3 f) (fun hh => ⟨hh, rfl⟩) (b3 f)
theorem b_cX {F : Option ((Int ⊕ String) × bM)} {K : Int → bM → Option ρ} {Z : String → bM → Option ρ} (h : (ax_dt (ax_T i)).lookup pc = some x) (hc : ax_call x st = some (j, as, rest)) (hre : ∀ f, ax_recv ax_T x as (112, bH μ, f)) (h4 : (rest.map fun v => v.category).sum ≤ 8) (h5 : (lg_sl as).length ≤ ax_dl (ax_T j))
    (kj : bD L xs d j 0 (lv_args 0 as) [] μ (F.bind bXc)) (k : ∀ v μ1, bRt (ax_dr (ax_T j)) v → bD L xs (d + 1) i (pc + 3) lv ((bRv (ax_dr (ax_T j)) v).toList ++ rest) μ1 ((K v μ1).bind κ)) (hz : ∀ e μ1, (Z e μ1).bind κ = some (.inr e, μ1, 1))
    (h8 : (∀ n, x.1 ≠ .invokespecial n) ∧ ax_dy (ax_T j) ≠ ax_m9) (h10 : ax_dh (ax_T i) = []) : bD L xs (d + 1) i pc lv st μ ((bXm F K Z).bind κ) := by
  cases F with
  | none => exact b_n
  | some r =>
    obtain ⟨w, μ1⟩ := r
    cases w with
    | inl v =>
      intro hok r hr
      obtain ⟨a1, a2, a3⟩ := kj hok (.inl v, μ1, 0) rfl
      obtain ⟨b1, b2, b3⟩ := k v μ1 a2 a1 r hr
      refine ⟨b1, b2, fun f => ?_⟩
      rw [← ax_add0 (bOut (ax_dr (ax_T i)) r f)]
      exact bRn.call h hc (hre f) h4 h5 (a3 f) (fun hh => ⟨hh, rfl⟩) (b3 f)
    | inr e =>
      intro hok r hr
      have hr2 : (Z e μ1).bind κ = some r := hr
      rw [hz] at hr2
      cases hr2
      obtain ⟨a1, a2, a3⟩ := kj hok (.inr e, μ1, 1) rfl
      exact ⟨a1, a2, fun f => bRn.out h hc (hre f) h4 h5 (a3 f) h8 h10⟩
/-- a call in a try: whatever is thrown goes to a handler, or there is nothing to show -/
theorem b_cC {F : Option ((Int ⊕ String) × bM)} {K : Int → bM → Option ρ} {Z : String → bM → Option ρ} (h : (ax_dt (ax_T i)).lookup pc = some x) (hc : ax_call x st = some (j, as, rest)) (hre : ∀ f, ax_recv ax_T x as (112, bH μ, f)) (h4 : (rest.map fun v => v.category).sum ≤ 8) (h5 : (lg_sl as).length ≤ ax_dl (ax_T j))
    (kj : bD L xs d j 0 (lv_args 0 as) [] μ (F.bind bXc)) (k : ∀ v μ1, bRt (ax_dr (ax_T j)) v → bD L xs (d + 1) i (pc + 3) lv ((bRv (ax_dr (ax_T j)) v).toList ++ rest) μ1 ((K v μ1).bind κ)) (h8 : (∀ n, x.1 ≠ .invokespecial n) ∧ ax_dy (ax_T j) ≠ ax_m9)
    (hz : ∀ e μ1, (Z e μ1).bind κ = none ∨ ∃ (hpc jj : Nat) (x2 : ax_I) (G : Option (Int × bM)), ax_hand (ax_dh (ax_T i)) (ax_dn (ax_T i)) pc e = some hpc ∧ (ax_dt (ax_T i)).lookup hpc = some x2 ∧ ax_hst x2 = some jj ∧ jj < ax_dl (ax_T i) ∧ bD L xs (d + 1) i (hpc + x2.2.1) (ax_drop lv jj) [] μ1 (G.bind bMc) ∧ (Z e μ1).bind κ = G.bind fun r => some (.inl r.1, r.2, 1)) : bD L xs (d + 1) i pc lv st μ ((bXm F K Z).bind κ) := by
  cases F with
  | none => exact b_n
  | some r =>
    obtain ⟨w, μ1⟩ := r
    cases w with
    | inl v =>
      intro hok r hr
      obtain ⟨a1, a2, a3⟩ := kj hok (.inl v, μ1, 0) rfl
      obtain ⟨b1, b2, b3⟩ := k v μ1 a2 a1 r hr
      refine ⟨b1, b2, fun f => ?_⟩
      rw [← ax_add0 (bOut (ax_dr (ax_T i)) r f)]
      exact bRn.call h hc (hre f) h4 h5 (a3 f) (fun hh => ⟨hh, rfl⟩) (b3 f)
    | inr e =>
      intro hok r hr
      have hr2 : (Z e μ1).bind κ = some r := hr
      obtain ⟨a1, a2, a3⟩ := kj hok (.inr e, μ1, 1) rfl
      rcases hz e μ1 with hn | ⟨hpc, jj, x2, G, z1, z2, z3, z4, z5, z6⟩
      · rw [hn] at hr2; cases hr2
      · rw [z6] at hr2
        cases G with
        | none => cases hr2
        | some g =>
          obtain ⟨gv, gm⟩ := g
          cases hr2
          obtain ⟨b1, b2, b3⟩ := z5 a1 (.inl gv, gm, 0) rfl
          refine ⟨b1, b2, fun f => ?_⟩
          have := bRn.catch_ h hc (hre f) h4 h5 (a3 f) a2 h8 z1 z2 z3 z4 (fun hh => by cases hh) (b3 false)
          exact this
end
/-! loops -/
def bRep {σ ρ : Type} (f : σ → Option (σ ⊕ ρ)) : Nat → σ → Option ρ
  | 0, _ => none
  | n + 1, s => match f s with
    | none => none
    | some (.inl s') => bRep f n s'
    | some (.inr r) => some r
theorem bRep_more {σ ρ : Type} {f : σ → Option (σ ⊕ ρ)} {r : ρ} : ∀ (n m : Nat) (s : σ), bRep f n s = some r → n ≤ m → bRep f m s = some r
  | 0, _, _, h, _ => by cases h
  | n + 1, 0, _, _, h => by omega
  | n + 1, m + 1, s, h, hm => by
    unfold bRep at h ⊢
    cases hf : f s with
    | none => rw [hf] at h; cases h
    | some w =>
      rw [hf] at h
      cases w with
      | inl s' => exact bRep_more n m s' h (by omega)
      | inr r' => exact h
noncomputable def bLoop {σ ρ : Type} (f : σ → Option (σ ⊕ ρ)) (s : σ) : Option ρ := @dite (Option ρ) (∃ n, (bRep f n s).isSome = true) (Classical.propDecidable _) (fun h => bRep f (Classical.choose h) s) (fun _ => none)
theorem bLoop_of {σ ρ : Type} {f : σ → Option (σ ⊕ ρ)} {s : σ} {r : ρ} {n : Nat} (h : bRep f n s = some r) : bLoop f s = some r := by
  have hx : ∃ n, (bRep f n s).isSome = true := ⟨n, by rw [h]; rfl⟩
  unfold bLoop
  rw [dif_pos hx]
  have hc := Classical.choose_spec hx
  cases hq : bRep f (Classical.choose hx) s with
  | none => rw [hq] at hc; cases hc
  | some r' =>
    rcases Nat.le_total n (Classical.choose hx) with hl | hl
    · exact hq.symm.trans (bRep_more _ _ s h hl)
    · exact (bRep_more _ _ s hq hl).symm.trans h
theorem bLoop_ex {σ ρ : Type} {f : σ → Option (σ ⊕ ρ)} {s : σ} {r : ρ} (h : bLoop f s = some r) : ∃ n, bRep f n s = some r := by
  unfold bLoop at h
  by_cases hx : ∃ n, (bRep f n s).isSome = true
  · rw [dif_pos hx] at h
    exact ⟨_, h⟩
  · rw [dif_neg hx] at h
    cases h
/-- a loop, unrolled once -/
theorem bLoop_step {σ ρ : Type} {f : σ → Option (σ ⊕ ρ)} {s s' : σ} (h : f s = some (.inl s')) : bLoop f s = bLoop f s' := by
  cases hq : bLoop f s' with
  | some r =>
    obtain ⟨n, hn⟩ := bLoop_ex hq
    refine bLoop_of (n := n + 1) ?_
    unfold bRep
    rw [h]
    exact hn
  | none =>
    cases hp : bLoop f s with
    | none => rfl
    | some r =>
      exfalso
      obtain ⟨n, hn⟩ := bLoop_ex hp
      cases n with
      | zero => cases hn
      | succ n =>
        unfold bRep at hn
        rw [h] at hn
        rw [bLoop_of (r := r) hn] at hq
        cases hq
theorem bLoop_done {σ ρ : Type} {f : σ → Option (σ ⊕ ρ)} {s : σ} {r : ρ} (h : f s = some (.inr r)) : bLoop f s = some r := by
  refine bLoop_of (n := 1) ?_
  unfold bRep
  rw [h]
theorem b_loop {L : Nat} {xs : Nat → Int32} {d i pc : Nat} {st : List Value} {σ ρ : Type} {f : σ → Option (σ ⊕ ρ)} {κ : ρ → Option bX} (lvf : σ → List (Nat × Value)) (mf : σ → bM) (P : σ → Prop)
    (hb : ∀ κ' : σ ⊕ ρ → Option bX, (∀ r, κ' (.inr r) = κ r) → (∀ s, P s → bD L xs d i pc (lvf s) st (mf s) (κ' (.inl s))) → ∀ s, P s → bD L xs d i pc (lvf s) st (mf s) ((f s).bind κ')) (s : σ) (hs : P s) : bD L xs d i pc (lvf s) st (mf s) ((bLoop f s).bind κ) := by
  have hn : ∀ n s, P s → bD L xs d i pc (lvf s) st (mf s) ((bRep f n s).bind κ) := by
    intro n
    induction n with
    | zero => intro s _; exact b_n
    | succ n ih =>
      intro s hs
      have e : (bRep f (n + 1) s).bind κ = (f s).bind (fun w => match w with | .inl s' => (bRep f n s').bind κ | .inr r => κ r) := by
        have e2 : bRep f (n + 1) s = (match f s with | none => none | some (.inl s') => bRep f n s' | some (.inr r) => some r) := rfl
        rw [e2]
        cases f s with
        | none => rfl
        | some w => cases w <;> rfl
      rw [e]
      exact hb _ (fun _ => rfl) (fun s' h' => ih s' h') s hs
  cases h : bLoop f s with
  | none => exact b_n
  | some r =>
    obtain ⟨n, hr⟩ := bLoop_ex h
    have := hn n s hs
    rw [hr] at this
    exact this
/-! switches -/
def bTg : List (Int × Nat) → Nat → Int → Nat
  | [], t, _ => t
  | q :: r, t, a => if a = q.1 then q.2 else bTg r t a
def bTt (pc : Nat) : Int → List Int → List (Int × Nat)
  | _, [] => []
  | lo, o :: r => (lo, ((pc : Int) + o).toNat) :: bTt pc (lo + 1) r
def bTl (pc : Nat) : List (Int × Int) → List (Int × Nat)
  | [] => []
  | q :: r => (q.1, ((pc : Int) + q.2).toNat) :: bTl pc r
theorem bTt_in {pc t : Nat} : ∀ (offs : List Int) (lo a off : Int), lo ≤ a → offs[(a - lo).toNat]? = some off → bTg (bTt pc lo offs) t a = ((pc : Int) + off).toNat
  | [], lo, a, off, _, h => by simp at h
  | o :: r, lo, a, off, hl, h => by
    unfold bTt bTg
    simp only
    by_cases c : a = lo
    · rw [if_pos c]
      subst c
      simp at h
      rw [h]
    · rw [if_neg c]
      refine bTt_in r (lo + 1) a off (by omega) ?_
      rw [show (a - lo).toNat = (a - (lo + 1)).toNat + 1 by omega] at h
      simpa using h
theorem bTt_out {pc t : Nat} : ∀ (offs : List Int) (lo a : Int), (a < lo ∨ lo + offs.length ≤ a) → bTg (bTt pc lo offs) t a = t
  | [], _, _, _ => rfl
  | o :: r, lo, a, h => by
    unfold bTt bTg
    simp only
    have hl : (o :: r).length = r.length + 1 := rfl
    rw [hl] at h
    rw [if_neg (by omega)]
    exact bTt_out r (lo + 1) a (by omega)
theorem bTl_at {pc : Nat} {dflt a : Int} : ∀ (ps : List (Int × Int)), bTg (bTl pc ps) ((pc : Int) + dflt).toNat a = ((pc : Int) + Op.lookupswitch.offset ps dflt a).toNat
  | [] => rfl
  | (k, o) :: r => by
    unfold bTl bTg Op.lookupswitch.offset
    simp only
    by_cases c : a = k
    · subst c
      simp
    · have c2 : ¬ k = a := fun h => c h.symm
      rw [if_neg c]
      first
        | rw [if_neg c]; exact bTl_at r
        | rw [if_neg c2]; exact bTl_at r
        | (simp only [beq_iff_eq, c, c2, if_false]; exact bTl_at r)
section
variable {L : Nat} {xs : Nat → Int32} {d i pc len r1 r2 : Nat} {kc a : Int} {lv : List (Nat × Value)} {st : List Value} {μ : bM} {o : Option bX} {ρ : Type} {κ : ρ → Option bX}
theorem b_tsw {dflt lo hi : Int} {offs : Array Int} (h : (ax_dt (ax_T i)).lookup pc = some (.tableswitch dflt lo hi offs, len, r1, r2, kc)) (ha : bR a) (hh : hi = lo + offs.size - 1) (h0 : 0 ≤ (pc : Int) + dflt) (h1 : ∀ off ∈ offs.toList, 0 ≤ (pc : Int) + off)
    (k : bD L xs d i (bTg (bTt pc lo offs.toList) ((pc : Int) + dflt).toNat a) lv st μ o) : bD L xs d i pc lv (bI a :: st) μ o := by
  refine b_s h (fun M => ?_) k
  have : ax_switch (.tableswitch dflt lo hi offs, len, r1, r2, kc) pc lv (bI a :: st) M = some (bTg (bTt pc lo offs.toList) ((pc : Int) + dflt).toNat a, lv, st, M, 0, 0) := by
    simp only [ax_switch, bi_t ha]
    by_cases c : a < lo ∨ hi < a
    · rw [if_pos c, bTt_out _ _ _ (by rw [Array.length_toList]; omega)]
      unfold ax_to
      rw [if_pos h0]
    · rw [if_neg c]
      have hlt : (a - lo).toNat < offs.size := by omega
      have hg : offs[(a - lo).toNat]? = some offs[(a - lo).toNat] := Array.getElem?_eq_getElem hlt
      rw [hg]
      simp only
      have hg2 : offs.toList[(a - lo).toNat]? = some offs[(a - lo).toNat] := by rw [Array.getElem?_toList]; exact hg
      rw [bTt_in offs.toList lo a _ (by omega) hg2]
      unfold ax_to
      rw [if_pos (h1 _ (List.mem_of_getElem? hg2))]
  show (ax_ints _ pc lv (bI a :: st) M <|> (ax_longs _ pc lv (bI a :: st) M <|> (none <|> (none <|> (none <|> (ax_switch (.tableswitch dflt lo hi offs, len, r1, r2, kc) pc lv (bI a :: st) M <|> _)))))) = _
  rw [bz_ints_ts, bz_longs_ts, this]
  rfl
theorem bTl_off {dflt a : Int} {p : Int → Prop} : ∀ (ps : List (Int × Int)), p dflt → (∀ q ∈ ps, p q.2) → p (Op.lookupswitch.offset ps dflt a)
  | [], h, _ => h
  | (k, o) :: r, h, hq => by
    unfold Op.lookupswitch.offset
    split
    · exact hq _ List.mem_cons_self
    · exact bTl_off r h (fun q h2 => hq q (List.mem_cons_of_mem _ h2))
theorem b_lsw {dflt : Int} {ps : Array (Int × Int)} (h : (ax_dt (ax_T i)).lookup pc = some (.lookupswitch dflt ps, len, r1, r2, kc)) (ha : bR a) (hh : (ps.toList.zip (ps.toList.drop 1)).all (fun (a, next) => a.1 < next.1) = true) (h0 : 0 ≤ (pc : Int) + dflt) (h1 : ∀ q ∈ ps.toList, 0 ≤ (pc : Int) + q.2)
    (k : bD L xs d i (bTg (bTl pc ps.toList) ((pc : Int) + dflt).toNat a) lv st μ o) : bD L xs d i pc lv (bI a :: st) μ o := by
  refine b_s h (fun M => ?_) k
  have : ax_switch (.lookupswitch dflt ps, len, r1, r2, kc) pc lv (bI a :: st) M = some (bTg (bTl pc ps.toList) ((pc : Int) + dflt).toNat a, lv, st, M, 0, 0) := by
    simp only [ax_switch, bi_t ha]
    rw [if_pos hh, bTl_at]
    unfold ax_to
    rw [if_pos (bTl_off (p := fun z => 0 ≤ (pc : Int) + z) ps.toList h0 h1)]
  show (ax_ints _ pc lv (bI a :: st) M <|> (ax_longs _ pc lv (bI a :: st) M <|> (none <|> (none <|> (none <|> (ax_switch (.lookupswitch dflt ps, len, r1, r2, kc) pc lv (bI a :: st) M <|> _)))))) = _
  rw [bz_ints_ls, bz_longs_ls, this]
  rfl
theorem b_tg {k : Int} {t dt : Nat} {r : List (Int × Nat)} {E1 E2 : Option ρ} (k1 : a = k → bD L xs d i t lv st μ (E1.bind κ)) (k2 : ¬ a = k → bD L xs d i (bTg r dt a) lv st μ (E2.bind κ)) : bD L xs d i (bTg ((k, t) :: r) dt a) lv st μ ((if a = k then E1 else E2).bind κ) := by
  unfold bTg
  by_cases c : a = k
  · rw [if_pos c, if_pos c]; exact k1 c
  · rw [if_neg c, if_neg c]; exact k2 c
end
end BE
