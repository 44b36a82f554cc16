section AXT
variable {Ss : List (String × Nat × String)} {Nw : Cond} {dC : Nat → ClassId} {dI : Nat → Nat → Nat} {cy : Nat → ClassId} {b base L : Nat} {xs : Nat → Int32} {T : Nat → ax_D} {a9 : String} {i9 : Nat} {x9 : MethodName}
theorem ax_fits : ∀ E ∈ ax_Ex, Bundle.fit E = true := by decide +kernel
theorem ax_fitUp : ∀ n ∈ ax_Up, Bundle.fit n = true := by decide +kernel
theorem ax_P_throw {d i pc : Nat} {lv : List (Nat × Value)} {st : List Value} {M : ax_M} {cls text : String} {ik is ic : Nat} {wide : Bool} (hT : ∀ j, ax_okM Ss T a9 i9 x9 (T j)) (hx : (ax_dx (T i)).lookup pc = some (cls, text, ik, is, ic, wide)) (hst : (st.map fun v => v.category).sum ≤ 30) :
    ax_P Ss Nw dC dI cy b base L xs T d i pc lv st M (.inr cls, (M.1, M.2.1, false), 1, 6) := by
  intro p l e R s m args below meth c Qc XC MC MS cells slots hl X ht hlk hrt hin hRf hRl hRc hRs hMc hMs hE
  obtain ⟨hE0, hS0, hdh, d0, d3, dw, hw, hng⟩ := (hT i).2.2.2.2.2.1 pc _ hx
  obtain ⟨hx2, hb, hml, hown, hts, hF⟩ := X
  obtain ⟨f1, f2, f3, f4, f5, f6, f7, f8, f9, f10⟩ := hF
  obtain ⟨sa, hsa⟩ := f4 _ hS0
  intro H locs ls hP hS hE2 hl2
  have hcast : (Cond.castable cls cls).before args s = true := va_Nw.use rfl (f5.1 cls hE0)
  have hBB : ∀ w ∈ ax_De.map Cond.declares ++ [.castable cls cls], w.before args s = true := by
    intro w h
    rcases List.mem_append.mp h with h | h
    · obtain ⟨y, hy, rfl⟩ := List.mem_map.mp h
      exact va_Nw.use rfl (f5.2 y hy)
    · rw [List.mem_singleton.mp h]; exact hcast
  have hat : ∀ w ∈ vx_atS (ax_dy (T i)).cls ic cls ax_Up, w.before args s = true :=
    vx_hat (B := ax_De.map Cond.declares ++ [.castable cls cls]) (fun w h => hts w (hw w (List.mem_cons_of_mem _ (List.mem_cons_of_mem _ h)))) (fun w h => by rw [hng] at h; exact h) hBB
  have hgood : ∀ w ∈ Cond.classLink (ax_dy (T i)).cls ik cls :: Cond.initialized cls :: vx_atS (ax_dy (T i)).cls ic cls ax_Up, vx_ot w = true := by
    intro w h
    rcases List.mem_cons.mp h with rfl | h
    · rfl
    rcases List.mem_cons.mp h with rfl | h
    · rfl
    by_cases g : goodWord w = true
    · unfold vx_ot; rw [g, Bool.or_true]
    · have : w ∈ (vx_atS (ax_dy (T i)).cls ic cls ax_Up).filter (fun w => !goodWord w) := List.mem_filter.mpr ⟨h, by simpa using g⟩
      rw [hng] at this
      rcases List.mem_append.mp this with h | h
      · obtain ⟨y, hy, rfl⟩ := List.mem_map.mp h
        rfl
      · rw [List.mem_singleton.mp h]; rfl
  have hout : ∀ (n : Nat), ∀ x ∈ c.exceptionTable.toList, covers x n = false := fun n x h => by
    rw [ht, hdh] at h
    cases h
  have hxx : ∀ t : State, s.vm.Alike t.vm → H.size ≤ t.heap.size → (∀ q : Nat, q < H.size → t.heap[q]? = H[q]?) → XC cls s t := fun t h1 h2 h3 =>
    hE t h1 ⟨Nat.le_trans hS.1 h2, fun q q1 q2 => (h3 q (Nat.lt_of_lt_of_le q1 hS.1)).trans (hS.2.1 q q1 q2)⟩ (hP.kept (fun k q hq => h3 q.1 ((hP k q hq).lt)))
  have hrl : ((st.map (ax_tr b base)).map fun v => v.category).sum + (13 * (ax_Up.length + 1) + 43) ≤ R.locals := by
    rw [ax_cats]
    show _ + (13 * 3 + 43) ≤ _
    omega
  cases wide with
  | false =>
    exact vx_throwS hx2 hb hl hown (ax_fits cls hE0) ax_fitUp (hts _ (hw _ List.mem_cons_self)) (hts _ (hw _ (List.mem_cons_of_mem _ List.mem_cons_self))) hsa hat hgood f2 f3 hS (by rw [hml]; exact hl2.1) d0 d3 dw.1 dw.2.1 dw.2.2 (hout _) (by show 2 + 3 < R.frames; omega) hrl (by simp only at hRc; omega) (by simp only at hRs; omega) hlk hxx hS.2.2 hMc hMs
  | true =>
    exact vx_throwSW hx2 hb hl hown (ax_fits cls hE0) ax_fitUp (hts _ (hw _ List.mem_cons_self)) (hts _ (hw _ (List.mem_cons_of_mem _ List.mem_cons_self))) hsa hat hgood f2 f3 hS (by rw [hml]; exact hl2.1) d0 d3 dw.1 dw.2.1 dw.2.2 (hout _) (by show 2 + 3 < R.frames; omega) hrl (by simp only at hRc; omega) (by simp only at hRs; omega) hlk hxx hS.2.2 hMc hMs
end AXT
