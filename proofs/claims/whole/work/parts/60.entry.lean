/-! FROM THE LAW'S ENTRY TO THE PURE MACHINE -/
section EN
theorem en_str : ∀ k ∈ ax_Ss, Cond.stringRef k.1 k.2.1 k.2.2 ∈ lw_tbl ∧ Cond.exactly (.string k.1 k.2.1) "java/lang/String" ∈ flatC (Jvm.Cond.and given_1 narrow_1) := by decide +kernel
theorem en_cast : ∀ E ∈ ax_Ex, Cond.castable E E ∈ lw_tbl := by decide +kernel
theorem en_decl : ∀ y ∈ ax_De, Cond.declares y ∈ lw_tbl := by decide +kernel
theorem en_nc : ∀ E ∈ ax_Ex, ∀ E2 ∈ ax_Ex, E ≠ E2 → Cond.not (.castable E E2) ∈ flatC (Jvm.Cond.and given_1 narrow_1) := by decide +kernel
theorem en_nest : Cond.methodLinkNest ax_n9 ax_j9 ax_m9 ax_o9 ∈ lw_tbl := by decide +kernel
theorem en_z1 : Cond.laysStatic Bundle.tN "UNASSIGNED_STACK" Bundle.steD ∈ lw_tbl ∧ Cond.laysStatic Bundle.tN "SUPPRESSED_SENTINEL" Bundle.listD ∈ lw_tbl ∧ Cond.initialized Bundle.tN ∈ lw_tbl := by decide +kernel
theorem en_z2 : Cond.isRef (.static Bundle.tN "UNASSIGNED_STACK" Bundle.steD) ∈ flatC (Jvm.Cond.and given_1 narrow_1) ∧ Cond.isRef (.static Bundle.tN "SUPPRESSED_SENTINEL" Bundle.listD) ∈ flatC (Jvm.Cond.and given_1 narrow_1) := by decide +kernel
theorem en_inst : ∀ q ∈ vwCl, Cond.instantiable q.1 q.2.2 ∈ lw_tbl := by decide +kernel
theorem en_arr : Cond.arrayClass .byte ∈ lw_tbl ∧ Cond.arrayClass .int ∈ lw_tbl ∧ Cond.arrayClass .long ∈ lw_tbl ∧ Cond.arrayClass .boolean ∈ lw_tbl := by decide +kernel
theorem en_arrT {args : Array Value} {s : State} {ty : FieldType} (h : (Cond.arrayClass ty).before args s = true) : ∃ cA : ClassId, ArrOfT s cA ty ∧ s.vm.findClass ("[" ++ ty.toString) = some cA := by
  obtain ⟨cA, kA, comp, h1, h2, h3⟩ := Cond.arrayClass_spec (show (Cond.arrayClass ty).holds args s none s [] = true from h)
  exact ⟨cA, fun n z => ⟨fun k h => (by cases h), kA, h2, comp, h3⟩, h1⟩
end EN
