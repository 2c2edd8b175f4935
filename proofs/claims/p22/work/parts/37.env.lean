theorem all_app {p : Cond → Prop} {a b : List Cond} (ha : ∀ w ∈ a, p w) (hb : ∀ w ∈ b, p w) : ∀ w ∈ a ++ b, p w := fun w h => (List.mem_append.mp h).elim (ha w) (hb w)
theorem wsL_law_x0 : ∀ w ∈ (vx_atS RX3 65 "java/lang/IllegalStateException" ["java/lang/RuntimeException", "java/lang/Exception"]).filter goodWord, w ∈ lw_tbl := by decide +kernel
theorem wsL_law_x1 : ∀ w ∈ (vx_atS RX3 58 "java/lang/IllegalArgumentException" ["java/lang/RuntimeException", "java/lang/Exception"]).filter goodWord, w ∈ lw_tbl := by decide +kernel
theorem wsL_law_x2 : ∀ w ∈ (vx_atS RX3 235 "java/lang/IndexOutOfBoundsException" ["java/lang/RuntimeException", "java/lang/Exception"]).filter goodWord, w ∈ lw_tbl := by decide +kernel
theorem wsL_law_in0 : ∀ w ∈ wsL_law0, w ∈ lw_tbl :=
  all_app (all_app (all_app (all_app (all_app (all_app inl_r1 (all_app inl_r2 (all_app inl_r3 (all_app inl_r4 (all_app inl_r5 (all_app inl_r6 (all_app inl_r7 (all_app inl_r8 (all_app inl_r9 (all_app inl_r10 (all_app inl_r11 inl_r12))))))))))) inl_X3) inl_X1) inl_X2) inl_X0) (fun _ h => absurd h List.not_mem_nil)
theorem wsL_law_in : ∀ w ∈ wsL_law, w ∈ lw_tbl := all_app (all_app (all_app wsL_law_in0 wsL_law_x0) wsL_law_x1) wsL_law_x2
theorem env_nest : ∀ w ∈ nestWs, w ∈ lw_tbl := by decide +kernel
theorem env_cast : ∀ E ∈ castWs, Cond.castable E E ∈ lw_tbl := by decide +kernel
theorem env_decl : ∀ y ∈ declWs, Cond.declares y ∈ lw_tbl := by decide +kernel
theorem env_mln : Cond.methodLinkNest RX1 25 yX3_isOutside RX3 ∈ lw_tbl := by decide +kernel
theorem env_str : ∀ q ∈ strWs, Cond.stringRef RX3 q.1 q.2 ∈ lw_tbl := by decide +kernel
theorem env_zq : Cond.laysStatic Bundle.tN "UNASSIGNED_STACK" Bundle.steD ∈ lw_tbl ∧ Cond.laysStatic Bundle.tN "SUPPRESSED_SENTINEL" Bundle.listD ∈ lw_tbl ∧ Cond.initialized Bundle.tN ∈ lw_tbl := by decide +kernel
theorem env_ao : (∀ C ∈ [RX0, RX1, RX2], Cond.arrayOver (.object C) ∈ lw_tbl) ∧ Cond.arrayOver (.array .long) ∈ lw_tbl ∧ Cond.arrayClass .long ∈ lw_tbl ∧ Cond.arrayClass .int ∈ lw_tbl := by decide +kernel
theorem env_in : Cond.instantiable RX0 10 ∈ lw_tbl ∧ Cond.instantiable RX1 4 ∈ lw_tbl ∧ Cond.instantiable RX2 3 ∈ lw_tbl ∧ Cond.instantiable RX3 9 ∈ lw_tbl := by decide +kernel
set_option maxRecDepth 100000 in
theorem env_nc : ∀ E ∈ castWs, ∀ F ∈ castWs, E ≠ F → Cond.not (.castable E F) ∈ flatC (Cond.and given_1 narrow_1) := by decide +kernel
set_option maxRecDepth 100000 in
theorem env_ref : Cond.isRef (.static Bundle.tN "UNASSIGNED_STACK" Bundle.steD) ∈ flatC (Cond.and given_1 narrow_1) ∧ Cond.isRef (.static Bundle.tN "SUPPRESSED_SENTINEL" Bundle.listD) ∈ flatC (Cond.and given_1 narrow_1) := by decide +kernel
theorem prim_ok {U : State} {args : Array Value} {ty : FieldType} (h : (Cond.arrayClass ty).before args U = true) : ∃ cA : ClassId, ArrOfT U cA ty ∧ U.vm.findClass ("[" ++ ty.toString) = some cA := by
  obtain ⟨cA, k, comp, h1, h2, h3⟩ := Cond.arrayClass_spec h
  exact ⟨cA, fun n z => ⟨fun k h => (by cases h), k, h2, comp, h3⟩, h1⟩
theorem obj_ok {U : State} {args : Array Value} {C : String} (h : (Cond.arrayOver (.object C)).before args U = true) : ∃ cA : ClassId, ArrOfT U cA (.object C) ∧ va_RA U cA (.object C) := by
  obtain ⟨comp, cA, k, h1, h2, h3, h4, h5⟩ := Cond.arrayOver_spec h
  exact ⟨cA, fun n z => ⟨fun k h => (by cases h), k, h3, comp, h4⟩, k, comp, h3, h4, h1, h5⟩
theorem arr_ok {U : State} {args : Array Value} {t : FieldType} (h : (Cond.arrayOver (.array t)).before args U = true) : ∃ cA : ClassId, ArrOfT U cA (.array t) ∧ U.vm.findClass ("[" ++ (FieldType.array t).toString) = some cA := by
  obtain ⟨comp, cA, k, h1, h3, h4, h5⟩ := Cond.arrayOver_specA h
  exact ⟨cA, fun n z => ⟨fun k h => (by cases h), k, h3, comp, h4⟩, h5⟩
