theorem wq_793 : (Cond.instantiable "GlyphPositions" (12 : Nat)) ∈ q_tbl := q_tab1 (List.mem_of_getElem? (i := 21) rfl) rfl
theorem wq_794 : (Cond.instantiable "GlyphPositionsModel" (34 : Nat)) ∈ q_tbl := q_tab4 (List.mem_of_getElem? (i := 47) rfl) rfl
theorem wq_795 : (Cond.arrayClass .long) ∈ q_tbl := q_tab5 (List.mem_of_getElem? (i := 231) rfl) rfl
theorem wq_796 : (Cond.classLink "GlyphPositionsLaw" (8 : Nat) "GlyphPositions") ∈ q_tbl := q_tab1 (List.mem_of_getElem? (i := 20) rfl) rfl
theorem wq_797 : (Cond.methodLink "GlyphPositionsLaw" (42 : Nat) ({ cls := "GlyphPositions", name := "<init>", desc := "()V" } : MethodName)) ∈ q_tbl := q_tab1 (List.mem_of_getElem? (i := 22) rfl) rfl
theorem wq_798 : (Cond.code ({ cls := "GlyphPositions", name := "<init>", desc := "()V" } : MethodName) prog_1_method_1_code (1 : Nat) (none : Option Jvm.ClassFile.FieldType)) ∈ q_tbl := q_tab1 (List.mem_of_getElem? (i := 24) rfl) rfl
theorem wq_799 : (Cond.instanceMethod ({ cls := "GlyphPositions", name := "<init>", desc := "()V" } : MethodName)) ∈ q_tbl := q_tab1 (List.mem_of_getElem? (i := 23) rfl) rfl
theorem wq_800 : (Cond.classLink "GlyphPositionsLaw" (43 : Nat) "GlyphPositionsModel") ∈ q_tbl := q_tab4 (List.mem_of_getElem? (i := 46) rfl) rfl
theorem wq_801 : (Cond.methodLink "GlyphPositionsLaw" (45 : Nat) ({ cls := "GlyphPositionsModel", name := "<init>", desc := "()V" } : MethodName)) ∈ q_tbl := q_tab4 (List.mem_of_getElem? (i := 48) rfl) rfl
theorem wq_802 : (Cond.code ({ cls := "GlyphPositionsModel", name := "<init>", desc := "()V" } : MethodName) prog_12_method_1_code (1 : Nat) (none : Option Jvm.ClassFile.FieldType)) ∈ q_tbl := q_tab4 (List.mem_of_getElem? (i := 50) rfl) rfl
theorem wq_803 : (Cond.instanceMethod ({ cls := "GlyphPositionsModel", name := "<init>", desc := "()V" } : MethodName)) ∈ q_tbl := q_tab4 (List.mem_of_getElem? (i := 49) rfl) rfl
theorem q_Nt.of {s : State} {args : Array Value} (hts : ∀ w ∈ lw_tbl, w.before args s = true) : q_Nt s := fun w hw => by
  have h1 := hts w (List.mem_filter.mp hw).1
  have hg := (List.mem_filter.mp hw).2
  clear hw
  revert h1 hg
  cases w <;> intro h1 hg <;> first | exact va_Nw.of rfl h1 | cases hg
theorem q_dtbl_in : ∀ w ∈ q_dtbl, w ∈ lw_tbl := by decide +kernel
theorem q_strs_in : ∀ t ∈ q_strs, Cond.stringRef "GlyphPositions" t.1 t.2 ∈ lw_tbl ∧ Cond.exactly (.string "GlyphPositions" t.1) "java/lang/String" ∈ flatC (Jvm.Cond.and given_1 narrow_1) := by decide +kernel
theorem q_Zt0 {s : State} {args : Array Value} (hts : ∀ w ∈ lw_tbl, w.before args s = true) (hgv : (Jvm.Cond.and given_1 narrow_1).before args s = true) : q_Zt s := by
  have hs := flat_of_before _ hgv
  refine ⟨⟨fun w hw => ?_, va_Nc.of (hs (.not (.castable "java/lang/IllegalArgumentException" "java/lang/IndexOutOfBoundsException")) (by decide +kernel)), va_Nc.of (hs (.not (.castable "java/lang/IllegalStateException" "java/lang/IllegalArgumentException")) (by decide +kernel))⟩,
    q_sta.of (hts _ (by decide +kernel)) (hs (.isRef (.static "java/lang/Throwable" "UNASSIGNED_STACK" "[Ljava/lang/StackTraceElement;")) (by decide +kernel)),
    q_sta.of (hts _ (by decide +kernel)) (hs (.isRef (.static "java/lang/Throwable" "SUPPRESSED_SENTINEL" "Ljava/util/List;")) (by decide +kernel)), fun t ht => ?_⟩
  · have h1 := hts w (q_dtbl_in w hw)
    have hg := q_dtbl_all w hw
    clear hw
    revert h1 hg
    cases w <;> intro h1 hg <;> first | exact va_Nw.of rfl h1 | cases hg
  · obtain ⟨h1, h2⟩ := q_strs_in t ht
    obtain ⟨a, _, _, _, h3, -⟩ := Cond.exactly_spec (hs _ h2)
    exact ⟨a, vk_R.of (hts _ h1) h3⟩
