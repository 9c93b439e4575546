theorem wq_0 : (Cond.fieldLink "GlyphPositions$Table" (15 : Nat) "GlyphPositions$Table" "size" "I") ∈ q_tbl := q_tab1 (List.mem_of_getElem? (i := 35) (by decide +kernel)) rfl
theorem wq_1 : (Cond.fieldLink "GlyphPositions$Table" (9 : Nat) "GlyphPositions$Table" "bytes" "[B") ∈ q_tbl := q_tab1 (List.mem_of_getElem? (i := 34) (by decide +kernel)) rfl
theorem wq_2 : (Cond.methodLink "GlyphPositions$Table" (25 : Nat) ({ cls := "GlyphPositions$Table", name := "u16", desc := "(I)I" } : MethodName)) ∈ q_tbl := q_tab2 (List.mem_of_getElem? (i := 57) (by decide +kernel)) rfl
theorem wq_3 : (Cond.constant "java/lang/Integer" (265 : Nat) (1431655765 : Int32)) ∈ q_tbl := q_tab2 (List.mem_of_getElem? (i := 124) (by decide +kernel)) rfl
theorem wq_4 : (Cond.constant "java/lang/Integer" (266 : Nat) (858993459 : Int32)) ∈ q_tbl := q_tab2 (List.mem_of_getElem? (i := 125) (by decide +kernel)) rfl
theorem wq_5 : (Cond.constant "java/lang/Integer" (267 : Nat) (252645135 : Int32)) ∈ q_tbl := q_tab2 (List.mem_of_getElem? (i := 126) (by decide +kernel)) rfl
theorem wq_6 : (Cond.constant "java/lang/Integer" (127 : Nat) (-2147483648 : Int32)) ∈ q_tbl := q_tab2 (List.mem_of_getElem? (i := 61) (by decide +kernel)) rfl
theorem wq_7 : (Cond.methodLink "java/lang/Integer" (259 : Nat) ({ cls := "java/lang/Integer", name := "compare", desc := "(II)I" } : MethodName)) ∈ q_tbl := q_tab2 (List.mem_of_getElem? (i := 62) (by decide +kernel)) rfl
theorem wq_8 : (Cond.code ({ cls := "GlyphPositions$Table", name := "u16", desc := "(I)I" } : MethodName) prog_8_method_7_code (2 : Nat) (some .int)) ∈ q_tbl := q_tab2 (List.mem_of_getElem? (i := 40) (by decide +kernel)) rfl
theorem wq_9 : (Cond.initialized "GlyphPositions$Table") ∈ q_tbl := q_tab1 (List.mem_of_getElem? (i := 2) (by decide +kernel)) rfl
theorem wq_10 : (Cond.selects "GlyphPositions$Table" ({ cls := "GlyphPositions$Table", name := "u16", desc := "(I)I" } : MethodName) ({ cls := "GlyphPositions$Table", name := "u16", desc := "(I)I" } : MethodName)) ∈ q_tbl := q_tab2 (List.mem_of_getElem? (i := 39) (by decide +kernel)) rfl
theorem wq_11 : (Cond.instanceMethod ({ cls := "GlyphPositions$Table", name := "u16", desc := "(I)I" } : MethodName)) ∈ q_tbl := q_tab2 (List.mem_of_getElem? (i := 38) (by decide +kernel)) rfl
theorem wq_12 : (Cond.code ({ cls := "java/lang/Integer", name := "compare", desc := "(II)I" } : MethodName) prog_17_method_40_code (2 : Nat) (some .int)) ∈ q_tbl := q_tab2 (List.mem_of_getElem? (i := 64) (by decide +kernel)) rfl
theorem wq_13 : (Cond.initialized "java/lang/Integer") ∈ q_tbl := q_tab1 (List.mem_of_getElem? (i := 16) (by decide +kernel)) rfl
theorem wq_14 : (Cond.static ({ cls := "java/lang/Integer", name := "compare", desc := "(II)I" } : MethodName)) ∈ q_tbl := q_tab2 (List.mem_of_getElem? (i := 63) (by decide +kernel)) rfl
theorem cal_Table_u16 : q_calV y_Table_u16 b_Table_u16 2 ((some .int)) 1 := ⟨⟨wq_8, wq_9, by decide +kernel, by decide +kernel, by decide +kernel⟩, wq_11, wq_10⟩
theorem cal_Integer_compare : q_calS y_Integer_compare b_Integer_compare 2 ((some .int)) 2 := ⟨⟨wq_12, wq_13, by decide +kernel, by decide +kernel, by decide +kernel⟩, wq_14⟩
