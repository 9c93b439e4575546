def R_GlyphPositionsLaw : String := "GlyphPositionsLaw"
abbrev b_GlyphPositionsLaw_put : ByteArray := method_3_code
def y_GlyphPositionsLaw_put : MethodName := ⟨R_GlyphPositionsLaw, "put", "(LGlyphPositions;II[J)I"⟩
theorem d_GlyphPositionsLaw_put_0 : decode b_GlyphPositionsLaw_put 0 = .ok (.aload_n 3, 1) := by decide +kernel
theorem d_GlyphPositionsLaw_put_1 : decode b_GlyphPositionsLaw_put 1 = .ok (.iconst 0, 1) := by decide +kernel
theorem d_GlyphPositionsLaw_put_2 : decode b_GlyphPositionsLaw_put 2 = .ok (.aload_n 0, 1) := by decide +kernel
theorem d_GlyphPositionsLaw_put_3 : decode b_GlyphPositionsLaw_put 3 = .ok (.iload_n 1, 1) := by decide +kernel
theorem d_GlyphPositionsLaw_put_4 : decode b_GlyphPositionsLaw_put 4 = .ok (.iload_n 2, 1) := by decide +kernel
theorem d_GlyphPositionsLaw_put_5 : decode b_GlyphPositionsLaw_put 5 = .ok (.invokevirtual 7, 3) := by decide +kernel
theorem d_GlyphPositionsLaw_put_8 : decode b_GlyphPositionsLaw_put 8 = .ok (.i2l, 1) := by decide +kernel
theorem d_GlyphPositionsLaw_put_9 : decode b_GlyphPositionsLaw_put 9 = .ok (.lastore, 1) := by decide +kernel
theorem d_GlyphPositionsLaw_put_10 : decode b_GlyphPositionsLaw_put 10 = .ok (.goto 11, 3) := by decide +kernel
theorem d_GlyphPositionsLaw_put_13 : decode b_GlyphPositionsLaw_put 13 = .ok (.astore 4, 2) := by decide +kernel
theorem d_GlyphPositionsLaw_put_15 : decode b_GlyphPositionsLaw_put 15 = .ok (.iconst 1, 1) := by decide +kernel
theorem d_GlyphPositionsLaw_put_16 : decode b_GlyphPositionsLaw_put 16 = .ok (.ireturn, 1) := by decide +kernel
theorem d_GlyphPositionsLaw_put_17 : decode b_GlyphPositionsLaw_put 17 = .ok (.astore 4, 2) := by decide +kernel
theorem d_GlyphPositionsLaw_put_19 : decode b_GlyphPositionsLaw_put 19 = .ok (.iconst 2, 1) := by decide +kernel
theorem d_GlyphPositionsLaw_put_20 : decode b_GlyphPositionsLaw_put 20 = .ok (.ireturn, 1) := by decide +kernel
theorem d_GlyphPositionsLaw_put_21 : decode b_GlyphPositionsLaw_put 21 = .ok (.iconst 0, 1) := by decide +kernel
theorem d_GlyphPositionsLaw_put_22 : decode b_GlyphPositionsLaw_put 22 = .ok (.ireturn, 1) := by decide +kernel
abbrev b_GlyphPositionsLaw_cut : ByteArray := method_4_code
def y_GlyphPositionsLaw_cut : MethodName := ⟨R_GlyphPositionsLaw, "cut", "(LGlyphPositions;I[J)I"⟩
theorem d_GlyphPositionsLaw_cut_0 : decode b_GlyphPositionsLaw_cut 0 = .ok (.aload_n 2, 1) := by decide +kernel
theorem d_GlyphPositionsLaw_cut_1 : decode b_GlyphPositionsLaw_cut 1 = .ok (.iconst 0, 1) := by decide +kernel
theorem d_GlyphPositionsLaw_cut_2 : decode b_GlyphPositionsLaw_cut 2 = .ok (.aload_n 0, 1) := by decide +kernel
theorem d_GlyphPositionsLaw_cut_3 : decode b_GlyphPositionsLaw_cut 3 = .ok (.iload_n 1, 1) := by decide +kernel
theorem d_GlyphPositionsLaw_cut_4 : decode b_GlyphPositionsLaw_cut 4 = .ok (.invokevirtual 17, 3) := by decide +kernel
theorem d_GlyphPositionsLaw_cut_7 : decode b_GlyphPositionsLaw_cut 7 = .ok (.i2l, 1) := by decide +kernel
theorem d_GlyphPositionsLaw_cut_8 : decode b_GlyphPositionsLaw_cut 8 = .ok (.lastore, 1) := by decide +kernel
theorem d_GlyphPositionsLaw_cut_9 : decode b_GlyphPositionsLaw_cut 9 = .ok (.goto 6, 3) := by decide +kernel
theorem d_GlyphPositionsLaw_cut_12 : decode b_GlyphPositionsLaw_cut 12 = .ok (.astore_n 3, 1) := by decide +kernel
theorem d_GlyphPositionsLaw_cut_13 : decode b_GlyphPositionsLaw_cut 13 = .ok (.iconst 1, 1) := by decide +kernel
theorem d_GlyphPositionsLaw_cut_14 : decode b_GlyphPositionsLaw_cut 14 = .ok (.ireturn, 1) := by decide +kernel
theorem d_GlyphPositionsLaw_cut_15 : decode b_GlyphPositionsLaw_cut 15 = .ok (.iconst 0, 1) := by decide +kernel
theorem d_GlyphPositionsLaw_cut_16 : decode b_GlyphPositionsLaw_cut 16 = .ok (.ireturn, 1) := by decide +kernel
abbrev b_GlyphPositionsLaw_kind : ByteArray := method_5_code
def y_GlyphPositionsLaw_kind : MethodName := ⟨R_GlyphPositionsLaw, "kind", "(LGlyphPositions;IIII)I"⟩
theorem d_GlyphPositionsLaw_kind_0 : decode b_GlyphPositionsLaw_kind 0 = .ok (.aload_n 0, 1) := by decide +kernel
theorem d_GlyphPositionsLaw_kind_1 : decode b_GlyphPositionsLaw_kind 1 = .ok (.iload_n 1, 1) := by decide +kernel
theorem d_GlyphPositionsLaw_kind_2 : decode b_GlyphPositionsLaw_kind 2 = .ok (.iload_n 2, 1) := by decide +kernel
theorem d_GlyphPositionsLaw_kind_3 : decode b_GlyphPositionsLaw_kind 3 = .ok (.iload_n 3, 1) := by decide +kernel
theorem d_GlyphPositionsLaw_kind_4 : decode b_GlyphPositionsLaw_kind 4 = .ok (.iload 4, 2) := by decide +kernel
theorem d_GlyphPositionsLaw_kind_6 : decode b_GlyphPositionsLaw_kind 6 = .ok (.invokevirtual 21, 3) := by decide +kernel
theorem d_GlyphPositionsLaw_kind_9 : decode b_GlyphPositionsLaw_kind 9 = .ok (.goto 11, 3) := by decide +kernel
theorem d_GlyphPositionsLaw_kind_12 : decode b_GlyphPositionsLaw_kind 12 = .ok (.astore 5, 2) := by decide +kernel
theorem d_GlyphPositionsLaw_kind_14 : decode b_GlyphPositionsLaw_kind 14 = .ok (.iconst 1, 1) := by decide +kernel
theorem d_GlyphPositionsLaw_kind_15 : decode b_GlyphPositionsLaw_kind 15 = .ok (.ireturn, 1) := by decide +kernel
theorem d_GlyphPositionsLaw_kind_16 : decode b_GlyphPositionsLaw_kind 16 = .ok (.astore 5, 2) := by decide +kernel
theorem d_GlyphPositionsLaw_kind_18 : decode b_GlyphPositionsLaw_kind 18 = .ok (.iconst 2, 1) := by decide +kernel
theorem d_GlyphPositionsLaw_kind_19 : decode b_GlyphPositionsLaw_kind 19 = .ok (.ireturn, 1) := by decide +kernel
theorem d_GlyphPositionsLaw_kind_20 : decode b_GlyphPositionsLaw_kind 20 = .ok (.iconst 0, 1) := by decide +kernel
theorem d_GlyphPositionsLaw_kind_21 : decode b_GlyphPositionsLaw_kind 21 = .ok (.ireturn, 1) := by decide +kernel
abbrev b_GlyphPositionsLaw_feature : ByteArray := method_6_code
def y_GlyphPositionsLaw_feature : MethodName := ⟨R_GlyphPositionsLaw, "feature", "(LGlyphPositions;IZ)I"⟩
theorem d_GlyphPositionsLaw_feature_0 : decode b_GlyphPositionsLaw_feature 0 = .ok (.aload_n 0, 1) := by decide +kernel
theorem d_GlyphPositionsLaw_feature_1 : decode b_GlyphPositionsLaw_feature 1 = .ok (.iload_n 1, 1) := by decide +kernel
theorem d_GlyphPositionsLaw_feature_2 : decode b_GlyphPositionsLaw_feature 2 = .ok (.iload_n 2, 1) := by decide +kernel
theorem d_GlyphPositionsLaw_feature_3 : decode b_GlyphPositionsLaw_feature 3 = .ok (.invokevirtual 27, 3) := by decide +kernel
theorem d_GlyphPositionsLaw_feature_6 : decode b_GlyphPositionsLaw_feature 6 = .ok (.goto 6, 3) := by decide +kernel
theorem d_GlyphPositionsLaw_feature_9 : decode b_GlyphPositionsLaw_feature 9 = .ok (.astore_n 3, 1) := by decide +kernel
theorem d_GlyphPositionsLaw_feature_10 : decode b_GlyphPositionsLaw_feature 10 = .ok (.iconst 1, 1) := by decide +kernel
theorem d_GlyphPositionsLaw_feature_11 : decode b_GlyphPositionsLaw_feature 11 = .ok (.ireturn, 1) := by decide +kernel
theorem d_GlyphPositionsLaw_feature_12 : decode b_GlyphPositionsLaw_feature 12 = .ok (.iconst 0, 1) := by decide +kernel
theorem d_GlyphPositionsLaw_feature_13 : decode b_GlyphPositionsLaw_feature 13 = .ok (.ireturn, 1) := by decide +kernel
abbrev b_GlyphPositionsLaw_add : ByteArray := method_7_code
def y_GlyphPositionsLaw_add : MethodName := ⟨R_GlyphPositionsLaw, "add", "(LGlyphPositions;III[J)I"⟩
theorem d_GlyphPositionsLaw_add_0 : decode b_GlyphPositionsLaw_add 0 = .ok (.aload 4, 2) := by decide +kernel
theorem d_GlyphPositionsLaw_add_2 : decode b_GlyphPositionsLaw_add 2 = .ok (.iconst 0, 1) := by decide +kernel
theorem d_GlyphPositionsLaw_add_3 : decode b_GlyphPositionsLaw_add 3 = .ok (.aload_n 0, 1) := by decide +kernel
theorem d_GlyphPositionsLaw_add_4 : decode b_GlyphPositionsLaw_add 4 = .ok (.iload_n 1, 1) := by decide +kernel
theorem d_GlyphPositionsLaw_add_5 : decode b_GlyphPositionsLaw_add 5 = .ok (.iload_n 2, 1) := by decide +kernel
theorem d_GlyphPositionsLaw_add_6 : decode b_GlyphPositionsLaw_add 6 = .ok (.iload_n 3, 1) := by decide +kernel
theorem d_GlyphPositionsLaw_add_7 : decode b_GlyphPositionsLaw_add 7 = .ok (.invokevirtual 31, 3) := by decide +kernel
theorem d_GlyphPositionsLaw_add_10 : decode b_GlyphPositionsLaw_add 10 = .ok (.i2l, 1) := by decide +kernel
theorem d_GlyphPositionsLaw_add_11 : decode b_GlyphPositionsLaw_add 11 = .ok (.lastore, 1) := by decide +kernel
theorem d_GlyphPositionsLaw_add_12 : decode b_GlyphPositionsLaw_add 12 = .ok (.goto 11, 3) := by decide +kernel
theorem d_GlyphPositionsLaw_add_15 : decode b_GlyphPositionsLaw_add 15 = .ok (.astore 5, 2) := by decide +kernel
theorem d_GlyphPositionsLaw_add_17 : decode b_GlyphPositionsLaw_add 17 = .ok (.iconst 1, 1) := by decide +kernel
theorem d_GlyphPositionsLaw_add_18 : decode b_GlyphPositionsLaw_add 18 = .ok (.ireturn, 1) := by decide +kernel
theorem d_GlyphPositionsLaw_add_19 : decode b_GlyphPositionsLaw_add 19 = .ok (.astore 5, 2) := by decide +kernel
theorem d_GlyphPositionsLaw_add_21 : decode b_GlyphPositionsLaw_add 21 = .ok (.iconst 2, 1) := by decide +kernel
theorem d_GlyphPositionsLaw_add_22 : decode b_GlyphPositionsLaw_add 22 = .ok (.ireturn, 1) := by decide +kernel
theorem d_GlyphPositionsLaw_add_23 : decode b_GlyphPositionsLaw_add 23 = .ok (.iconst 0, 1) := by decide +kernel
theorem d_GlyphPositionsLaw_add_24 : decode b_GlyphPositionsLaw_add 24 = .ok (.ireturn, 1) := by decide +kernel
abbrev b_GlyphPositionsLaw_set : ByteArray := method_8_code
def y_GlyphPositionsLaw_set : MethodName := ⟨R_GlyphPositionsLaw, "set", "(LGlyphPositions;Z[J)I"⟩
theorem d_GlyphPositionsLaw_set_0 : decode b_GlyphPositionsLaw_set 0 = .ok (.aload_n 2, 1) := by decide +kernel
theorem d_GlyphPositionsLaw_set_1 : decode b_GlyphPositionsLaw_set 1 = .ok (.iconst 0, 1) := by decide +kernel
theorem d_GlyphPositionsLaw_set_2 : decode b_GlyphPositionsLaw_set 2 = .ok (.aload_n 0, 1) := by decide +kernel
theorem d_GlyphPositionsLaw_set_3 : decode b_GlyphPositionsLaw_set 3 = .ok (.iload_n 1, 1) := by decide +kernel
theorem d_GlyphPositionsLaw_set_4 : decode b_GlyphPositionsLaw_set 4 = .ok (.invokevirtual 35, 3) := by decide +kernel
theorem d_GlyphPositionsLaw_set_7 : decode b_GlyphPositionsLaw_set 7 = .ok (.i2l, 1) := by decide +kernel
theorem d_GlyphPositionsLaw_set_8 : decode b_GlyphPositionsLaw_set 8 = .ok (.lastore, 1) := by decide +kernel
theorem d_GlyphPositionsLaw_set_9 : decode b_GlyphPositionsLaw_set 9 = .ok (.goto 6, 3) := by decide +kernel
theorem d_GlyphPositionsLaw_set_12 : decode b_GlyphPositionsLaw_set 12 = .ok (.astore_n 3, 1) := by decide +kernel
theorem d_GlyphPositionsLaw_set_13 : decode b_GlyphPositionsLaw_set 13 = .ok (.iconst 1, 1) := by decide +kernel
theorem d_GlyphPositionsLaw_set_14 : decode b_GlyphPositionsLaw_set 14 = .ok (.ireturn, 1) := by decide +kernel
theorem d_GlyphPositionsLaw_set_15 : decode b_GlyphPositionsLaw_set 15 = .ok (.iconst 0, 1) := by decide +kernel
theorem d_GlyphPositionsLaw_set_16 : decode b_GlyphPositionsLaw_set 16 = .ok (.ireturn, 1) := by decide +kernel
abbrev b_GlyphPositionsLaw_place : ByteArray := method_9_code
def y_GlyphPositionsLaw_place : MethodName := ⟨R_GlyphPositionsLaw, "place", "(LGlyphPositions;II[J)I"⟩
theorem d_GlyphPositionsLaw_place_0 : decode b_GlyphPositionsLaw_place 0 = .ok (.aload_n 3, 1) := by decide +kernel
theorem d_GlyphPositionsLaw_place_1 : decode b_GlyphPositionsLaw_place 1 = .ok (.iconst 0, 1) := by decide +kernel
theorem d_GlyphPositionsLaw_place_2 : decode b_GlyphPositionsLaw_place 2 = .ok (.aload_n 0, 1) := by decide +kernel
theorem d_GlyphPositionsLaw_place_3 : decode b_GlyphPositionsLaw_place 3 = .ok (.iload_n 1, 1) := by decide +kernel
theorem d_GlyphPositionsLaw_place_4 : decode b_GlyphPositionsLaw_place 4 = .ok (.iload_n 2, 1) := by decide +kernel
theorem d_GlyphPositionsLaw_place_5 : decode b_GlyphPositionsLaw_place 5 = .ok (.invokevirtual 39, 3) := by decide +kernel
theorem d_GlyphPositionsLaw_place_8 : decode b_GlyphPositionsLaw_place 8 = .ok (.i2l, 1) := by decide +kernel
theorem d_GlyphPositionsLaw_place_9 : decode b_GlyphPositionsLaw_place 9 = .ok (.lastore, 1) := by decide +kernel
theorem d_GlyphPositionsLaw_place_10 : decode b_GlyphPositionsLaw_place 10 = .ok (.goto 7, 3) := by decide +kernel
theorem d_GlyphPositionsLaw_place_13 : decode b_GlyphPositionsLaw_place 13 = .ok (.astore 4, 2) := by decide +kernel
theorem d_GlyphPositionsLaw_place_15 : decode b_GlyphPositionsLaw_place 15 = .ok (.iconst 1, 1) := by decide +kernel
theorem d_GlyphPositionsLaw_place_16 : decode b_GlyphPositionsLaw_place 16 = .ok (.ireturn, 1) := by decide +kernel
theorem d_GlyphPositionsLaw_place_17 : decode b_GlyphPositionsLaw_place 17 = .ok (.iconst 0, 1) := by decide +kernel
theorem d_GlyphPositionsLaw_place_18 : decode b_GlyphPositionsLaw_place 18 = .ok (.ireturn, 1) := by decide +kernel
theorem wq_668 : (Cond.methodLink "GlyphPositionsLaw" (7 : Nat) ({ cls := "GlyphPositions", name := "put", desc := "(II)I" } : MethodName)) ∈ q_tbl := q_tab2 (List.mem_of_getElem? (i := 205) rfl) rfl
theorem wq_669 : (Cond.classLink "GlyphPositionsLaw" (13 : Nat) "java/lang/IndexOutOfBoundsException") ∈ q_tbl := q_tab2 (List.mem_of_getElem? (i := 203) rfl) rfl
theorem wq_670 : (Cond.classLink "GlyphPositionsLaw" (15 : Nat) "java/lang/IllegalArgumentException") ∈ q_tbl := q_tab2 (List.mem_of_getElem? (i := 204) rfl) rfl
theorem wq_671 : (Cond.methodLink "GlyphPositionsLaw" (17 : Nat) ({ cls := "GlyphPositions", name := "cut", desc := "(I)I" } : MethodName)) ∈ q_tbl := q_tab3 (List.mem_of_getElem? (i := 60) rfl) rfl
theorem wq_672 : (Cond.methodLink "GlyphPositionsLaw" (21 : Nat) ({ cls := "GlyphPositions", name := "kind", desc := "(IIII)V" } : MethodName)) ∈ q_tbl := q_tab3 (List.mem_of_getElem? (i := 73) rfl) rfl
theorem wq_673 : (Cond.classLink "GlyphPositionsLaw" (25 : Nat) "java/lang/IllegalStateException") ∈ q_tbl := q_tab3 (List.mem_of_getElem? (i := 72) rfl) rfl
theorem wq_674 : (Cond.methodLink "GlyphPositionsLaw" (27 : Nat) ({ cls := "GlyphPositions", name := "feature", desc := "(IZ)V" } : MethodName)) ∈ q_tbl := q_tab3 (List.mem_of_getElem? (i := 106) rfl) rfl
theorem wq_675 : (Cond.methodLink "GlyphPositionsLaw" (31 : Nat) ({ cls := "GlyphPositions", name := "add", desc := "(III)I" } : MethodName)) ∈ q_tbl := q_tab3 (List.mem_of_getElem? (i := 122) rfl) rfl
theorem wq_676 : (Cond.methodLink "GlyphPositionsLaw" (35 : Nat) ({ cls := "GlyphPositions", name := "set", desc := "(Z)I" } : MethodName)) ∈ q_tbl := q_tab3 (List.mem_of_getElem? (i := 135) rfl) rfl
theorem wq_677 : (Cond.methodLink "GlyphPositionsLaw" (39 : Nat) ({ cls := "GlyphPositions", name := "place", desc := "(II)I" } : MethodName)) ∈ q_tbl := q_tab4 (List.mem_of_getElem? (i := 36) rfl) rfl
theorem wq_678 : (Cond.code ({ cls := "GlyphPositions", name := "put", desc := "(II)I" } : MethodName) prog_1_method_3_code (3 : Nat) (some .int)) ∈ q_tbl := q_tab2 (List.mem_of_getElem? (i := 208) rfl) rfl
theorem wq_679 : (Cond.selects "GlyphPositions" ({ cls := "GlyphPositions", name := "put", desc := "(II)I" } : MethodName) ({ cls := "GlyphPositions", name := "put", desc := "(II)I" } : MethodName)) ∈ q_tbl := q_tab2 (List.mem_of_getElem? (i := 207) rfl) rfl
theorem wq_680 : (Cond.instanceMethod ({ cls := "GlyphPositions", name := "put", desc := "(II)I" } : MethodName)) ∈ q_tbl := q_tab2 (List.mem_of_getElem? (i := 206) rfl) rfl
theorem wq_681 : (Cond.code ({ cls := "GlyphPositions", name := "cut", desc := "(I)I" } : MethodName) prog_1_method_4_code (2 : Nat) (some .int)) ∈ q_tbl := q_tab3 (List.mem_of_getElem? (i := 63) rfl) rfl
theorem wq_682 : (Cond.selects "GlyphPositions" ({ cls := "GlyphPositions", name := "cut", desc := "(I)I" } : MethodName) ({ cls := "GlyphPositions", name := "cut", desc := "(I)I" } : MethodName)) ∈ q_tbl := q_tab3 (List.mem_of_getElem? (i := 62) rfl) rfl
theorem wq_683 : (Cond.instanceMethod ({ cls := "GlyphPositions", name := "cut", desc := "(I)I" } : MethodName)) ∈ q_tbl := q_tab3 (List.mem_of_getElem? (i := 61) rfl) rfl
theorem wq_684 : (Cond.code ({ cls := "GlyphPositions", name := "kind", desc := "(IIII)V" } : MethodName) prog_1_method_6_code (5 : Nat) (none : Option Jvm.ClassFile.FieldType)) ∈ q_tbl := q_tab3 (List.mem_of_getElem? (i := 76) rfl) rfl
theorem wq_685 : (Cond.selects "GlyphPositions" ({ cls := "GlyphPositions", name := "kind", desc := "(IIII)V" } : MethodName) ({ cls := "GlyphPositions", name := "kind", desc := "(IIII)V" } : MethodName)) ∈ q_tbl := q_tab3 (List.mem_of_getElem? (i := 75) rfl) rfl
theorem wq_686 : (Cond.instanceMethod ({ cls := "GlyphPositions", name := "kind", desc := "(IIII)V" } : MethodName)) ∈ q_tbl := q_tab3 (List.mem_of_getElem? (i := 74) rfl) rfl
theorem wq_687 : (Cond.code ({ cls := "GlyphPositions", name := "feature", desc := "(IZ)V" } : MethodName) prog_1_method_9_code (3 : Nat) (none : Option Jvm.ClassFile.FieldType)) ∈ q_tbl := q_tab3 (List.mem_of_getElem? (i := 109) rfl) rfl
theorem wq_688 : (Cond.selects "GlyphPositions" ({ cls := "GlyphPositions", name := "feature", desc := "(IZ)V" } : MethodName) ({ cls := "GlyphPositions", name := "feature", desc := "(IZ)V" } : MethodName)) ∈ q_tbl := q_tab3 (List.mem_of_getElem? (i := 108) rfl) rfl
theorem wq_689 : (Cond.instanceMethod ({ cls := "GlyphPositions", name := "feature", desc := "(IZ)V" } : MethodName)) ∈ q_tbl := q_tab3 (List.mem_of_getElem? (i := 107) rfl) rfl
theorem wq_690 : (Cond.code ({ cls := "GlyphPositions", name := "add", desc := "(III)I" } : MethodName) prog_1_method_10_code (4 : Nat) (some .int)) ∈ q_tbl := q_tab3 (List.mem_of_getElem? (i := 125) rfl) rfl
theorem wq_691 : (Cond.selects "GlyphPositions" ({ cls := "GlyphPositions", name := "add", desc := "(III)I" } : MethodName) ({ cls := "GlyphPositions", name := "add", desc := "(III)I" } : MethodName)) ∈ q_tbl := q_tab3 (List.mem_of_getElem? (i := 124) rfl) rfl
theorem wq_692 : (Cond.instanceMethod ({ cls := "GlyphPositions", name := "add", desc := "(III)I" } : MethodName)) ∈ q_tbl := q_tab3 (List.mem_of_getElem? (i := 123) rfl) rfl
theorem wq_693 : (Cond.code ({ cls := "GlyphPositions", name := "set", desc := "(Z)I" } : MethodName) prog_1_method_12_code (3 : Nat) (some .int)) ∈ q_tbl := q_tab3 (List.mem_of_getElem? (i := 138) rfl) rfl
theorem wq_694 : (Cond.selects "GlyphPositions" ({ cls := "GlyphPositions", name := "set", desc := "(Z)I" } : MethodName) ({ cls := "GlyphPositions", name := "set", desc := "(Z)I" } : MethodName)) ∈ q_tbl := q_tab3 (List.mem_of_getElem? (i := 137) rfl) rfl
theorem wq_695 : (Cond.instanceMethod ({ cls := "GlyphPositions", name := "set", desc := "(Z)I" } : MethodName)) ∈ q_tbl := q_tab3 (List.mem_of_getElem? (i := 136) rfl) rfl
theorem wq_696 : (Cond.code ({ cls := "GlyphPositions", name := "place", desc := "(II)I" } : MethodName) prog_1_method_13_code (3 : Nat) (some .int)) ∈ q_tbl := q_tab4 (List.mem_of_getElem? (i := 39) rfl) rfl
theorem wq_697 : (Cond.selects "GlyphPositions" ({ cls := "GlyphPositions", name := "place", desc := "(II)I" } : MethodName) ({ cls := "GlyphPositions", name := "place", desc := "(II)I" } : MethodName)) ∈ q_tbl := q_tab4 (List.mem_of_getElem? (i := 38) rfl) rfl
theorem wq_698 : (Cond.instanceMethod ({ cls := "GlyphPositions", name := "place", desc := "(II)I" } : MethodName)) ∈ q_tbl := q_tab4 (List.mem_of_getElem? (i := 37) rfl) rfl
theorem cal_GP_put : q_calV y_GP_put b_GP_put 3 ((some .int)) 2 := ⟨⟨wq_678, wq_280, by decide +kernel, by decide +kernel, by decide +kernel⟩, wq_680, wq_679⟩
theorem cal_GP_cut : q_calV y_GP_cut b_GP_cut 2 ((some .int)) 1 := ⟨⟨wq_681, wq_280, by decide +kernel, by decide +kernel, by decide +kernel⟩, wq_683, wq_682⟩
theorem cal_GP_kind : q_calV y_GP_kind b_GP_kind 5 ((none : Option Jvm.ClassFile.FieldType)) 4 := ⟨⟨wq_684, wq_280, by decide +kernel, by decide +kernel, by decide +kernel⟩, wq_686, wq_685⟩
theorem cal_GP_feature : q_calV y_GP_feature b_GP_feature 3 ((none : Option Jvm.ClassFile.FieldType)) 2 := ⟨⟨wq_687, wq_280, by decide +kernel, by decide +kernel, by decide +kernel⟩, wq_689, wq_688⟩
theorem cal_GP_add : q_calV y_GP_add b_GP_add 4 ((some .int)) 3 := ⟨⟨wq_690, wq_280, by decide +kernel, by decide +kernel, by decide +kernel⟩, wq_692, wq_691⟩
theorem cal_GP_set : q_calV y_GP_set b_GP_set 3 ((some .int)) 1 := ⟨⟨wq_693, wq_280, by decide +kernel, by decide +kernel, by decide +kernel⟩, wq_695, wq_694⟩
theorem cal_GP_place : q_calV y_GP_place b_GP_place 3 ((some .int)) 2 := ⟨⟨wq_696, wq_280, by decide +kernel, by decide +kernel, by decide +kernel⟩, wq_698, wq_697⟩
theorem q_outL (f : Nat → Int32) (v : Int32) : vp_updL (fun j => (f j).toInt64) 0 v.toInt64 = (fun j => (upd f 0 v j).toInt64) := by
  funext j
  unfold vp_updL upd
  split <;> rfl
section QO
variable {p : Program} {l : Launch} {e : Env} {R : Room} {s : State} {m : MethodId} {args : Array Value} {below : List Frame} {meth : Method} {c : Code} {H : Heap} {locs : List Loc} {cells slots : Nat} {Q : State → Prop} {cc : ByteArray} {pc : Nat} {ls : Array Slot} {rest : List Value} {nL : Nat} {own host : String} {st st1 : QSt} {A : Nat → Prop} {G : XG} {idx : Nat}
theorem xs_out {v : Int32} (hC : q_Cx p s m args c cc nL own G.1 (xT G)) (hP : va_P G.1 vwCl (wX G st) H) (hD : ∀ z, va_D A (wX G z)) (hS : va_S A s.heap H locs) (hd : decode cc pc = .ok (.lastore, 1)) (kk : ∀ (H1 : Heap) (locs1 : List Loc), va_P G.1 vwCl (wX G (q_pa st 48 0 v)) H1 → va_S A s.heap H1 locs1 → W p l e R s m args below meth c H1 locs1 cells slots Q (F0 m (pc + 1) ls rest)) : W p l e R s m args below meth c H locs cells slots Q (F0 m pc ls (.long v.toInt64 :: .int 0 :: .ref (G.2.2 59) :: rest)) := by
  refine va_last hC.1.1 hC.1.2.1 hC.2.1 hP (hD st) hS 59 3 rfl rfl (i := 0) (q_vpb_in (by decide)) hd (fun H1 l1 hP1 _ hS1 => kk H1 l1 ?_ hS1)
  have e0 : (0 : Int32).toNatClampNeg = 0 := by decide
  rw [e0, q_outL] at hP1
  exact hP1
end QO
