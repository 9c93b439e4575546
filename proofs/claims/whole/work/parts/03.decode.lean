abbrev b_Table_lies : ByteArray := prog_8_method_6_code
def y_Table_lies : MethodName := ⟨R_Table, "lies", "(II)Z"⟩
theorem d_Table_lies_0 : decode b_Table_lies 0 = .ok (.iload_n 1, 1) := by decide +kernel
theorem d_Table_lies_1 : decode b_Table_lies 1 = .ok (.ifCond .lt 21, 3) := by decide +kernel
theorem d_Table_lies_4 : decode b_Table_lies 4 = .ok (.iload_n 2, 1) := by decide +kernel
theorem d_Table_lies_5 : decode b_Table_lies 5 = .ok (.ifCond .lt 17, 3) := by decide +kernel
theorem d_Table_lies_8 : decode b_Table_lies 8 = .ok (.iload_n 1, 1) := by decide +kernel
theorem d_Table_lies_9 : decode b_Table_lies 9 = .ok (.aload_n 0, 1) := by decide +kernel
theorem d_Table_lies_10 : decode b_Table_lies 10 = .ok (.getfield 15, 3) := by decide +kernel
theorem d_Table_lies_13 : decode b_Table_lies 13 = .ok (.iload_n 2, 1) := by decide +kernel
theorem d_Table_lies_14 : decode b_Table_lies 14 = .ok (.isub, 1) := by decide +kernel
theorem d_Table_lies_15 : decode b_Table_lies 15 = .ok (.if_icmp .gt 7, 3) := by decide +kernel
theorem d_Table_lies_18 : decode b_Table_lies 18 = .ok (.iconst 1, 1) := by decide +kernel
theorem d_Table_lies_19 : decode b_Table_lies 19 = .ok (.goto 4, 3) := by decide +kernel
theorem d_Table_lies_22 : decode b_Table_lies 22 = .ok (.iconst 0, 1) := by decide +kernel
theorem d_Table_lies_23 : decode b_Table_lies 23 = .ok (.ireturn, 1) := by decide +kernel
abbrev b_Table_u16 : ByteArray := prog_8_method_7_code
def y_Table_u16 : MethodName := ⟨R_Table, "u16", "(I)I"⟩
theorem d_Table_u16_0 : decode b_Table_u16 0 = .ok (.iload_n 1, 1) := by decide +kernel
theorem d_Table_u16_1 : decode b_Table_u16 1 = .ok (.ifCond .lt 13, 3) := by decide +kernel
theorem d_Table_u16_4 : decode b_Table_u16 4 = .ok (.iload_n 1, 1) := by decide +kernel
theorem d_Table_u16_5 : decode b_Table_u16 5 = .ok (.aload_n 0, 1) := by decide +kernel
theorem d_Table_u16_6 : decode b_Table_u16 6 = .ok (.getfield 15, 3) := by decide +kernel
theorem d_Table_u16_9 : decode b_Table_u16 9 = .ok (.iconst 2, 1) := by decide +kernel
theorem d_Table_u16_10 : decode b_Table_u16 10 = .ok (.isub, 1) := by decide +kernel
theorem d_Table_u16_11 : decode b_Table_u16 11 = .ok (.if_icmp .le 5, 3) := by decide +kernel
theorem d_Table_u16_14 : decode b_Table_u16 14 = .ok (.iconst 0, 1) := by decide +kernel
theorem d_Table_u16_15 : decode b_Table_u16 15 = .ok (.ireturn, 1) := by decide +kernel
theorem d_Table_u16_16 : decode b_Table_u16 16 = .ok (.aload_n 0, 1) := by decide +kernel
theorem d_Table_u16_17 : decode b_Table_u16 17 = .ok (.getfield 9, 3) := by decide +kernel
theorem d_Table_u16_20 : decode b_Table_u16 20 = .ok (.iload_n 1, 1) := by decide +kernel
theorem d_Table_u16_21 : decode b_Table_u16 21 = .ok (.baload, 1) := by decide +kernel
theorem d_Table_u16_22 : decode b_Table_u16 22 = .ok (.sipush 255, 3) := by decide +kernel
theorem d_Table_u16_25 : decode b_Table_u16 25 = .ok (.iand, 1) := by decide +kernel
theorem d_Table_u16_26 : decode b_Table_u16 26 = .ok (.bipush 8, 2) := by decide +kernel
theorem d_Table_u16_28 : decode b_Table_u16 28 = .ok (.ishl, 1) := by decide +kernel
theorem d_Table_u16_29 : decode b_Table_u16 29 = .ok (.aload_n 0, 1) := by decide +kernel
theorem d_Table_u16_30 : decode b_Table_u16 30 = .ok (.getfield 9, 3) := by decide +kernel
theorem d_Table_u16_33 : decode b_Table_u16 33 = .ok (.iload_n 1, 1) := by decide +kernel
theorem d_Table_u16_34 : decode b_Table_u16 34 = .ok (.iconst 1, 1) := by decide +kernel
theorem d_Table_u16_35 : decode b_Table_u16 35 = .ok (.iadd, 1) := by decide +kernel
theorem d_Table_u16_36 : decode b_Table_u16 36 = .ok (.baload, 1) := by decide +kernel
theorem d_Table_u16_37 : decode b_Table_u16 37 = .ok (.sipush 255, 3) := by decide +kernel
theorem d_Table_u16_40 : decode b_Table_u16 40 = .ok (.iand, 1) := by decide +kernel
theorem d_Table_u16_41 : decode b_Table_u16 41 = .ok (.ior, 1) := by decide +kernel
theorem d_Table_u16_42 : decode b_Table_u16 42 = .ok (.ireturn, 1) := by decide +kernel
abbrev b_Table_u32 : ByteArray := prog_8_method_9_code
def y_Table_u32 : MethodName := ⟨R_Table, "u32", "(I)I"⟩
theorem d_Table_u32_0 : decode b_Table_u32 0 = .ok (.aload_n 0, 1) := by decide +kernel
theorem d_Table_u32_1 : decode b_Table_u32 1 = .ok (.iload_n 1, 1) := by decide +kernel
theorem d_Table_u32_2 : decode b_Table_u32 2 = .ok (.invokevirtual 25, 3) := by decide +kernel
theorem d_Table_u32_5 : decode b_Table_u32 5 = .ok (.bipush 16, 2) := by decide +kernel
theorem d_Table_u32_7 : decode b_Table_u32 7 = .ok (.ishl, 1) := by decide +kernel
theorem d_Table_u32_8 : decode b_Table_u32 8 = .ok (.aload_n 0, 1) := by decide +kernel
theorem d_Table_u32_9 : decode b_Table_u32 9 = .ok (.iload_n 1, 1) := by decide +kernel
theorem d_Table_u32_10 : decode b_Table_u32 10 = .ok (.iconst 2, 1) := by decide +kernel
theorem d_Table_u32_11 : decode b_Table_u32 11 = .ok (.iadd, 1) := by decide +kernel
theorem d_Table_u32_12 : decode b_Table_u32 12 = .ok (.invokevirtual 25, 3) := by decide +kernel
theorem d_Table_u32_15 : decode b_Table_u32 15 = .ok (.ior, 1) := by decide +kernel
theorem d_Table_u32_16 : decode b_Table_u32 16 = .ok (.ireturn, 1) := by decide +kernel
abbrev b_Table_append : ByteArray := prog_8_method_2_code
def y_Table_append : MethodName := ⟨R_Table, "append", "(I)Z"⟩
theorem d_Table_append_0 : decode b_Table_append 0 = .ok (.aload_n 0, 1) := by decide +kernel
theorem d_Table_append_1 : decode b_Table_append 1 = .ok (.getfield 15, 3) := by decide +kernel
theorem d_Table_append_4 : decode b_Table_append 4 = .ok (.sipush 8188, 3) := by decide +kernel
theorem d_Table_append_7 : decode b_Table_append 7 = .ok (.if_icmp .le 5, 3) := by decide +kernel
theorem d_Table_append_10 : decode b_Table_append 10 = .ok (.iconst 0, 1) := by decide +kernel
theorem d_Table_append_11 : decode b_Table_append 11 = .ok (.ireturn, 1) := by decide +kernel
theorem d_Table_append_12 : decode b_Table_append 12 = .ok (.aload_n 0, 1) := by decide +kernel
theorem d_Table_append_13 : decode b_Table_append 13 = .ok (.getfield 9, 3) := by decide +kernel
theorem d_Table_append_16 : decode b_Table_append 16 = .ok (.aload_n 0, 1) := by decide +kernel
theorem d_Table_append_17 : decode b_Table_append 17 = .ok (.getfield 15, 3) := by decide +kernel
theorem d_Table_append_20 : decode b_Table_append 20 = .ok (.iload_n 1, 1) := by decide +kernel
theorem d_Table_append_21 : decode b_Table_append 21 = .ok (.bipush 24, 2) := by decide +kernel
theorem d_Table_append_23 : decode b_Table_append 23 = .ok (.iushr, 1) := by decide +kernel
theorem d_Table_append_24 : decode b_Table_append 24 = .ok (.i2b, 1) := by decide +kernel
theorem d_Table_append_25 : decode b_Table_append 25 = .ok (.bastore, 1) := by decide +kernel
theorem d_Table_append_26 : decode b_Table_append 26 = .ok (.aload_n 0, 1) := by decide +kernel
theorem d_Table_append_27 : decode b_Table_append 27 = .ok (.getfield 9, 3) := by decide +kernel
theorem d_Table_append_30 : decode b_Table_append 30 = .ok (.aload_n 0, 1) := by decide +kernel
theorem d_Table_append_31 : decode b_Table_append 31 = .ok (.getfield 15, 3) := by decide +kernel
theorem d_Table_append_34 : decode b_Table_append 34 = .ok (.iconst 1, 1) := by decide +kernel
theorem d_Table_append_35 : decode b_Table_append 35 = .ok (.iadd, 1) := by decide +kernel
theorem d_Table_append_36 : decode b_Table_append 36 = .ok (.iload_n 1, 1) := by decide +kernel
theorem d_Table_append_37 : decode b_Table_append 37 = .ok (.bipush 16, 2) := by decide +kernel
theorem d_Table_append_39 : decode b_Table_append 39 = .ok (.iushr, 1) := by decide +kernel
theorem d_Table_append_40 : decode b_Table_append 40 = .ok (.i2b, 1) := by decide +kernel
theorem d_Table_append_41 : decode b_Table_append 41 = .ok (.bastore, 1) := by decide +kernel
theorem d_Table_append_42 : decode b_Table_append 42 = .ok (.aload_n 0, 1) := by decide +kernel
theorem d_Table_append_43 : decode b_Table_append 43 = .ok (.getfield 9, 3) := by decide +kernel
theorem d_Table_append_46 : decode b_Table_append 46 = .ok (.aload_n 0, 1) := by decide +kernel
theorem d_Table_append_47 : decode b_Table_append 47 = .ok (.getfield 15, 3) := by decide +kernel
theorem d_Table_append_50 : decode b_Table_append 50 = .ok (.iconst 2, 1) := by decide +kernel
theorem d_Table_append_51 : decode b_Table_append 51 = .ok (.iadd, 1) := by decide +kernel
theorem d_Table_append_52 : decode b_Table_append 52 = .ok (.iload_n 1, 1) := by decide +kernel
theorem d_Table_append_53 : decode b_Table_append 53 = .ok (.bipush 8, 2) := by decide +kernel
theorem d_Table_append_55 : decode b_Table_append 55 = .ok (.iushr, 1) := by decide +kernel
theorem d_Table_append_56 : decode b_Table_append 56 = .ok (.i2b, 1) := by decide +kernel
theorem d_Table_append_57 : decode b_Table_append 57 = .ok (.bastore, 1) := by decide +kernel
theorem d_Table_append_58 : decode b_Table_append 58 = .ok (.aload_n 0, 1) := by decide +kernel
theorem d_Table_append_59 : decode b_Table_append 59 = .ok (.getfield 9, 3) := by decide +kernel
theorem d_Table_append_62 : decode b_Table_append 62 = .ok (.aload_n 0, 1) := by decide +kernel
theorem d_Table_append_63 : decode b_Table_append 63 = .ok (.getfield 15, 3) := by decide +kernel
theorem d_Table_append_66 : decode b_Table_append 66 = .ok (.iconst 3, 1) := by decide +kernel
theorem d_Table_append_67 : decode b_Table_append 67 = .ok (.iadd, 1) := by decide +kernel
theorem d_Table_append_68 : decode b_Table_append 68 = .ok (.iload_n 1, 1) := by decide +kernel
theorem d_Table_append_69 : decode b_Table_append 69 = .ok (.i2b, 1) := by decide +kernel
theorem d_Table_append_70 : decode b_Table_append 70 = .ok (.bastore, 1) := by decide +kernel
theorem d_Table_append_71 : decode b_Table_append 71 = .ok (.aload_n 0, 1) := by decide +kernel
theorem d_Table_append_72 : decode b_Table_append 72 = .ok (.dup, 1) := by decide +kernel
theorem d_Table_append_73 : decode b_Table_append 73 = .ok (.getfield 15, 3) := by decide +kernel
theorem d_Table_append_76 : decode b_Table_append 76 = .ok (.iconst 4, 1) := by decide +kernel
theorem d_Table_append_77 : decode b_Table_append 77 = .ok (.iadd, 1) := by decide +kernel
theorem d_Table_append_78 : decode b_Table_append 78 = .ok (.putfield 15, 3) := by decide +kernel
theorem d_Table_append_81 : decode b_Table_append 81 = .ok (.iconst 1, 1) := by decide +kernel
theorem d_Table_append_82 : decode b_Table_append 82 = .ok (.ireturn, 1) := by decide +kernel
abbrev b_Table_replace : ByteArray := prog_8_method_3_code
def y_Table_replace : MethodName := ⟨R_Table, "replace", "(II)I"⟩
theorem d_Table_replace_0 : decode b_Table_replace 0 = .ok (.iload_n 1, 1) := by decide +kernel
theorem d_Table_replace_1 : decode b_Table_replace 1 = .ok (.ifCond .lt 11, 3) := by decide +kernel
theorem d_Table_replace_4 : decode b_Table_replace 4 = .ok (.iload_n 1, 1) := by decide +kernel
theorem d_Table_replace_5 : decode b_Table_replace 5 = .ok (.aload_n 0, 1) := by decide +kernel
theorem d_Table_replace_6 : decode b_Table_replace 6 = .ok (.getfield 15, 3) := by decide +kernel
theorem d_Table_replace_9 : decode b_Table_replace 9 = .ok (.if_icmp .lt 5, 3) := by decide +kernel
theorem d_Table_replace_12 : decode b_Table_replace 12 = .ok (.iconst 0, 1) := by decide +kernel
theorem d_Table_replace_13 : decode b_Table_replace 13 = .ok (.ireturn, 1) := by decide +kernel
theorem d_Table_replace_14 : decode b_Table_replace 14 = .ok (.aload_n 0, 1) := by decide +kernel
theorem d_Table_replace_15 : decode b_Table_replace 15 = .ok (.getfield 9, 3) := by decide +kernel
theorem d_Table_replace_18 : decode b_Table_replace 18 = .ok (.iload_n 1, 1) := by decide +kernel
theorem d_Table_replace_19 : decode b_Table_replace 19 = .ok (.baload, 1) := by decide +kernel
theorem d_Table_replace_20 : decode b_Table_replace 20 = .ok (.sipush 255, 3) := by decide +kernel
theorem d_Table_replace_23 : decode b_Table_replace 23 = .ok (.iand, 1) := by decide +kernel
theorem d_Table_replace_24 : decode b_Table_replace 24 = .ok (.istore_n 3, 1) := by decide +kernel
theorem d_Table_replace_25 : decode b_Table_replace 25 = .ok (.aload_n 0, 1) := by decide +kernel
theorem d_Table_replace_26 : decode b_Table_replace 26 = .ok (.getfield 9, 3) := by decide +kernel
theorem d_Table_replace_29 : decode b_Table_replace 29 = .ok (.iload_n 1, 1) := by decide +kernel
theorem d_Table_replace_30 : decode b_Table_replace 30 = .ok (.iload_n 2, 1) := by decide +kernel
theorem d_Table_replace_31 : decode b_Table_replace 31 = .ok (.i2b, 1) := by decide +kernel
theorem d_Table_replace_32 : decode b_Table_replace 32 = .ok (.bastore, 1) := by decide +kernel
theorem d_Table_replace_33 : decode b_Table_replace 33 = .ok (.iload_n 3, 1) := by decide +kernel
theorem d_Table_replace_34 : decode b_Table_replace 34 = .ok (.ireturn, 1) := by decide +kernel
abbrev b_Table_shorten : ByteArray := prog_8_method_4_code
def y_Table_shorten : MethodName := ⟨R_Table, "shorten", "(I)I"⟩
theorem d_Table_shorten_0 : decode b_Table_shorten 0 = .ok (.iload_n 1, 1) := by decide +kernel
theorem d_Table_shorten_1 : decode b_Table_shorten 1 = .ok (.ifCond .lt 20, 3) := by decide +kernel
theorem d_Table_shorten_4 : decode b_Table_shorten 4 = .ok (.iload_n 1, 1) := by decide +kernel
theorem d_Table_shorten_5 : decode b_Table_shorten 5 = .ok (.aload_n 0, 1) := by decide +kernel
theorem d_Table_shorten_6 : decode b_Table_shorten 6 = .ok (.getfield 15, 3) := by decide +kernel
theorem d_Table_shorten_9 : decode b_Table_shorten 9 = .ok (.if_icmp .ge 12, 3) := by decide +kernel
theorem d_Table_shorten_12 : decode b_Table_shorten 12 = .ok (.aload_n 0, 1) := by decide +kernel
theorem d_Table_shorten_13 : decode b_Table_shorten 13 = .ok (.getfield 15, 3) := by decide +kernel
theorem d_Table_shorten_16 : decode b_Table_shorten 16 = .ok (.iload_n 1, 1) := by decide +kernel
theorem d_Table_shorten_17 : decode b_Table_shorten 17 = .ok (.isub, 1) := by decide +kernel
theorem d_Table_shorten_18 : decode b_Table_shorten 18 = .ok (.goto 4, 3) := by decide +kernel
theorem d_Table_shorten_21 : decode b_Table_shorten 21 = .ok (.iconst 0, 1) := by decide +kernel
theorem d_Table_shorten_22 : decode b_Table_shorten 22 = .ok (.istore_n 2, 1) := by decide +kernel
theorem d_Table_shorten_23 : decode b_Table_shorten 23 = .ok (.aload_n 0, 1) := by decide +kernel
theorem d_Table_shorten_24 : decode b_Table_shorten 24 = .ok (.dup, 1) := by decide +kernel
theorem d_Table_shorten_25 : decode b_Table_shorten 25 = .ok (.getfield 15, 3) := by decide +kernel
theorem d_Table_shorten_28 : decode b_Table_shorten 28 = .ok (.iload_n 2, 1) := by decide +kernel
theorem d_Table_shorten_29 : decode b_Table_shorten 29 = .ok (.isub, 1) := by decide +kernel
theorem d_Table_shorten_30 : decode b_Table_shorten 30 = .ok (.putfield 15, 3) := by decide +kernel
theorem d_Table_shorten_33 : decode b_Table_shorten 33 = .ok (.iload_n 2, 1) := by decide +kernel
theorem d_Table_shorten_34 : decode b_Table_shorten 34 = .ok (.ireturn, 1) := by decide +kernel
abbrev b_Table_s16 : ByteArray := prog_8_method_8_code
def y_Table_s16 : MethodName := ⟨R_Table, "s16", "(I)I"⟩
theorem d_Table_s16_0 : decode b_Table_s16 0 = .ok (.aload_n 0, 1) := by decide +kernel
theorem d_Table_s16_1 : decode b_Table_s16 1 = .ok (.iload_n 1, 1) := by decide +kernel
theorem d_Table_s16_2 : decode b_Table_s16 2 = .ok (.invokevirtual 25, 3) := by decide +kernel
theorem d_Table_s16_5 : decode b_Table_s16 5 = .ok (.i2s, 1) := by decide +kernel
theorem d_Table_s16_6 : decode b_Table_s16 6 = .ok (.ireturn, 1) := by decide +kernel
abbrev b_Integer_bitCount : ByteArray := prog_17_method_49_code
def y_Integer_bitCount : MethodName := ⟨R_Integer, "bitCount", "(I)I"⟩
theorem d_Integer_bitCount_0 : decode b_Integer_bitCount 0 = .ok (.iload_n 0, 1) := by decide +kernel
theorem d_Integer_bitCount_1 : decode b_Integer_bitCount 1 = .ok (.iload_n 0, 1) := by decide +kernel
theorem d_Integer_bitCount_2 : decode b_Integer_bitCount 2 = .ok (.iconst 1, 1) := by decide +kernel
theorem d_Integer_bitCount_3 : decode b_Integer_bitCount 3 = .ok (.iushr, 1) := by decide +kernel
theorem d_Integer_bitCount_4 : decode b_Integer_bitCount 4 = .ok (.ldc_w 265, 3) := by decide +kernel
theorem d_Integer_bitCount_7 : decode b_Integer_bitCount 7 = .ok (.iand, 1) := by decide +kernel
theorem d_Integer_bitCount_8 : decode b_Integer_bitCount 8 = .ok (.isub, 1) := by decide +kernel
theorem d_Integer_bitCount_9 : decode b_Integer_bitCount 9 = .ok (.istore_n 0, 1) := by decide +kernel
theorem d_Integer_bitCount_10 : decode b_Integer_bitCount 10 = .ok (.iload_n 0, 1) := by decide +kernel
theorem d_Integer_bitCount_11 : decode b_Integer_bitCount 11 = .ok (.ldc_w 266, 3) := by decide +kernel
theorem d_Integer_bitCount_14 : decode b_Integer_bitCount 14 = .ok (.iand, 1) := by decide +kernel
theorem d_Integer_bitCount_15 : decode b_Integer_bitCount 15 = .ok (.iload_n 0, 1) := by decide +kernel
theorem d_Integer_bitCount_16 : decode b_Integer_bitCount 16 = .ok (.iconst 2, 1) := by decide +kernel
theorem d_Integer_bitCount_17 : decode b_Integer_bitCount 17 = .ok (.iushr, 1) := by decide +kernel
theorem d_Integer_bitCount_18 : decode b_Integer_bitCount 18 = .ok (.ldc_w 266, 3) := by decide +kernel
theorem d_Integer_bitCount_21 : decode b_Integer_bitCount 21 = .ok (.iand, 1) := by decide +kernel
theorem d_Integer_bitCount_22 : decode b_Integer_bitCount 22 = .ok (.iadd, 1) := by decide +kernel
theorem d_Integer_bitCount_23 : decode b_Integer_bitCount 23 = .ok (.istore_n 0, 1) := by decide +kernel
theorem d_Integer_bitCount_24 : decode b_Integer_bitCount 24 = .ok (.iload_n 0, 1) := by decide +kernel
theorem d_Integer_bitCount_25 : decode b_Integer_bitCount 25 = .ok (.iload_n 0, 1) := by decide +kernel
theorem d_Integer_bitCount_26 : decode b_Integer_bitCount 26 = .ok (.iconst 4, 1) := by decide +kernel
theorem d_Integer_bitCount_27 : decode b_Integer_bitCount 27 = .ok (.iushr, 1) := by decide +kernel
theorem d_Integer_bitCount_28 : decode b_Integer_bitCount 28 = .ok (.iadd, 1) := by decide +kernel
theorem d_Integer_bitCount_29 : decode b_Integer_bitCount 29 = .ok (.ldc_w 267, 3) := by decide +kernel
theorem d_Integer_bitCount_32 : decode b_Integer_bitCount 32 = .ok (.iand, 1) := by decide +kernel
theorem d_Integer_bitCount_33 : decode b_Integer_bitCount 33 = .ok (.istore_n 0, 1) := by decide +kernel
theorem d_Integer_bitCount_34 : decode b_Integer_bitCount 34 = .ok (.iload_n 0, 1) := by decide +kernel
theorem d_Integer_bitCount_35 : decode b_Integer_bitCount 35 = .ok (.iload_n 0, 1) := by decide +kernel
theorem d_Integer_bitCount_36 : decode b_Integer_bitCount 36 = .ok (.bipush 8, 2) := by decide +kernel
theorem d_Integer_bitCount_38 : decode b_Integer_bitCount 38 = .ok (.iushr, 1) := by decide +kernel
theorem d_Integer_bitCount_39 : decode b_Integer_bitCount 39 = .ok (.iadd, 1) := by decide +kernel
theorem d_Integer_bitCount_40 : decode b_Integer_bitCount 40 = .ok (.istore_n 0, 1) := by decide +kernel
theorem d_Integer_bitCount_41 : decode b_Integer_bitCount 41 = .ok (.iload_n 0, 1) := by decide +kernel
theorem d_Integer_bitCount_42 : decode b_Integer_bitCount 42 = .ok (.iload_n 0, 1) := by decide +kernel
theorem d_Integer_bitCount_43 : decode b_Integer_bitCount 43 = .ok (.bipush 16, 2) := by decide +kernel
theorem d_Integer_bitCount_45 : decode b_Integer_bitCount 45 = .ok (.iushr, 1) := by decide +kernel
theorem d_Integer_bitCount_46 : decode b_Integer_bitCount 46 = .ok (.iadd, 1) := by decide +kernel
theorem d_Integer_bitCount_47 : decode b_Integer_bitCount 47 = .ok (.istore_n 0, 1) := by decide +kernel
theorem d_Integer_bitCount_48 : decode b_Integer_bitCount 48 = .ok (.iload_n 0, 1) := by decide +kernel
theorem d_Integer_bitCount_49 : decode b_Integer_bitCount 49 = .ok (.bipush 63, 2) := by decide +kernel
theorem d_Integer_bitCount_51 : decode b_Integer_bitCount 51 = .ok (.iand, 1) := by decide +kernel
theorem d_Integer_bitCount_52 : decode b_Integer_bitCount 52 = .ok (.ireturn, 1) := by decide +kernel
abbrev b_Integer_compare : ByteArray := prog_17_method_40_code
def y_Integer_compare : MethodName := ⟨R_Integer, "compare", "(II)I"⟩
theorem d_Integer_compare_0 : decode b_Integer_compare 0 = .ok (.iload_n 0, 1) := by decide +kernel
theorem d_Integer_compare_1 : decode b_Integer_compare 1 = .ok (.iload_n 1, 1) := by decide +kernel
theorem d_Integer_compare_2 : decode b_Integer_compare 2 = .ok (.if_icmp .ge 7, 3) := by decide +kernel
theorem d_Integer_compare_5 : decode b_Integer_compare 5 = .ok (.iconst (-1), 1) := by decide +kernel
theorem d_Integer_compare_6 : decode b_Integer_compare 6 = .ok (.goto 13, 3) := by decide +kernel
theorem d_Integer_compare_9 : decode b_Integer_compare 9 = .ok (.iload_n 0, 1) := by decide +kernel
theorem d_Integer_compare_10 : decode b_Integer_compare 10 = .ok (.iload_n 1, 1) := by decide +kernel
theorem d_Integer_compare_11 : decode b_Integer_compare 11 = .ok (.if_icmp .ne 7, 3) := by decide +kernel
theorem d_Integer_compare_14 : decode b_Integer_compare 14 = .ok (.iconst 0, 1) := by decide +kernel
theorem d_Integer_compare_15 : decode b_Integer_compare 15 = .ok (.goto 4, 3) := by decide +kernel
theorem d_Integer_compare_18 : decode b_Integer_compare 18 = .ok (.iconst 1, 1) := by decide +kernel
theorem d_Integer_compare_19 : decode b_Integer_compare 19 = .ok (.ireturn, 1) := by decide +kernel
abbrev b_Integer_compareUnsigned : ByteArray := prog_17_method_41_code
def y_Integer_compareUnsigned : MethodName := ⟨R_Integer, "compareUnsigned", "(II)I"⟩
theorem d_Integer_compareUnsigned_0 : decode b_Integer_compareUnsigned 0 = .ok (.iload_n 0, 1) := by decide +kernel
theorem d_Integer_compareUnsigned_1 : decode b_Integer_compareUnsigned 1 = .ok (.ldc 127, 2) := by decide +kernel
theorem d_Integer_compareUnsigned_3 : decode b_Integer_compareUnsigned 3 = .ok (.iadd, 1) := by decide +kernel
theorem d_Integer_compareUnsigned_4 : decode b_Integer_compareUnsigned 4 = .ok (.iload_n 1, 1) := by decide +kernel
theorem d_Integer_compareUnsigned_5 : decode b_Integer_compareUnsigned 5 = .ok (.ldc 127, 2) := by decide +kernel
theorem d_Integer_compareUnsigned_7 : decode b_Integer_compareUnsigned 7 = .ok (.iadd, 1) := by decide +kernel
theorem d_Integer_compareUnsigned_8 : decode b_Integer_compareUnsigned 8 = .ok (.invokestatic 259, 3) := by decide +kernel
theorem d_Integer_compareUnsigned_11 : decode b_Integer_compareUnsigned 11 = .ok (.ireturn, 1) := by decide +kernel
