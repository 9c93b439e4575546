def R_GP : String := "GlyphPositions"
def R_Choice : String := "GlyphPositions$Choice"
def R_GlyphSets : String := "GlyphPositions$GlyphSets"
def R_Kinds : String := "GlyphPositions$Kinds"
def R_Loader : String := "GlyphPositions$Loader"
def R_Run : String := "GlyphPositions$Run"
def R_Setter : String := "GlyphPositions$Setter"
def R_Table : String := "GlyphPositions$Table"
def R_Tags : String := "GlyphPositions$Tags"
def R_Told : String := "GlyphPositions$Told"
def R_GlyphPositionsModel : String := "GlyphPositionsModel"
def R_Integer : String := "java/lang/Integer"
abbrev b_Table_lies : ByteArray := prog_8_method_6_code
def y_Table_lies : MethodName := ⟨R_Table, "lies", "(II)Z"⟩
theorem d_Table_lies_0 : decode b_Table_lies 0 = .ok (.iload_n 1, 1) := by decide +kernel
theorem d_Table_lies_1 : decode b_Table_lies 1 = .ok (.ifCond .lt 21, 3) := by decide +kernel
theorem d_Table_lies_4 : decode b_Table_lies 4 = .ok (.iload_n 2, 1) := by decide +kernel
theorem d_Table_lies_5 : decode b_Table_lies 5 = .ok (.ifCond .lt 17, 3) := by decide +kernel
theorem d_Table_lies_8 : decode b_Table_lies 8 = .ok (.iload_n 1, 1) := by decide +kernel
theorem d_Table_lies_9 : decode b_Table_lies 9 = .ok (.aload_n 0, 1) := by decide +kernel
theorem d_Table_lies_10 : decode b_Table_lies 10 = .ok (.getfield 15, 3) := by decide +kernel
theorem d_Table_lies_13 : decode b_Table_lies 13 = .ok (.iload_n 2, 1) := by decide +kernel
theorem d_Table_lies_14 : decode b_Table_lies 14 = .ok (.isub, 1) := by decide +kernel
theorem d_Table_lies_15 : decode b_Table_lies 15 = .ok (.if_icmp .gt 7, 3) := by decide +kernel
theorem d_Table_lies_18 : decode b_Table_lies 18 = .ok (.iconst 1, 1) := by decide +kernel
theorem d_Table_lies_19 : decode b_Table_lies 19 = .ok (.goto 4, 3) := by decide +kernel
theorem d_Table_lies_22 : decode b_Table_lies 22 = .ok (.iconst 0, 1) := by decide +kernel
theorem d_Table_lies_23 : decode b_Table_lies 23 = .ok (.ireturn, 1) := by decide +kernel
abbrev b_Table_u16 : ByteArray := prog_8_method_7_code
def y_Table_u16 : MethodName := ⟨R_Table, "u16", "(I)I"⟩
theorem d_Table_u16_0 : decode b_Table_u16 0 = .ok (.iload_n 1, 1) := by decide +kernel
theorem d_Table_u16_1 : decode b_Table_u16 1 = .ok (.ifCond .lt 13, 3) := by decide +kernel
theorem d_Table_u16_4 : decode b_Table_u16 4 = .ok (.iload_n 1, 1) := by decide +kernel
theorem d_Table_u16_5 : decode b_Table_u16 5 = .ok (.aload_n 0, 1) := by decide +kernel
theorem d_Table_u16_6 : decode b_Table_u16 6 = .ok (.getfield 15, 3) := by decide +kernel
theorem d_Table_u16_9 : decode b_Table_u16 9 = .ok (.iconst 2, 1) := by decide +kernel
theorem d_Table_u16_10 : decode b_Table_u16 10 = .ok (.isub, 1) := by decide +kernel
theorem d_Table_u16_11 : decode b_Table_u16 11 = .ok (.if_icmp .le 5, 3) := by decide +kernel
theorem d_Table_u16_14 : decode b_Table_u16 14 = .ok (.iconst 0, 1) := by decide +kernel
theorem d_Table_u16_15 : decode b_Table_u16 15 = .ok (.ireturn, 1) := by decide +kernel
theorem d_Table_u16_16 : decode b_Table_u16 16 = .ok (.aload_n 0, 1) := by decide +kernel
theorem d_Table_u16_17 : decode b_Table_u16 17 = .ok (.getfield 9, 3) := by decide +kernel
theorem d_Table_u16_20 : decode b_Table_u16 20 = .ok (.iload_n 1, 1) := by decide +kernel
theorem d_Table_u16_21 : decode b_Table_u16 21 = .ok (.baload, 1) := by decide +kernel
theorem d_Table_u16_22 : decode b_Table_u16 22 = .ok (.sipush 255, 3) := by decide +kernel
theorem d_Table_u16_25 : decode b_Table_u16 25 = .ok (.iand, 1) := by decide +kernel
theorem d_Table_u16_26 : decode b_Table_u16 26 = .ok (.bipush 8, 2) := by decide +kernel
theorem d_Table_u16_28 : decode b_Table_u16 28 = .ok (.ishl, 1) := by decide +kernel
theorem d_Table_u16_29 : decode b_Table_u16 29 = .ok (.aload_n 0, 1) := by decide +kernel
theorem d_Table_u16_30 : decode b_Table_u16 30 = .ok (.getfield 9, 3) := by decide +kernel
theorem d_Table_u16_33 : decode b_Table_u16 33 = .ok (.iload_n 1, 1) := by decide +kernel
theorem d_Table_u16_34 : decode b_Table_u16 34 = .ok (.iconst 1, 1) := by decide +kernel
theorem d_Table_u16_35 : decode b_Table_u16 35 = .ok (.iadd, 1) := by decide +kernel
theorem d_Table_u16_36 : decode b_Table_u16 36 = .ok (.baload, 1) := by decide +kernel
theorem d_Table_u16_37 : decode b_Table_u16 37 = .ok (.sipush 255, 3) := by decide +kernel
theorem d_Table_u16_40 : decode b_Table_u16 40 = .ok (.iand, 1) := by decide +kernel
theorem d_Table_u16_41 : decode b_Table_u16 41 = .ok (.ior, 1) := by decide +kernel
theorem d_Table_u16_42 : decode b_Table_u16 42 = .ok (.ireturn, 1) := by decide +kernel
abbrev b_Table_u32 : ByteArray := prog_8_method_9_code
def y_Table_u32 : MethodName := ⟨R_Table, "u32", "(I)I"⟩
theorem d_Table_u32_0 : decode b_Table_u32 0 = .ok (.aload_n 0, 1) := by decide +kernel
theorem d_Table_u32_1 : decode b_Table_u32 1 = .ok (.iload_n 1, 1) := by decide +kernel
theorem d_Table_u32_2 : decode b_Table_u32 2 = .ok (.invokevirtual 25, 3) := by decide +kernel
theorem d_Table_u32_5 : decode b_Table_u32 5 = .ok (.bipush 16, 2) := by decide +kernel
theorem d_Table_u32_7 : decode b_Table_u32 7 = .ok (.ishl, 1) := by decide +kernel
theorem d_Table_u32_8 : decode b_Table_u32 8 = .ok (.aload_n 0, 1) := by decide +kernel
theorem d_Table_u32_9 : decode b_Table_u32 9 = .ok (.iload_n 1, 1) := by decide +kernel
theorem d_Table_u32_10 : decode b_Table_u32 10 = .ok (.iconst 2, 1) := by decide +kernel
theorem d_Table_u32_11 : decode b_Table_u32 11 = .ok (.iadd, 1) := by decide +kernel
theorem d_Table_u32_12 : decode b_Table_u32 12 = .ok (.invokevirtual 25, 3) := by decide +kernel
theorem d_Table_u32_15 : decode b_Table_u32 15 = .ok (.ior, 1) := by decide +kernel
theorem d_Table_u32_16 : decode b_Table_u32 16 = .ok (.ireturn, 1) := by decide +kernel
abbrev b_Table_append : ByteArray := prog_8_method_2_code
def y_Table_append : MethodName := ⟨R_Table, "append", "(I)Z"⟩
theorem d_Table_append_0 : decode b_Table_append 0 = .ok (.aload_n 0, 1) := by decide +kernel
theorem d_Table_append_1 : decode b_Table_append 1 = .ok (.getfield 15, 3) := by decide +kernel
theorem d_Table_append_4 : decode b_Table_append 4 = .ok (.sipush 8188, 3) := by decide +kernel
theorem d_Table_append_7 : decode b_Table_append 7 = .ok (.if_icmp .le 5, 3) := by decide +kernel
theorem d_Table_append_10 : decode b_Table_append 10 = .ok (.iconst 0, 1) := by decide +kernel
theorem d_Table_append_11 : decode b_Table_append 11 = .ok (.ireturn, 1) := by decide +kernel
theorem d_Table_append_12 : decode b_Table_append 12 = .ok (.aload_n 0, 1) := by decide +kernel
theorem d_Table_append_13 : decode b_Table_append 13 = .ok (.getfield 9, 3) := by decide +kernel
theorem d_Table_append_16 : decode b_Table_append 16 = .ok (.aload_n 0, 1) := by decide +kernel
theorem d_Table_append_17 : decode b_Table_append 17 = .ok (.getfield 15, 3) := by decide +kernel
theorem d_Table_append_20 : decode b_Table_append 20 = .ok (.iload_n 1, 1) := by decide +kernel
theorem d_Table_append_21 : decode b_Table_append 21 = .ok (.bipush 24, 2) := by decide +kernel
theorem d_Table_append_23 : decode b_Table_append 23 = .ok (.iushr, 1) := by decide +kernel
theorem d_Table_append_24 : decode b_Table_append 24 = .ok (.i2b, 1) := by decide +kernel
theorem d_Table_append_25 : decode b_Table_append 25 = .ok (.bastore, 1) := by decide +kernel
theorem d_Table_append_26 : decode b_Table_append 26 = .ok (.aload_n 0, 1) := by decide +kernel
theorem d_Table_append_27 : decode b_Table_append 27 = .ok (.getfield 9, 3) := by decide +kernel
theorem d_Table_append_30 : decode b_Table_append 30 = .ok (.aload_n 0, 1) := by decide +kernel
theorem d_Table_append_31 : decode b_Table_append 31 = .ok (.getfield 15, 3) := by decide +kernel
theorem d_Table_append_34 : decode b_Table_append 34 = .ok (.iconst 1, 1) := by decide +kernel
theorem d_Table_append_35 : decode b_Table_append 35 = .ok (.iadd, 1) := by decide +kernel
theorem d_Table_append_36 : decode b_Table_append 36 = .ok (.iload_n 1, 1) := by decide +kernel
theorem d_Table_append_37 : decode b_Table_append 37 = .ok (.bipush 16, 2) := by decide +kernel
theorem d_Table_append_39 : decode b_Table_append 39 = .ok (.iushr, 1) := by decide +kernel
theorem d_Table_append_40 : decode b_Table_append 40 = .ok (.i2b, 1) := by decide +kernel
theorem d_Table_append_41 : decode b_Table_append 41 = .ok (.bastore, 1) := by decide +kernel
theorem d_Table_append_42 : decode b_Table_append 42 = .ok (.aload_n 0, 1) := by decide +kernel
theorem d_Table_append_43 : decode b_Table_append 43 = .ok (.getfield 9, 3) := by decide +kernel
theorem d_Table_append_46 : decode b_Table_append 46 = .ok (.aload_n 0, 1) := by decide +kernel
theorem d_Table_append_47 : decode b_Table_append 47 = .ok (.getfield 15, 3) := by decide +kernel
theorem d_Table_append_50 : decode b_Table_append 50 = .ok (.iconst 2, 1) := by decide +kernel
theorem d_Table_append_51 : decode b_Table_append 51 = .ok (.iadd, 1) := by decide +kernel
theorem d_Table_append_52 : decode b_Table_append 52 = .ok (.iload_n 1, 1) := by decide +kernel
theorem d_Table_append_53 : decode b_Table_append 53 = .ok (.bipush 8, 2) := by decide +kernel
theorem d_Table_append_55 : decode b_Table_append 55 = .ok (.iushr, 1) := by decide +kernel
theorem d_Table_append_56 : decode b_Table_append 56 = .ok (.i2b, 1) := by decide +kernel
theorem d_Table_append_57 : decode b_Table_append 57 = .ok (.bastore, 1) := by decide +kernel
theorem d_Table_append_58 : decode b_Table_append 58 = .ok (.aload_n 0, 1) := by decide +kernel
theorem d_Table_append_59 : decode b_Table_append 59 = .ok (.getfield 9, 3) := by decide +kernel
theorem d_Table_append_62 : decode b_Table_append 62 = .ok (.aload_n 0, 1) := by decide +kernel
theorem d_Table_append_63 : decode b_Table_append 63 = .ok (.getfield 15, 3) := by decide +kernel
theorem d_Table_append_66 : decode b_Table_append 66 = .ok (.iconst 3, 1) := by decide +kernel
theorem d_Table_append_67 : decode b_Table_append 67 = .ok (.iadd, 1) := by decide +kernel
theorem d_Table_append_68 : decode b_Table_append 68 = .ok (.iload_n 1, 1) := by decide +kernel
theorem d_Table_append_69 : decode b_Table_append 69 = .ok (.i2b, 1) := by decide +kernel
theorem d_Table_append_70 : decode b_Table_append 70 = .ok (.bastore, 1) := by decide +kernel
theorem d_Table_append_71 : decode b_Table_append 71 = .ok (.aload_n 0, 1) := by decide +kernel
theorem d_Table_append_72 : decode b_Table_append 72 = .ok (.dup, 1) := by decide +kernel
theorem d_Table_append_73 : decode b_Table_append 73 = .ok (.getfield 15, 3) := by decide +kernel
theorem d_Table_append_76 : decode b_Table_append 76 = .ok (.iconst 4, 1) := by decide +kernel
theorem d_Table_append_77 : decode b_Table_append 77 = .ok (.iadd, 1) := by decide +kernel
theorem d_Table_append_78 : decode b_Table_append 78 = .ok (.putfield 15, 3) := by decide +kernel
theorem d_Table_append_81 : decode b_Table_append 81 = .ok (.iconst 1, 1) := by decide +kernel
theorem d_Table_append_82 : decode b_Table_append 82 = .ok (.ireturn, 1) := by decide +kernel
abbrev b_Table_replace : ByteArray := prog_8_method_3_code
def y_Table_replace : MethodName := ⟨R_Table, "replace", "(II)I"⟩
theorem d_Table_replace_0 : decode b_Table_replace 0 = .ok (.iload_n 1, 1) := by decide +kernel
theorem d_Table_replace_1 : decode b_Table_replace 1 = .ok (.ifCond .lt 11, 3) := by decide +kernel
theorem d_Table_replace_4 : decode b_Table_replace 4 = .ok (.iload_n 1, 1) := by decide +kernel
theorem d_Table_replace_5 : decode b_Table_replace 5 = .ok (.aload_n 0, 1) := by decide +kernel
theorem d_Table_replace_6 : decode b_Table_replace 6 = .ok (.getfield 15, 3) := by decide +kernel
theorem d_Table_replace_9 : decode b_Table_replace 9 = .ok (.if_icmp .lt 5, 3) := by decide +kernel
theorem d_Table_replace_12 : decode b_Table_replace 12 = .ok (.iconst 0, 1) := by decide +kernel
theorem d_Table_replace_13 : decode b_Table_replace 13 = .ok (.ireturn, 1) := by decide +kernel
theorem d_Table_replace_14 : decode b_Table_replace 14 = .ok (.aload_n 0, 1) := by decide +kernel
theorem d_Table_replace_15 : decode b_Table_replace 15 = .ok (.getfield 9, 3) := by decide +kernel
theorem d_Table_replace_18 : decode b_Table_replace 18 = .ok (.iload_n 1, 1) := by decide +kernel
theorem d_Table_replace_19 : decode b_Table_replace 19 = .ok (.baload, 1) := by decide +kernel
theorem d_Table_replace_20 : decode b_Table_replace 20 = .ok (.sipush 255, 3) := by decide +kernel
theorem d_Table_replace_23 : decode b_Table_replace 23 = .ok (.iand, 1) := by decide +kernel
theorem d_Table_replace_24 : decode b_Table_replace 24 = .ok (.istore_n 3, 1) := by decide +kernel
theorem d_Table_replace_25 : decode b_Table_replace 25 = .ok (.aload_n 0, 1) := by decide +kernel
theorem d_Table_replace_26 : decode b_Table_replace 26 = .ok (.getfield 9, 3) := by decide +kernel
theorem d_Table_replace_29 : decode b_Table_replace 29 = .ok (.iload_n 1, 1) := by decide +kernel
theorem d_Table_replace_30 : decode b_Table_replace 30 = .ok (.iload_n 2, 1) := by decide +kernel
theorem d_Table_replace_31 : decode b_Table_replace 31 = .ok (.i2b, 1) := by decide +kernel
theorem d_Table_replace_32 : decode b_Table_replace 32 = .ok (.bastore, 1) := by decide +kernel
theorem d_Table_replace_33 : decode b_Table_replace 33 = .ok (.iload_n 3, 1) := by decide +kernel
theorem d_Table_replace_34 : decode b_Table_replace 34 = .ok (.ireturn, 1) := by decide +kernel
abbrev b_Table_shorten : ByteArray := prog_8_method_4_code
def y_Table_shorten : MethodName := ⟨R_Table, "shorten", "(I)I"⟩
theorem d_Table_shorten_0 : decode b_Table_shorten 0 = .ok (.iload_n 1, 1) := by decide +kernel
theorem d_Table_shorten_1 : decode b_Table_shorten 1 = .ok (.ifCond .lt 20, 3) := by decide +kernel
theorem d_Table_shorten_4 : decode b_Table_shorten 4 = .ok (.iload_n 1, 1) := by decide +kernel
theorem d_Table_shorten_5 : decode b_Table_shorten 5 = .ok (.aload_n 0, 1) := by decide +kernel
theorem d_Table_shorten_6 : decode b_Table_shorten 6 = .ok (.getfield 15, 3) := by decide +kernel
theorem d_Table_shorten_9 : decode b_Table_shorten 9 = .ok (.if_icmp .ge 12, 3) := by decide +kernel
theorem d_Table_shorten_12 : decode b_Table_shorten 12 = .ok (.aload_n 0, 1) := by decide +kernel
theorem d_Table_shorten_13 : decode b_Table_shorten 13 = .ok (.getfield 15, 3) := by decide +kernel
theorem d_Table_shorten_16 : decode b_Table_shorten 16 = .ok (.iload_n 1, 1) := by decide +kernel
theorem d_Table_shorten_17 : decode b_Table_shorten 17 = .ok (.isub, 1) := by decide +kernel
theorem d_Table_shorten_18 : decode b_Table_shorten 18 = .ok (.goto 4, 3) := by decide +kernel
theorem d_Table_shorten_21 : decode b_Table_shorten 21 = .ok (.iconst 0, 1) := by decide +kernel
theorem d_Table_shorten_22 : decode b_Table_shorten 22 = .ok (.istore_n 2, 1) := by decide +kernel
theorem d_Table_shorten_23 : decode b_Table_shorten 23 = .ok (.aload_n 0, 1) := by decide +kernel
theorem d_Table_shorten_24 : decode b_Table_shorten 24 = .ok (.dup, 1) := by decide +kernel
theorem d_Table_shorten_25 : decode b_Table_shorten 25 = .ok (.getfield 15, 3) := by decide +kernel
theorem d_Table_shorten_28 : decode b_Table_shorten 28 = .ok (.iload_n 2, 1) := by decide +kernel
theorem d_Table_shorten_29 : decode b_Table_shorten 29 = .ok (.isub, 1) := by decide +kernel
theorem d_Table_shorten_30 : decode b_Table_shorten 30 = .ok (.putfield 15, 3) := by decide +kernel
theorem d_Table_shorten_33 : decode b_Table_shorten 33 = .ok (.iload_n 2, 1) := by decide +kernel
theorem d_Table_shorten_34 : decode b_Table_shorten 34 = .ok (.ireturn, 1) := by decide +kernel
abbrev b_Table_s16 : ByteArray := prog_8_method_8_code
def y_Table_s16 : MethodName := ⟨R_Table, "s16", "(I)I"⟩
theorem d_Table_s16_0 : decode b_Table_s16 0 = .ok (.aload_n 0, 1) := by decide +kernel
theorem d_Table_s16_1 : decode b_Table_s16 1 = .ok (.iload_n 1, 1) := by decide +kernel
theorem d_Table_s16_2 : decode b_Table_s16 2 = .ok (.invokevirtual 25, 3) := by decide +kernel
theorem d_Table_s16_5 : decode b_Table_s16 5 = .ok (.i2s, 1) := by decide +kernel
theorem d_Table_s16_6 : decode b_Table_s16 6 = .ok (.ireturn, 1) := by decide +kernel
abbrev b_Integer_bitCount : ByteArray := prog_17_method_49_code
def y_Integer_bitCount : MethodName := ⟨R_Integer, "bitCount", "(I)I"⟩
theorem d_Integer_bitCount_0 : decode b_Integer_bitCount 0 = .ok (.iload_n 0, 1) := by decide +kernel
theorem d_Integer_bitCount_1 : decode b_Integer_bitCount 1 = .ok (.iload_n 0, 1) := by decide +kernel
theorem d_Integer_bitCount_2 : decode b_Integer_bitCount 2 = .ok (.iconst 1, 1) := by decide +kernel
theorem d_Integer_bitCount_3 : decode b_Integer_bitCount 3 = .ok (.iushr, 1) := by decide +kernel
theorem d_Integer_bitCount_4 : decode b_Integer_bitCount 4 = .ok (.ldc_w 265, 3) := by decide +kernel
theorem d_Integer_bitCount_7 : decode b_Integer_bitCount 7 = .ok (.iand, 1) := by decide +kernel
theorem d_Integer_bitCount_8 : decode b_Integer_bitCount 8 = .ok (.isub, 1) := by decide +kernel
theorem d_Integer_bitCount_9 : decode b_Integer_bitCount 9 = .ok (.istore_n 0, 1) := by decide +kernel
theorem d_Integer_bitCount_10 : decode b_Integer_bitCount 10 = .ok (.iload_n 0, 1) := by decide +kernel
theorem d_Integer_bitCount_11 : decode b_Integer_bitCount 11 = .ok (.ldc_w 266, 3) := by decide +kernel
theorem d_Integer_bitCount_14 : decode b_Integer_bitCount 14 = .ok (.iand, 1) := by decide +kernel
theorem d_Integer_bitCount_15 : decode b_Integer_bitCount 15 = .ok (.iload_n 0, 1) := by decide +kernel
theorem d_Integer_bitCount_16 : decode b_Integer_bitCount 16 = .ok (.iconst 2, 1) := by decide +kernel
theorem d_Integer_bitCount_17 : decode b_Integer_bitCount 17 = .ok (.iushr, 1) := by decide +kernel
theorem d_Integer_bitCount_18 : decode b_Integer_bitCount 18 = .ok (.ldc_w 266, 3) := by decide +kernel
theorem d_Integer_bitCount_21 : decode b_Integer_bitCount 21 = .ok (.iand, 1) := by decide +kernel
theorem d_Integer_bitCount_22 : decode b_Integer_bitCount 22 = .ok (.iadd, 1) := by decide +kernel
theorem d_Integer_bitCount_23 : decode b_Integer_bitCount 23 = .ok (.istore_n 0, 1) := by decide +kernel
theorem d_Integer_bitCount_24 : decode b_Integer_bitCount 24 = .ok (.iload_n 0, 1) := by decide +kernel
theorem d_Integer_bitCount_25 : decode b_Integer_bitCount 25 = .ok (.iload_n 0, 1) := by decide +kernel
theorem d_Integer_bitCount_26 : decode b_Integer_bitCount 26 = .ok (.iconst 4, 1) := by decide +kernel
theorem d_Integer_bitCount_27 : decode b_Integer_bitCount 27 = .ok (.iushr, 1) := by decide +kernel
theorem d_Integer_bitCount_28 : decode b_Integer_bitCount 28 = .ok (.iadd, 1) := by decide +kernel
theorem d_Integer_bitCount_29 : decode b_Integer_bitCount 29 = .ok (.ldc_w 267, 3) := by decide +kernel
theorem d_Integer_bitCount_32 : decode b_Integer_bitCount 32 = .ok (.iand, 1) := by decide +kernel
theorem d_Integer_bitCount_33 : decode b_Integer_bitCount 33 = .ok (.istore_n 0, 1) := by decide +kernel
theorem d_Integer_bitCount_34 : decode b_Integer_bitCount 34 = .ok (.iload_n 0, 1) := by decide +kernel
theorem d_Integer_bitCount_35 : decode b_Integer_bitCount 35 = .ok (.iload_n 0, 1) := by decide +kernel
theorem d_Integer_bitCount_36 : decode b_Integer_bitCount 36 = .ok (.bipush 8, 2) := by decide +kernel
theorem d_Integer_bitCount_38 : decode b_Integer_bitCount 38 = .ok (.iushr, 1) := by decide +kernel
theorem d_Integer_bitCount_39 : decode b_Integer_bitCount 39 = .ok (.iadd, 1) := by decide +kernel
theorem d_Integer_bitCount_40 : decode b_Integer_bitCount 40 = .ok (.istore_n 0, 1) := by decide +kernel
theorem d_Integer_bitCount_41 : decode b_Integer_bitCount 41 = .ok (.iload_n 0, 1) := by decide +kernel
theorem d_Integer_bitCount_42 : decode b_Integer_bitCount 42 = .ok (.iload_n 0, 1) := by decide +kernel
theorem d_Integer_bitCount_43 : decode b_Integer_bitCount 43 = .ok (.bipush 16, 2) := by decide +kernel
theorem d_Integer_bitCount_45 : decode b_Integer_bitCount 45 = .ok (.iushr, 1) := by decide +kernel
theorem d_Integer_bitCount_46 : decode b_Integer_bitCount 46 = .ok (.iadd, 1) := by decide +kernel
theorem d_Integer_bitCount_47 : decode b_Integer_bitCount 47 = .ok (.istore_n 0, 1) := by decide +kernel
theorem d_Integer_bitCount_48 : decode b_Integer_bitCount 48 = .ok (.iload_n 0, 1) := by decide +kernel
theorem d_Integer_bitCount_49 : decode b_Integer_bitCount 49 = .ok (.bipush 63, 2) := by decide +kernel
theorem d_Integer_bitCount_51 : decode b_Integer_bitCount 51 = .ok (.iand, 1) := by decide +kernel
theorem d_Integer_bitCount_52 : decode b_Integer_bitCount 52 = .ok (.ireturn, 1) := by decide +kernel
abbrev b_Integer_compare : ByteArray := prog_17_method_40_code
def y_Integer_compare : MethodName := ⟨R_Integer, "compare", "(II)I"⟩
theorem d_Integer_compare_0 : decode b_Integer_compare 0 = .ok (.iload_n 0, 1) := by decide +kernel
theorem d_Integer_compare_1 : decode b_Integer_compare 1 = .ok (.iload_n 1, 1) := by decide +kernel
theorem d_Integer_compare_2 : decode b_Integer_compare 2 = .ok (.if_icmp .ge 7, 3) := by decide +kernel
theorem d_Integer_compare_5 : decode b_Integer_compare 5 = .ok (.iconst (-1), 1) := by decide +kernel
theorem d_Integer_compare_6 : decode b_Integer_compare 6 = .ok (.goto 13, 3) := by decide +kernel
theorem d_Integer_compare_9 : decode b_Integer_compare 9 = .ok (.iload_n 0, 1) := by decide +kernel
theorem d_Integer_compare_10 : decode b_Integer_compare 10 = .ok (.iload_n 1, 1) := by decide +kernel
theorem d_Integer_compare_11 : decode b_Integer_compare 11 = .ok (.if_icmp .ne 7, 3) := by decide +kernel
theorem d_Integer_compare_14 : decode b_Integer_compare 14 = .ok (.iconst 0, 1) := by decide +kernel
theorem d_Integer_compare_15 : decode b_Integer_compare 15 = .ok (.goto 4, 3) := by decide +kernel
theorem d_Integer_compare_18 : decode b_Integer_compare 18 = .ok (.iconst 1, 1) := by decide +kernel
theorem d_Integer_compare_19 : decode b_Integer_compare 19 = .ok (.ireturn, 1) := by decide +kernel
abbrev b_Integer_compareUnsigned : ByteArray := prog_17_method_41_code
def y_Integer_compareUnsigned : MethodName := ⟨R_Integer, "compareUnsigned", "(II)I"⟩
theorem d_Integer_compareUnsigned_0 : decode b_Integer_compareUnsigned 0 = .ok (.iload_n 0, 1) := by decide +kernel
theorem d_Integer_compareUnsigned_1 : decode b_Integer_compareUnsigned 1 = .ok (.ldc 127, 2) := by decide +kernel
theorem d_Integer_compareUnsigned_3 : decode b_Integer_compareUnsigned 3 = .ok (.iadd, 1) := by decide +kernel
theorem d_Integer_compareUnsigned_4 : decode b_Integer_compareUnsigned 4 = .ok (.iload_n 1, 1) := by decide +kernel
theorem d_Integer_compareUnsigned_5 : decode b_Integer_compareUnsigned 5 = .ok (.ldc 127, 2) := by decide +kernel
theorem d_Integer_compareUnsigned_7 : decode b_Integer_compareUnsigned 7 = .ok (.iadd, 1) := by decide +kernel
theorem d_Integer_compareUnsigned_8 : decode b_Integer_compareUnsigned 8 = .ok (.invokestatic 259, 3) := by decide +kernel
theorem d_Integer_compareUnsigned_11 : decode b_Integer_compareUnsigned 11 = .ok (.ireturn, 1) := by decide +kernel
abbrev b_Loader_headAsSaid : ByteArray := prog_5_method_2_code
def y_Loader_headAsSaid : MethodName := ⟨R_Loader, "headAsSaid", "()Z"⟩
theorem d_Loader_headAsSaid_0 : decode b_Loader_headAsSaid 0 = .ok (.aload_n 0, 1) := by decide +kernel
theorem d_Loader_headAsSaid_1 : decode b_Loader_headAsSaid 1 = .ok (.getfield 9, 3) := by decide +kernel
theorem d_Loader_headAsSaid_4 : decode b_Loader_headAsSaid 4 = .ok (.iconst 0, 1) := by decide +kernel
theorem d_Loader_headAsSaid_5 : decode b_Loader_headAsSaid 5 = .ok (.bipush 10, 2) := by decide +kernel
theorem d_Loader_headAsSaid_7 : decode b_Loader_headAsSaid 7 = .ok (.invokevirtual 15, 3) := by decide +kernel
theorem d_Loader_headAsSaid_10 : decode b_Loader_headAsSaid 10 = .ok (.ifCond .eq 65, 3) := by decide +kernel
theorem d_Loader_headAsSaid_13 : decode b_Loader_headAsSaid 13 = .ok (.aload_n 0, 1) := by decide +kernel
theorem d_Loader_headAsSaid_14 : decode b_Loader_headAsSaid 14 = .ok (.getfield 9, 3) := by decide +kernel
theorem d_Loader_headAsSaid_17 : decode b_Loader_headAsSaid 17 = .ok (.iconst 0, 1) := by decide +kernel
theorem d_Loader_headAsSaid_18 : decode b_Loader_headAsSaid 18 = .ok (.invokevirtual 21, 3) := by decide +kernel
theorem d_Loader_headAsSaid_21 : decode b_Loader_headAsSaid 21 = .ok (.iconst 1, 1) := by decide +kernel
theorem d_Loader_headAsSaid_22 : decode b_Loader_headAsSaid 22 = .ok (.if_icmp .ne 53, 3) := by decide +kernel
theorem d_Loader_headAsSaid_25 : decode b_Loader_headAsSaid 25 = .ok (.aload_n 0, 1) := by decide +kernel
theorem d_Loader_headAsSaid_26 : decode b_Loader_headAsSaid 26 = .ok (.getfield 9, 3) := by decide +kernel
theorem d_Loader_headAsSaid_29 : decode b_Loader_headAsSaid 29 = .ok (.iconst 2, 1) := by decide +kernel
theorem d_Loader_headAsSaid_30 : decode b_Loader_headAsSaid 30 = .ok (.invokevirtual 21, 3) := by decide +kernel
theorem d_Loader_headAsSaid_33 : decode b_Loader_headAsSaid 33 = .ok (.ifCond .ne 42, 3) := by decide +kernel
theorem d_Loader_headAsSaid_36 : decode b_Loader_headAsSaid 36 = .ok (.aload_n 0, 1) := by decide +kernel
theorem d_Loader_headAsSaid_37 : decode b_Loader_headAsSaid 37 = .ok (.getfield 9, 3) := by decide +kernel
theorem d_Loader_headAsSaid_40 : decode b_Loader_headAsSaid 40 = .ok (.iconst 4, 1) := by decide +kernel
theorem d_Loader_headAsSaid_41 : decode b_Loader_headAsSaid 41 = .ok (.invokevirtual 21, 3) := by decide +kernel
theorem d_Loader_headAsSaid_44 : decode b_Loader_headAsSaid 44 = .ok (.ifCond .eq 31, 3) := by decide +kernel
theorem d_Loader_headAsSaid_47 : decode b_Loader_headAsSaid 47 = .ok (.aload_n 0, 1) := by decide +kernel
theorem d_Loader_headAsSaid_48 : decode b_Loader_headAsSaid 48 = .ok (.getfield 9, 3) := by decide +kernel
theorem d_Loader_headAsSaid_51 : decode b_Loader_headAsSaid 51 = .ok (.bipush 6, 2) := by decide +kernel
theorem d_Loader_headAsSaid_53 : decode b_Loader_headAsSaid 53 = .ok (.invokevirtual 21, 3) := by decide +kernel
theorem d_Loader_headAsSaid_56 : decode b_Loader_headAsSaid 56 = .ok (.ifCond .eq 19, 3) := by decide +kernel
theorem d_Loader_headAsSaid_59 : decode b_Loader_headAsSaid 59 = .ok (.aload_n 0, 1) := by decide +kernel
theorem d_Loader_headAsSaid_60 : decode b_Loader_headAsSaid 60 = .ok (.getfield 9, 3) := by decide +kernel
theorem d_Loader_headAsSaid_63 : decode b_Loader_headAsSaid 63 = .ok (.bipush 8, 2) := by decide +kernel
theorem d_Loader_headAsSaid_65 : decode b_Loader_headAsSaid 65 = .ok (.invokevirtual 21, 3) := by decide +kernel
theorem d_Loader_headAsSaid_68 : decode b_Loader_headAsSaid 68 = .ok (.ifCond .eq 7, 3) := by decide +kernel
theorem d_Loader_headAsSaid_71 : decode b_Loader_headAsSaid 71 = .ok (.iconst 1, 1) := by decide +kernel
theorem d_Loader_headAsSaid_72 : decode b_Loader_headAsSaid 72 = .ok (.goto 4, 3) := by decide +kernel
theorem d_Loader_headAsSaid_75 : decode b_Loader_headAsSaid 75 = .ok (.iconst 0, 1) := by decide +kernel
theorem d_Loader_headAsSaid_76 : decode b_Loader_headAsSaid 76 = .ok (.ireturn, 1) := by decide +kernel
abbrev b_Loader_listLies : ByteArray := prog_5_method_9_code
def y_Loader_listLies : MethodName := ⟨R_Loader, "listLies", "(III)Z"⟩
theorem d_Loader_listLies_0 : decode b_Loader_listLies 0 = .ok (.aload_n 0, 1) := by decide +kernel
theorem d_Loader_listLies_1 : decode b_Loader_listLies 1 = .ok (.getfield 9, 3) := by decide +kernel
theorem d_Loader_listLies_4 : decode b_Loader_listLies 4 = .ok (.iload_n 1, 1) := by decide +kernel
theorem d_Loader_listLies_5 : decode b_Loader_listLies 5 = .ok (.iconst 2, 1) := by decide +kernel
theorem d_Loader_listLies_6 : decode b_Loader_listLies 6 = .ok (.invokevirtual 15, 3) := by decide +kernel
theorem d_Loader_listLies_9 : decode b_Loader_listLies 9 = .ok (.ifCond .ne 5, 3) := by decide +kernel
theorem d_Loader_listLies_12 : decode b_Loader_listLies 12 = .ok (.iconst 0, 1) := by decide +kernel
theorem d_Loader_listLies_13 : decode b_Loader_listLies 13 = .ok (.ireturn, 1) := by decide +kernel
theorem d_Loader_listLies_14 : decode b_Loader_listLies 14 = .ok (.aload_n 0, 1) := by decide +kernel
theorem d_Loader_listLies_15 : decode b_Loader_listLies 15 = .ok (.getfield 9, 3) := by decide +kernel
theorem d_Loader_listLies_18 : decode b_Loader_listLies 18 = .ok (.iload_n 1, 1) := by decide +kernel
theorem d_Loader_listLies_19 : decode b_Loader_listLies 19 = .ok (.invokevirtual 21, 3) := by decide +kernel
theorem d_Loader_listLies_22 : decode b_Loader_listLies 22 = .ok (.istore 4, 2) := by decide +kernel
theorem d_Loader_listLies_24 : decode b_Loader_listLies 24 = .ok (.iload 4, 2) := by decide +kernel
theorem d_Loader_listLies_26 : decode b_Loader_listLies 26 = .ok (.iload_n 2, 1) := by decide +kernel
theorem d_Loader_listLies_27 : decode b_Loader_listLies 27 = .ok (.if_icmp .gt 24, 3) := by decide +kernel
theorem d_Loader_listLies_30 : decode b_Loader_listLies 30 = .ok (.aload_n 0, 1) := by decide +kernel
theorem d_Loader_listLies_31 : decode b_Loader_listLies 31 = .ok (.getfield 9, 3) := by decide +kernel
theorem d_Loader_listLies_34 : decode b_Loader_listLies 34 = .ok (.iload_n 1, 1) := by decide +kernel
theorem d_Loader_listLies_35 : decode b_Loader_listLies 35 = .ok (.iconst 2, 1) := by decide +kernel
theorem d_Loader_listLies_36 : decode b_Loader_listLies 36 = .ok (.iadd, 1) := by decide +kernel
theorem d_Loader_listLies_37 : decode b_Loader_listLies 37 = .ok (.iload 4, 2) := by decide +kernel
theorem d_Loader_listLies_39 : decode b_Loader_listLies 39 = .ok (.iload_n 3, 1) := by decide +kernel
theorem d_Loader_listLies_40 : decode b_Loader_listLies 40 = .ok (.imul, 1) := by decide +kernel
theorem d_Loader_listLies_41 : decode b_Loader_listLies 41 = .ok (.invokevirtual 15, 3) := by decide +kernel
theorem d_Loader_listLies_44 : decode b_Loader_listLies 44 = .ok (.ifCond .eq 7, 3) := by decide +kernel
theorem d_Loader_listLies_47 : decode b_Loader_listLies 47 = .ok (.iconst 1, 1) := by decide +kernel
theorem d_Loader_listLies_48 : decode b_Loader_listLies 48 = .ok (.goto 4, 3) := by decide +kernel
theorem d_Loader_listLies_51 : decode b_Loader_listLies 51 = .ok (.iconst 0, 1) := by decide +kernel
theorem d_Loader_listLies_52 : decode b_Loader_listLies 52 = .ok (.ireturn, 1) := by decide +kernel
abbrev b_Loader_tagsAsSaid : ByteArray := prog_5_method_7_code
def y_Loader_tagsAsSaid : MethodName := ⟨R_Loader, "tagsAsSaid", "(IZ)Z"⟩
theorem d_Loader_tagsAsSaid_0 : decode b_Loader_tagsAsSaid 0 = .ok (.aload_n 0, 1) := by decide +kernel
theorem d_Loader_tagsAsSaid_1 : decode b_Loader_tagsAsSaid 1 = .ok (.iload_n 1, 1) := by decide +kernel
theorem d_Loader_tagsAsSaid_2 : decode b_Loader_tagsAsSaid 2 = .ok (.bipush 64, 2) := by decide +kernel
theorem d_Loader_tagsAsSaid_4 : decode b_Loader_tagsAsSaid 4 = .ok (.bipush 6, 2) := by decide +kernel
theorem d_Loader_tagsAsSaid_6 : decode b_Loader_tagsAsSaid 6 = .ok (.invokevirtual 40, 3) := by decide +kernel
theorem d_Loader_tagsAsSaid_9 : decode b_Loader_tagsAsSaid 9 = .ok (.ifCond .ne 5, 3) := by decide +kernel
theorem d_Loader_tagsAsSaid_12 : decode b_Loader_tagsAsSaid 12 = .ok (.iconst 0, 1) := by decide +kernel
theorem d_Loader_tagsAsSaid_13 : decode b_Loader_tagsAsSaid 13 = .ok (.ireturn, 1) := by decide +kernel
theorem d_Loader_tagsAsSaid_14 : decode b_Loader_tagsAsSaid 14 = .ok (.aload_n 0, 1) := by decide +kernel
theorem d_Loader_tagsAsSaid_15 : decode b_Loader_tagsAsSaid 15 = .ok (.getfield 9, 3) := by decide +kernel
theorem d_Loader_tagsAsSaid_18 : decode b_Loader_tagsAsSaid 18 = .ok (.iload_n 1, 1) := by decide +kernel
theorem d_Loader_tagsAsSaid_19 : decode b_Loader_tagsAsSaid 19 = .ok (.invokevirtual 21, 3) := by decide +kernel
theorem d_Loader_tagsAsSaid_22 : decode b_Loader_tagsAsSaid 22 = .ok (.istore_n 3, 1) := by decide +kernel
theorem d_Loader_tagsAsSaid_23 : decode b_Loader_tagsAsSaid 23 = .ok (.iconst 1, 1) := by decide +kernel
theorem d_Loader_tagsAsSaid_24 : decode b_Loader_tagsAsSaid 24 = .ok (.istore 4, 2) := by decide +kernel
theorem d_Loader_tagsAsSaid_26 : decode b_Loader_tagsAsSaid 26 = .ok (.iload 4, 2) := by decide +kernel
theorem d_Loader_tagsAsSaid_28 : decode b_Loader_tagsAsSaid 28 = .ok (.iload_n 3, 1) := by decide +kernel
theorem d_Loader_tagsAsSaid_29 : decode b_Loader_tagsAsSaid 29 = .ok (.if_icmp .ge 62, 3) := by decide +kernel
theorem d_Loader_tagsAsSaid_32 : decode b_Loader_tagsAsSaid 32 = .ok (.aload_n 0, 1) := by decide +kernel
theorem d_Loader_tagsAsSaid_33 : decode b_Loader_tagsAsSaid 33 = .ok (.getfield 9, 3) := by decide +kernel
theorem d_Loader_tagsAsSaid_36 : decode b_Loader_tagsAsSaid 36 = .ok (.iload_n 1, 1) := by decide +kernel
theorem d_Loader_tagsAsSaid_37 : decode b_Loader_tagsAsSaid 37 = .ok (.iconst 2, 1) := by decide +kernel
theorem d_Loader_tagsAsSaid_38 : decode b_Loader_tagsAsSaid 38 = .ok (.iadd, 1) := by decide +kernel
theorem d_Loader_tagsAsSaid_39 : decode b_Loader_tagsAsSaid 39 = .ok (.bipush 6, 2) := by decide +kernel
theorem d_Loader_tagsAsSaid_41 : decode b_Loader_tagsAsSaid 41 = .ok (.iload 4, 2) := by decide +kernel
theorem d_Loader_tagsAsSaid_43 : decode b_Loader_tagsAsSaid 43 = .ok (.imul, 1) := by decide +kernel
theorem d_Loader_tagsAsSaid_44 : decode b_Loader_tagsAsSaid 44 = .ok (.iadd, 1) := by decide +kernel
theorem d_Loader_tagsAsSaid_45 : decode b_Loader_tagsAsSaid 45 = .ok (.invokevirtual 44, 3) := by decide +kernel
theorem d_Loader_tagsAsSaid_48 : decode b_Loader_tagsAsSaid 48 = .ok (.aload_n 0, 1) := by decide +kernel
theorem d_Loader_tagsAsSaid_49 : decode b_Loader_tagsAsSaid 49 = .ok (.getfield 9, 3) := by decide +kernel
theorem d_Loader_tagsAsSaid_52 : decode b_Loader_tagsAsSaid 52 = .ok (.iload_n 1, 1) := by decide +kernel
theorem d_Loader_tagsAsSaid_53 : decode b_Loader_tagsAsSaid 53 = .ok (.iconst 4, 1) := by decide +kernel
theorem d_Loader_tagsAsSaid_54 : decode b_Loader_tagsAsSaid 54 = .ok (.isub, 1) := by decide +kernel
theorem d_Loader_tagsAsSaid_55 : decode b_Loader_tagsAsSaid 55 = .ok (.bipush 6, 2) := by decide +kernel
theorem d_Loader_tagsAsSaid_57 : decode b_Loader_tagsAsSaid 57 = .ok (.iload 4, 2) := by decide +kernel
theorem d_Loader_tagsAsSaid_59 : decode b_Loader_tagsAsSaid 59 = .ok (.imul, 1) := by decide +kernel
theorem d_Loader_tagsAsSaid_60 : decode b_Loader_tagsAsSaid 60 = .ok (.iadd, 1) := by decide +kernel
theorem d_Loader_tagsAsSaid_61 : decode b_Loader_tagsAsSaid 61 = .ok (.invokevirtual 44, 3) := by decide +kernel
theorem d_Loader_tagsAsSaid_64 : decode b_Loader_tagsAsSaid 64 = .ok (.invokestatic 47, 3) := by decide +kernel
theorem d_Loader_tagsAsSaid_67 : decode b_Loader_tagsAsSaid 67 = .ok (.istore 5, 2) := by decide +kernel
theorem d_Loader_tagsAsSaid_69 : decode b_Loader_tagsAsSaid 69 = .ok (.iload 5, 2) := by decide +kernel
theorem d_Loader_tagsAsSaid_71 : decode b_Loader_tagsAsSaid 71 = .ok (.ifCond .lt 12, 3) := by decide +kernel
theorem d_Loader_tagsAsSaid_74 : decode b_Loader_tagsAsSaid 74 = .ok (.iload 5, 2) := by decide +kernel
theorem d_Loader_tagsAsSaid_76 : decode b_Loader_tagsAsSaid 76 = .ok (.ifCond .ne 9, 3) := by decide +kernel
theorem d_Loader_tagsAsSaid_79 : decode b_Loader_tagsAsSaid 79 = .ok (.iload_n 2, 1) := by decide +kernel
theorem d_Loader_tagsAsSaid_80 : decode b_Loader_tagsAsSaid 80 = .ok (.ifCond .ne 5, 3) := by decide +kernel
theorem d_Loader_tagsAsSaid_83 : decode b_Loader_tagsAsSaid 83 = .ok (.iconst 0, 1) := by decide +kernel
theorem d_Loader_tagsAsSaid_84 : decode b_Loader_tagsAsSaid 84 = .ok (.ireturn, 1) := by decide +kernel
theorem d_Loader_tagsAsSaid_85 : decode b_Loader_tagsAsSaid 85 = .ok (.iinc 4 1, 3) := by decide +kernel
theorem d_Loader_tagsAsSaid_88 : decode b_Loader_tagsAsSaid 88 = .ok (.goto (-62), 3) := by decide +kernel
theorem d_Loader_tagsAsSaid_91 : decode b_Loader_tagsAsSaid 91 = .ok (.iconst 1, 1) := by decide +kernel
theorem d_Loader_tagsAsSaid_92 : decode b_Loader_tagsAsSaid 92 = .ok (.ireturn, 1) := by decide +kernel
abbrev b_Loader_numbersAsSaid : ByteArray := prog_5_method_8_code
def y_Loader_numbersAsSaid : MethodName := ⟨R_Loader, "numbersAsSaid", "(II)Z"⟩
theorem d_Loader_numbersAsSaid_0 : decode b_Loader_numbersAsSaid 0 = .ok (.aload_n 0, 1) := by decide +kernel
theorem d_Loader_numbersAsSaid_1 : decode b_Loader_numbersAsSaid 1 = .ok (.iload_n 1, 1) := by decide +kernel
theorem d_Loader_numbersAsSaid_2 : decode b_Loader_numbersAsSaid 2 = .ok (.bipush 64, 2) := by decide +kernel
theorem d_Loader_numbersAsSaid_4 : decode b_Loader_numbersAsSaid 4 = .ok (.iconst 2, 1) := by decide +kernel
theorem d_Loader_numbersAsSaid_5 : decode b_Loader_numbersAsSaid 5 = .ok (.invokevirtual 40, 3) := by decide +kernel
theorem d_Loader_numbersAsSaid_8 : decode b_Loader_numbersAsSaid 8 = .ok (.ifCond .ne 5, 3) := by decide +kernel
theorem d_Loader_numbersAsSaid_11 : decode b_Loader_numbersAsSaid 11 = .ok (.iconst 0, 1) := by decide +kernel
theorem d_Loader_numbersAsSaid_12 : decode b_Loader_numbersAsSaid 12 = .ok (.ireturn, 1) := by decide +kernel
theorem d_Loader_numbersAsSaid_13 : decode b_Loader_numbersAsSaid 13 = .ok (.aload_n 0, 1) := by decide +kernel
theorem d_Loader_numbersAsSaid_14 : decode b_Loader_numbersAsSaid 14 = .ok (.getfield 9, 3) := by decide +kernel
theorem d_Loader_numbersAsSaid_17 : decode b_Loader_numbersAsSaid 17 = .ok (.iload_n 1, 1) := by decide +kernel
theorem d_Loader_numbersAsSaid_18 : decode b_Loader_numbersAsSaid 18 = .ok (.invokevirtual 21, 3) := by decide +kernel
theorem d_Loader_numbersAsSaid_21 : decode b_Loader_numbersAsSaid 21 = .ok (.istore_n 3, 1) := by decide +kernel
theorem d_Loader_numbersAsSaid_22 : decode b_Loader_numbersAsSaid 22 = .ok (.iconst 0, 1) := by decide +kernel
theorem d_Loader_numbersAsSaid_23 : decode b_Loader_numbersAsSaid 23 = .ok (.istore 4, 2) := by decide +kernel
theorem d_Loader_numbersAsSaid_25 : decode b_Loader_numbersAsSaid 25 = .ok (.iload 4, 2) := by decide +kernel
theorem d_Loader_numbersAsSaid_27 : decode b_Loader_numbersAsSaid 27 = .ok (.iload_n 3, 1) := by decide +kernel
theorem d_Loader_numbersAsSaid_28 : decode b_Loader_numbersAsSaid 28 = .ok (.if_icmp .ge 30, 3) := by decide +kernel
theorem d_Loader_numbersAsSaid_31 : decode b_Loader_numbersAsSaid 31 = .ok (.aload_n 0, 1) := by decide +kernel
theorem d_Loader_numbersAsSaid_32 : decode b_Loader_numbersAsSaid 32 = .ok (.getfield 9, 3) := by decide +kernel
theorem d_Loader_numbersAsSaid_35 : decode b_Loader_numbersAsSaid 35 = .ok (.iload_n 1, 1) := by decide +kernel
theorem d_Loader_numbersAsSaid_36 : decode b_Loader_numbersAsSaid 36 = .ok (.iconst 2, 1) := by decide +kernel
theorem d_Loader_numbersAsSaid_37 : decode b_Loader_numbersAsSaid 37 = .ok (.iadd, 1) := by decide +kernel
theorem d_Loader_numbersAsSaid_38 : decode b_Loader_numbersAsSaid 38 = .ok (.iconst 2, 1) := by decide +kernel
theorem d_Loader_numbersAsSaid_39 : decode b_Loader_numbersAsSaid 39 = .ok (.iload 4, 2) := by decide +kernel
theorem d_Loader_numbersAsSaid_41 : decode b_Loader_numbersAsSaid 41 = .ok (.imul, 1) := by decide +kernel
theorem d_Loader_numbersAsSaid_42 : decode b_Loader_numbersAsSaid 42 = .ok (.iadd, 1) := by decide +kernel
theorem d_Loader_numbersAsSaid_43 : decode b_Loader_numbersAsSaid 43 = .ok (.invokevirtual 21, 3) := by decide +kernel
theorem d_Loader_numbersAsSaid_46 : decode b_Loader_numbersAsSaid 46 = .ok (.iload_n 2, 1) := by decide +kernel
theorem d_Loader_numbersAsSaid_47 : decode b_Loader_numbersAsSaid 47 = .ok (.if_icmp .lt 5, 3) := by decide +kernel
theorem d_Loader_numbersAsSaid_50 : decode b_Loader_numbersAsSaid 50 = .ok (.iconst 0, 1) := by decide +kernel
theorem d_Loader_numbersAsSaid_51 : decode b_Loader_numbersAsSaid 51 = .ok (.ireturn, 1) := by decide +kernel
theorem d_Loader_numbersAsSaid_52 : decode b_Loader_numbersAsSaid 52 = .ok (.iinc 4 1, 3) := by decide +kernel
theorem d_Loader_numbersAsSaid_55 : decode b_Loader_numbersAsSaid 55 = .ok (.goto (-30), 3) := by decide +kernel
theorem d_Loader_numbersAsSaid_58 : decode b_Loader_numbersAsSaid 58 = .ok (.iconst 1, 1) := by decide +kernel
theorem d_Loader_numbersAsSaid_59 : decode b_Loader_numbersAsSaid 59 = .ok (.ireturn, 1) := by decide +kernel
abbrev b_Loader_languageAsSaid : ByteArray := prog_5_method_5_code
def y_Loader_languageAsSaid : MethodName := ⟨R_Loader, "languageAsSaid", "(I)Z"⟩
theorem d_Loader_languageAsSaid_0 : decode b_Loader_languageAsSaid 0 = .ok (.aload_n 0, 1) := by decide +kernel
theorem d_Loader_languageAsSaid_1 : decode b_Loader_languageAsSaid 1 = .ok (.getfield 9, 3) := by decide +kernel
theorem d_Loader_languageAsSaid_4 : decode b_Loader_languageAsSaid 4 = .ok (.aload_n 0, 1) := by decide +kernel
theorem d_Loader_languageAsSaid_5 : decode b_Loader_languageAsSaid 5 = .ok (.getfield 9, 3) := by decide +kernel
theorem d_Loader_languageAsSaid_8 : decode b_Loader_languageAsSaid 8 = .ok (.bipush 6, 2) := by decide +kernel
theorem d_Loader_languageAsSaid_10 : decode b_Loader_languageAsSaid 10 = .ok (.invokevirtual 21, 3) := by decide +kernel
theorem d_Loader_languageAsSaid_13 : decode b_Loader_languageAsSaid 13 = .ok (.invokevirtual 21, 3) := by decide +kernel
theorem d_Loader_languageAsSaid_16 : decode b_Loader_languageAsSaid 16 = .ok (.istore_n 2, 1) := by decide +kernel
theorem d_Loader_languageAsSaid_17 : decode b_Loader_languageAsSaid 17 = .ok (.aload_n 0, 1) := by decide +kernel
theorem d_Loader_languageAsSaid_18 : decode b_Loader_languageAsSaid 18 = .ok (.getfield 9, 3) := by decide +kernel
theorem d_Loader_languageAsSaid_21 : decode b_Loader_languageAsSaid 21 = .ok (.iload_n 1, 1) := by decide +kernel
theorem d_Loader_languageAsSaid_22 : decode b_Loader_languageAsSaid 22 = .ok (.iconst 4, 1) := by decide +kernel
theorem d_Loader_languageAsSaid_23 : decode b_Loader_languageAsSaid 23 = .ok (.invokevirtual 15, 3) := by decide +kernel
theorem d_Loader_languageAsSaid_26 : decode b_Loader_languageAsSaid 26 = .ok (.ifCond .ne 5, 3) := by decide +kernel
theorem d_Loader_languageAsSaid_29 : decode b_Loader_languageAsSaid 29 = .ok (.iconst 0, 1) := by decide +kernel
theorem d_Loader_languageAsSaid_30 : decode b_Loader_languageAsSaid 30 = .ok (.ireturn, 1) := by decide +kernel
theorem d_Loader_languageAsSaid_31 : decode b_Loader_languageAsSaid 31 = .ok (.aload_n 0, 1) := by decide +kernel
theorem d_Loader_languageAsSaid_32 : decode b_Loader_languageAsSaid 32 = .ok (.getfield 9, 3) := by decide +kernel
theorem d_Loader_languageAsSaid_35 : decode b_Loader_languageAsSaid 35 = .ok (.iload_n 1, 1) := by decide +kernel
theorem d_Loader_languageAsSaid_36 : decode b_Loader_languageAsSaid 36 = .ok (.iconst 2, 1) := by decide +kernel
theorem d_Loader_languageAsSaid_37 : decode b_Loader_languageAsSaid 37 = .ok (.iadd, 1) := by decide +kernel
theorem d_Loader_languageAsSaid_38 : decode b_Loader_languageAsSaid 38 = .ok (.invokevirtual 21, 3) := by decide +kernel
theorem d_Loader_languageAsSaid_41 : decode b_Loader_languageAsSaid 41 = .ok (.istore_n 3, 1) := by decide +kernel
theorem d_Loader_languageAsSaid_42 : decode b_Loader_languageAsSaid 42 = .ok (.iload_n 3, 1) := by decide +kernel
theorem d_Loader_languageAsSaid_43 : decode b_Loader_languageAsSaid 43 = .ok (.ldc 36, 2) := by decide +kernel
theorem d_Loader_languageAsSaid_45 : decode b_Loader_languageAsSaid 45 = .ok (.if_icmp .eq 8, 3) := by decide +kernel
theorem d_Loader_languageAsSaid_48 : decode b_Loader_languageAsSaid 48 = .ok (.iload_n 3, 1) := by decide +kernel
theorem d_Loader_languageAsSaid_49 : decode b_Loader_languageAsSaid 49 = .ok (.iload_n 2, 1) := by decide +kernel
theorem d_Loader_languageAsSaid_50 : decode b_Loader_languageAsSaid 50 = .ok (.if_icmp .ge 18, 3) := by decide +kernel
theorem d_Loader_languageAsSaid_53 : decode b_Loader_languageAsSaid 53 = .ok (.aload_n 0, 1) := by decide +kernel
theorem d_Loader_languageAsSaid_54 : decode b_Loader_languageAsSaid 54 = .ok (.iload_n 1, 1) := by decide +kernel
theorem d_Loader_languageAsSaid_55 : decode b_Loader_languageAsSaid 55 = .ok (.iconst 4, 1) := by decide +kernel
theorem d_Loader_languageAsSaid_56 : decode b_Loader_languageAsSaid 56 = .ok (.iadd, 1) := by decide +kernel
theorem d_Loader_languageAsSaid_57 : decode b_Loader_languageAsSaid 57 = .ok (.iload_n 2, 1) := by decide +kernel
theorem d_Loader_languageAsSaid_58 : decode b_Loader_languageAsSaid 58 = .ok (.invokevirtual 37, 3) := by decide +kernel
theorem d_Loader_languageAsSaid_61 : decode b_Loader_languageAsSaid 61 = .ok (.ifCond .eq 7, 3) := by decide +kernel
theorem d_Loader_languageAsSaid_64 : decode b_Loader_languageAsSaid 64 = .ok (.iconst 1, 1) := by decide +kernel
theorem d_Loader_languageAsSaid_65 : decode b_Loader_languageAsSaid 65 = .ok (.goto 4, 3) := by decide +kernel
theorem d_Loader_languageAsSaid_68 : decode b_Loader_languageAsSaid 68 = .ok (.iconst 0, 1) := by decide +kernel
theorem d_Loader_languageAsSaid_69 : decode b_Loader_languageAsSaid 69 = .ok (.ireturn, 1) := by decide +kernel
abbrev b_Loader_scriptAsSaid : ByteArray := prog_5_method_4_code
def y_Loader_scriptAsSaid : MethodName := ⟨R_Loader, "scriptAsSaid", "(I)Z"⟩
theorem d_Loader_scriptAsSaid_0 : decode b_Loader_scriptAsSaid 0 = .ok (.aload_n 0, 1) := by decide +kernel
theorem d_Loader_scriptAsSaid_1 : decode b_Loader_scriptAsSaid 1 = .ok (.getfield 9, 3) := by decide +kernel
theorem d_Loader_scriptAsSaid_4 : decode b_Loader_scriptAsSaid 4 = .ok (.iload_n 1, 1) := by decide +kernel
theorem d_Loader_scriptAsSaid_5 : decode b_Loader_scriptAsSaid 5 = .ok (.iconst 2, 1) := by decide +kernel
theorem d_Loader_scriptAsSaid_6 : decode b_Loader_scriptAsSaid 6 = .ok (.invokevirtual 15, 3) := by decide +kernel
theorem d_Loader_scriptAsSaid_9 : decode b_Loader_scriptAsSaid 9 = .ok (.ifCond .eq 14, 3) := by decide +kernel
theorem d_Loader_scriptAsSaid_12 : decode b_Loader_scriptAsSaid 12 = .ok (.aload_n 0, 1) := by decide +kernel
theorem d_Loader_scriptAsSaid_13 : decode b_Loader_scriptAsSaid 13 = .ok (.iload_n 1, 1) := by decide +kernel
theorem d_Loader_scriptAsSaid_14 : decode b_Loader_scriptAsSaid 14 = .ok (.iconst 2, 1) := by decide +kernel
theorem d_Loader_scriptAsSaid_15 : decode b_Loader_scriptAsSaid 15 = .ok (.iadd, 1) := by decide +kernel
theorem d_Loader_scriptAsSaid_16 : decode b_Loader_scriptAsSaid 16 = .ok (.iconst 0, 1) := by decide +kernel
theorem d_Loader_scriptAsSaid_17 : decode b_Loader_scriptAsSaid 17 = .ok (.invokevirtual 25, 3) := by decide +kernel
theorem d_Loader_scriptAsSaid_20 : decode b_Loader_scriptAsSaid 20 = .ok (.ifCond .ne 5, 3) := by decide +kernel
theorem d_Loader_scriptAsSaid_23 : decode b_Loader_scriptAsSaid 23 = .ok (.iconst 0, 1) := by decide +kernel
theorem d_Loader_scriptAsSaid_24 : decode b_Loader_scriptAsSaid 24 = .ok (.ireturn, 1) := by decide +kernel
theorem d_Loader_scriptAsSaid_25 : decode b_Loader_scriptAsSaid 25 = .ok (.aload_n 0, 1) := by decide +kernel
theorem d_Loader_scriptAsSaid_26 : decode b_Loader_scriptAsSaid 26 = .ok (.getfield 9, 3) := by decide +kernel
theorem d_Loader_scriptAsSaid_29 : decode b_Loader_scriptAsSaid 29 = .ok (.iload_n 1, 1) := by decide +kernel
theorem d_Loader_scriptAsSaid_30 : decode b_Loader_scriptAsSaid 30 = .ok (.invokevirtual 21, 3) := by decide +kernel
theorem d_Loader_scriptAsSaid_33 : decode b_Loader_scriptAsSaid 33 = .ok (.istore_n 2, 1) := by decide +kernel
theorem d_Loader_scriptAsSaid_34 : decode b_Loader_scriptAsSaid 34 = .ok (.iload_n 2, 1) := by decide +kernel
theorem d_Loader_scriptAsSaid_35 : decode b_Loader_scriptAsSaid 35 = .ok (.ifCond .eq 15, 3) := by decide +kernel
theorem d_Loader_scriptAsSaid_38 : decode b_Loader_scriptAsSaid 38 = .ok (.aload_n 0, 1) := by decide +kernel
theorem d_Loader_scriptAsSaid_39 : decode b_Loader_scriptAsSaid 39 = .ok (.iload_n 1, 1) := by decide +kernel
theorem d_Loader_scriptAsSaid_40 : decode b_Loader_scriptAsSaid 40 = .ok (.iload_n 2, 1) := by decide +kernel
theorem d_Loader_scriptAsSaid_41 : decode b_Loader_scriptAsSaid 41 = .ok (.iadd, 1) := by decide +kernel
theorem d_Loader_scriptAsSaid_42 : decode b_Loader_scriptAsSaid 42 = .ok (.invokevirtual 33, 3) := by decide +kernel
theorem d_Loader_scriptAsSaid_45 : decode b_Loader_scriptAsSaid 45 = .ok (.ifCond .ne 5, 3) := by decide +kernel
theorem d_Loader_scriptAsSaid_48 : decode b_Loader_scriptAsSaid 48 = .ok (.iconst 0, 1) := by decide +kernel
theorem d_Loader_scriptAsSaid_49 : decode b_Loader_scriptAsSaid 49 = .ok (.ireturn, 1) := by decide +kernel
theorem d_Loader_scriptAsSaid_50 : decode b_Loader_scriptAsSaid 50 = .ok (.aload_n 0, 1) := by decide +kernel
theorem d_Loader_scriptAsSaid_51 : decode b_Loader_scriptAsSaid 51 = .ok (.getfield 9, 3) := by decide +kernel
theorem d_Loader_scriptAsSaid_54 : decode b_Loader_scriptAsSaid 54 = .ok (.iload_n 1, 1) := by decide +kernel
theorem d_Loader_scriptAsSaid_55 : decode b_Loader_scriptAsSaid 55 = .ok (.iconst 2, 1) := by decide +kernel
theorem d_Loader_scriptAsSaid_56 : decode b_Loader_scriptAsSaid 56 = .ok (.iadd, 1) := by decide +kernel
theorem d_Loader_scriptAsSaid_57 : decode b_Loader_scriptAsSaid 57 = .ok (.invokevirtual 21, 3) := by decide +kernel
theorem d_Loader_scriptAsSaid_60 : decode b_Loader_scriptAsSaid 60 = .ok (.istore_n 3, 1) := by decide +kernel
theorem d_Loader_scriptAsSaid_61 : decode b_Loader_scriptAsSaid 61 = .ok (.iconst 0, 1) := by decide +kernel
theorem d_Loader_scriptAsSaid_62 : decode b_Loader_scriptAsSaid 62 = .ok (.istore 4, 2) := by decide +kernel
theorem d_Loader_scriptAsSaid_64 : decode b_Loader_scriptAsSaid 64 = .ok (.iload 4, 2) := by decide +kernel
theorem d_Loader_scriptAsSaid_66 : decode b_Loader_scriptAsSaid 66 = .ok (.iload_n 3, 1) := by decide +kernel
theorem d_Loader_scriptAsSaid_67 : decode b_Loader_scriptAsSaid 67 = .ok (.if_icmp .ge 37, 3) := by decide +kernel
theorem d_Loader_scriptAsSaid_70 : decode b_Loader_scriptAsSaid 70 = .ok (.aload_n 0, 1) := by decide +kernel
theorem d_Loader_scriptAsSaid_71 : decode b_Loader_scriptAsSaid 71 = .ok (.iload_n 1, 1) := by decide +kernel
theorem d_Loader_scriptAsSaid_72 : decode b_Loader_scriptAsSaid 72 = .ok (.aload_n 0, 1) := by decide +kernel
theorem d_Loader_scriptAsSaid_73 : decode b_Loader_scriptAsSaid 73 = .ok (.getfield 9, 3) := by decide +kernel
theorem d_Loader_scriptAsSaid_76 : decode b_Loader_scriptAsSaid 76 = .ok (.iload_n 1, 1) := by decide +kernel
theorem d_Loader_scriptAsSaid_77 : decode b_Loader_scriptAsSaid 77 = .ok (.bipush 8, 2) := by decide +kernel
theorem d_Loader_scriptAsSaid_79 : decode b_Loader_scriptAsSaid 79 = .ok (.iadd, 1) := by decide +kernel
theorem d_Loader_scriptAsSaid_80 : decode b_Loader_scriptAsSaid 80 = .ok (.bipush 6, 2) := by decide +kernel
theorem d_Loader_scriptAsSaid_82 : decode b_Loader_scriptAsSaid 82 = .ok (.iload 4, 2) := by decide +kernel
theorem d_Loader_scriptAsSaid_84 : decode b_Loader_scriptAsSaid 84 = .ok (.imul, 1) := by decide +kernel
theorem d_Loader_scriptAsSaid_85 : decode b_Loader_scriptAsSaid 85 = .ok (.iadd, 1) := by decide +kernel
theorem d_Loader_scriptAsSaid_86 : decode b_Loader_scriptAsSaid 86 = .ok (.invokevirtual 21, 3) := by decide +kernel
theorem d_Loader_scriptAsSaid_89 : decode b_Loader_scriptAsSaid 89 = .ok (.iadd, 1) := by decide +kernel
theorem d_Loader_scriptAsSaid_90 : decode b_Loader_scriptAsSaid 90 = .ok (.invokevirtual 33, 3) := by decide +kernel
theorem d_Loader_scriptAsSaid_93 : decode b_Loader_scriptAsSaid 93 = .ok (.ifCond .ne 5, 3) := by decide +kernel
theorem d_Loader_scriptAsSaid_96 : decode b_Loader_scriptAsSaid 96 = .ok (.iconst 0, 1) := by decide +kernel
theorem d_Loader_scriptAsSaid_97 : decode b_Loader_scriptAsSaid 97 = .ok (.ireturn, 1) := by decide +kernel
theorem d_Loader_scriptAsSaid_98 : decode b_Loader_scriptAsSaid 98 = .ok (.iinc 4 1, 3) := by decide +kernel
theorem d_Loader_scriptAsSaid_101 : decode b_Loader_scriptAsSaid 101 = .ok (.goto (-37), 3) := by decide +kernel
theorem d_Loader_scriptAsSaid_104 : decode b_Loader_scriptAsSaid 104 = .ok (.iconst 1, 1) := by decide +kernel
theorem d_Loader_scriptAsSaid_105 : decode b_Loader_scriptAsSaid 105 = .ok (.ireturn, 1) := by decide +kernel
abbrev b_Loader_scriptsAsSaid : ByteArray := prog_5_method_3_code
def y_Loader_scriptsAsSaid : MethodName := ⟨R_Loader, "scriptsAsSaid", "()Z"⟩
theorem d_Loader_scriptsAsSaid_0 : decode b_Loader_scriptsAsSaid 0 = .ok (.aload_n 0, 1) := by decide +kernel
theorem d_Loader_scriptsAsSaid_1 : decode b_Loader_scriptsAsSaid 1 = .ok (.getfield 9, 3) := by decide +kernel
theorem d_Loader_scriptsAsSaid_4 : decode b_Loader_scriptsAsSaid 4 = .ok (.iconst 4, 1) := by decide +kernel
theorem d_Loader_scriptsAsSaid_5 : decode b_Loader_scriptsAsSaid 5 = .ok (.invokevirtual 21, 3) := by decide +kernel
theorem d_Loader_scriptsAsSaid_8 : decode b_Loader_scriptsAsSaid 8 = .ok (.istore_n 1, 1) := by decide +kernel
theorem d_Loader_scriptsAsSaid_9 : decode b_Loader_scriptsAsSaid 9 = .ok (.aload_n 0, 1) := by decide +kernel
theorem d_Loader_scriptsAsSaid_10 : decode b_Loader_scriptsAsSaid 10 = .ok (.iload_n 1, 1) := by decide +kernel
theorem d_Loader_scriptsAsSaid_11 : decode b_Loader_scriptsAsSaid 11 = .ok (.iconst 0, 1) := by decide +kernel
theorem d_Loader_scriptsAsSaid_12 : decode b_Loader_scriptsAsSaid 12 = .ok (.invokevirtual 25, 3) := by decide +kernel
theorem d_Loader_scriptsAsSaid_15 : decode b_Loader_scriptsAsSaid 15 = .ok (.ifCond .ne 5, 3) := by decide +kernel
theorem d_Loader_scriptsAsSaid_18 : decode b_Loader_scriptsAsSaid 18 = .ok (.iconst 0, 1) := by decide +kernel
theorem d_Loader_scriptsAsSaid_19 : decode b_Loader_scriptsAsSaid 19 = .ok (.ireturn, 1) := by decide +kernel
theorem d_Loader_scriptsAsSaid_20 : decode b_Loader_scriptsAsSaid 20 = .ok (.aload_n 0, 1) := by decide +kernel
theorem d_Loader_scriptsAsSaid_21 : decode b_Loader_scriptsAsSaid 21 = .ok (.getfield 9, 3) := by decide +kernel
theorem d_Loader_scriptsAsSaid_24 : decode b_Loader_scriptsAsSaid 24 = .ok (.iload_n 1, 1) := by decide +kernel
theorem d_Loader_scriptsAsSaid_25 : decode b_Loader_scriptsAsSaid 25 = .ok (.invokevirtual 21, 3) := by decide +kernel
theorem d_Loader_scriptsAsSaid_28 : decode b_Loader_scriptsAsSaid 28 = .ok (.istore_n 2, 1) := by decide +kernel
theorem d_Loader_scriptsAsSaid_29 : decode b_Loader_scriptsAsSaid 29 = .ok (.iconst 0, 1) := by decide +kernel
theorem d_Loader_scriptsAsSaid_30 : decode b_Loader_scriptsAsSaid 30 = .ok (.istore_n 3, 1) := by decide +kernel
theorem d_Loader_scriptsAsSaid_31 : decode b_Loader_scriptsAsSaid 31 = .ok (.iload_n 3, 1) := by decide +kernel
theorem d_Loader_scriptsAsSaid_32 : decode b_Loader_scriptsAsSaid 32 = .ok (.iload_n 2, 1) := by decide +kernel
theorem d_Loader_scriptsAsSaid_33 : decode b_Loader_scriptsAsSaid 33 = .ok (.if_icmp .ge 36, 3) := by decide +kernel
theorem d_Loader_scriptsAsSaid_36 : decode b_Loader_scriptsAsSaid 36 = .ok (.aload_n 0, 1) := by decide +kernel
theorem d_Loader_scriptsAsSaid_37 : decode b_Loader_scriptsAsSaid 37 = .ok (.iload_n 1, 1) := by decide +kernel
theorem d_Loader_scriptsAsSaid_38 : decode b_Loader_scriptsAsSaid 38 = .ok (.aload_n 0, 1) := by decide +kernel
theorem d_Loader_scriptsAsSaid_39 : decode b_Loader_scriptsAsSaid 39 = .ok (.getfield 9, 3) := by decide +kernel
theorem d_Loader_scriptsAsSaid_42 : decode b_Loader_scriptsAsSaid 42 = .ok (.iload_n 1, 1) := by decide +kernel
theorem d_Loader_scriptsAsSaid_43 : decode b_Loader_scriptsAsSaid 43 = .ok (.bipush 6, 2) := by decide +kernel
theorem d_Loader_scriptsAsSaid_45 : decode b_Loader_scriptsAsSaid 45 = .ok (.iadd, 1) := by decide +kernel
theorem d_Loader_scriptsAsSaid_46 : decode b_Loader_scriptsAsSaid 46 = .ok (.bipush 6, 2) := by decide +kernel
theorem d_Loader_scriptsAsSaid_48 : decode b_Loader_scriptsAsSaid 48 = .ok (.iload_n 3, 1) := by decide +kernel
theorem d_Loader_scriptsAsSaid_49 : decode b_Loader_scriptsAsSaid 49 = .ok (.imul, 1) := by decide +kernel
theorem d_Loader_scriptsAsSaid_50 : decode b_Loader_scriptsAsSaid 50 = .ok (.iadd, 1) := by decide +kernel
theorem d_Loader_scriptsAsSaid_51 : decode b_Loader_scriptsAsSaid 51 = .ok (.invokevirtual 21, 3) := by decide +kernel
theorem d_Loader_scriptsAsSaid_54 : decode b_Loader_scriptsAsSaid 54 = .ok (.iadd, 1) := by decide +kernel
theorem d_Loader_scriptsAsSaid_55 : decode b_Loader_scriptsAsSaid 55 = .ok (.invokevirtual 29, 3) := by decide +kernel
theorem d_Loader_scriptsAsSaid_58 : decode b_Loader_scriptsAsSaid 58 = .ok (.ifCond .ne 5, 3) := by decide +kernel
theorem d_Loader_scriptsAsSaid_61 : decode b_Loader_scriptsAsSaid 61 = .ok (.iconst 0, 1) := by decide +kernel
theorem d_Loader_scriptsAsSaid_62 : decode b_Loader_scriptsAsSaid 62 = .ok (.ireturn, 1) := by decide +kernel
theorem d_Loader_scriptsAsSaid_63 : decode b_Loader_scriptsAsSaid 63 = .ok (.iinc 3 1, 3) := by decide +kernel
theorem d_Loader_scriptsAsSaid_66 : decode b_Loader_scriptsAsSaid 66 = .ok (.goto (-35), 3) := by decide +kernel
theorem d_Loader_scriptsAsSaid_69 : decode b_Loader_scriptsAsSaid 69 = .ok (.iconst 1, 1) := by decide +kernel
theorem d_Loader_scriptsAsSaid_70 : decode b_Loader_scriptsAsSaid 70 = .ok (.ireturn, 1) := by decide +kernel
abbrev b_Loader_featuresAsSaid : ByteArray := prog_5_method_6_code
def y_Loader_featuresAsSaid : MethodName := ⟨R_Loader, "featuresAsSaid", "()Z"⟩
theorem d_Loader_featuresAsSaid_0 : decode b_Loader_featuresAsSaid 0 = .ok (.aload_n 0, 1) := by decide +kernel
theorem d_Loader_featuresAsSaid_1 : decode b_Loader_featuresAsSaid 1 = .ok (.getfield 9, 3) := by decide +kernel
theorem d_Loader_featuresAsSaid_4 : decode b_Loader_featuresAsSaid 4 = .ok (.bipush 6, 2) := by decide +kernel
theorem d_Loader_featuresAsSaid_6 : decode b_Loader_featuresAsSaid 6 = .ok (.invokevirtual 21, 3) := by decide +kernel
theorem d_Loader_featuresAsSaid_9 : decode b_Loader_featuresAsSaid 9 = .ok (.istore_n 1, 1) := by decide +kernel
theorem d_Loader_featuresAsSaid_10 : decode b_Loader_featuresAsSaid 10 = .ok (.aload_n 0, 1) := by decide +kernel
theorem d_Loader_featuresAsSaid_11 : decode b_Loader_featuresAsSaid 11 = .ok (.iload_n 1, 1) := by decide +kernel
theorem d_Loader_featuresAsSaid_12 : decode b_Loader_featuresAsSaid 12 = .ok (.iconst 1, 1) := by decide +kernel
theorem d_Loader_featuresAsSaid_13 : decode b_Loader_featuresAsSaid 13 = .ok (.invokevirtual 25, 3) := by decide +kernel
theorem d_Loader_featuresAsSaid_16 : decode b_Loader_featuresAsSaid 16 = .ok (.ifCond .ne 5, 3) := by decide +kernel
theorem d_Loader_featuresAsSaid_19 : decode b_Loader_featuresAsSaid 19 = .ok (.iconst 0, 1) := by decide +kernel
theorem d_Loader_featuresAsSaid_20 : decode b_Loader_featuresAsSaid 20 = .ok (.ireturn, 1) := by decide +kernel
theorem d_Loader_featuresAsSaid_21 : decode b_Loader_featuresAsSaid 21 = .ok (.aload_n 0, 1) := by decide +kernel
theorem d_Loader_featuresAsSaid_22 : decode b_Loader_featuresAsSaid 22 = .ok (.getfield 9, 3) := by decide +kernel
theorem d_Loader_featuresAsSaid_25 : decode b_Loader_featuresAsSaid 25 = .ok (.aload_n 0, 1) := by decide +kernel
theorem d_Loader_featuresAsSaid_26 : decode b_Loader_featuresAsSaid 26 = .ok (.getfield 9, 3) := by decide +kernel
theorem d_Loader_featuresAsSaid_29 : decode b_Loader_featuresAsSaid 29 = .ok (.bipush 8, 2) := by decide +kernel
theorem d_Loader_featuresAsSaid_31 : decode b_Loader_featuresAsSaid 31 = .ok (.invokevirtual 21, 3) := by decide +kernel
theorem d_Loader_featuresAsSaid_34 : decode b_Loader_featuresAsSaid 34 = .ok (.invokevirtual 21, 3) := by decide +kernel
theorem d_Loader_featuresAsSaid_37 : decode b_Loader_featuresAsSaid 37 = .ok (.istore_n 2, 1) := by decide +kernel
theorem d_Loader_featuresAsSaid_38 : decode b_Loader_featuresAsSaid 38 = .ok (.aload_n 0, 1) := by decide +kernel
theorem d_Loader_featuresAsSaid_39 : decode b_Loader_featuresAsSaid 39 = .ok (.getfield 9, 3) := by decide +kernel
theorem d_Loader_featuresAsSaid_42 : decode b_Loader_featuresAsSaid 42 = .ok (.iload_n 1, 1) := by decide +kernel
theorem d_Loader_featuresAsSaid_43 : decode b_Loader_featuresAsSaid 43 = .ok (.invokevirtual 21, 3) := by decide +kernel
theorem d_Loader_featuresAsSaid_46 : decode b_Loader_featuresAsSaid 46 = .ok (.istore_n 3, 1) := by decide +kernel
theorem d_Loader_featuresAsSaid_47 : decode b_Loader_featuresAsSaid 47 = .ok (.iconst 0, 1) := by decide +kernel
theorem d_Loader_featuresAsSaid_48 : decode b_Loader_featuresAsSaid 48 = .ok (.istore 4, 2) := by decide +kernel
theorem d_Loader_featuresAsSaid_50 : decode b_Loader_featuresAsSaid 50 = .ok (.iload 4, 2) := by decide +kernel
theorem d_Loader_featuresAsSaid_52 : decode b_Loader_featuresAsSaid 52 = .ok (.iload_n 3, 1) := by decide +kernel
theorem d_Loader_featuresAsSaid_53 : decode b_Loader_featuresAsSaid 53 = .ok (.if_icmp .ge 44, 3) := by decide +kernel
theorem d_Loader_featuresAsSaid_56 : decode b_Loader_featuresAsSaid 56 = .ok (.iload_n 1, 1) := by decide +kernel
theorem d_Loader_featuresAsSaid_57 : decode b_Loader_featuresAsSaid 57 = .ok (.aload_n 0, 1) := by decide +kernel
theorem d_Loader_featuresAsSaid_58 : decode b_Loader_featuresAsSaid 58 = .ok (.getfield 9, 3) := by decide +kernel
theorem d_Loader_featuresAsSaid_61 : decode b_Loader_featuresAsSaid 61 = .ok (.iload_n 1, 1) := by decide +kernel
theorem d_Loader_featuresAsSaid_62 : decode b_Loader_featuresAsSaid 62 = .ok (.bipush 6, 2) := by decide +kernel
theorem d_Loader_featuresAsSaid_64 : decode b_Loader_featuresAsSaid 64 = .ok (.iadd, 1) := by decide +kernel
theorem d_Loader_featuresAsSaid_65 : decode b_Loader_featuresAsSaid 65 = .ok (.bipush 6, 2) := by decide +kernel
theorem d_Loader_featuresAsSaid_67 : decode b_Loader_featuresAsSaid 67 = .ok (.iload 4, 2) := by decide +kernel
theorem d_Loader_featuresAsSaid_69 : decode b_Loader_featuresAsSaid 69 = .ok (.imul, 1) := by decide +kernel
theorem d_Loader_featuresAsSaid_70 : decode b_Loader_featuresAsSaid 70 = .ok (.iadd, 1) := by decide +kernel
theorem d_Loader_featuresAsSaid_71 : decode b_Loader_featuresAsSaid 71 = .ok (.invokevirtual 21, 3) := by decide +kernel
theorem d_Loader_featuresAsSaid_74 : decode b_Loader_featuresAsSaid 74 = .ok (.iadd, 1) := by decide +kernel
theorem d_Loader_featuresAsSaid_75 : decode b_Loader_featuresAsSaid 75 = .ok (.istore 5, 2) := by decide +kernel
theorem d_Loader_featuresAsSaid_77 : decode b_Loader_featuresAsSaid 77 = .ok (.aload_n 0, 1) := by decide +kernel
theorem d_Loader_featuresAsSaid_78 : decode b_Loader_featuresAsSaid 78 = .ok (.iload 5, 2) := by decide +kernel
theorem d_Loader_featuresAsSaid_80 : decode b_Loader_featuresAsSaid 80 = .ok (.iconst 2, 1) := by decide +kernel
theorem d_Loader_featuresAsSaid_81 : decode b_Loader_featuresAsSaid 81 = .ok (.iadd, 1) := by decide +kernel
theorem d_Loader_featuresAsSaid_82 : decode b_Loader_featuresAsSaid 82 = .ok (.iload_n 2, 1) := by decide +kernel
theorem d_Loader_featuresAsSaid_83 : decode b_Loader_featuresAsSaid 83 = .ok (.invokevirtual 37, 3) := by decide +kernel
theorem d_Loader_featuresAsSaid_86 : decode b_Loader_featuresAsSaid 86 = .ok (.ifCond .ne 5, 3) := by decide +kernel
theorem d_Loader_featuresAsSaid_89 : decode b_Loader_featuresAsSaid 89 = .ok (.iconst 0, 1) := by decide +kernel
theorem d_Loader_featuresAsSaid_90 : decode b_Loader_featuresAsSaid 90 = .ok (.ireturn, 1) := by decide +kernel
theorem d_Loader_featuresAsSaid_91 : decode b_Loader_featuresAsSaid 91 = .ok (.iinc 4 1, 3) := by decide +kernel
theorem d_Loader_featuresAsSaid_94 : decode b_Loader_featuresAsSaid 94 = .ok (.goto (-44), 3) := by decide +kernel
theorem d_Loader_featuresAsSaid_97 : decode b_Loader_featuresAsSaid 97 = .ok (.iconst 1, 1) := by decide +kernel
theorem d_Loader_featuresAsSaid_98 : decode b_Loader_featuresAsSaid 98 = .ok (.ireturn, 1) := by decide +kernel
abbrev b_Loader_lookupHeadAsSaid : ByteArray := prog_5_method_12_code
def y_Loader_lookupHeadAsSaid : MethodName := ⟨R_Loader, "lookupHeadAsSaid", "(I)Z"⟩
theorem d_Loader_lookupHeadAsSaid_0 : decode b_Loader_lookupHeadAsSaid 0 = .ok (.aload_n 0, 1) := by decide +kernel
theorem d_Loader_lookupHeadAsSaid_1 : decode b_Loader_lookupHeadAsSaid 1 = .ok (.getfield 9, 3) := by decide +kernel
theorem d_Loader_lookupHeadAsSaid_4 : decode b_Loader_lookupHeadAsSaid 4 = .ok (.iload_n 1, 1) := by decide +kernel
theorem d_Loader_lookupHeadAsSaid_5 : decode b_Loader_lookupHeadAsSaid 5 = .ok (.iconst 4, 1) := by decide +kernel
theorem d_Loader_lookupHeadAsSaid_6 : decode b_Loader_lookupHeadAsSaid 6 = .ok (.invokevirtual 15, 3) := by decide +kernel
theorem d_Loader_lookupHeadAsSaid_9 : decode b_Loader_lookupHeadAsSaid 9 = .ok (.ifCond .ne 5, 3) := by decide +kernel
theorem d_Loader_lookupHeadAsSaid_12 : decode b_Loader_lookupHeadAsSaid 12 = .ok (.iconst 0, 1) := by decide +kernel
theorem d_Loader_lookupHeadAsSaid_13 : decode b_Loader_lookupHeadAsSaid 13 = .ok (.ireturn, 1) := by decide +kernel
theorem d_Loader_lookupHeadAsSaid_14 : decode b_Loader_lookupHeadAsSaid 14 = .ok (.aload_n 0, 1) := by decide +kernel
theorem d_Loader_lookupHeadAsSaid_15 : decode b_Loader_lookupHeadAsSaid 15 = .ok (.getfield 9, 3) := by decide +kernel
theorem d_Loader_lookupHeadAsSaid_18 : decode b_Loader_lookupHeadAsSaid 18 = .ok (.iload_n 1, 1) := by decide +kernel
theorem d_Loader_lookupHeadAsSaid_19 : decode b_Loader_lookupHeadAsSaid 19 = .ok (.invokevirtual 21, 3) := by decide +kernel
theorem d_Loader_lookupHeadAsSaid_22 : decode b_Loader_lookupHeadAsSaid 22 = .ok (.istore_n 2, 1) := by decide +kernel
theorem d_Loader_lookupHeadAsSaid_23 : decode b_Loader_lookupHeadAsSaid 23 = .ok (.aload_n 0, 1) := by decide +kernel
theorem d_Loader_lookupHeadAsSaid_24 : decode b_Loader_lookupHeadAsSaid 24 = .ok (.getfield 9, 3) := by decide +kernel
theorem d_Loader_lookupHeadAsSaid_27 : decode b_Loader_lookupHeadAsSaid 27 = .ok (.iload_n 1, 1) := by decide +kernel
theorem d_Loader_lookupHeadAsSaid_28 : decode b_Loader_lookupHeadAsSaid 28 = .ok (.iconst 2, 1) := by decide +kernel
theorem d_Loader_lookupHeadAsSaid_29 : decode b_Loader_lookupHeadAsSaid 29 = .ok (.iadd, 1) := by decide +kernel
theorem d_Loader_lookupHeadAsSaid_30 : decode b_Loader_lookupHeadAsSaid 30 = .ok (.invokevirtual 21, 3) := by decide +kernel
theorem d_Loader_lookupHeadAsSaid_33 : decode b_Loader_lookupHeadAsSaid 33 = .ok (.istore_n 3, 1) := by decide +kernel
theorem d_Loader_lookupHeadAsSaid_34 : decode b_Loader_lookupHeadAsSaid 34 = .ok (.iload_n 2, 1) := by decide +kernel
theorem d_Loader_lookupHeadAsSaid_35 : decode b_Loader_lookupHeadAsSaid 35 = .ok (.iconst 1, 1) := by decide +kernel
theorem d_Loader_lookupHeadAsSaid_36 : decode b_Loader_lookupHeadAsSaid 36 = .ok (.if_icmp .lt 9, 3) := by decide +kernel
theorem d_Loader_lookupHeadAsSaid_39 : decode b_Loader_lookupHeadAsSaid 39 = .ok (.iload_n 2, 1) := by decide +kernel
theorem d_Loader_lookupHeadAsSaid_40 : decode b_Loader_lookupHeadAsSaid 40 = .ok (.bipush 6, 2) := by decide +kernel
theorem d_Loader_lookupHeadAsSaid_42 : decode b_Loader_lookupHeadAsSaid 42 = .ok (.if_icmp .le 9, 3) := by decide +kernel
theorem d_Loader_lookupHeadAsSaid_45 : decode b_Loader_lookupHeadAsSaid 45 = .ok (.iload_n 2, 1) := by decide +kernel
theorem d_Loader_lookupHeadAsSaid_46 : decode b_Loader_lookupHeadAsSaid 46 = .ok (.bipush 9, 2) := by decide +kernel
theorem d_Loader_lookupHeadAsSaid_48 : decode b_Loader_lookupHeadAsSaid 48 = .ok (.if_icmp .ne 27, 3) := by decide +kernel
theorem d_Loader_lookupHeadAsSaid_51 : decode b_Loader_lookupHeadAsSaid 51 = .ok (.iload_n 3, 1) := by decide +kernel
theorem d_Loader_lookupHeadAsSaid_52 : decode b_Loader_lookupHeadAsSaid 52 = .ok (.bipush 16, 2) := by decide +kernel
theorem d_Loader_lookupHeadAsSaid_54 : decode b_Loader_lookupHeadAsSaid 54 = .ok (.iand, 1) := by decide +kernel
theorem d_Loader_lookupHeadAsSaid_55 : decode b_Loader_lookupHeadAsSaid 55 = .ok (.ifCond .ne 20, 3) := by decide +kernel
theorem d_Loader_lookupHeadAsSaid_58 : decode b_Loader_lookupHeadAsSaid 58 = .ok (.aload_n 0, 1) := by decide +kernel
theorem d_Loader_lookupHeadAsSaid_59 : decode b_Loader_lookupHeadAsSaid 59 = .ok (.iload_n 1, 1) := by decide +kernel
theorem d_Loader_lookupHeadAsSaid_60 : decode b_Loader_lookupHeadAsSaid 60 = .ok (.iconst 4, 1) := by decide +kernel
theorem d_Loader_lookupHeadAsSaid_61 : decode b_Loader_lookupHeadAsSaid 61 = .ok (.iadd, 1) := by decide +kernel
theorem d_Loader_lookupHeadAsSaid_62 : decode b_Loader_lookupHeadAsSaid 62 = .ok (.bipush 16, 2) := by decide +kernel
theorem d_Loader_lookupHeadAsSaid_64 : decode b_Loader_lookupHeadAsSaid 64 = .ok (.iconst 2, 1) := by decide +kernel
theorem d_Loader_lookupHeadAsSaid_65 : decode b_Loader_lookupHeadAsSaid 65 = .ok (.invokevirtual 40, 3) := by decide +kernel
theorem d_Loader_lookupHeadAsSaid_68 : decode b_Loader_lookupHeadAsSaid 68 = .ok (.ifCond .eq 7, 3) := by decide +kernel
theorem d_Loader_lookupHeadAsSaid_71 : decode b_Loader_lookupHeadAsSaid 71 = .ok (.iconst 1, 1) := by decide +kernel
theorem d_Loader_lookupHeadAsSaid_72 : decode b_Loader_lookupHeadAsSaid 72 = .ok (.goto 4, 3) := by decide +kernel
theorem d_Loader_lookupHeadAsSaid_75 : decode b_Loader_lookupHeadAsSaid 75 = .ok (.iconst 0, 1) := by decide +kernel
theorem d_Loader_lookupHeadAsSaid_76 : decode b_Loader_lookupHeadAsSaid 76 = .ok (.ireturn, 1) := by decide +kernel
abbrev b_Loader_looksAtOneMore : ByteArray := prog_5_method_29_code
def y_Loader_looksAtOneMore : MethodName := ⟨R_Loader, "looksAtOneMore", "()Z"⟩
theorem d_Loader_looksAtOneMore_0 : decode b_Loader_looksAtOneMore 0 = .ok (.aload_n 0, 1) := by decide +kernel
theorem d_Loader_looksAtOneMore_1 : decode b_Loader_looksAtOneMore 1 = .ok (.dup, 1) := by decide +kernel
theorem d_Loader_looksAtOneMore_2 : decode b_Loader_looksAtOneMore 2 = .ok (.getfield 53, 3) := by decide +kernel
theorem d_Loader_looksAtOneMore_5 : decode b_Loader_looksAtOneMore 5 = .ok (.iconst 1, 1) := by decide +kernel
theorem d_Loader_looksAtOneMore_6 : decode b_Loader_looksAtOneMore 6 = .ok (.iadd, 1) := by decide +kernel
theorem d_Loader_looksAtOneMore_7 : decode b_Loader_looksAtOneMore 7 = .ok (.putfield 53, 3) := by decide +kernel
theorem d_Loader_looksAtOneMore_10 : decode b_Loader_looksAtOneMore 10 = .ok (.aload_n 0, 1) := by decide +kernel
theorem d_Loader_looksAtOneMore_11 : decode b_Loader_looksAtOneMore 11 = .ok (.getfield 53, 3) := by decide +kernel
theorem d_Loader_looksAtOneMore_14 : decode b_Loader_looksAtOneMore 14 = .ok (.sipush 20000, 3) := by decide +kernel
theorem d_Loader_looksAtOneMore_17 : decode b_Loader_looksAtOneMore 17 = .ok (.if_icmp .gt 7, 3) := by decide +kernel
theorem d_Loader_looksAtOneMore_20 : decode b_Loader_looksAtOneMore 20 = .ok (.iconst 1, 1) := by decide +kernel
theorem d_Loader_looksAtOneMore_21 : decode b_Loader_looksAtOneMore 21 = .ok (.goto 4, 3) := by decide +kernel
theorem d_Loader_looksAtOneMore_24 : decode b_Loader_looksAtOneMore 24 = .ok (.iconst 0, 1) := by decide +kernel
theorem d_Loader_looksAtOneMore_25 : decode b_Loader_looksAtOneMore 25 = .ok (.ireturn, 1) := by decide +kernel
abbrev b_Loader_rangesRise : ByteArray := prog_5_method_28_code
def y_Loader_rangesRise : MethodName := ⟨R_Loader, "rangesRise", "(II)Z"⟩
theorem d_Loader_rangesRise_0 : decode b_Loader_rangesRise 0 = .ok (.iconst (-1), 1) := by decide +kernel
theorem d_Loader_rangesRise_1 : decode b_Loader_rangesRise 1 = .ok (.istore_n 3, 1) := by decide +kernel
theorem d_Loader_rangesRise_2 : decode b_Loader_rangesRise 2 = .ok (.iconst 0, 1) := by decide +kernel
theorem d_Loader_rangesRise_3 : decode b_Loader_rangesRise 3 = .ok (.istore 4, 2) := by decide +kernel
theorem d_Loader_rangesRise_5 : decode b_Loader_rangesRise 5 = .ok (.iload 4, 2) := by decide +kernel
theorem d_Loader_rangesRise_7 : decode b_Loader_rangesRise 7 = .ok (.iload_n 2, 1) := by decide +kernel
theorem d_Loader_rangesRise_8 : decode b_Loader_rangesRise 8 = .ok (.if_icmp .ge 61, 3) := by decide +kernel
theorem d_Loader_rangesRise_11 : decode b_Loader_rangesRise 11 = .ok (.aload_n 0, 1) := by decide +kernel
theorem d_Loader_rangesRise_12 : decode b_Loader_rangesRise 12 = .ok (.getfield 9, 3) := by decide +kernel
theorem d_Loader_rangesRise_15 : decode b_Loader_rangesRise 15 = .ok (.iload_n 1, 1) := by decide +kernel
theorem d_Loader_rangesRise_16 : decode b_Loader_rangesRise 16 = .ok (.bipush 6, 2) := by decide +kernel
theorem d_Loader_rangesRise_18 : decode b_Loader_rangesRise 18 = .ok (.iload 4, 2) := by decide +kernel
theorem d_Loader_rangesRise_20 : decode b_Loader_rangesRise 20 = .ok (.imul, 1) := by decide +kernel
theorem d_Loader_rangesRise_21 : decode b_Loader_rangesRise 21 = .ok (.iadd, 1) := by decide +kernel
theorem d_Loader_rangesRise_22 : decode b_Loader_rangesRise 22 = .ok (.invokevirtual 21, 3) := by decide +kernel
theorem d_Loader_rangesRise_25 : decode b_Loader_rangesRise 25 = .ok (.istore 5, 2) := by decide +kernel
theorem d_Loader_rangesRise_27 : decode b_Loader_rangesRise 27 = .ok (.aload_n 0, 1) := by decide +kernel
theorem d_Loader_rangesRise_28 : decode b_Loader_rangesRise 28 = .ok (.getfield 9, 3) := by decide +kernel
theorem d_Loader_rangesRise_31 : decode b_Loader_rangesRise 31 = .ok (.iload_n 1, 1) := by decide +kernel
theorem d_Loader_rangesRise_32 : decode b_Loader_rangesRise 32 = .ok (.bipush 6, 2) := by decide +kernel
theorem d_Loader_rangesRise_34 : decode b_Loader_rangesRise 34 = .ok (.iload 4, 2) := by decide +kernel
theorem d_Loader_rangesRise_36 : decode b_Loader_rangesRise 36 = .ok (.imul, 1) := by decide +kernel
theorem d_Loader_rangesRise_37 : decode b_Loader_rangesRise 37 = .ok (.iadd, 1) := by decide +kernel
theorem d_Loader_rangesRise_38 : decode b_Loader_rangesRise 38 = .ok (.iconst 2, 1) := by decide +kernel
theorem d_Loader_rangesRise_39 : decode b_Loader_rangesRise 39 = .ok (.iadd, 1) := by decide +kernel
theorem d_Loader_rangesRise_40 : decode b_Loader_rangesRise 40 = .ok (.invokevirtual 21, 3) := by decide +kernel
theorem d_Loader_rangesRise_43 : decode b_Loader_rangesRise 43 = .ok (.istore 6, 2) := by decide +kernel
theorem d_Loader_rangesRise_45 : decode b_Loader_rangesRise 45 = .ok (.iload 5, 2) := by decide +kernel
theorem d_Loader_rangesRise_47 : decode b_Loader_rangesRise 47 = .ok (.iload_n 3, 1) := by decide +kernel
theorem d_Loader_rangesRise_48 : decode b_Loader_rangesRise 48 = .ok (.if_icmp .le 10, 3) := by decide +kernel
theorem d_Loader_rangesRise_51 : decode b_Loader_rangesRise 51 = .ok (.iload 5, 2) := by decide +kernel
theorem d_Loader_rangesRise_53 : decode b_Loader_rangesRise 53 = .ok (.iload 6, 2) := by decide +kernel
theorem d_Loader_rangesRise_55 : decode b_Loader_rangesRise 55 = .ok (.if_icmp .le 5, 3) := by decide +kernel
theorem d_Loader_rangesRise_58 : decode b_Loader_rangesRise 58 = .ok (.iconst 0, 1) := by decide +kernel
theorem d_Loader_rangesRise_59 : decode b_Loader_rangesRise 59 = .ok (.ireturn, 1) := by decide +kernel
theorem d_Loader_rangesRise_60 : decode b_Loader_rangesRise 60 = .ok (.iload 6, 2) := by decide +kernel
theorem d_Loader_rangesRise_62 : decode b_Loader_rangesRise 62 = .ok (.istore_n 3, 1) := by decide +kernel
theorem d_Loader_rangesRise_63 : decode b_Loader_rangesRise 63 = .ok (.iinc 4 1, 3) := by decide +kernel
theorem d_Loader_rangesRise_66 : decode b_Loader_rangesRise 66 = .ok (.goto (-61), 3) := by decide +kernel
theorem d_Loader_rangesRise_69 : decode b_Loader_rangesRise 69 = .ok (.iconst 1, 1) := by decide +kernel
theorem d_Loader_rangesRise_70 : decode b_Loader_rangesRise 70 = .ok (.ireturn, 1) := by decide +kernel
abbrev b_Loader_glyphsRise : ByteArray := prog_5_method_27_code
def y_Loader_glyphsRise : MethodName := ⟨R_Loader, "glyphsRise", "(III)Z"⟩
theorem d_Loader_glyphsRise_0 : decode b_Loader_glyphsRise 0 = .ok (.iconst (-1), 1) := by decide +kernel
theorem d_Loader_glyphsRise_1 : decode b_Loader_glyphsRise 1 = .ok (.istore 4, 2) := by decide +kernel
theorem d_Loader_glyphsRise_3 : decode b_Loader_glyphsRise 3 = .ok (.iconst 0, 1) := by decide +kernel
theorem d_Loader_glyphsRise_4 : decode b_Loader_glyphsRise 4 = .ok (.istore 5, 2) := by decide +kernel
theorem d_Loader_glyphsRise_6 : decode b_Loader_glyphsRise 6 = .ok (.iload 5, 2) := by decide +kernel
theorem d_Loader_glyphsRise_8 : decode b_Loader_glyphsRise 8 = .ok (.iload_n 2, 1) := by decide +kernel
theorem d_Loader_glyphsRise_9 : decode b_Loader_glyphsRise 9 = .ok (.if_icmp .ge 37, 3) := by decide +kernel
theorem d_Loader_glyphsRise_12 : decode b_Loader_glyphsRise 12 = .ok (.aload_n 0, 1) := by decide +kernel
theorem d_Loader_glyphsRise_13 : decode b_Loader_glyphsRise 13 = .ok (.getfield 9, 3) := by decide +kernel
theorem d_Loader_glyphsRise_16 : decode b_Loader_glyphsRise 16 = .ok (.iload_n 1, 1) := by decide +kernel
theorem d_Loader_glyphsRise_17 : decode b_Loader_glyphsRise 17 = .ok (.iload_n 3, 1) := by decide +kernel
theorem d_Loader_glyphsRise_18 : decode b_Loader_glyphsRise 18 = .ok (.iload 5, 2) := by decide +kernel
theorem d_Loader_glyphsRise_20 : decode b_Loader_glyphsRise 20 = .ok (.imul, 1) := by decide +kernel
theorem d_Loader_glyphsRise_21 : decode b_Loader_glyphsRise 21 = .ok (.iadd, 1) := by decide +kernel
theorem d_Loader_glyphsRise_22 : decode b_Loader_glyphsRise 22 = .ok (.invokevirtual 21, 3) := by decide +kernel
theorem d_Loader_glyphsRise_25 : decode b_Loader_glyphsRise 25 = .ok (.istore 6, 2) := by decide +kernel
theorem d_Loader_glyphsRise_27 : decode b_Loader_glyphsRise 27 = .ok (.iload 6, 2) := by decide +kernel
theorem d_Loader_glyphsRise_29 : decode b_Loader_glyphsRise 29 = .ok (.iload 4, 2) := by decide +kernel
theorem d_Loader_glyphsRise_31 : decode b_Loader_glyphsRise 31 = .ok (.if_icmp .gt 5, 3) := by decide +kernel
theorem d_Loader_glyphsRise_34 : decode b_Loader_glyphsRise 34 = .ok (.iconst 0, 1) := by decide +kernel
theorem d_Loader_glyphsRise_35 : decode b_Loader_glyphsRise 35 = .ok (.ireturn, 1) := by decide +kernel
theorem d_Loader_glyphsRise_36 : decode b_Loader_glyphsRise 36 = .ok (.iload 6, 2) := by decide +kernel
theorem d_Loader_glyphsRise_38 : decode b_Loader_glyphsRise 38 = .ok (.istore 4, 2) := by decide +kernel
theorem d_Loader_glyphsRise_40 : decode b_Loader_glyphsRise 40 = .ok (.iinc 5 1, 3) := by decide +kernel
theorem d_Loader_glyphsRise_43 : decode b_Loader_glyphsRise 43 = .ok (.goto (-37), 3) := by decide +kernel
theorem d_Loader_glyphsRise_46 : decode b_Loader_glyphsRise 46 = .ok (.iconst 1, 1) := by decide +kernel
theorem d_Loader_glyphsRise_47 : decode b_Loader_glyphsRise 47 = .ok (.ireturn, 1) := by decide +kernel
abbrev b_Loader_covered : ByteArray := prog_5_method_25_code
def y_Loader_covered : MethodName := ⟨R_Loader, "covered", "(I)I"⟩
theorem d_Loader_covered_0 : decode b_Loader_covered 0 = .ok (.aload_n 0, 1) := by decide +kernel
theorem d_Loader_covered_1 : decode b_Loader_covered 1 = .ok (.invokevirtual 93, 3) := by decide +kernel
theorem d_Loader_covered_4 : decode b_Loader_covered 4 = .ok (.ifCond .eq 15, 3) := by decide +kernel
theorem d_Loader_covered_7 : decode b_Loader_covered 7 = .ok (.aload_n 0, 1) := by decide +kernel
theorem d_Loader_covered_8 : decode b_Loader_covered 8 = .ok (.getfield 9, 3) := by decide +kernel
theorem d_Loader_covered_11 : decode b_Loader_covered 11 = .ok (.iload_n 1, 1) := by decide +kernel
theorem d_Loader_covered_12 : decode b_Loader_covered 12 = .ok (.iconst 4, 1) := by decide +kernel
theorem d_Loader_covered_13 : decode b_Loader_covered 13 = .ok (.invokevirtual 15, 3) := by decide +kernel
theorem d_Loader_covered_16 : decode b_Loader_covered 16 = .ok (.ifCond .ne 5, 3) := by decide +kernel
theorem d_Loader_covered_19 : decode b_Loader_covered 19 = .ok (.iconst (-1), 1) := by decide +kernel
theorem d_Loader_covered_20 : decode b_Loader_covered 20 = .ok (.ireturn, 1) := by decide +kernel
theorem d_Loader_covered_21 : decode b_Loader_covered 21 = .ok (.aload_n 0, 1) := by decide +kernel
theorem d_Loader_covered_22 : decode b_Loader_covered 22 = .ok (.getfield 9, 3) := by decide +kernel
theorem d_Loader_covered_25 : decode b_Loader_covered 25 = .ok (.iload_n 1, 1) := by decide +kernel
theorem d_Loader_covered_26 : decode b_Loader_covered 26 = .ok (.invokevirtual 21, 3) := by decide +kernel
theorem d_Loader_covered_29 : decode b_Loader_covered 29 = .ok (.istore_n 2, 1) := by decide +kernel
theorem d_Loader_covered_30 : decode b_Loader_covered 30 = .ok (.aload_n 0, 1) := by decide +kernel
theorem d_Loader_covered_31 : decode b_Loader_covered 31 = .ok (.getfield 9, 3) := by decide +kernel
theorem d_Loader_covered_34 : decode b_Loader_covered 34 = .ok (.iload_n 1, 1) := by decide +kernel
theorem d_Loader_covered_35 : decode b_Loader_covered 35 = .ok (.iconst 2, 1) := by decide +kernel
theorem d_Loader_covered_36 : decode b_Loader_covered 36 = .ok (.iadd, 1) := by decide +kernel
theorem d_Loader_covered_37 : decode b_Loader_covered 37 = .ok (.invokevirtual 21, 3) := by decide +kernel
theorem d_Loader_covered_40 : decode b_Loader_covered 40 = .ok (.istore_n 3, 1) := by decide +kernel
theorem d_Loader_covered_41 : decode b_Loader_covered 41 = .ok (.iload_n 2, 1) := by decide +kernel
theorem d_Loader_covered_42 : decode b_Loader_covered 42 = .ok (.iconst 1, 1) := by decide +kernel
theorem d_Loader_covered_43 : decode b_Loader_covered 43 = .ok (.if_icmp .ne 37, 3) := by decide +kernel
theorem d_Loader_covered_46 : decode b_Loader_covered 46 = .ok (.aload_n 0, 1) := by decide +kernel
theorem d_Loader_covered_47 : decode b_Loader_covered 47 = .ok (.getfield 9, 3) := by decide +kernel
theorem d_Loader_covered_50 : decode b_Loader_covered 50 = .ok (.iload_n 1, 1) := by decide +kernel
theorem d_Loader_covered_51 : decode b_Loader_covered 51 = .ok (.iconst 4, 1) := by decide +kernel
theorem d_Loader_covered_52 : decode b_Loader_covered 52 = .ok (.iadd, 1) := by decide +kernel
theorem d_Loader_covered_53 : decode b_Loader_covered 53 = .ok (.iconst 2, 1) := by decide +kernel
theorem d_Loader_covered_54 : decode b_Loader_covered 54 = .ok (.iload_n 3, 1) := by decide +kernel
theorem d_Loader_covered_55 : decode b_Loader_covered 55 = .ok (.imul, 1) := by decide +kernel
theorem d_Loader_covered_56 : decode b_Loader_covered 56 = .ok (.invokevirtual 15, 3) := by decide +kernel
theorem d_Loader_covered_59 : decode b_Loader_covered 59 = .ok (.ifCond .eq 19, 3) := by decide +kernel
theorem d_Loader_covered_62 : decode b_Loader_covered 62 = .ok (.aload_n 0, 1) := by decide +kernel
theorem d_Loader_covered_63 : decode b_Loader_covered 63 = .ok (.iload_n 1, 1) := by decide +kernel
theorem d_Loader_covered_64 : decode b_Loader_covered 64 = .ok (.iconst 4, 1) := by decide +kernel
theorem d_Loader_covered_65 : decode b_Loader_covered 65 = .ok (.iadd, 1) := by decide +kernel
theorem d_Loader_covered_66 : decode b_Loader_covered 66 = .ok (.iload_n 3, 1) := by decide +kernel
theorem d_Loader_covered_67 : decode b_Loader_covered 67 = .ok (.iconst 2, 1) := by decide +kernel
theorem d_Loader_covered_68 : decode b_Loader_covered 68 = .ok (.invokevirtual 97, 3) := by decide +kernel
theorem d_Loader_covered_71 : decode b_Loader_covered 71 = .ok (.ifCond .eq 7, 3) := by decide +kernel
theorem d_Loader_covered_74 : decode b_Loader_covered 74 = .ok (.iload_n 3, 1) := by decide +kernel
theorem d_Loader_covered_75 : decode b_Loader_covered 75 = .ok (.goto 4, 3) := by decide +kernel
theorem d_Loader_covered_78 : decode b_Loader_covered 78 = .ok (.iconst (-1), 1) := by decide +kernel
theorem d_Loader_covered_79 : decode b_Loader_covered 79 = .ok (.ireturn, 1) := by decide +kernel
theorem d_Loader_covered_80 : decode b_Loader_covered 80 = .ok (.iload_n 2, 1) := by decide +kernel
theorem d_Loader_covered_81 : decode b_Loader_covered 81 = .ok (.iconst 2, 1) := by decide +kernel
theorem d_Loader_covered_82 : decode b_Loader_covered 82 = .ok (.if_icmp .ne 31, 3) := by decide +kernel
theorem d_Loader_covered_85 : decode b_Loader_covered 85 = .ok (.aload_n 0, 1) := by decide +kernel
theorem d_Loader_covered_86 : decode b_Loader_covered 86 = .ok (.getfield 9, 3) := by decide +kernel
theorem d_Loader_covered_89 : decode b_Loader_covered 89 = .ok (.iload_n 1, 1) := by decide +kernel
theorem d_Loader_covered_90 : decode b_Loader_covered 90 = .ok (.iconst 4, 1) := by decide +kernel
theorem d_Loader_covered_91 : decode b_Loader_covered 91 = .ok (.iadd, 1) := by decide +kernel
theorem d_Loader_covered_92 : decode b_Loader_covered 92 = .ok (.bipush 6, 2) := by decide +kernel
theorem d_Loader_covered_94 : decode b_Loader_covered 94 = .ok (.iload_n 3, 1) := by decide +kernel
theorem d_Loader_covered_95 : decode b_Loader_covered 95 = .ok (.imul, 1) := by decide +kernel
theorem d_Loader_covered_96 : decode b_Loader_covered 96 = .ok (.invokevirtual 15, 3) := by decide +kernel
theorem d_Loader_covered_99 : decode b_Loader_covered 99 = .ok (.ifCond .eq 14, 3) := by decide +kernel
theorem d_Loader_covered_102 : decode b_Loader_covered 102 = .ok (.aload_n 0, 1) := by decide +kernel
theorem d_Loader_covered_103 : decode b_Loader_covered 103 = .ok (.iload_n 1, 1) := by decide +kernel
theorem d_Loader_covered_104 : decode b_Loader_covered 104 = .ok (.iconst 4, 1) := by decide +kernel
theorem d_Loader_covered_105 : decode b_Loader_covered 105 = .ok (.iadd, 1) := by decide +kernel
theorem d_Loader_covered_106 : decode b_Loader_covered 106 = .ok (.iload_n 3, 1) := by decide +kernel
theorem d_Loader_covered_107 : decode b_Loader_covered 107 = .ok (.invokevirtual 115, 3) := by decide +kernel
theorem d_Loader_covered_110 : decode b_Loader_covered 110 = .ok (.ifCond .ne 5, 3) := by decide +kernel
theorem d_Loader_covered_113 : decode b_Loader_covered 113 = .ok (.iconst (-1), 1) := by decide +kernel
theorem d_Loader_covered_114 : decode b_Loader_covered 114 = .ok (.ireturn, 1) := by decide +kernel
theorem d_Loader_covered_115 : decode b_Loader_covered 115 = .ok (.iconst 0, 1) := by decide +kernel
theorem d_Loader_covered_116 : decode b_Loader_covered 116 = .ok (.istore 4, 2) := by decide +kernel
theorem d_Loader_covered_118 : decode b_Loader_covered 118 = .ok (.iload_n 1, 1) := by decide +kernel
theorem d_Loader_covered_119 : decode b_Loader_covered 119 = .ok (.iconst 4, 1) := by decide +kernel
theorem d_Loader_covered_120 : decode b_Loader_covered 120 = .ok (.iadd, 1) := by decide +kernel
theorem d_Loader_covered_121 : decode b_Loader_covered 121 = .ok (.istore 5, 2) := by decide +kernel
theorem d_Loader_covered_123 : decode b_Loader_covered 123 = .ok (.iload 5, 2) := by decide +kernel
theorem d_Loader_covered_125 : decode b_Loader_covered 125 = .ok (.iload_n 1, 1) := by decide +kernel
theorem d_Loader_covered_126 : decode b_Loader_covered 126 = .ok (.iconst 4, 1) := by decide +kernel
theorem d_Loader_covered_127 : decode b_Loader_covered 127 = .ok (.iadd, 1) := by decide +kernel
theorem d_Loader_covered_128 : decode b_Loader_covered 128 = .ok (.bipush 6, 2) := by decide +kernel
theorem d_Loader_covered_130 : decode b_Loader_covered 130 = .ok (.iload_n 3, 1) := by decide +kernel
theorem d_Loader_covered_131 : decode b_Loader_covered 131 = .ok (.imul, 1) := by decide +kernel
theorem d_Loader_covered_132 : decode b_Loader_covered 132 = .ok (.iadd, 1) := by decide +kernel
theorem d_Loader_covered_133 : decode b_Loader_covered 133 = .ok (.if_icmp .ge 55, 3) := by decide +kernel
theorem d_Loader_covered_136 : decode b_Loader_covered 136 = .ok (.aload_n 0, 1) := by decide +kernel
theorem d_Loader_covered_137 : decode b_Loader_covered 137 = .ok (.getfield 9, 3) := by decide +kernel
theorem d_Loader_covered_140 : decode b_Loader_covered 140 = .ok (.iload 5, 2) := by decide +kernel
theorem d_Loader_covered_142 : decode b_Loader_covered 142 = .ok (.iconst 4, 1) := by decide +kernel
theorem d_Loader_covered_143 : decode b_Loader_covered 143 = .ok (.iadd, 1) := by decide +kernel
theorem d_Loader_covered_144 : decode b_Loader_covered 144 = .ok (.invokevirtual 21, 3) := by decide +kernel
theorem d_Loader_covered_147 : decode b_Loader_covered 147 = .ok (.iload 4, 2) := by decide +kernel
theorem d_Loader_covered_149 : decode b_Loader_covered 149 = .ok (.if_icmp .eq 5, 3) := by decide +kernel
theorem d_Loader_covered_152 : decode b_Loader_covered 152 = .ok (.iconst (-1), 1) := by decide +kernel
theorem d_Loader_covered_153 : decode b_Loader_covered 153 = .ok (.ireturn, 1) := by decide +kernel
theorem d_Loader_covered_154 : decode b_Loader_covered 154 = .ok (.iload 4, 2) := by decide +kernel
theorem d_Loader_covered_156 : decode b_Loader_covered 156 = .ok (.aload_n 0, 1) := by decide +kernel
theorem d_Loader_covered_157 : decode b_Loader_covered 157 = .ok (.getfield 9, 3) := by decide +kernel
theorem d_Loader_covered_160 : decode b_Loader_covered 160 = .ok (.iload 5, 2) := by decide +kernel
theorem d_Loader_covered_162 : decode b_Loader_covered 162 = .ok (.iconst 2, 1) := by decide +kernel
theorem d_Loader_covered_163 : decode b_Loader_covered 163 = .ok (.iadd, 1) := by decide +kernel
theorem d_Loader_covered_164 : decode b_Loader_covered 164 = .ok (.invokevirtual 21, 3) := by decide +kernel
theorem d_Loader_covered_167 : decode b_Loader_covered 167 = .ok (.aload_n 0, 1) := by decide +kernel
theorem d_Loader_covered_168 : decode b_Loader_covered 168 = .ok (.getfield 9, 3) := by decide +kernel
theorem d_Loader_covered_171 : decode b_Loader_covered 171 = .ok (.iload 5, 2) := by decide +kernel
theorem d_Loader_covered_173 : decode b_Loader_covered 173 = .ok (.invokevirtual 21, 3) := by decide +kernel
theorem d_Loader_covered_176 : decode b_Loader_covered 176 = .ok (.isub, 1) := by decide +kernel
theorem d_Loader_covered_177 : decode b_Loader_covered 177 = .ok (.iconst 1, 1) := by decide +kernel
theorem d_Loader_covered_178 : decode b_Loader_covered 178 = .ok (.iadd, 1) := by decide +kernel
theorem d_Loader_covered_179 : decode b_Loader_covered 179 = .ok (.iadd, 1) := by decide +kernel
theorem d_Loader_covered_180 : decode b_Loader_covered 180 = .ok (.istore 4, 2) := by decide +kernel
theorem d_Loader_covered_182 : decode b_Loader_covered 182 = .ok (.iinc 5 6, 3) := by decide +kernel
theorem d_Loader_covered_185 : decode b_Loader_covered 185 = .ok (.goto (-62), 3) := by decide +kernel
theorem d_Loader_covered_188 : decode b_Loader_covered 188 = .ok (.iload 4, 2) := by decide +kernel
theorem d_Loader_covered_190 : decode b_Loader_covered 190 = .ok (.ireturn, 1) := by decide +kernel
abbrev b_Loader_listByIndexLies : ByteArray := prog_5_method_10_code
def y_Loader_listByIndexLies : MethodName := ⟨R_Loader, "listByIndexLies", "(III)Z"⟩
theorem d_Loader_listByIndexLies_0 : decode b_Loader_listByIndexLies 0 = .ok (.aload_n 0, 1) := by decide +kernel
theorem d_Loader_listByIndexLies_1 : decode b_Loader_listByIndexLies 1 = .ok (.iload_n 1, 1) := by decide +kernel
theorem d_Loader_listByIndexLies_2 : decode b_Loader_listByIndexLies 2 = .ok (.sipush 256, 3) := by decide +kernel
theorem d_Loader_listByIndexLies_5 : decode b_Loader_listByIndexLies 5 = .ok (.iload_n 3, 1) := by decide +kernel
theorem d_Loader_listByIndexLies_6 : decode b_Loader_listByIndexLies 6 = .ok (.invokevirtual 40, 3) := by decide +kernel
theorem d_Loader_listByIndexLies_9 : decode b_Loader_listByIndexLies 9 = .ok (.ifCond .eq 19, 3) := by decide +kernel
theorem d_Loader_listByIndexLies_12 : decode b_Loader_listByIndexLies 12 = .ok (.aload_n 0, 1) := by decide +kernel
theorem d_Loader_listByIndexLies_13 : decode b_Loader_listByIndexLies 13 = .ok (.getfield 9, 3) := by decide +kernel
theorem d_Loader_listByIndexLies_16 : decode b_Loader_listByIndexLies 16 = .ok (.iload_n 1, 1) := by decide +kernel
theorem d_Loader_listByIndexLies_17 : decode b_Loader_listByIndexLies 17 = .ok (.invokevirtual 21, 3) := by decide +kernel
theorem d_Loader_listByIndexLies_20 : decode b_Loader_listByIndexLies 20 = .ok (.iload_n 2, 1) := by decide +kernel
theorem d_Loader_listByIndexLies_21 : decode b_Loader_listByIndexLies 21 = .ok (.if_icmp .ne 7, 3) := by decide +kernel
theorem d_Loader_listByIndexLies_24 : decode b_Loader_listByIndexLies 24 = .ok (.iconst 1, 1) := by decide +kernel
theorem d_Loader_listByIndexLies_25 : decode b_Loader_listByIndexLies 25 = .ok (.goto 4, 3) := by decide +kernel
theorem d_Loader_listByIndexLies_28 : decode b_Loader_listByIndexLies 28 = .ok (.iconst 0, 1) := by decide +kernel
theorem d_Loader_listByIndexLies_29 : decode b_Loader_listByIndexLies 29 = .ok (.ireturn, 1) := by decide +kernel
abbrev b_Loader_anchorAsSaid : ByteArray := prog_5_method_24_code
def y_Loader_anchorAsSaid : MethodName := ⟨R_Loader, "anchorAsSaid", "(I)Z"⟩
theorem d_Loader_anchorAsSaid_0 : decode b_Loader_anchorAsSaid 0 = .ok (.aload_n 0, 1) := by decide +kernel
theorem d_Loader_anchorAsSaid_1 : decode b_Loader_anchorAsSaid 1 = .ok (.invokevirtual 93, 3) := by decide +kernel
theorem d_Loader_anchorAsSaid_4 : decode b_Loader_anchorAsSaid 4 = .ok (.ifCond .eq 16, 3) := by decide +kernel
theorem d_Loader_anchorAsSaid_7 : decode b_Loader_anchorAsSaid 7 = .ok (.aload_n 0, 1) := by decide +kernel
theorem d_Loader_anchorAsSaid_8 : decode b_Loader_anchorAsSaid 8 = .ok (.getfield 9, 3) := by decide +kernel
theorem d_Loader_anchorAsSaid_11 : decode b_Loader_anchorAsSaid 11 = .ok (.iload_n 1, 1) := by decide +kernel
theorem d_Loader_anchorAsSaid_12 : decode b_Loader_anchorAsSaid 12 = .ok (.bipush 6, 2) := by decide +kernel
theorem d_Loader_anchorAsSaid_14 : decode b_Loader_anchorAsSaid 14 = .ok (.invokevirtual 15, 3) := by decide +kernel
theorem d_Loader_anchorAsSaid_17 : decode b_Loader_anchorAsSaid 17 = .ok (.ifCond .ne 5, 3) := by decide +kernel
theorem d_Loader_anchorAsSaid_20 : decode b_Loader_anchorAsSaid 20 = .ok (.iconst 0, 1) := by decide +kernel
theorem d_Loader_anchorAsSaid_21 : decode b_Loader_anchorAsSaid 21 = .ok (.ireturn, 1) := by decide +kernel
theorem d_Loader_anchorAsSaid_22 : decode b_Loader_anchorAsSaid 22 = .ok (.aload_n 0, 1) := by decide +kernel
theorem d_Loader_anchorAsSaid_23 : decode b_Loader_anchorAsSaid 23 = .ok (.getfield 9, 3) := by decide +kernel
theorem d_Loader_anchorAsSaid_26 : decode b_Loader_anchorAsSaid 26 = .ok (.iload_n 1, 1) := by decide +kernel
theorem d_Loader_anchorAsSaid_27 : decode b_Loader_anchorAsSaid 27 = .ok (.invokevirtual 21, 3) := by decide +kernel
theorem d_Loader_anchorAsSaid_30 : decode b_Loader_anchorAsSaid 30 = .ok (.istore_n 2, 1) := by decide +kernel
theorem d_Loader_anchorAsSaid_31 : decode b_Loader_anchorAsSaid 31 = .ok (.iload_n 2, 1) := by decide +kernel
theorem d_Loader_anchorAsSaid_32 : decode b_Loader_anchorAsSaid 32 = .ok (.iconst 1, 1) := by decide +kernel
theorem d_Loader_anchorAsSaid_33 : decode b_Loader_anchorAsSaid 33 = .ok (.if_icmp .lt 12, 3) := by decide +kernel
theorem d_Loader_anchorAsSaid_36 : decode b_Loader_anchorAsSaid 36 = .ok (.iload_n 2, 1) := by decide +kernel
theorem d_Loader_anchorAsSaid_37 : decode b_Loader_anchorAsSaid 37 = .ok (.iconst 3, 1) := by decide +kernel
theorem d_Loader_anchorAsSaid_38 : decode b_Loader_anchorAsSaid 38 = .ok (.if_icmp .gt 7, 3) := by decide +kernel
theorem d_Loader_anchorAsSaid_41 : decode b_Loader_anchorAsSaid 41 = .ok (.iconst 1, 1) := by decide +kernel
theorem d_Loader_anchorAsSaid_42 : decode b_Loader_anchorAsSaid 42 = .ok (.goto 4, 3) := by decide +kernel
theorem d_Loader_anchorAsSaid_45 : decode b_Loader_anchorAsSaid 45 = .ok (.iconst 0, 1) := by decide +kernel
theorem d_Loader_anchorAsSaid_46 : decode b_Loader_anchorAsSaid 46 = .ok (.ireturn, 1) := by decide +kernel
abbrev b_Loader_marksAsSaid : ByteArray := prog_5_method_21_code
def y_Loader_marksAsSaid : MethodName := ⟨R_Loader, "marksAsSaid", "(III)Z"⟩
theorem d_Loader_marksAsSaid_0 : decode b_Loader_marksAsSaid 0 = .ok (.aload_n 0, 1) := by decide +kernel
theorem d_Loader_marksAsSaid_1 : decode b_Loader_marksAsSaid 1 = .ok (.iload_n 1, 1) := by decide +kernel
theorem d_Loader_marksAsSaid_2 : decode b_Loader_marksAsSaid 2 = .ok (.iload_n 2, 1) := by decide +kernel
theorem d_Loader_marksAsSaid_3 : decode b_Loader_marksAsSaid 3 = .ok (.iconst 4, 1) := by decide +kernel
theorem d_Loader_marksAsSaid_4 : decode b_Loader_marksAsSaid 4 = .ok (.invokevirtual 84, 3) := by decide +kernel
theorem d_Loader_marksAsSaid_7 : decode b_Loader_marksAsSaid 7 = .ok (.ifCond .ne 5, 3) := by decide +kernel
theorem d_Loader_marksAsSaid_10 : decode b_Loader_marksAsSaid 10 = .ok (.iconst 0, 1) := by decide +kernel
theorem d_Loader_marksAsSaid_11 : decode b_Loader_marksAsSaid 11 = .ok (.ireturn, 1) := by decide +kernel
theorem d_Loader_marksAsSaid_12 : decode b_Loader_marksAsSaid 12 = .ok (.iconst 0, 1) := by decide +kernel
theorem d_Loader_marksAsSaid_13 : decode b_Loader_marksAsSaid 13 = .ok (.istore 4, 2) := by decide +kernel
theorem d_Loader_marksAsSaid_15 : decode b_Loader_marksAsSaid 15 = .ok (.iload 4, 2) := by decide +kernel
theorem d_Loader_marksAsSaid_17 : decode b_Loader_marksAsSaid 17 = .ok (.iload_n 2, 1) := by decide +kernel
theorem d_Loader_marksAsSaid_18 : decode b_Loader_marksAsSaid 18 = .ok (.if_icmp .ge 54, 3) := by decide +kernel
theorem d_Loader_marksAsSaid_21 : decode b_Loader_marksAsSaid 21 = .ok (.iload_n 1, 1) := by decide +kernel
theorem d_Loader_marksAsSaid_22 : decode b_Loader_marksAsSaid 22 = .ok (.iconst 2, 1) := by decide +kernel
theorem d_Loader_marksAsSaid_23 : decode b_Loader_marksAsSaid 23 = .ok (.iadd, 1) := by decide +kernel
theorem d_Loader_marksAsSaid_24 : decode b_Loader_marksAsSaid 24 = .ok (.iconst 4, 1) := by decide +kernel
theorem d_Loader_marksAsSaid_25 : decode b_Loader_marksAsSaid 25 = .ok (.iload 4, 2) := by decide +kernel
theorem d_Loader_marksAsSaid_27 : decode b_Loader_marksAsSaid 27 = .ok (.imul, 1) := by decide +kernel
theorem d_Loader_marksAsSaid_28 : decode b_Loader_marksAsSaid 28 = .ok (.iadd, 1) := by decide +kernel
theorem d_Loader_marksAsSaid_29 : decode b_Loader_marksAsSaid 29 = .ok (.istore 5, 2) := by decide +kernel
theorem d_Loader_marksAsSaid_31 : decode b_Loader_marksAsSaid 31 = .ok (.aload_n 0, 1) := by decide +kernel
theorem d_Loader_marksAsSaid_32 : decode b_Loader_marksAsSaid 32 = .ok (.getfield 9, 3) := by decide +kernel
theorem d_Loader_marksAsSaid_35 : decode b_Loader_marksAsSaid 35 = .ok (.iload 5, 2) := by decide +kernel
theorem d_Loader_marksAsSaid_37 : decode b_Loader_marksAsSaid 37 = .ok (.invokevirtual 21, 3) := by decide +kernel
theorem d_Loader_marksAsSaid_40 : decode b_Loader_marksAsSaid 40 = .ok (.iload_n 3, 1) := by decide +kernel
theorem d_Loader_marksAsSaid_41 : decode b_Loader_marksAsSaid 41 = .ok (.if_icmp .ge 23, 3) := by decide +kernel
theorem d_Loader_marksAsSaid_44 : decode b_Loader_marksAsSaid 44 = .ok (.aload_n 0, 1) := by decide +kernel
theorem d_Loader_marksAsSaid_45 : decode b_Loader_marksAsSaid 45 = .ok (.iload_n 1, 1) := by decide +kernel
theorem d_Loader_marksAsSaid_46 : decode b_Loader_marksAsSaid 46 = .ok (.aload_n 0, 1) := by decide +kernel
theorem d_Loader_marksAsSaid_47 : decode b_Loader_marksAsSaid 47 = .ok (.getfield 9, 3) := by decide +kernel
theorem d_Loader_marksAsSaid_50 : decode b_Loader_marksAsSaid 50 = .ok (.iload 5, 2) := by decide +kernel
theorem d_Loader_marksAsSaid_52 : decode b_Loader_marksAsSaid 52 = .ok (.iconst 2, 1) := by decide +kernel
theorem d_Loader_marksAsSaid_53 : decode b_Loader_marksAsSaid 53 = .ok (.iadd, 1) := by decide +kernel
theorem d_Loader_marksAsSaid_54 : decode b_Loader_marksAsSaid 54 = .ok (.invokevirtual 21, 3) := by decide +kernel
theorem d_Loader_marksAsSaid_57 : decode b_Loader_marksAsSaid 57 = .ok (.iadd, 1) := by decide +kernel
theorem d_Loader_marksAsSaid_58 : decode b_Loader_marksAsSaid 58 = .ok (.invokevirtual 112, 3) := by decide +kernel
theorem d_Loader_marksAsSaid_61 : decode b_Loader_marksAsSaid 61 = .ok (.ifCond .ne 5, 3) := by decide +kernel
theorem d_Loader_marksAsSaid_64 : decode b_Loader_marksAsSaid 64 = .ok (.iconst 0, 1) := by decide +kernel
theorem d_Loader_marksAsSaid_65 : decode b_Loader_marksAsSaid 65 = .ok (.ireturn, 1) := by decide +kernel
theorem d_Loader_marksAsSaid_66 : decode b_Loader_marksAsSaid 66 = .ok (.iinc 4 1, 3) := by decide +kernel
theorem d_Loader_marksAsSaid_69 : decode b_Loader_marksAsSaid 69 = .ok (.goto (-54), 3) := by decide +kernel
theorem d_Loader_marksAsSaid_72 : decode b_Loader_marksAsSaid 72 = .ok (.iconst 1, 1) := by decide +kernel
theorem d_Loader_marksAsSaid_73 : decode b_Loader_marksAsSaid 73 = .ok (.ireturn, 1) := by decide +kernel
abbrev b_Loader_anchorsAsSaid : ByteArray := prog_5_method_23_code
def y_Loader_anchorsAsSaid : MethodName := ⟨R_Loader, "anchorsAsSaid", "(III)Z"⟩
theorem d_Loader_anchorsAsSaid_0 : decode b_Loader_anchorsAsSaid 0 = .ok (.iconst 0, 1) := by decide +kernel
theorem d_Loader_anchorsAsSaid_1 : decode b_Loader_anchorsAsSaid 1 = .ok (.istore 4, 2) := by decide +kernel
theorem d_Loader_anchorsAsSaid_3 : decode b_Loader_anchorsAsSaid 3 = .ok (.iload 4, 2) := by decide +kernel
theorem d_Loader_anchorsAsSaid_5 : decode b_Loader_anchorsAsSaid 5 = .ok (.iload_n 3, 1) := by decide +kernel
theorem d_Loader_anchorsAsSaid_6 : decode b_Loader_anchorsAsSaid 6 = .ok (.if_icmp .ge 42, 3) := by decide +kernel
theorem d_Loader_anchorsAsSaid_9 : decode b_Loader_anchorsAsSaid 9 = .ok (.aload_n 0, 1) := by decide +kernel
theorem d_Loader_anchorsAsSaid_10 : decode b_Loader_anchorsAsSaid 10 = .ok (.getfield 9, 3) := by decide +kernel
theorem d_Loader_anchorsAsSaid_13 : decode b_Loader_anchorsAsSaid 13 = .ok (.iload_n 2, 1) := by decide +kernel
theorem d_Loader_anchorsAsSaid_14 : decode b_Loader_anchorsAsSaid 14 = .ok (.iconst 2, 1) := by decide +kernel
theorem d_Loader_anchorsAsSaid_15 : decode b_Loader_anchorsAsSaid 15 = .ok (.iload 4, 2) := by decide +kernel
theorem d_Loader_anchorsAsSaid_17 : decode b_Loader_anchorsAsSaid 17 = .ok (.imul, 1) := by decide +kernel
theorem d_Loader_anchorsAsSaid_18 : decode b_Loader_anchorsAsSaid 18 = .ok (.iadd, 1) := by decide +kernel
theorem d_Loader_anchorsAsSaid_19 : decode b_Loader_anchorsAsSaid 19 = .ok (.invokevirtual 21, 3) := by decide +kernel
theorem d_Loader_anchorsAsSaid_22 : decode b_Loader_anchorsAsSaid 22 = .ok (.istore 5, 2) := by decide +kernel
theorem d_Loader_anchorsAsSaid_24 : decode b_Loader_anchorsAsSaid 24 = .ok (.iload 5, 2) := by decide +kernel
theorem d_Loader_anchorsAsSaid_26 : decode b_Loader_anchorsAsSaid 26 = .ok (.ifCond .eq 16, 3) := by decide +kernel
theorem d_Loader_anchorsAsSaid_29 : decode b_Loader_anchorsAsSaid 29 = .ok (.aload_n 0, 1) := by decide +kernel
theorem d_Loader_anchorsAsSaid_30 : decode b_Loader_anchorsAsSaid 30 = .ok (.iload_n 1, 1) := by decide +kernel
theorem d_Loader_anchorsAsSaid_31 : decode b_Loader_anchorsAsSaid 31 = .ok (.iload 5, 2) := by decide +kernel
theorem d_Loader_anchorsAsSaid_33 : decode b_Loader_anchorsAsSaid 33 = .ok (.iadd, 1) := by decide +kernel
theorem d_Loader_anchorsAsSaid_34 : decode b_Loader_anchorsAsSaid 34 = .ok (.invokevirtual 112, 3) := by decide +kernel
theorem d_Loader_anchorsAsSaid_37 : decode b_Loader_anchorsAsSaid 37 = .ok (.ifCond .ne 5, 3) := by decide +kernel
theorem d_Loader_anchorsAsSaid_40 : decode b_Loader_anchorsAsSaid 40 = .ok (.iconst 0, 1) := by decide +kernel
theorem d_Loader_anchorsAsSaid_41 : decode b_Loader_anchorsAsSaid 41 = .ok (.ireturn, 1) := by decide +kernel
theorem d_Loader_anchorsAsSaid_42 : decode b_Loader_anchorsAsSaid 42 = .ok (.iinc 4 1, 3) := by decide +kernel
theorem d_Loader_anchorsAsSaid_45 : decode b_Loader_anchorsAsSaid 45 = .ok (.goto (-42), 3) := by decide +kernel
theorem d_Loader_anchorsAsSaid_48 : decode b_Loader_anchorsAsSaid 48 = .ok (.iconst 1, 1) := by decide +kernel
theorem d_Loader_anchorsAsSaid_49 : decode b_Loader_anchorsAsSaid 49 = .ok (.ireturn, 1) := by decide +kernel
abbrev b_Loader_ligaturesAsSaid : ByteArray := prog_5_method_22_code
def y_Loader_ligaturesAsSaid : MethodName := ⟨R_Loader, "ligaturesAsSaid", "(III)Z"⟩
theorem d_Loader_ligaturesAsSaid_0 : decode b_Loader_ligaturesAsSaid 0 = .ok (.aload_n 0, 1) := by decide +kernel
theorem d_Loader_ligaturesAsSaid_1 : decode b_Loader_ligaturesAsSaid 1 = .ok (.iload_n 1, 1) := by decide +kernel
theorem d_Loader_ligaturesAsSaid_2 : decode b_Loader_ligaturesAsSaid 2 = .ok (.iload_n 2, 1) := by decide +kernel
theorem d_Loader_ligaturesAsSaid_3 : decode b_Loader_ligaturesAsSaid 3 = .ok (.iconst 2, 1) := by decide +kernel
theorem d_Loader_ligaturesAsSaid_4 : decode b_Loader_ligaturesAsSaid 4 = .ok (.invokevirtual 84, 3) := by decide +kernel
theorem d_Loader_ligaturesAsSaid_7 : decode b_Loader_ligaturesAsSaid 7 = .ok (.ifCond .ne 5, 3) := by decide +kernel
theorem d_Loader_ligaturesAsSaid_10 : decode b_Loader_ligaturesAsSaid 10 = .ok (.iconst 0, 1) := by decide +kernel
theorem d_Loader_ligaturesAsSaid_11 : decode b_Loader_ligaturesAsSaid 11 = .ok (.ireturn, 1) := by decide +kernel
theorem d_Loader_ligaturesAsSaid_12 : decode b_Loader_ligaturesAsSaid 12 = .ok (.iconst 0, 1) := by decide +kernel
theorem d_Loader_ligaturesAsSaid_13 : decode b_Loader_ligaturesAsSaid 13 = .ok (.istore 4, 2) := by decide +kernel
theorem d_Loader_ligaturesAsSaid_15 : decode b_Loader_ligaturesAsSaid 15 = .ok (.iload 4, 2) := by decide +kernel
theorem d_Loader_ligaturesAsSaid_17 : decode b_Loader_ligaturesAsSaid 17 = .ok (.iload_n 2, 1) := by decide +kernel
theorem d_Loader_ligaturesAsSaid_18 : decode b_Loader_ligaturesAsSaid 18 = .ok (.if_icmp .ge 86, 3) := by decide +kernel
theorem d_Loader_ligaturesAsSaid_21 : decode b_Loader_ligaturesAsSaid 21 = .ok (.iload_n 1, 1) := by decide +kernel
theorem d_Loader_ligaturesAsSaid_22 : decode b_Loader_ligaturesAsSaid 22 = .ok (.aload_n 0, 1) := by decide +kernel
theorem d_Loader_ligaturesAsSaid_23 : decode b_Loader_ligaturesAsSaid 23 = .ok (.getfield 9, 3) := by decide +kernel
theorem d_Loader_ligaturesAsSaid_26 : decode b_Loader_ligaturesAsSaid 26 = .ok (.iload_n 1, 1) := by decide +kernel
theorem d_Loader_ligaturesAsSaid_27 : decode b_Loader_ligaturesAsSaid 27 = .ok (.iconst 2, 1) := by decide +kernel
theorem d_Loader_ligaturesAsSaid_28 : decode b_Loader_ligaturesAsSaid 28 = .ok (.iadd, 1) := by decide +kernel
theorem d_Loader_ligaturesAsSaid_29 : decode b_Loader_ligaturesAsSaid 29 = .ok (.iconst 2, 1) := by decide +kernel
theorem d_Loader_ligaturesAsSaid_30 : decode b_Loader_ligaturesAsSaid 30 = .ok (.iload 4, 2) := by decide +kernel
theorem d_Loader_ligaturesAsSaid_32 : decode b_Loader_ligaturesAsSaid 32 = .ok (.imul, 1) := by decide +kernel
theorem d_Loader_ligaturesAsSaid_33 : decode b_Loader_ligaturesAsSaid 33 = .ok (.iadd, 1) := by decide +kernel
theorem d_Loader_ligaturesAsSaid_34 : decode b_Loader_ligaturesAsSaid 34 = .ok (.invokevirtual 21, 3) := by decide +kernel
theorem d_Loader_ligaturesAsSaid_37 : decode b_Loader_ligaturesAsSaid 37 = .ok (.iadd, 1) := by decide +kernel
theorem d_Loader_ligaturesAsSaid_38 : decode b_Loader_ligaturesAsSaid 38 = .ok (.istore 5, 2) := by decide +kernel
theorem d_Loader_ligaturesAsSaid_40 : decode b_Loader_ligaturesAsSaid 40 = .ok (.aload_n 0, 1) := by decide +kernel
theorem d_Loader_ligaturesAsSaid_41 : decode b_Loader_ligaturesAsSaid 41 = .ok (.invokevirtual 93, 3) := by decide +kernel
theorem d_Loader_ligaturesAsSaid_44 : decode b_Loader_ligaturesAsSaid 44 = .ok (.ifCond .eq 17, 3) := by decide +kernel
theorem d_Loader_ligaturesAsSaid_47 : decode b_Loader_ligaturesAsSaid 47 = .ok (.aload_n 0, 1) := by decide +kernel
theorem d_Loader_ligaturesAsSaid_48 : decode b_Loader_ligaturesAsSaid 48 = .ok (.iload 5, 2) := by decide +kernel
theorem d_Loader_ligaturesAsSaid_50 : decode b_Loader_ligaturesAsSaid 50 = .ok (.bipush 16, 2) := by decide +kernel
theorem d_Loader_ligaturesAsSaid_52 : decode b_Loader_ligaturesAsSaid 52 = .ok (.iconst 2, 1) := by decide +kernel
theorem d_Loader_ligaturesAsSaid_53 : decode b_Loader_ligaturesAsSaid 53 = .ok (.iload_n 3, 1) := by decide +kernel
theorem d_Loader_ligaturesAsSaid_54 : decode b_Loader_ligaturesAsSaid 54 = .ok (.imul, 1) := by decide +kernel
theorem d_Loader_ligaturesAsSaid_55 : decode b_Loader_ligaturesAsSaid 55 = .ok (.invokevirtual 40, 3) := by decide +kernel
theorem d_Loader_ligaturesAsSaid_58 : decode b_Loader_ligaturesAsSaid 58 = .ok (.ifCond .ne 5, 3) := by decide +kernel
theorem d_Loader_ligaturesAsSaid_61 : decode b_Loader_ligaturesAsSaid 61 = .ok (.iconst 0, 1) := by decide +kernel
theorem d_Loader_ligaturesAsSaid_62 : decode b_Loader_ligaturesAsSaid 62 = .ok (.ireturn, 1) := by decide +kernel
theorem d_Loader_ligaturesAsSaid_63 : decode b_Loader_ligaturesAsSaid 63 = .ok (.aload_n 0, 1) := by decide +kernel
theorem d_Loader_ligaturesAsSaid_64 : decode b_Loader_ligaturesAsSaid 64 = .ok (.getfield 9, 3) := by decide +kernel
theorem d_Loader_ligaturesAsSaid_67 : decode b_Loader_ligaturesAsSaid 67 = .ok (.iload 5, 2) := by decide +kernel
theorem d_Loader_ligaturesAsSaid_69 : decode b_Loader_ligaturesAsSaid 69 = .ok (.invokevirtual 21, 3) := by decide +kernel
theorem d_Loader_ligaturesAsSaid_72 : decode b_Loader_ligaturesAsSaid 72 = .ok (.istore 6, 2) := by decide +kernel
theorem d_Loader_ligaturesAsSaid_74 : decode b_Loader_ligaturesAsSaid 74 = .ok (.iload 6, 2) := by decide +kernel
theorem d_Loader_ligaturesAsSaid_76 : decode b_Loader_ligaturesAsSaid 76 = .ok (.ifCond .eq 20, 3) := by decide +kernel
theorem d_Loader_ligaturesAsSaid_79 : decode b_Loader_ligaturesAsSaid 79 = .ok (.aload_n 0, 1) := by decide +kernel
theorem d_Loader_ligaturesAsSaid_80 : decode b_Loader_ligaturesAsSaid 80 = .ok (.iload 5, 2) := by decide +kernel
theorem d_Loader_ligaturesAsSaid_82 : decode b_Loader_ligaturesAsSaid 82 = .ok (.iload 5, 2) := by decide +kernel
theorem d_Loader_ligaturesAsSaid_84 : decode b_Loader_ligaturesAsSaid 84 = .ok (.iconst 2, 1) := by decide +kernel
theorem d_Loader_ligaturesAsSaid_85 : decode b_Loader_ligaturesAsSaid 85 = .ok (.iadd, 1) := by decide +kernel
theorem d_Loader_ligaturesAsSaid_86 : decode b_Loader_ligaturesAsSaid 86 = .ok (.iload 6, 2) := by decide +kernel
theorem d_Loader_ligaturesAsSaid_88 : decode b_Loader_ligaturesAsSaid 88 = .ok (.iload_n 3, 1) := by decide +kernel
theorem d_Loader_ligaturesAsSaid_89 : decode b_Loader_ligaturesAsSaid 89 = .ok (.imul, 1) := by decide +kernel
theorem d_Loader_ligaturesAsSaid_90 : decode b_Loader_ligaturesAsSaid 90 = .ok (.invokevirtual 103, 3) := by decide +kernel
theorem d_Loader_ligaturesAsSaid_93 : decode b_Loader_ligaturesAsSaid 93 = .ok (.ifCond .ne 5, 3) := by decide +kernel
theorem d_Loader_ligaturesAsSaid_96 : decode b_Loader_ligaturesAsSaid 96 = .ok (.iconst 0, 1) := by decide +kernel
theorem d_Loader_ligaturesAsSaid_97 : decode b_Loader_ligaturesAsSaid 97 = .ok (.ireturn, 1) := by decide +kernel
theorem d_Loader_ligaturesAsSaid_98 : decode b_Loader_ligaturesAsSaid 98 = .ok (.iinc 4 1, 3) := by decide +kernel
theorem d_Loader_ligaturesAsSaid_101 : decode b_Loader_ligaturesAsSaid 101 = .ok (.goto (-86), 3) := by decide +kernel
theorem d_Loader_ligaturesAsSaid_104 : decode b_Loader_ligaturesAsSaid 104 = .ok (.iconst 1, 1) := by decide +kernel
theorem d_Loader_ligaturesAsSaid_105 : decode b_Loader_ligaturesAsSaid 105 = .ok (.ireturn, 1) := by decide +kernel
abbrev b_Loader_marksOnAsSaid : ByteArray := prog_5_method_20_code
def y_Loader_marksOnAsSaid : MethodName := ⟨R_Loader, "marksOnAsSaid", "(II)Z"⟩
theorem d_Loader_marksOnAsSaid_0 : decode b_Loader_marksOnAsSaid 0 = .ok (.aload_n 0, 1) := by decide +kernel
theorem d_Loader_marksOnAsSaid_1 : decode b_Loader_marksOnAsSaid 1 = .ok (.getfield 9, 3) := by decide +kernel
theorem d_Loader_marksOnAsSaid_4 : decode b_Loader_marksOnAsSaid 4 = .ok (.iload_n 2, 1) := by decide +kernel
theorem d_Loader_marksOnAsSaid_5 : decode b_Loader_marksOnAsSaid 5 = .ok (.bipush 12, 2) := by decide +kernel
theorem d_Loader_marksOnAsSaid_7 : decode b_Loader_marksOnAsSaid 7 = .ok (.invokevirtual 15, 3) := by decide +kernel
theorem d_Loader_marksOnAsSaid_10 : decode b_Loader_marksOnAsSaid 10 = .ok (.ifCond .eq 15, 3) := by decide +kernel
theorem d_Loader_marksOnAsSaid_13 : decode b_Loader_marksOnAsSaid 13 = .ok (.aload_n 0, 1) := by decide +kernel
theorem d_Loader_marksOnAsSaid_14 : decode b_Loader_marksOnAsSaid 14 = .ok (.getfield 9, 3) := by decide +kernel
theorem d_Loader_marksOnAsSaid_17 : decode b_Loader_marksOnAsSaid 17 = .ok (.iload_n 2, 1) := by decide +kernel
theorem d_Loader_marksOnAsSaid_18 : decode b_Loader_marksOnAsSaid 18 = .ok (.invokevirtual 21, 3) := by decide +kernel
theorem d_Loader_marksOnAsSaid_21 : decode b_Loader_marksOnAsSaid 21 = .ok (.iconst 1, 1) := by decide +kernel
theorem d_Loader_marksOnAsSaid_22 : decode b_Loader_marksOnAsSaid 22 = .ok (.if_icmp .eq 5, 3) := by decide +kernel
theorem d_Loader_marksOnAsSaid_25 : decode b_Loader_marksOnAsSaid 25 = .ok (.iconst 0, 1) := by decide +kernel
theorem d_Loader_marksOnAsSaid_26 : decode b_Loader_marksOnAsSaid 26 = .ok (.ireturn, 1) := by decide +kernel
theorem d_Loader_marksOnAsSaid_27 : decode b_Loader_marksOnAsSaid 27 = .ok (.aload_n 0, 1) := by decide +kernel
theorem d_Loader_marksOnAsSaid_28 : decode b_Loader_marksOnAsSaid 28 = .ok (.iload_n 2, 1) := by decide +kernel
theorem d_Loader_marksOnAsSaid_29 : decode b_Loader_marksOnAsSaid 29 = .ok (.aload_n 0, 1) := by decide +kernel
theorem d_Loader_marksOnAsSaid_30 : decode b_Loader_marksOnAsSaid 30 = .ok (.getfield 9, 3) := by decide +kernel
theorem d_Loader_marksOnAsSaid_33 : decode b_Loader_marksOnAsSaid 33 = .ok (.iload_n 2, 1) := by decide +kernel
theorem d_Loader_marksOnAsSaid_34 : decode b_Loader_marksOnAsSaid 34 = .ok (.iconst 2, 1) := by decide +kernel
theorem d_Loader_marksOnAsSaid_35 : decode b_Loader_marksOnAsSaid 35 = .ok (.iadd, 1) := by decide +kernel
theorem d_Loader_marksOnAsSaid_36 : decode b_Loader_marksOnAsSaid 36 = .ok (.invokevirtual 21, 3) := by decide +kernel
theorem d_Loader_marksOnAsSaid_39 : decode b_Loader_marksOnAsSaid 39 = .ok (.iadd, 1) := by decide +kernel
theorem d_Loader_marksOnAsSaid_40 : decode b_Loader_marksOnAsSaid 40 = .ok (.invokevirtual 78, 3) := by decide +kernel
theorem d_Loader_marksOnAsSaid_43 : decode b_Loader_marksOnAsSaid 43 = .ok (.istore_n 3, 1) := by decide +kernel
theorem d_Loader_marksOnAsSaid_44 : decode b_Loader_marksOnAsSaid 44 = .ok (.aload_n 0, 1) := by decide +kernel
theorem d_Loader_marksOnAsSaid_45 : decode b_Loader_marksOnAsSaid 45 = .ok (.iload_n 2, 1) := by decide +kernel
theorem d_Loader_marksOnAsSaid_46 : decode b_Loader_marksOnAsSaid 46 = .ok (.aload_n 0, 1) := by decide +kernel
theorem d_Loader_marksOnAsSaid_47 : decode b_Loader_marksOnAsSaid 47 = .ok (.getfield 9, 3) := by decide +kernel
theorem d_Loader_marksOnAsSaid_50 : decode b_Loader_marksOnAsSaid 50 = .ok (.iload_n 2, 1) := by decide +kernel
theorem d_Loader_marksOnAsSaid_51 : decode b_Loader_marksOnAsSaid 51 = .ok (.iconst 4, 1) := by decide +kernel
theorem d_Loader_marksOnAsSaid_52 : decode b_Loader_marksOnAsSaid 52 = .ok (.iadd, 1) := by decide +kernel
theorem d_Loader_marksOnAsSaid_53 : decode b_Loader_marksOnAsSaid 53 = .ok (.invokevirtual 21, 3) := by decide +kernel
theorem d_Loader_marksOnAsSaid_56 : decode b_Loader_marksOnAsSaid 56 = .ok (.iadd, 1) := by decide +kernel
theorem d_Loader_marksOnAsSaid_57 : decode b_Loader_marksOnAsSaid 57 = .ok (.invokevirtual 78, 3) := by decide +kernel
theorem d_Loader_marksOnAsSaid_60 : decode b_Loader_marksOnAsSaid 60 = .ok (.istore 4, 2) := by decide +kernel
theorem d_Loader_marksOnAsSaid_62 : decode b_Loader_marksOnAsSaid 62 = .ok (.aload_n 0, 1) := by decide +kernel
theorem d_Loader_marksOnAsSaid_63 : decode b_Loader_marksOnAsSaid 63 = .ok (.getfield 9, 3) := by decide +kernel
theorem d_Loader_marksOnAsSaid_66 : decode b_Loader_marksOnAsSaid 66 = .ok (.iload_n 2, 1) := by decide +kernel
theorem d_Loader_marksOnAsSaid_67 : decode b_Loader_marksOnAsSaid 67 = .ok (.bipush 6, 2) := by decide +kernel
theorem d_Loader_marksOnAsSaid_69 : decode b_Loader_marksOnAsSaid 69 = .ok (.iadd, 1) := by decide +kernel
theorem d_Loader_marksOnAsSaid_70 : decode b_Loader_marksOnAsSaid 70 = .ok (.invokevirtual 21, 3) := by decide +kernel
theorem d_Loader_marksOnAsSaid_73 : decode b_Loader_marksOnAsSaid 73 = .ok (.istore 5, 2) := by decide +kernel
theorem d_Loader_marksOnAsSaid_75 : decode b_Loader_marksOnAsSaid 75 = .ok (.iload_n 3, 1) := by decide +kernel
theorem d_Loader_marksOnAsSaid_76 : decode b_Loader_marksOnAsSaid 76 = .ok (.iconst (-1), 1) := by decide +kernel
theorem d_Loader_marksOnAsSaid_77 : decode b_Loader_marksOnAsSaid 77 = .ok (.if_icmp .eq 39, 3) := by decide +kernel
theorem d_Loader_marksOnAsSaid_80 : decode b_Loader_marksOnAsSaid 80 = .ok (.iload 4, 2) := by decide +kernel
theorem d_Loader_marksOnAsSaid_82 : decode b_Loader_marksOnAsSaid 82 = .ok (.iconst (-1), 1) := by decide +kernel
theorem d_Loader_marksOnAsSaid_83 : decode b_Loader_marksOnAsSaid 83 = .ok (.if_icmp .eq 33, 3) := by decide +kernel
theorem d_Loader_marksOnAsSaid_86 : decode b_Loader_marksOnAsSaid 86 = .ok (.iload 5, 2) := by decide +kernel
theorem d_Loader_marksOnAsSaid_88 : decode b_Loader_marksOnAsSaid 88 = .ok (.bipush 16, 2) := by decide +kernel
theorem d_Loader_marksOnAsSaid_90 : decode b_Loader_marksOnAsSaid 90 = .ok (.if_icmp .gt 26, 3) := by decide +kernel
theorem d_Loader_marksOnAsSaid_93 : decode b_Loader_marksOnAsSaid 93 = .ok (.aload_n 0, 1) := by decide +kernel
theorem d_Loader_marksOnAsSaid_94 : decode b_Loader_marksOnAsSaid 94 = .ok (.iload_n 2, 1) := by decide +kernel
theorem d_Loader_marksOnAsSaid_95 : decode b_Loader_marksOnAsSaid 95 = .ok (.aload_n 0, 1) := by decide +kernel
theorem d_Loader_marksOnAsSaid_96 : decode b_Loader_marksOnAsSaid 96 = .ok (.getfield 9, 3) := by decide +kernel
theorem d_Loader_marksOnAsSaid_99 : decode b_Loader_marksOnAsSaid 99 = .ok (.iload_n 2, 1) := by decide +kernel
theorem d_Loader_marksOnAsSaid_100 : decode b_Loader_marksOnAsSaid 100 = .ok (.bipush 8, 2) := by decide +kernel
theorem d_Loader_marksOnAsSaid_102 : decode b_Loader_marksOnAsSaid 102 = .ok (.iadd, 1) := by decide +kernel
theorem d_Loader_marksOnAsSaid_103 : decode b_Loader_marksOnAsSaid 103 = .ok (.invokevirtual 21, 3) := by decide +kernel
theorem d_Loader_marksOnAsSaid_106 : decode b_Loader_marksOnAsSaid 106 = .ok (.iadd, 1) := by decide +kernel
theorem d_Loader_marksOnAsSaid_107 : decode b_Loader_marksOnAsSaid 107 = .ok (.iload_n 3, 1) := by decide +kernel
theorem d_Loader_marksOnAsSaid_108 : decode b_Loader_marksOnAsSaid 108 = .ok (.iload 5, 2) := by decide +kernel
theorem d_Loader_marksOnAsSaid_110 : decode b_Loader_marksOnAsSaid 110 = .ok (.invokevirtual 106, 3) := by decide +kernel
theorem d_Loader_marksOnAsSaid_113 : decode b_Loader_marksOnAsSaid 113 = .ok (.ifCond .ne 5, 3) := by decide +kernel
theorem d_Loader_marksOnAsSaid_116 : decode b_Loader_marksOnAsSaid 116 = .ok (.iconst 0, 1) := by decide +kernel
theorem d_Loader_marksOnAsSaid_117 : decode b_Loader_marksOnAsSaid 117 = .ok (.ireturn, 1) := by decide +kernel
theorem d_Loader_marksOnAsSaid_118 : decode b_Loader_marksOnAsSaid 118 = .ok (.iload_n 2, 1) := by decide +kernel
theorem d_Loader_marksOnAsSaid_119 : decode b_Loader_marksOnAsSaid 119 = .ok (.aload_n 0, 1) := by decide +kernel
theorem d_Loader_marksOnAsSaid_120 : decode b_Loader_marksOnAsSaid 120 = .ok (.getfield 9, 3) := by decide +kernel
theorem d_Loader_marksOnAsSaid_123 : decode b_Loader_marksOnAsSaid 123 = .ok (.iload_n 2, 1) := by decide +kernel
theorem d_Loader_marksOnAsSaid_124 : decode b_Loader_marksOnAsSaid 124 = .ok (.bipush 10, 2) := by decide +kernel
theorem d_Loader_marksOnAsSaid_126 : decode b_Loader_marksOnAsSaid 126 = .ok (.iadd, 1) := by decide +kernel
theorem d_Loader_marksOnAsSaid_127 : decode b_Loader_marksOnAsSaid 127 = .ok (.invokevirtual 21, 3) := by decide +kernel
theorem d_Loader_marksOnAsSaid_130 : decode b_Loader_marksOnAsSaid 130 = .ok (.iadd, 1) := by decide +kernel
theorem d_Loader_marksOnAsSaid_131 : decode b_Loader_marksOnAsSaid 131 = .ok (.istore 6, 2) := by decide +kernel
theorem d_Loader_marksOnAsSaid_133 : decode b_Loader_marksOnAsSaid 133 = .ok (.iload_n 1, 1) := by decide +kernel
theorem d_Loader_marksOnAsSaid_134 : decode b_Loader_marksOnAsSaid 134 = .ok (.iconst 5, 1) := by decide +kernel
theorem d_Loader_marksOnAsSaid_135 : decode b_Loader_marksOnAsSaid 135 = .ok (.if_icmp .ne 14, 3) := by decide +kernel
theorem d_Loader_marksOnAsSaid_138 : decode b_Loader_marksOnAsSaid 138 = .ok (.aload_n 0, 1) := by decide +kernel
theorem d_Loader_marksOnAsSaid_139 : decode b_Loader_marksOnAsSaid 139 = .ok (.iload 6, 2) := by decide +kernel
theorem d_Loader_marksOnAsSaid_141 : decode b_Loader_marksOnAsSaid 141 = .ok (.iload 4, 2) := by decide +kernel
theorem d_Loader_marksOnAsSaid_143 : decode b_Loader_marksOnAsSaid 143 = .ok (.iload 5, 2) := by decide +kernel
theorem d_Loader_marksOnAsSaid_145 : decode b_Loader_marksOnAsSaid 145 = .ok (.invokevirtual 109, 3) := by decide +kernel
theorem d_Loader_marksOnAsSaid_148 : decode b_Loader_marksOnAsSaid 148 = .ok (.ireturn, 1) := by decide +kernel
theorem d_Loader_marksOnAsSaid_149 : decode b_Loader_marksOnAsSaid 149 = .ok (.aload_n 0, 1) := by decide +kernel
theorem d_Loader_marksOnAsSaid_150 : decode b_Loader_marksOnAsSaid 150 = .ok (.iload 6, 2) := by decide +kernel
theorem d_Loader_marksOnAsSaid_152 : decode b_Loader_marksOnAsSaid 152 = .ok (.iload 4, 2) := by decide +kernel
theorem d_Loader_marksOnAsSaid_154 : decode b_Loader_marksOnAsSaid 154 = .ok (.iconst 2, 1) := by decide +kernel
theorem d_Loader_marksOnAsSaid_155 : decode b_Loader_marksOnAsSaid 155 = .ok (.iload 5, 2) := by decide +kernel
theorem d_Loader_marksOnAsSaid_157 : decode b_Loader_marksOnAsSaid 157 = .ok (.imul, 1) := by decide +kernel
theorem d_Loader_marksOnAsSaid_158 : decode b_Loader_marksOnAsSaid 158 = .ok (.invokevirtual 84, 3) := by decide +kernel
theorem d_Loader_marksOnAsSaid_161 : decode b_Loader_marksOnAsSaid 161 = .ok (.ifCond .eq 25, 3) := by decide +kernel
theorem d_Loader_marksOnAsSaid_164 : decode b_Loader_marksOnAsSaid 164 = .ok (.aload_n 0, 1) := by decide +kernel
theorem d_Loader_marksOnAsSaid_165 : decode b_Loader_marksOnAsSaid 165 = .ok (.iload 6, 2) := by decide +kernel
theorem d_Loader_marksOnAsSaid_167 : decode b_Loader_marksOnAsSaid 167 = .ok (.iload 6, 2) := by decide +kernel
theorem d_Loader_marksOnAsSaid_169 : decode b_Loader_marksOnAsSaid 169 = .ok (.iconst 2, 1) := by decide +kernel
theorem d_Loader_marksOnAsSaid_170 : decode b_Loader_marksOnAsSaid 170 = .ok (.iadd, 1) := by decide +kernel
theorem d_Loader_marksOnAsSaid_171 : decode b_Loader_marksOnAsSaid 171 = .ok (.iload 4, 2) := by decide +kernel
theorem d_Loader_marksOnAsSaid_173 : decode b_Loader_marksOnAsSaid 173 = .ok (.iload 5, 2) := by decide +kernel
theorem d_Loader_marksOnAsSaid_175 : decode b_Loader_marksOnAsSaid 175 = .ok (.imul, 1) := by decide +kernel
theorem d_Loader_marksOnAsSaid_176 : decode b_Loader_marksOnAsSaid 176 = .ok (.invokevirtual 103, 3) := by decide +kernel
theorem d_Loader_marksOnAsSaid_179 : decode b_Loader_marksOnAsSaid 179 = .ok (.ifCond .eq 7, 3) := by decide +kernel
theorem d_Loader_marksOnAsSaid_182 : decode b_Loader_marksOnAsSaid 182 = .ok (.iconst 1, 1) := by decide +kernel
theorem d_Loader_marksOnAsSaid_183 : decode b_Loader_marksOnAsSaid 183 = .ok (.goto 4, 3) := by decide +kernel
theorem d_Loader_marksOnAsSaid_186 : decode b_Loader_marksOnAsSaid 186 = .ok (.iconst 0, 1) := by decide +kernel
theorem d_Loader_marksOnAsSaid_187 : decode b_Loader_marksOnAsSaid 187 = .ok (.ireturn, 1) := by decide +kernel
abbrev b_Loader_cursiveAsSaid : ByteArray := prog_5_method_19_code
def y_Loader_cursiveAsSaid : MethodName := ⟨R_Loader, "cursiveAsSaid", "(I)Z"⟩
theorem d_Loader_cursiveAsSaid_0 : decode b_Loader_cursiveAsSaid 0 = .ok (.aload_n 0, 1) := by decide +kernel
theorem d_Loader_cursiveAsSaid_1 : decode b_Loader_cursiveAsSaid 1 = .ok (.getfield 9, 3) := by decide +kernel
theorem d_Loader_cursiveAsSaid_4 : decode b_Loader_cursiveAsSaid 4 = .ok (.iload_n 1, 1) := by decide +kernel
theorem d_Loader_cursiveAsSaid_5 : decode b_Loader_cursiveAsSaid 5 = .ok (.iconst 4, 1) := by decide +kernel
theorem d_Loader_cursiveAsSaid_6 : decode b_Loader_cursiveAsSaid 6 = .ok (.invokevirtual 15, 3) := by decide +kernel
theorem d_Loader_cursiveAsSaid_9 : decode b_Loader_cursiveAsSaid 9 = .ok (.ifCond .eq 15, 3) := by decide +kernel
theorem d_Loader_cursiveAsSaid_12 : decode b_Loader_cursiveAsSaid 12 = .ok (.aload_n 0, 1) := by decide +kernel
theorem d_Loader_cursiveAsSaid_13 : decode b_Loader_cursiveAsSaid 13 = .ok (.getfield 9, 3) := by decide +kernel
theorem d_Loader_cursiveAsSaid_16 : decode b_Loader_cursiveAsSaid 16 = .ok (.iload_n 1, 1) := by decide +kernel
theorem d_Loader_cursiveAsSaid_17 : decode b_Loader_cursiveAsSaid 17 = .ok (.invokevirtual 21, 3) := by decide +kernel
theorem d_Loader_cursiveAsSaid_20 : decode b_Loader_cursiveAsSaid 20 = .ok (.iconst 1, 1) := by decide +kernel
theorem d_Loader_cursiveAsSaid_21 : decode b_Loader_cursiveAsSaid 21 = .ok (.if_icmp .eq 5, 3) := by decide +kernel
theorem d_Loader_cursiveAsSaid_24 : decode b_Loader_cursiveAsSaid 24 = .ok (.iconst 0, 1) := by decide +kernel
theorem d_Loader_cursiveAsSaid_25 : decode b_Loader_cursiveAsSaid 25 = .ok (.ireturn, 1) := by decide +kernel
theorem d_Loader_cursiveAsSaid_26 : decode b_Loader_cursiveAsSaid 26 = .ok (.aload_n 0, 1) := by decide +kernel
theorem d_Loader_cursiveAsSaid_27 : decode b_Loader_cursiveAsSaid 27 = .ok (.iload_n 1, 1) := by decide +kernel
theorem d_Loader_cursiveAsSaid_28 : decode b_Loader_cursiveAsSaid 28 = .ok (.aload_n 0, 1) := by decide +kernel
theorem d_Loader_cursiveAsSaid_29 : decode b_Loader_cursiveAsSaid 29 = .ok (.getfield 9, 3) := by decide +kernel
theorem d_Loader_cursiveAsSaid_32 : decode b_Loader_cursiveAsSaid 32 = .ok (.iload_n 1, 1) := by decide +kernel
theorem d_Loader_cursiveAsSaid_33 : decode b_Loader_cursiveAsSaid 33 = .ok (.iconst 2, 1) := by decide +kernel
theorem d_Loader_cursiveAsSaid_34 : decode b_Loader_cursiveAsSaid 34 = .ok (.iadd, 1) := by decide +kernel
theorem d_Loader_cursiveAsSaid_35 : decode b_Loader_cursiveAsSaid 35 = .ok (.invokevirtual 21, 3) := by decide +kernel
theorem d_Loader_cursiveAsSaid_38 : decode b_Loader_cursiveAsSaid 38 = .ok (.iadd, 1) := by decide +kernel
theorem d_Loader_cursiveAsSaid_39 : decode b_Loader_cursiveAsSaid 39 = .ok (.invokevirtual 78, 3) := by decide +kernel
theorem d_Loader_cursiveAsSaid_42 : decode b_Loader_cursiveAsSaid 42 = .ok (.istore_n 2, 1) := by decide +kernel
theorem d_Loader_cursiveAsSaid_43 : decode b_Loader_cursiveAsSaid 43 = .ok (.iload_n 2, 1) := by decide +kernel
theorem d_Loader_cursiveAsSaid_44 : decode b_Loader_cursiveAsSaid 44 = .ok (.iconst (-1), 1) := by decide +kernel
theorem d_Loader_cursiveAsSaid_45 : decode b_Loader_cursiveAsSaid 45 = .ok (.if_icmp .eq 34, 3) := by decide +kernel
theorem d_Loader_cursiveAsSaid_48 : decode b_Loader_cursiveAsSaid 48 = .ok (.aload_n 0, 1) := by decide +kernel
theorem d_Loader_cursiveAsSaid_49 : decode b_Loader_cursiveAsSaid 49 = .ok (.iload_n 1, 1) := by decide +kernel
theorem d_Loader_cursiveAsSaid_50 : decode b_Loader_cursiveAsSaid 50 = .ok (.iconst 4, 1) := by decide +kernel
theorem d_Loader_cursiveAsSaid_51 : decode b_Loader_cursiveAsSaid 51 = .ok (.iadd, 1) := by decide +kernel
theorem d_Loader_cursiveAsSaid_52 : decode b_Loader_cursiveAsSaid 52 = .ok (.iload_n 2, 1) := by decide +kernel
theorem d_Loader_cursiveAsSaid_53 : decode b_Loader_cursiveAsSaid 53 = .ok (.iconst 4, 1) := by decide +kernel
theorem d_Loader_cursiveAsSaid_54 : decode b_Loader_cursiveAsSaid 54 = .ok (.invokevirtual 84, 3) := by decide +kernel
theorem d_Loader_cursiveAsSaid_57 : decode b_Loader_cursiveAsSaid 57 = .ok (.ifCond .eq 22, 3) := by decide +kernel
theorem d_Loader_cursiveAsSaid_60 : decode b_Loader_cursiveAsSaid 60 = .ok (.aload_n 0, 1) := by decide +kernel
theorem d_Loader_cursiveAsSaid_61 : decode b_Loader_cursiveAsSaid 61 = .ok (.iload_n 1, 1) := by decide +kernel
theorem d_Loader_cursiveAsSaid_62 : decode b_Loader_cursiveAsSaid 62 = .ok (.iload_n 1, 1) := by decide +kernel
theorem d_Loader_cursiveAsSaid_63 : decode b_Loader_cursiveAsSaid 63 = .ok (.bipush 6, 2) := by decide +kernel
theorem d_Loader_cursiveAsSaid_65 : decode b_Loader_cursiveAsSaid 65 = .ok (.iadd, 1) := by decide +kernel
theorem d_Loader_cursiveAsSaid_66 : decode b_Loader_cursiveAsSaid 66 = .ok (.iconst 2, 1) := by decide +kernel
theorem d_Loader_cursiveAsSaid_67 : decode b_Loader_cursiveAsSaid 67 = .ok (.iload_n 2, 1) := by decide +kernel
theorem d_Loader_cursiveAsSaid_68 : decode b_Loader_cursiveAsSaid 68 = .ok (.imul, 1) := by decide +kernel
theorem d_Loader_cursiveAsSaid_69 : decode b_Loader_cursiveAsSaid 69 = .ok (.invokevirtual 103, 3) := by decide +kernel
theorem d_Loader_cursiveAsSaid_72 : decode b_Loader_cursiveAsSaid 72 = .ok (.ifCond .eq 7, 3) := by decide +kernel
theorem d_Loader_cursiveAsSaid_75 : decode b_Loader_cursiveAsSaid 75 = .ok (.iconst 1, 1) := by decide +kernel
theorem d_Loader_cursiveAsSaid_76 : decode b_Loader_cursiveAsSaid 76 = .ok (.goto 4, 3) := by decide +kernel
theorem d_Loader_cursiveAsSaid_79 : decode b_Loader_cursiveAsSaid 79 = .ok (.iconst 0, 1) := by decide +kernel
theorem d_Loader_cursiveAsSaid_80 : decode b_Loader_cursiveAsSaid 80 = .ok (.ireturn, 1) := by decide +kernel
abbrev b_GP_sizeOfValue : ByteArray := prog_1_method_15_code
def y_GP_sizeOfValue : MethodName := ⟨R_GP, "sizeOfValue", "(I)I"⟩
theorem d_GP_sizeOfValue_0 : decode b_GP_sizeOfValue 0 = .ok (.iconst 2, 1) := by decide +kernel
theorem d_GP_sizeOfValue_1 : decode b_GP_sizeOfValue 1 = .ok (.iload_n 0, 1) := by decide +kernel
theorem d_GP_sizeOfValue_2 : decode b_GP_sizeOfValue 2 = .ok (.invokestatic 222, 3) := by decide +kernel
theorem d_GP_sizeOfValue_5 : decode b_GP_sizeOfValue 5 = .ok (.imul, 1) := by decide +kernel
theorem d_GP_sizeOfValue_6 : decode b_GP_sizeOfValue 6 = .ok (.ireturn, 1) := by decide +kernel
abbrev b_Loader_classesAsSaid : ByteArray := prog_5_method_26_code
def y_Loader_classesAsSaid : MethodName := ⟨R_Loader, "classesAsSaid", "(I)Z"⟩
theorem d_Loader_classesAsSaid_0 : decode b_Loader_classesAsSaid 0 = .ok (.aload_n 0, 1) := by decide +kernel
theorem d_Loader_classesAsSaid_1 : decode b_Loader_classesAsSaid 1 = .ok (.invokevirtual 93, 3) := by decide +kernel
theorem d_Loader_classesAsSaid_4 : decode b_Loader_classesAsSaid 4 = .ok (.ifCond .eq 15, 3) := by decide +kernel
theorem d_Loader_classesAsSaid_7 : decode b_Loader_classesAsSaid 7 = .ok (.aload_n 0, 1) := by decide +kernel
theorem d_Loader_classesAsSaid_8 : decode b_Loader_classesAsSaid 8 = .ok (.getfield 9, 3) := by decide +kernel
theorem d_Loader_classesAsSaid_11 : decode b_Loader_classesAsSaid 11 = .ok (.iload_n 1, 1) := by decide +kernel
theorem d_Loader_classesAsSaid_12 : decode b_Loader_classesAsSaid 12 = .ok (.iconst 4, 1) := by decide +kernel
theorem d_Loader_classesAsSaid_13 : decode b_Loader_classesAsSaid 13 = .ok (.invokevirtual 15, 3) := by decide +kernel
theorem d_Loader_classesAsSaid_16 : decode b_Loader_classesAsSaid 16 = .ok (.ifCond .ne 5, 3) := by decide +kernel
theorem d_Loader_classesAsSaid_19 : decode b_Loader_classesAsSaid 19 = .ok (.iconst 0, 1) := by decide +kernel
theorem d_Loader_classesAsSaid_20 : decode b_Loader_classesAsSaid 20 = .ok (.ireturn, 1) := by decide +kernel
theorem d_Loader_classesAsSaid_21 : decode b_Loader_classesAsSaid 21 = .ok (.aload_n 0, 1) := by decide +kernel
theorem d_Loader_classesAsSaid_22 : decode b_Loader_classesAsSaid 22 = .ok (.getfield 9, 3) := by decide +kernel
theorem d_Loader_classesAsSaid_25 : decode b_Loader_classesAsSaid 25 = .ok (.iload_n 1, 1) := by decide +kernel
theorem d_Loader_classesAsSaid_26 : decode b_Loader_classesAsSaid 26 = .ok (.invokevirtual 21, 3) := by decide +kernel
theorem d_Loader_classesAsSaid_29 : decode b_Loader_classesAsSaid 29 = .ok (.istore_n 2, 1) := by decide +kernel
theorem d_Loader_classesAsSaid_30 : decode b_Loader_classesAsSaid 30 = .ok (.iload_n 2, 1) := by decide +kernel
theorem d_Loader_classesAsSaid_31 : decode b_Loader_classesAsSaid 31 = .ok (.iconst 1, 1) := by decide +kernel
theorem d_Loader_classesAsSaid_32 : decode b_Loader_classesAsSaid 32 = .ok (.if_icmp .ne 67, 3) := by decide +kernel
theorem d_Loader_classesAsSaid_35 : decode b_Loader_classesAsSaid 35 = .ok (.aload_n 0, 1) := by decide +kernel
theorem d_Loader_classesAsSaid_36 : decode b_Loader_classesAsSaid 36 = .ok (.getfield 9, 3) := by decide +kernel
theorem d_Loader_classesAsSaid_39 : decode b_Loader_classesAsSaid 39 = .ok (.iload_n 1, 1) := by decide +kernel
theorem d_Loader_classesAsSaid_40 : decode b_Loader_classesAsSaid 40 = .ok (.iconst 4, 1) := by decide +kernel
theorem d_Loader_classesAsSaid_41 : decode b_Loader_classesAsSaid 41 = .ok (.iadd, 1) := by decide +kernel
theorem d_Loader_classesAsSaid_42 : decode b_Loader_classesAsSaid 42 = .ok (.invokevirtual 21, 3) := by decide +kernel
theorem d_Loader_classesAsSaid_45 : decode b_Loader_classesAsSaid 45 = .ok (.istore_n 3, 1) := by decide +kernel
theorem d_Loader_classesAsSaid_46 : decode b_Loader_classesAsSaid 46 = .ok (.aload_n 0, 1) := by decide +kernel
theorem d_Loader_classesAsSaid_47 : decode b_Loader_classesAsSaid 47 = .ok (.getfield 9, 3) := by decide +kernel
theorem d_Loader_classesAsSaid_50 : decode b_Loader_classesAsSaid 50 = .ok (.iload_n 1, 1) := by decide +kernel
theorem d_Loader_classesAsSaid_51 : decode b_Loader_classesAsSaid 51 = .ok (.bipush 6, 2) := by decide +kernel
theorem d_Loader_classesAsSaid_53 : decode b_Loader_classesAsSaid 53 = .ok (.invokevirtual 15, 3) := by decide +kernel
theorem d_Loader_classesAsSaid_56 : decode b_Loader_classesAsSaid 56 = .ok (.ifCond .eq 41, 3) := by decide +kernel
theorem d_Loader_classesAsSaid_59 : decode b_Loader_classesAsSaid 59 = .ok (.aload_n 0, 1) := by decide +kernel
theorem d_Loader_classesAsSaid_60 : decode b_Loader_classesAsSaid 60 = .ok (.getfield 9, 3) := by decide +kernel
theorem d_Loader_classesAsSaid_63 : decode b_Loader_classesAsSaid 63 = .ok (.iload_n 1, 1) := by decide +kernel
theorem d_Loader_classesAsSaid_64 : decode b_Loader_classesAsSaid 64 = .ok (.bipush 6, 2) := by decide +kernel
theorem d_Loader_classesAsSaid_66 : decode b_Loader_classesAsSaid 66 = .ok (.iadd, 1) := by decide +kernel
theorem d_Loader_classesAsSaid_67 : decode b_Loader_classesAsSaid 67 = .ok (.iconst 2, 1) := by decide +kernel
theorem d_Loader_classesAsSaid_68 : decode b_Loader_classesAsSaid 68 = .ok (.iload_n 3, 1) := by decide +kernel
theorem d_Loader_classesAsSaid_69 : decode b_Loader_classesAsSaid 69 = .ok (.imul, 1) := by decide +kernel
theorem d_Loader_classesAsSaid_70 : decode b_Loader_classesAsSaid 70 = .ok (.invokevirtual 15, 3) := by decide +kernel
theorem d_Loader_classesAsSaid_73 : decode b_Loader_classesAsSaid 73 = .ok (.ifCond .eq 24, 3) := by decide +kernel
theorem d_Loader_classesAsSaid_76 : decode b_Loader_classesAsSaid 76 = .ok (.aload_n 0, 1) := by decide +kernel
theorem d_Loader_classesAsSaid_77 : decode b_Loader_classesAsSaid 77 = .ok (.getfield 9, 3) := by decide +kernel
theorem d_Loader_classesAsSaid_80 : decode b_Loader_classesAsSaid 80 = .ok (.iload_n 1, 1) := by decide +kernel
theorem d_Loader_classesAsSaid_81 : decode b_Loader_classesAsSaid 81 = .ok (.iconst 2, 1) := by decide +kernel
theorem d_Loader_classesAsSaid_82 : decode b_Loader_classesAsSaid 82 = .ok (.iadd, 1) := by decide +kernel
theorem d_Loader_classesAsSaid_83 : decode b_Loader_classesAsSaid 83 = .ok (.invokevirtual 21, 3) := by decide +kernel
theorem d_Loader_classesAsSaid_86 : decode b_Loader_classesAsSaid 86 = .ok (.iload_n 3, 1) := by decide +kernel
theorem d_Loader_classesAsSaid_87 : decode b_Loader_classesAsSaid 87 = .ok (.iadd, 1) := by decide +kernel
theorem d_Loader_classesAsSaid_88 : decode b_Loader_classesAsSaid 88 = .ok (.ldc 118, 2) := by decide +kernel
theorem d_Loader_classesAsSaid_90 : decode b_Loader_classesAsSaid 90 = .ok (.if_icmp .gt 7, 3) := by decide +kernel
theorem d_Loader_classesAsSaid_93 : decode b_Loader_classesAsSaid 93 = .ok (.iconst 1, 1) := by decide +kernel
theorem d_Loader_classesAsSaid_94 : decode b_Loader_classesAsSaid 94 = .ok (.goto 4, 3) := by decide +kernel
theorem d_Loader_classesAsSaid_97 : decode b_Loader_classesAsSaid 97 = .ok (.iconst 0, 1) := by decide +kernel
theorem d_Loader_classesAsSaid_98 : decode b_Loader_classesAsSaid 98 = .ok (.ireturn, 1) := by decide +kernel
theorem d_Loader_classesAsSaid_99 : decode b_Loader_classesAsSaid 99 = .ok (.aload_n 0, 1) := by decide +kernel
theorem d_Loader_classesAsSaid_100 : decode b_Loader_classesAsSaid 100 = .ok (.getfield 9, 3) := by decide +kernel
theorem d_Loader_classesAsSaid_103 : decode b_Loader_classesAsSaid 103 = .ok (.iload_n 1, 1) := by decide +kernel
theorem d_Loader_classesAsSaid_104 : decode b_Loader_classesAsSaid 104 = .ok (.iconst 2, 1) := by decide +kernel
theorem d_Loader_classesAsSaid_105 : decode b_Loader_classesAsSaid 105 = .ok (.iadd, 1) := by decide +kernel
theorem d_Loader_classesAsSaid_106 : decode b_Loader_classesAsSaid 106 = .ok (.invokevirtual 21, 3) := by decide +kernel
theorem d_Loader_classesAsSaid_109 : decode b_Loader_classesAsSaid 109 = .ok (.istore_n 3, 1) := by decide +kernel
theorem d_Loader_classesAsSaid_110 : decode b_Loader_classesAsSaid 110 = .ok (.iload_n 2, 1) := by decide +kernel
theorem d_Loader_classesAsSaid_111 : decode b_Loader_classesAsSaid 111 = .ok (.iconst 2, 1) := by decide +kernel
theorem d_Loader_classesAsSaid_112 : decode b_Loader_classesAsSaid 112 = .ok (.if_icmp .ne 35, 3) := by decide +kernel
theorem d_Loader_classesAsSaid_115 : decode b_Loader_classesAsSaid 115 = .ok (.aload_n 0, 1) := by decide +kernel
theorem d_Loader_classesAsSaid_116 : decode b_Loader_classesAsSaid 116 = .ok (.getfield 9, 3) := by decide +kernel
theorem d_Loader_classesAsSaid_119 : decode b_Loader_classesAsSaid 119 = .ok (.iload_n 1, 1) := by decide +kernel
theorem d_Loader_classesAsSaid_120 : decode b_Loader_classesAsSaid 120 = .ok (.iconst 4, 1) := by decide +kernel
theorem d_Loader_classesAsSaid_121 : decode b_Loader_classesAsSaid 121 = .ok (.iadd, 1) := by decide +kernel
theorem d_Loader_classesAsSaid_122 : decode b_Loader_classesAsSaid 122 = .ok (.bipush 6, 2) := by decide +kernel
theorem d_Loader_classesAsSaid_124 : decode b_Loader_classesAsSaid 124 = .ok (.iload_n 3, 1) := by decide +kernel
theorem d_Loader_classesAsSaid_125 : decode b_Loader_classesAsSaid 125 = .ok (.imul, 1) := by decide +kernel
theorem d_Loader_classesAsSaid_126 : decode b_Loader_classesAsSaid 126 = .ok (.invokevirtual 15, 3) := by decide +kernel
theorem d_Loader_classesAsSaid_129 : decode b_Loader_classesAsSaid 129 = .ok (.ifCond .eq 18, 3) := by decide +kernel
theorem d_Loader_classesAsSaid_132 : decode b_Loader_classesAsSaid 132 = .ok (.aload_n 0, 1) := by decide +kernel
theorem d_Loader_classesAsSaid_133 : decode b_Loader_classesAsSaid 133 = .ok (.iload_n 1, 1) := by decide +kernel
theorem d_Loader_classesAsSaid_134 : decode b_Loader_classesAsSaid 134 = .ok (.iconst 4, 1) := by decide +kernel
theorem d_Loader_classesAsSaid_135 : decode b_Loader_classesAsSaid 135 = .ok (.iadd, 1) := by decide +kernel
theorem d_Loader_classesAsSaid_136 : decode b_Loader_classesAsSaid 136 = .ok (.iload_n 3, 1) := by decide +kernel
theorem d_Loader_classesAsSaid_137 : decode b_Loader_classesAsSaid 137 = .ok (.invokevirtual 115, 3) := by decide +kernel
theorem d_Loader_classesAsSaid_140 : decode b_Loader_classesAsSaid 140 = .ok (.ifCond .eq 7, 3) := by decide +kernel
theorem d_Loader_classesAsSaid_143 : decode b_Loader_classesAsSaid 143 = .ok (.iconst 1, 1) := by decide +kernel
theorem d_Loader_classesAsSaid_144 : decode b_Loader_classesAsSaid 144 = .ok (.goto 4, 3) := by decide +kernel
theorem d_Loader_classesAsSaid_147 : decode b_Loader_classesAsSaid 147 = .ok (.iconst 0, 1) := by decide +kernel
theorem d_Loader_classesAsSaid_148 : decode b_Loader_classesAsSaid 148 = .ok (.ireturn, 1) := by decide +kernel
abbrev b_Loader_pairClassesAsSaid : ByteArray := prog_5_method_18_code
def y_Loader_pairClassesAsSaid : MethodName := ⟨R_Loader, "pairClassesAsSaid", "(II)Z"⟩
theorem d_Loader_pairClassesAsSaid_0 : decode b_Loader_pairClassesAsSaid 0 = .ok (.aload_n 0, 1) := by decide +kernel
theorem d_Loader_pairClassesAsSaid_1 : decode b_Loader_pairClassesAsSaid 1 = .ok (.getfield 9, 3) := by decide +kernel
theorem d_Loader_pairClassesAsSaid_4 : decode b_Loader_pairClassesAsSaid 4 = .ok (.iload_n 1, 1) := by decide +kernel
theorem d_Loader_pairClassesAsSaid_5 : decode b_Loader_pairClassesAsSaid 5 = .ok (.bipush 16, 2) := by decide +kernel
theorem d_Loader_pairClassesAsSaid_7 : decode b_Loader_pairClassesAsSaid 7 = .ok (.invokevirtual 15, 3) := by decide +kernel
theorem d_Loader_pairClassesAsSaid_10 : decode b_Loader_pairClassesAsSaid 10 = .ok (.ifCond .ne 5, 3) := by decide +kernel
theorem d_Loader_pairClassesAsSaid_13 : decode b_Loader_pairClassesAsSaid 13 = .ok (.iconst 0, 1) := by decide +kernel
theorem d_Loader_pairClassesAsSaid_14 : decode b_Loader_pairClassesAsSaid 14 = .ok (.ireturn, 1) := by decide +kernel
theorem d_Loader_pairClassesAsSaid_15 : decode b_Loader_pairClassesAsSaid 15 = .ok (.aload_n 0, 1) := by decide +kernel
theorem d_Loader_pairClassesAsSaid_16 : decode b_Loader_pairClassesAsSaid 16 = .ok (.getfield 9, 3) := by decide +kernel
theorem d_Loader_pairClassesAsSaid_19 : decode b_Loader_pairClassesAsSaid 19 = .ok (.iload_n 1, 1) := by decide +kernel
theorem d_Loader_pairClassesAsSaid_20 : decode b_Loader_pairClassesAsSaid 20 = .ok (.bipush 12, 2) := by decide +kernel
theorem d_Loader_pairClassesAsSaid_22 : decode b_Loader_pairClassesAsSaid 22 = .ok (.iadd, 1) := by decide +kernel
theorem d_Loader_pairClassesAsSaid_23 : decode b_Loader_pairClassesAsSaid 23 = .ok (.invokevirtual 21, 3) := by decide +kernel
theorem d_Loader_pairClassesAsSaid_26 : decode b_Loader_pairClassesAsSaid 26 = .ok (.istore_n 3, 1) := by decide +kernel
theorem d_Loader_pairClassesAsSaid_27 : decode b_Loader_pairClassesAsSaid 27 = .ok (.aload_n 0, 1) := by decide +kernel
theorem d_Loader_pairClassesAsSaid_28 : decode b_Loader_pairClassesAsSaid 28 = .ok (.getfield 9, 3) := by decide +kernel
theorem d_Loader_pairClassesAsSaid_31 : decode b_Loader_pairClassesAsSaid 31 = .ok (.iload_n 1, 1) := by decide +kernel
theorem d_Loader_pairClassesAsSaid_32 : decode b_Loader_pairClassesAsSaid 32 = .ok (.bipush 14, 2) := by decide +kernel
theorem d_Loader_pairClassesAsSaid_34 : decode b_Loader_pairClassesAsSaid 34 = .ok (.iadd, 1) := by decide +kernel
theorem d_Loader_pairClassesAsSaid_35 : decode b_Loader_pairClassesAsSaid 35 = .ok (.invokevirtual 21, 3) := by decide +kernel
theorem d_Loader_pairClassesAsSaid_38 : decode b_Loader_pairClassesAsSaid 38 = .ok (.istore 4, 2) := by decide +kernel
theorem d_Loader_pairClassesAsSaid_40 : decode b_Loader_pairClassesAsSaid 40 = .ok (.iload_n 3, 1) := by decide +kernel
theorem d_Loader_pairClassesAsSaid_41 : decode b_Loader_pairClassesAsSaid 41 = .ok (.sipush 256, 3) := by decide +kernel
theorem d_Loader_pairClassesAsSaid_44 : decode b_Loader_pairClassesAsSaid 44 = .ok (.if_icmp .gt 75, 3) := by decide +kernel
theorem d_Loader_pairClassesAsSaid_47 : decode b_Loader_pairClassesAsSaid 47 = .ok (.iload 4, 2) := by decide +kernel
theorem d_Loader_pairClassesAsSaid_49 : decode b_Loader_pairClassesAsSaid 49 = .ok (.sipush 256, 3) := by decide +kernel
theorem d_Loader_pairClassesAsSaid_52 : decode b_Loader_pairClassesAsSaid 52 = .ok (.if_icmp .gt 67, 3) := by decide +kernel
theorem d_Loader_pairClassesAsSaid_55 : decode b_Loader_pairClassesAsSaid 55 = .ok (.aload_n 0, 1) := by decide +kernel
theorem d_Loader_pairClassesAsSaid_56 : decode b_Loader_pairClassesAsSaid 56 = .ok (.getfield 9, 3) := by decide +kernel
theorem d_Loader_pairClassesAsSaid_59 : decode b_Loader_pairClassesAsSaid 59 = .ok (.iload_n 1, 1) := by decide +kernel
theorem d_Loader_pairClassesAsSaid_60 : decode b_Loader_pairClassesAsSaid 60 = .ok (.bipush 16, 2) := by decide +kernel
theorem d_Loader_pairClassesAsSaid_62 : decode b_Loader_pairClassesAsSaid 62 = .ok (.iadd, 1) := by decide +kernel
theorem d_Loader_pairClassesAsSaid_63 : decode b_Loader_pairClassesAsSaid 63 = .ok (.iload_n 3, 1) := by decide +kernel
theorem d_Loader_pairClassesAsSaid_64 : decode b_Loader_pairClassesAsSaid 64 = .ok (.iload 4, 2) := by decide +kernel
theorem d_Loader_pairClassesAsSaid_66 : decode b_Loader_pairClassesAsSaid 66 = .ok (.imul, 1) := by decide +kernel
theorem d_Loader_pairClassesAsSaid_67 : decode b_Loader_pairClassesAsSaid 67 = .ok (.iload_n 2, 1) := by decide +kernel
theorem d_Loader_pairClassesAsSaid_68 : decode b_Loader_pairClassesAsSaid 68 = .ok (.imul, 1) := by decide +kernel
theorem d_Loader_pairClassesAsSaid_69 : decode b_Loader_pairClassesAsSaid 69 = .ok (.invokevirtual 15, 3) := by decide +kernel
theorem d_Loader_pairClassesAsSaid_72 : decode b_Loader_pairClassesAsSaid 72 = .ok (.ifCond .eq 47, 3) := by decide +kernel
theorem d_Loader_pairClassesAsSaid_75 : decode b_Loader_pairClassesAsSaid 75 = .ok (.aload_n 0, 1) := by decide +kernel
theorem d_Loader_pairClassesAsSaid_76 : decode b_Loader_pairClassesAsSaid 76 = .ok (.iload_n 1, 1) := by decide +kernel
theorem d_Loader_pairClassesAsSaid_77 : decode b_Loader_pairClassesAsSaid 77 = .ok (.aload_n 0, 1) := by decide +kernel
theorem d_Loader_pairClassesAsSaid_78 : decode b_Loader_pairClassesAsSaid 78 = .ok (.getfield 9, 3) := by decide +kernel
theorem d_Loader_pairClassesAsSaid_81 : decode b_Loader_pairClassesAsSaid 81 = .ok (.iload_n 1, 1) := by decide +kernel
theorem d_Loader_pairClassesAsSaid_82 : decode b_Loader_pairClassesAsSaid 82 = .ok (.bipush 8, 2) := by decide +kernel
theorem d_Loader_pairClassesAsSaid_84 : decode b_Loader_pairClassesAsSaid 84 = .ok (.iadd, 1) := by decide +kernel
theorem d_Loader_pairClassesAsSaid_85 : decode b_Loader_pairClassesAsSaid 85 = .ok (.invokevirtual 21, 3) := by decide +kernel
theorem d_Loader_pairClassesAsSaid_88 : decode b_Loader_pairClassesAsSaid 88 = .ok (.iadd, 1) := by decide +kernel
theorem d_Loader_pairClassesAsSaid_89 : decode b_Loader_pairClassesAsSaid 89 = .ok (.invokevirtual 100, 3) := by decide +kernel
theorem d_Loader_pairClassesAsSaid_92 : decode b_Loader_pairClassesAsSaid 92 = .ok (.ifCond .eq 27, 3) := by decide +kernel
theorem d_Loader_pairClassesAsSaid_95 : decode b_Loader_pairClassesAsSaid 95 = .ok (.aload_n 0, 1) := by decide +kernel
theorem d_Loader_pairClassesAsSaid_96 : decode b_Loader_pairClassesAsSaid 96 = .ok (.iload_n 1, 1) := by decide +kernel
theorem d_Loader_pairClassesAsSaid_97 : decode b_Loader_pairClassesAsSaid 97 = .ok (.aload_n 0, 1) := by decide +kernel
theorem d_Loader_pairClassesAsSaid_98 : decode b_Loader_pairClassesAsSaid 98 = .ok (.getfield 9, 3) := by decide +kernel
theorem d_Loader_pairClassesAsSaid_101 : decode b_Loader_pairClassesAsSaid 101 = .ok (.iload_n 1, 1) := by decide +kernel
theorem d_Loader_pairClassesAsSaid_102 : decode b_Loader_pairClassesAsSaid 102 = .ok (.bipush 10, 2) := by decide +kernel
theorem d_Loader_pairClassesAsSaid_104 : decode b_Loader_pairClassesAsSaid 104 = .ok (.iadd, 1) := by decide +kernel
theorem d_Loader_pairClassesAsSaid_105 : decode b_Loader_pairClassesAsSaid 105 = .ok (.invokevirtual 21, 3) := by decide +kernel
theorem d_Loader_pairClassesAsSaid_108 : decode b_Loader_pairClassesAsSaid 108 = .ok (.iadd, 1) := by decide +kernel
theorem d_Loader_pairClassesAsSaid_109 : decode b_Loader_pairClassesAsSaid 109 = .ok (.invokevirtual 100, 3) := by decide +kernel
theorem d_Loader_pairClassesAsSaid_112 : decode b_Loader_pairClassesAsSaid 112 = .ok (.ifCond .eq 7, 3) := by decide +kernel
theorem d_Loader_pairClassesAsSaid_115 : decode b_Loader_pairClassesAsSaid 115 = .ok (.iconst 1, 1) := by decide +kernel
theorem d_Loader_pairClassesAsSaid_116 : decode b_Loader_pairClassesAsSaid 116 = .ok (.goto 4, 3) := by decide +kernel
theorem d_Loader_pairClassesAsSaid_119 : decode b_Loader_pairClassesAsSaid 119 = .ok (.iconst 0, 1) := by decide +kernel
theorem d_Loader_pairClassesAsSaid_120 : decode b_Loader_pairClassesAsSaid 120 = .ok (.ireturn, 1) := by decide +kernel
abbrev b_Loader_pairRowsAsSaid : ByteArray := prog_5_method_17_code
def y_Loader_pairRowsAsSaid : MethodName := ⟨R_Loader, "pairRowsAsSaid", "(III)Z"⟩
theorem d_Loader_pairRowsAsSaid_0 : decode b_Loader_pairRowsAsSaid 0 = .ok (.aload_n 0, 1) := by decide +kernel
theorem d_Loader_pairRowsAsSaid_1 : decode b_Loader_pairRowsAsSaid 1 = .ok (.iload_n 1, 1) := by decide +kernel
theorem d_Loader_pairRowsAsSaid_2 : decode b_Loader_pairRowsAsSaid 2 = .ok (.bipush 8, 2) := by decide +kernel
theorem d_Loader_pairRowsAsSaid_4 : decode b_Loader_pairRowsAsSaid 4 = .ok (.iadd, 1) := by decide +kernel
theorem d_Loader_pairRowsAsSaid_5 : decode b_Loader_pairRowsAsSaid 5 = .ok (.iload_n 2, 1) := by decide +kernel
theorem d_Loader_pairRowsAsSaid_6 : decode b_Loader_pairRowsAsSaid 6 = .ok (.iconst 2, 1) := by decide +kernel
theorem d_Loader_pairRowsAsSaid_7 : decode b_Loader_pairRowsAsSaid 7 = .ok (.invokevirtual 84, 3) := by decide +kernel
theorem d_Loader_pairRowsAsSaid_10 : decode b_Loader_pairRowsAsSaid 10 = .ok (.ifCond .ne 5, 3) := by decide +kernel
theorem d_Loader_pairRowsAsSaid_13 : decode b_Loader_pairRowsAsSaid 13 = .ok (.iconst 0, 1) := by decide +kernel
theorem d_Loader_pairRowsAsSaid_14 : decode b_Loader_pairRowsAsSaid 14 = .ok (.ireturn, 1) := by decide +kernel
theorem d_Loader_pairRowsAsSaid_15 : decode b_Loader_pairRowsAsSaid 15 = .ok (.iconst 0, 1) := by decide +kernel
theorem d_Loader_pairRowsAsSaid_16 : decode b_Loader_pairRowsAsSaid 16 = .ok (.istore 4, 2) := by decide +kernel
theorem d_Loader_pairRowsAsSaid_18 : decode b_Loader_pairRowsAsSaid 18 = .ok (.iload 4, 2) := by decide +kernel
theorem d_Loader_pairRowsAsSaid_20 : decode b_Loader_pairRowsAsSaid 20 = .ok (.iload_n 2, 1) := by decide +kernel
theorem d_Loader_pairRowsAsSaid_21 : decode b_Loader_pairRowsAsSaid 21 = .ok (.if_icmp .ge 72, 3) := by decide +kernel
theorem d_Loader_pairRowsAsSaid_24 : decode b_Loader_pairRowsAsSaid 24 = .ok (.iload_n 1, 1) := by decide +kernel
theorem d_Loader_pairRowsAsSaid_25 : decode b_Loader_pairRowsAsSaid 25 = .ok (.aload_n 0, 1) := by decide +kernel
theorem d_Loader_pairRowsAsSaid_26 : decode b_Loader_pairRowsAsSaid 26 = .ok (.getfield 9, 3) := by decide +kernel
theorem d_Loader_pairRowsAsSaid_29 : decode b_Loader_pairRowsAsSaid 29 = .ok (.iload_n 1, 1) := by decide +kernel
theorem d_Loader_pairRowsAsSaid_30 : decode b_Loader_pairRowsAsSaid 30 = .ok (.bipush 10, 2) := by decide +kernel
theorem d_Loader_pairRowsAsSaid_32 : decode b_Loader_pairRowsAsSaid 32 = .ok (.iadd, 1) := by decide +kernel
theorem d_Loader_pairRowsAsSaid_33 : decode b_Loader_pairRowsAsSaid 33 = .ok (.iconst 2, 1) := by decide +kernel
theorem d_Loader_pairRowsAsSaid_34 : decode b_Loader_pairRowsAsSaid 34 = .ok (.iload 4, 2) := by decide +kernel
theorem d_Loader_pairRowsAsSaid_36 : decode b_Loader_pairRowsAsSaid 36 = .ok (.imul, 1) := by decide +kernel
theorem d_Loader_pairRowsAsSaid_37 : decode b_Loader_pairRowsAsSaid 37 = .ok (.iadd, 1) := by decide +kernel
theorem d_Loader_pairRowsAsSaid_38 : decode b_Loader_pairRowsAsSaid 38 = .ok (.invokevirtual 21, 3) := by decide +kernel
theorem d_Loader_pairRowsAsSaid_41 : decode b_Loader_pairRowsAsSaid 41 = .ok (.iadd, 1) := by decide +kernel
theorem d_Loader_pairRowsAsSaid_42 : decode b_Loader_pairRowsAsSaid 42 = .ok (.istore 5, 2) := by decide +kernel
theorem d_Loader_pairRowsAsSaid_44 : decode b_Loader_pairRowsAsSaid 44 = .ok (.aload_n 0, 1) := by decide +kernel
theorem d_Loader_pairRowsAsSaid_45 : decode b_Loader_pairRowsAsSaid 45 = .ok (.invokevirtual 93, 3) := by decide +kernel
theorem d_Loader_pairRowsAsSaid_48 : decode b_Loader_pairRowsAsSaid 48 = .ok (.ifCond .eq 37, 3) := by decide +kernel
theorem d_Loader_pairRowsAsSaid_51 : decode b_Loader_pairRowsAsSaid 51 = .ok (.aload_n 0, 1) := by decide +kernel
theorem d_Loader_pairRowsAsSaid_52 : decode b_Loader_pairRowsAsSaid 52 = .ok (.iload 5, 2) := by decide +kernel
theorem d_Loader_pairRowsAsSaid_54 : decode b_Loader_pairRowsAsSaid 54 = .ok (.sipush 256, 3) := by decide +kernel
theorem d_Loader_pairRowsAsSaid_57 : decode b_Loader_pairRowsAsSaid 57 = .ok (.iload_n 3, 1) := by decide +kernel
theorem d_Loader_pairRowsAsSaid_58 : decode b_Loader_pairRowsAsSaid 58 = .ok (.invokevirtual 40, 3) := by decide +kernel
theorem d_Loader_pairRowsAsSaid_61 : decode b_Loader_pairRowsAsSaid 61 = .ok (.ifCond .eq 24, 3) := by decide +kernel
theorem d_Loader_pairRowsAsSaid_64 : decode b_Loader_pairRowsAsSaid 64 = .ok (.aload_n 0, 1) := by decide +kernel
theorem d_Loader_pairRowsAsSaid_65 : decode b_Loader_pairRowsAsSaid 65 = .ok (.iload 5, 2) := by decide +kernel
theorem d_Loader_pairRowsAsSaid_67 : decode b_Loader_pairRowsAsSaid 67 = .ok (.iconst 2, 1) := by decide +kernel
theorem d_Loader_pairRowsAsSaid_68 : decode b_Loader_pairRowsAsSaid 68 = .ok (.iadd, 1) := by decide +kernel
theorem d_Loader_pairRowsAsSaid_69 : decode b_Loader_pairRowsAsSaid 69 = .ok (.aload_n 0, 1) := by decide +kernel
theorem d_Loader_pairRowsAsSaid_70 : decode b_Loader_pairRowsAsSaid 70 = .ok (.getfield 9, 3) := by decide +kernel
theorem d_Loader_pairRowsAsSaid_73 : decode b_Loader_pairRowsAsSaid 73 = .ok (.iload 5, 2) := by decide +kernel
theorem d_Loader_pairRowsAsSaid_75 : decode b_Loader_pairRowsAsSaid 75 = .ok (.invokevirtual 21, 3) := by decide +kernel
theorem d_Loader_pairRowsAsSaid_78 : decode b_Loader_pairRowsAsSaid 78 = .ok (.iload_n 3, 1) := by decide +kernel
theorem d_Loader_pairRowsAsSaid_79 : decode b_Loader_pairRowsAsSaid 79 = .ok (.invokevirtual 97, 3) := by decide +kernel
theorem d_Loader_pairRowsAsSaid_82 : decode b_Loader_pairRowsAsSaid 82 = .ok (.ifCond .ne 5, 3) := by decide +kernel
theorem d_Loader_pairRowsAsSaid_85 : decode b_Loader_pairRowsAsSaid 85 = .ok (.iconst 0, 1) := by decide +kernel
theorem d_Loader_pairRowsAsSaid_86 : decode b_Loader_pairRowsAsSaid 86 = .ok (.ireturn, 1) := by decide +kernel
theorem d_Loader_pairRowsAsSaid_87 : decode b_Loader_pairRowsAsSaid 87 = .ok (.iinc 4 1, 3) := by decide +kernel
theorem d_Loader_pairRowsAsSaid_90 : decode b_Loader_pairRowsAsSaid 90 = .ok (.goto (-72), 3) := by decide +kernel
theorem d_Loader_pairRowsAsSaid_93 : decode b_Loader_pairRowsAsSaid 93 = .ok (.iconst 1, 1) := by decide +kernel
theorem d_Loader_pairRowsAsSaid_94 : decode b_Loader_pairRowsAsSaid 94 = .ok (.ireturn, 1) := by decide +kernel
abbrev b_Loader_pairAsSaid : ByteArray := prog_5_method_16_code
def y_Loader_pairAsSaid : MethodName := ⟨R_Loader, "pairAsSaid", "(I)Z"⟩
theorem d_Loader_pairAsSaid_0 : decode b_Loader_pairAsSaid 0 = .ok (.aload_n 0, 1) := by decide +kernel
theorem d_Loader_pairAsSaid_1 : decode b_Loader_pairAsSaid 1 = .ok (.getfield 9, 3) := by decide +kernel
theorem d_Loader_pairAsSaid_4 : decode b_Loader_pairAsSaid 4 = .ok (.iload_n 1, 1) := by decide +kernel
theorem d_Loader_pairAsSaid_5 : decode b_Loader_pairAsSaid 5 = .ok (.bipush 8, 2) := by decide +kernel
theorem d_Loader_pairAsSaid_7 : decode b_Loader_pairAsSaid 7 = .ok (.invokevirtual 15, 3) := by decide +kernel
theorem d_Loader_pairAsSaid_10 : decode b_Loader_pairAsSaid 10 = .ok (.ifCond .ne 5, 3) := by decide +kernel
theorem d_Loader_pairAsSaid_13 : decode b_Loader_pairAsSaid 13 = .ok (.iconst 0, 1) := by decide +kernel
theorem d_Loader_pairAsSaid_14 : decode b_Loader_pairAsSaid 14 = .ok (.ireturn, 1) := by decide +kernel
theorem d_Loader_pairAsSaid_15 : decode b_Loader_pairAsSaid 15 = .ok (.aload_n 0, 1) := by decide +kernel
theorem d_Loader_pairAsSaid_16 : decode b_Loader_pairAsSaid 16 = .ok (.getfield 9, 3) := by decide +kernel
theorem d_Loader_pairAsSaid_19 : decode b_Loader_pairAsSaid 19 = .ok (.iload_n 1, 1) := by decide +kernel
theorem d_Loader_pairAsSaid_20 : decode b_Loader_pairAsSaid 20 = .ok (.invokevirtual 21, 3) := by decide +kernel
theorem d_Loader_pairAsSaid_23 : decode b_Loader_pairAsSaid 23 = .ok (.istore_n 2, 1) := by decide +kernel
theorem d_Loader_pairAsSaid_24 : decode b_Loader_pairAsSaid 24 = .ok (.aload_n 0, 1) := by decide +kernel
theorem d_Loader_pairAsSaid_25 : decode b_Loader_pairAsSaid 25 = .ok (.getfield 9, 3) := by decide +kernel
theorem d_Loader_pairAsSaid_28 : decode b_Loader_pairAsSaid 28 = .ok (.iload_n 1, 1) := by decide +kernel
theorem d_Loader_pairAsSaid_29 : decode b_Loader_pairAsSaid 29 = .ok (.iconst 4, 1) := by decide +kernel
theorem d_Loader_pairAsSaid_30 : decode b_Loader_pairAsSaid 30 = .ok (.iadd, 1) := by decide +kernel
theorem d_Loader_pairAsSaid_31 : decode b_Loader_pairAsSaid 31 = .ok (.invokevirtual 21, 3) := by decide +kernel
theorem d_Loader_pairAsSaid_34 : decode b_Loader_pairAsSaid 34 = .ok (.istore_n 3, 1) := by decide +kernel
theorem d_Loader_pairAsSaid_35 : decode b_Loader_pairAsSaid 35 = .ok (.aload_n 0, 1) := by decide +kernel
theorem d_Loader_pairAsSaid_36 : decode b_Loader_pairAsSaid 36 = .ok (.getfield 9, 3) := by decide +kernel
theorem d_Loader_pairAsSaid_39 : decode b_Loader_pairAsSaid 39 = .ok (.iload_n 1, 1) := by decide +kernel
theorem d_Loader_pairAsSaid_40 : decode b_Loader_pairAsSaid 40 = .ok (.bipush 6, 2) := by decide +kernel
theorem d_Loader_pairAsSaid_42 : decode b_Loader_pairAsSaid 42 = .ok (.iadd, 1) := by decide +kernel
theorem d_Loader_pairAsSaid_43 : decode b_Loader_pairAsSaid 43 = .ok (.invokevirtual 21, 3) := by decide +kernel
theorem d_Loader_pairAsSaid_46 : decode b_Loader_pairAsSaid 46 = .ok (.istore 4, 2) := by decide +kernel
theorem d_Loader_pairAsSaid_48 : decode b_Loader_pairAsSaid 48 = .ok (.aload_n 0, 1) := by decide +kernel
theorem d_Loader_pairAsSaid_49 : decode b_Loader_pairAsSaid 49 = .ok (.iload_n 1, 1) := by decide +kernel
theorem d_Loader_pairAsSaid_50 : decode b_Loader_pairAsSaid 50 = .ok (.aload_n 0, 1) := by decide +kernel
theorem d_Loader_pairAsSaid_51 : decode b_Loader_pairAsSaid 51 = .ok (.getfield 9, 3) := by decide +kernel
theorem d_Loader_pairAsSaid_54 : decode b_Loader_pairAsSaid 54 = .ok (.iload_n 1, 1) := by decide +kernel
theorem d_Loader_pairAsSaid_55 : decode b_Loader_pairAsSaid 55 = .ok (.iconst 2, 1) := by decide +kernel
theorem d_Loader_pairAsSaid_56 : decode b_Loader_pairAsSaid 56 = .ok (.iadd, 1) := by decide +kernel
theorem d_Loader_pairAsSaid_57 : decode b_Loader_pairAsSaid 57 = .ok (.invokevirtual 21, 3) := by decide +kernel
theorem d_Loader_pairAsSaid_60 : decode b_Loader_pairAsSaid 60 = .ok (.iadd, 1) := by decide +kernel
theorem d_Loader_pairAsSaid_61 : decode b_Loader_pairAsSaid 61 = .ok (.invokevirtual 78, 3) := by decide +kernel
theorem d_Loader_pairAsSaid_64 : decode b_Loader_pairAsSaid 64 = .ok (.istore 5, 2) := by decide +kernel
theorem d_Loader_pairAsSaid_66 : decode b_Loader_pairAsSaid 66 = .ok (.iload_n 3, 1) := by decide +kernel
theorem d_Loader_pairAsSaid_67 : decode b_Loader_pairAsSaid 67 = .ok (.sipush 255, 3) := by decide +kernel
theorem d_Loader_pairAsSaid_70 : decode b_Loader_pairAsSaid 70 = .ok (.if_icmp .gt 17, 3) := by decide +kernel
theorem d_Loader_pairAsSaid_73 : decode b_Loader_pairAsSaid 73 = .ok (.iload 4, 2) := by decide +kernel
theorem d_Loader_pairAsSaid_75 : decode b_Loader_pairAsSaid 75 = .ok (.sipush 255, 3) := by decide +kernel
theorem d_Loader_pairAsSaid_78 : decode b_Loader_pairAsSaid 78 = .ok (.if_icmp .gt 9, 3) := by decide +kernel
theorem d_Loader_pairAsSaid_81 : decode b_Loader_pairAsSaid 81 = .ok (.iload 5, 2) := by decide +kernel
theorem d_Loader_pairAsSaid_83 : decode b_Loader_pairAsSaid 83 = .ok (.iconst (-1), 1) := by decide +kernel
theorem d_Loader_pairAsSaid_84 : decode b_Loader_pairAsSaid 84 = .ok (.if_icmp .ne 5, 3) := by decide +kernel
theorem d_Loader_pairAsSaid_87 : decode b_Loader_pairAsSaid 87 = .ok (.iconst 0, 1) := by decide +kernel
theorem d_Loader_pairAsSaid_88 : decode b_Loader_pairAsSaid 88 = .ok (.ireturn, 1) := by decide +kernel
theorem d_Loader_pairAsSaid_89 : decode b_Loader_pairAsSaid 89 = .ok (.iload_n 3, 1) := by decide +kernel
theorem d_Loader_pairAsSaid_90 : decode b_Loader_pairAsSaid 90 = .ok (.invokestatic 81, 3) := by decide +kernel
theorem d_Loader_pairAsSaid_93 : decode b_Loader_pairAsSaid 93 = .ok (.iload 4, 2) := by decide +kernel
theorem d_Loader_pairAsSaid_95 : decode b_Loader_pairAsSaid 95 = .ok (.invokestatic 81, 3) := by decide +kernel
theorem d_Loader_pairAsSaid_98 : decode b_Loader_pairAsSaid 98 = .ok (.iadd, 1) := by decide +kernel
theorem d_Loader_pairAsSaid_99 : decode b_Loader_pairAsSaid 99 = .ok (.istore 6, 2) := by decide +kernel
theorem d_Loader_pairAsSaid_101 : decode b_Loader_pairAsSaid 101 = .ok (.iload_n 2, 1) := by decide +kernel
theorem d_Loader_pairAsSaid_102 : decode b_Loader_pairAsSaid 102 = .ok (.iconst 1, 1) := by decide +kernel
theorem d_Loader_pairAsSaid_103 : decode b_Loader_pairAsSaid 103 = .ok (.if_icmp .ne 15, 3) := by decide +kernel
theorem d_Loader_pairAsSaid_106 : decode b_Loader_pairAsSaid 106 = .ok (.aload_n 0, 1) := by decide +kernel
theorem d_Loader_pairAsSaid_107 : decode b_Loader_pairAsSaid 107 = .ok (.iload_n 1, 1) := by decide +kernel
theorem d_Loader_pairAsSaid_108 : decode b_Loader_pairAsSaid 108 = .ok (.iload 5, 2) := by decide +kernel
theorem d_Loader_pairAsSaid_110 : decode b_Loader_pairAsSaid 110 = .ok (.iconst 2, 1) := by decide +kernel
theorem d_Loader_pairAsSaid_111 : decode b_Loader_pairAsSaid 111 = .ok (.iload 6, 2) := by decide +kernel
theorem d_Loader_pairAsSaid_113 : decode b_Loader_pairAsSaid 113 = .ok (.iadd, 1) := by decide +kernel
theorem d_Loader_pairAsSaid_114 : decode b_Loader_pairAsSaid 114 = .ok (.invokevirtual 87, 3) := by decide +kernel
theorem d_Loader_pairAsSaid_117 : decode b_Loader_pairAsSaid 117 = .ok (.ireturn, 1) := by decide +kernel
theorem d_Loader_pairAsSaid_118 : decode b_Loader_pairAsSaid 118 = .ok (.iload_n 2, 1) := by decide +kernel
theorem d_Loader_pairAsSaid_119 : decode b_Loader_pairAsSaid 119 = .ok (.iconst 2, 1) := by decide +kernel
theorem d_Loader_pairAsSaid_120 : decode b_Loader_pairAsSaid 120 = .ok (.if_icmp .ne 17, 3) := by decide +kernel
theorem d_Loader_pairAsSaid_123 : decode b_Loader_pairAsSaid 123 = .ok (.aload_n 0, 1) := by decide +kernel
theorem d_Loader_pairAsSaid_124 : decode b_Loader_pairAsSaid 124 = .ok (.iload_n 1, 1) := by decide +kernel
theorem d_Loader_pairAsSaid_125 : decode b_Loader_pairAsSaid 125 = .ok (.iload 6, 2) := by decide +kernel
theorem d_Loader_pairAsSaid_127 : decode b_Loader_pairAsSaid 127 = .ok (.invokevirtual 90, 3) := by decide +kernel
theorem d_Loader_pairAsSaid_130 : decode b_Loader_pairAsSaid 130 = .ok (.ifCond .eq 7, 3) := by decide +kernel
theorem d_Loader_pairAsSaid_133 : decode b_Loader_pairAsSaid 133 = .ok (.iconst 1, 1) := by decide +kernel
theorem d_Loader_pairAsSaid_134 : decode b_Loader_pairAsSaid 134 = .ok (.goto 4, 3) := by decide +kernel
theorem d_Loader_pairAsSaid_137 : decode b_Loader_pairAsSaid 137 = .ok (.iconst 0, 1) := by decide +kernel
theorem d_Loader_pairAsSaid_138 : decode b_Loader_pairAsSaid 138 = .ok (.ireturn, 1) := by decide +kernel
abbrev b_Loader_singleAsSaid : ByteArray := prog_5_method_15_code
def y_Loader_singleAsSaid : MethodName := ⟨R_Loader, "singleAsSaid", "(I)Z"⟩
theorem d_Loader_singleAsSaid_0 : decode b_Loader_singleAsSaid 0 = .ok (.aload_n 0, 1) := by decide +kernel
theorem d_Loader_singleAsSaid_1 : decode b_Loader_singleAsSaid 1 = .ok (.getfield 9, 3) := by decide +kernel
theorem d_Loader_singleAsSaid_4 : decode b_Loader_singleAsSaid 4 = .ok (.iload_n 1, 1) := by decide +kernel
theorem d_Loader_singleAsSaid_5 : decode b_Loader_singleAsSaid 5 = .ok (.bipush 6, 2) := by decide +kernel
theorem d_Loader_singleAsSaid_7 : decode b_Loader_singleAsSaid 7 = .ok (.invokevirtual 15, 3) := by decide +kernel
theorem d_Loader_singleAsSaid_10 : decode b_Loader_singleAsSaid 10 = .ok (.ifCond .ne 5, 3) := by decide +kernel
theorem d_Loader_singleAsSaid_13 : decode b_Loader_singleAsSaid 13 = .ok (.iconst 0, 1) := by decide +kernel
theorem d_Loader_singleAsSaid_14 : decode b_Loader_singleAsSaid 14 = .ok (.ireturn, 1) := by decide +kernel
theorem d_Loader_singleAsSaid_15 : decode b_Loader_singleAsSaid 15 = .ok (.aload_n 0, 1) := by decide +kernel
theorem d_Loader_singleAsSaid_16 : decode b_Loader_singleAsSaid 16 = .ok (.getfield 9, 3) := by decide +kernel
theorem d_Loader_singleAsSaid_19 : decode b_Loader_singleAsSaid 19 = .ok (.iload_n 1, 1) := by decide +kernel
theorem d_Loader_singleAsSaid_20 : decode b_Loader_singleAsSaid 20 = .ok (.invokevirtual 21, 3) := by decide +kernel
theorem d_Loader_singleAsSaid_23 : decode b_Loader_singleAsSaid 23 = .ok (.istore_n 2, 1) := by decide +kernel
theorem d_Loader_singleAsSaid_24 : decode b_Loader_singleAsSaid 24 = .ok (.aload_n 0, 1) := by decide +kernel
theorem d_Loader_singleAsSaid_25 : decode b_Loader_singleAsSaid 25 = .ok (.getfield 9, 3) := by decide +kernel
theorem d_Loader_singleAsSaid_28 : decode b_Loader_singleAsSaid 28 = .ok (.iload_n 1, 1) := by decide +kernel
theorem d_Loader_singleAsSaid_29 : decode b_Loader_singleAsSaid 29 = .ok (.iconst 4, 1) := by decide +kernel
theorem d_Loader_singleAsSaid_30 : decode b_Loader_singleAsSaid 30 = .ok (.iadd, 1) := by decide +kernel
theorem d_Loader_singleAsSaid_31 : decode b_Loader_singleAsSaid 31 = .ok (.invokevirtual 21, 3) := by decide +kernel
theorem d_Loader_singleAsSaid_34 : decode b_Loader_singleAsSaid 34 = .ok (.istore_n 3, 1) := by decide +kernel
theorem d_Loader_singleAsSaid_35 : decode b_Loader_singleAsSaid 35 = .ok (.aload_n 0, 1) := by decide +kernel
theorem d_Loader_singleAsSaid_36 : decode b_Loader_singleAsSaid 36 = .ok (.iload_n 1, 1) := by decide +kernel
theorem d_Loader_singleAsSaid_37 : decode b_Loader_singleAsSaid 37 = .ok (.aload_n 0, 1) := by decide +kernel
theorem d_Loader_singleAsSaid_38 : decode b_Loader_singleAsSaid 38 = .ok (.getfield 9, 3) := by decide +kernel
theorem d_Loader_singleAsSaid_41 : decode b_Loader_singleAsSaid 41 = .ok (.iload_n 1, 1) := by decide +kernel
theorem d_Loader_singleAsSaid_42 : decode b_Loader_singleAsSaid 42 = .ok (.iconst 2, 1) := by decide +kernel
theorem d_Loader_singleAsSaid_43 : decode b_Loader_singleAsSaid 43 = .ok (.iadd, 1) := by decide +kernel
theorem d_Loader_singleAsSaid_44 : decode b_Loader_singleAsSaid 44 = .ok (.invokevirtual 21, 3) := by decide +kernel
theorem d_Loader_singleAsSaid_47 : decode b_Loader_singleAsSaid 47 = .ok (.iadd, 1) := by decide +kernel
theorem d_Loader_singleAsSaid_48 : decode b_Loader_singleAsSaid 48 = .ok (.invokevirtual 78, 3) := by decide +kernel
theorem d_Loader_singleAsSaid_51 : decode b_Loader_singleAsSaid 51 = .ok (.istore 4, 2) := by decide +kernel
theorem d_Loader_singleAsSaid_53 : decode b_Loader_singleAsSaid 53 = .ok (.iload_n 3, 1) := by decide +kernel
theorem d_Loader_singleAsSaid_54 : decode b_Loader_singleAsSaid 54 = .ok (.sipush 255, 3) := by decide +kernel
theorem d_Loader_singleAsSaid_57 : decode b_Loader_singleAsSaid 57 = .ok (.if_icmp .gt 9, 3) := by decide +kernel
theorem d_Loader_singleAsSaid_60 : decode b_Loader_singleAsSaid 60 = .ok (.iload 4, 2) := by decide +kernel
theorem d_Loader_singleAsSaid_62 : decode b_Loader_singleAsSaid 62 = .ok (.iconst (-1), 1) := by decide +kernel
theorem d_Loader_singleAsSaid_63 : decode b_Loader_singleAsSaid 63 = .ok (.if_icmp .ne 5, 3) := by decide +kernel
theorem d_Loader_singleAsSaid_66 : decode b_Loader_singleAsSaid 66 = .ok (.iconst 0, 1) := by decide +kernel
theorem d_Loader_singleAsSaid_67 : decode b_Loader_singleAsSaid 67 = .ok (.ireturn, 1) := by decide +kernel
theorem d_Loader_singleAsSaid_68 : decode b_Loader_singleAsSaid 68 = .ok (.iload_n 2, 1) := by decide +kernel
theorem d_Loader_singleAsSaid_69 : decode b_Loader_singleAsSaid 69 = .ok (.iconst 1, 1) := by decide +kernel
theorem d_Loader_singleAsSaid_70 : decode b_Loader_singleAsSaid 70 = .ok (.if_icmp .ne 19, 3) := by decide +kernel
theorem d_Loader_singleAsSaid_73 : decode b_Loader_singleAsSaid 73 = .ok (.aload_n 0, 1) := by decide +kernel
theorem d_Loader_singleAsSaid_74 : decode b_Loader_singleAsSaid 74 = .ok (.getfield 9, 3) := by decide +kernel
theorem d_Loader_singleAsSaid_77 : decode b_Loader_singleAsSaid 77 = .ok (.iload_n 1, 1) := by decide +kernel
theorem d_Loader_singleAsSaid_78 : decode b_Loader_singleAsSaid 78 = .ok (.bipush 6, 2) := by decide +kernel
theorem d_Loader_singleAsSaid_80 : decode b_Loader_singleAsSaid 80 = .ok (.iadd, 1) := by decide +kernel
theorem d_Loader_singleAsSaid_81 : decode b_Loader_singleAsSaid 81 = .ok (.iload_n 3, 1) := by decide +kernel
theorem d_Loader_singleAsSaid_82 : decode b_Loader_singleAsSaid 82 = .ok (.invokestatic 81, 3) := by decide +kernel
theorem d_Loader_singleAsSaid_85 : decode b_Loader_singleAsSaid 85 = .ok (.invokevirtual 15, 3) := by decide +kernel
theorem d_Loader_singleAsSaid_88 : decode b_Loader_singleAsSaid 88 = .ok (.ireturn, 1) := by decide +kernel
theorem d_Loader_singleAsSaid_89 : decode b_Loader_singleAsSaid 89 = .ok (.iload_n 2, 1) := by decide +kernel
theorem d_Loader_singleAsSaid_90 : decode b_Loader_singleAsSaid 90 = .ok (.iconst 2, 1) := by decide +kernel
theorem d_Loader_singleAsSaid_91 : decode b_Loader_singleAsSaid 91 = .ok (.if_icmp .ne 24, 3) := by decide +kernel
theorem d_Loader_singleAsSaid_94 : decode b_Loader_singleAsSaid 94 = .ok (.aload_n 0, 1) := by decide +kernel
theorem d_Loader_singleAsSaid_95 : decode b_Loader_singleAsSaid 95 = .ok (.iload_n 1, 1) := by decide +kernel
theorem d_Loader_singleAsSaid_96 : decode b_Loader_singleAsSaid 96 = .ok (.bipush 6, 2) := by decide +kernel
theorem d_Loader_singleAsSaid_98 : decode b_Loader_singleAsSaid 98 = .ok (.iadd, 1) := by decide +kernel
theorem d_Loader_singleAsSaid_99 : decode b_Loader_singleAsSaid 99 = .ok (.iload 4, 2) := by decide +kernel
theorem d_Loader_singleAsSaid_101 : decode b_Loader_singleAsSaid 101 = .ok (.iload_n 3, 1) := by decide +kernel
theorem d_Loader_singleAsSaid_102 : decode b_Loader_singleAsSaid 102 = .ok (.invokestatic 81, 3) := by decide +kernel
theorem d_Loader_singleAsSaid_105 : decode b_Loader_singleAsSaid 105 = .ok (.invokevirtual 84, 3) := by decide +kernel
theorem d_Loader_singleAsSaid_108 : decode b_Loader_singleAsSaid 108 = .ok (.ifCond .eq 7, 3) := by decide +kernel
theorem d_Loader_singleAsSaid_111 : decode b_Loader_singleAsSaid 111 = .ok (.iconst 1, 1) := by decide +kernel
theorem d_Loader_singleAsSaid_112 : decode b_Loader_singleAsSaid 112 = .ok (.goto 4, 3) := by decide +kernel
theorem d_Loader_singleAsSaid_115 : decode b_Loader_singleAsSaid 115 = .ok (.iconst 0, 1) := by decide +kernel
theorem d_Loader_singleAsSaid_116 : decode b_Loader_singleAsSaid 116 = .ok (.ireturn, 1) := by decide +kernel
abbrev b_Loader_extensionAsSaid : ByteArray := prog_5_method_14_code
def y_Loader_extensionAsSaid : MethodName := ⟨R_Loader, "extensionAsSaid", "(II)Z"⟩
theorem d_Loader_extensionAsSaid_0 : decode b_Loader_extensionAsSaid 0 = .ok (.aload_n 0, 1) := by decide +kernel
theorem d_Loader_extensionAsSaid_1 : decode b_Loader_extensionAsSaid 1 = .ok (.getfield 9, 3) := by decide +kernel
theorem d_Loader_extensionAsSaid_4 : decode b_Loader_extensionAsSaid 4 = .ok (.iload_n 1, 1) := by decide +kernel
theorem d_Loader_extensionAsSaid_5 : decode b_Loader_extensionAsSaid 5 = .ok (.bipush 8, 2) := by decide +kernel
theorem d_Loader_extensionAsSaid_7 : decode b_Loader_extensionAsSaid 7 = .ok (.invokevirtual 15, 3) := by decide +kernel
theorem d_Loader_extensionAsSaid_10 : decode b_Loader_extensionAsSaid 10 = .ok (.ifCond .eq 15, 3) := by decide +kernel
theorem d_Loader_extensionAsSaid_13 : decode b_Loader_extensionAsSaid 13 = .ok (.aload_n 0, 1) := by decide +kernel
theorem d_Loader_extensionAsSaid_14 : decode b_Loader_extensionAsSaid 14 = .ok (.getfield 9, 3) := by decide +kernel
theorem d_Loader_extensionAsSaid_17 : decode b_Loader_extensionAsSaid 17 = .ok (.iload_n 1, 1) := by decide +kernel
theorem d_Loader_extensionAsSaid_18 : decode b_Loader_extensionAsSaid 18 = .ok (.invokevirtual 21, 3) := by decide +kernel
theorem d_Loader_extensionAsSaid_21 : decode b_Loader_extensionAsSaid 21 = .ok (.iconst 1, 1) := by decide +kernel
theorem d_Loader_extensionAsSaid_22 : decode b_Loader_extensionAsSaid 22 = .ok (.if_icmp .eq 5, 3) := by decide +kernel
theorem d_Loader_extensionAsSaid_25 : decode b_Loader_extensionAsSaid 25 = .ok (.iconst 0, 1) := by decide +kernel
theorem d_Loader_extensionAsSaid_26 : decode b_Loader_extensionAsSaid 26 = .ok (.ireturn, 1) := by decide +kernel
theorem d_Loader_extensionAsSaid_27 : decode b_Loader_extensionAsSaid 27 = .ok (.aload_n 0, 1) := by decide +kernel
theorem d_Loader_extensionAsSaid_28 : decode b_Loader_extensionAsSaid 28 = .ok (.getfield 9, 3) := by decide +kernel
theorem d_Loader_extensionAsSaid_31 : decode b_Loader_extensionAsSaid 31 = .ok (.iload_n 1, 1) := by decide +kernel
theorem d_Loader_extensionAsSaid_32 : decode b_Loader_extensionAsSaid 32 = .ok (.iconst 2, 1) := by decide +kernel
theorem d_Loader_extensionAsSaid_33 : decode b_Loader_extensionAsSaid 33 = .ok (.iadd, 1) := by decide +kernel
theorem d_Loader_extensionAsSaid_34 : decode b_Loader_extensionAsSaid 34 = .ok (.invokevirtual 21, 3) := by decide +kernel
theorem d_Loader_extensionAsSaid_37 : decode b_Loader_extensionAsSaid 37 = .ok (.istore_n 3, 1) := by decide +kernel
theorem d_Loader_extensionAsSaid_38 : decode b_Loader_extensionAsSaid 38 = .ok (.aload_n 0, 1) := by decide +kernel
theorem d_Loader_extensionAsSaid_39 : decode b_Loader_extensionAsSaid 39 = .ok (.getfield 9, 3) := by decide +kernel
theorem d_Loader_extensionAsSaid_42 : decode b_Loader_extensionAsSaid 42 = .ok (.iload_n 1, 1) := by decide +kernel
theorem d_Loader_extensionAsSaid_43 : decode b_Loader_extensionAsSaid 43 = .ok (.iconst 4, 1) := by decide +kernel
theorem d_Loader_extensionAsSaid_44 : decode b_Loader_extensionAsSaid 44 = .ok (.iadd, 1) := by decide +kernel
theorem d_Loader_extensionAsSaid_45 : decode b_Loader_extensionAsSaid 45 = .ok (.invokevirtual 44, 3) := by decide +kernel
theorem d_Loader_extensionAsSaid_48 : decode b_Loader_extensionAsSaid 48 = .ok (.istore 4, 2) := by decide +kernel
theorem d_Loader_extensionAsSaid_50 : decode b_Loader_extensionAsSaid 50 = .ok (.iload_n 3, 1) := by decide +kernel
theorem d_Loader_extensionAsSaid_51 : decode b_Loader_extensionAsSaid 51 = .ok (.iconst 1, 1) := by decide +kernel
theorem d_Loader_extensionAsSaid_52 : decode b_Loader_extensionAsSaid 52 = .ok (.if_icmp .lt 40, 3) := by decide +kernel
theorem d_Loader_extensionAsSaid_55 : decode b_Loader_extensionAsSaid 55 = .ok (.iload_n 3, 1) := by decide +kernel
theorem d_Loader_extensionAsSaid_56 : decode b_Loader_extensionAsSaid 56 = .ok (.bipush 6, 2) := by decide +kernel
theorem d_Loader_extensionAsSaid_58 : decode b_Loader_extensionAsSaid 58 = .ok (.if_icmp .gt 34, 3) := by decide +kernel
theorem d_Loader_extensionAsSaid_61 : decode b_Loader_extensionAsSaid 61 = .ok (.iload_n 3, 1) := by decide +kernel
theorem d_Loader_extensionAsSaid_62 : decode b_Loader_extensionAsSaid 62 = .ok (.aload_n 0, 1) := by decide +kernel
theorem d_Loader_extensionAsSaid_63 : decode b_Loader_extensionAsSaid 63 = .ok (.getfield 9, 3) := by decide +kernel
theorem d_Loader_extensionAsSaid_66 : decode b_Loader_extensionAsSaid 66 = .ok (.iload_n 2, 1) := by decide +kernel
theorem d_Loader_extensionAsSaid_67 : decode b_Loader_extensionAsSaid 67 = .ok (.iconst 2, 1) := by decide +kernel
theorem d_Loader_extensionAsSaid_68 : decode b_Loader_extensionAsSaid 68 = .ok (.iadd, 1) := by decide +kernel
theorem d_Loader_extensionAsSaid_69 : decode b_Loader_extensionAsSaid 69 = .ok (.invokevirtual 21, 3) := by decide +kernel
theorem d_Loader_extensionAsSaid_72 : decode b_Loader_extensionAsSaid 72 = .ok (.if_icmp .ne 20, 3) := by decide +kernel
theorem d_Loader_extensionAsSaid_75 : decode b_Loader_extensionAsSaid 75 = .ok (.iload 4, 2) := by decide +kernel
theorem d_Loader_extensionAsSaid_77 : decode b_Loader_extensionAsSaid 77 = .ok (.ifCond .lt 15, 3) := by decide +kernel
theorem d_Loader_extensionAsSaid_80 : decode b_Loader_extensionAsSaid 80 = .ok (.iload 4, 2) := by decide +kernel
theorem d_Loader_extensionAsSaid_82 : decode b_Loader_extensionAsSaid 82 = .ok (.sipush 8192, 3) := by decide +kernel
theorem d_Loader_extensionAsSaid_85 : decode b_Loader_extensionAsSaid 85 = .ok (.if_icmp .gt 7, 3) := by decide +kernel
theorem d_Loader_extensionAsSaid_88 : decode b_Loader_extensionAsSaid 88 = .ok (.iconst 1, 1) := by decide +kernel
theorem d_Loader_extensionAsSaid_89 : decode b_Loader_extensionAsSaid 89 = .ok (.goto 4, 3) := by decide +kernel
theorem d_Loader_extensionAsSaid_92 : decode b_Loader_extensionAsSaid 92 = .ok (.iconst 0, 1) := by decide +kernel
theorem d_Loader_extensionAsSaid_93 : decode b_Loader_extensionAsSaid 93 = .ok (.ireturn, 1) := by decide +kernel
abbrev b_Loader_subtableAsSaid : ByteArray := prog_5_method_13_code
def y_Loader_subtableAsSaid : MethodName := ⟨R_Loader, "subtableAsSaid", "(II)Z"⟩
theorem d_Loader_subtableAsSaid_0 : decode b_Loader_subtableAsSaid 0 = .ok (.aload_n 0, 1) := by decide +kernel
theorem d_Loader_subtableAsSaid_1 : decode b_Loader_subtableAsSaid 1 = .ok (.getfield 9, 3) := by decide +kernel
theorem d_Loader_subtableAsSaid_4 : decode b_Loader_subtableAsSaid 4 = .ok (.iload_n 1, 1) := by decide +kernel
theorem d_Loader_subtableAsSaid_5 : decode b_Loader_subtableAsSaid 5 = .ok (.invokevirtual 21, 3) := by decide +kernel
theorem d_Loader_subtableAsSaid_8 : decode b_Loader_subtableAsSaid 8 = .ok (.istore_n 3, 1) := by decide +kernel
theorem d_Loader_subtableAsSaid_9 : decode b_Loader_subtableAsSaid 9 = .ok (.iload_n 1, 1) := by decide +kernel
theorem d_Loader_subtableAsSaid_10 : decode b_Loader_subtableAsSaid 10 = .ok (.aload_n 0, 1) := by decide +kernel
theorem d_Loader_subtableAsSaid_11 : decode b_Loader_subtableAsSaid 11 = .ok (.getfield 9, 3) := by decide +kernel
theorem d_Loader_subtableAsSaid_14 : decode b_Loader_subtableAsSaid 14 = .ok (.iload_n 1, 1) := by decide +kernel
theorem d_Loader_subtableAsSaid_15 : decode b_Loader_subtableAsSaid 15 = .ok (.bipush 6, 2) := by decide +kernel
theorem d_Loader_subtableAsSaid_17 : decode b_Loader_subtableAsSaid 17 = .ok (.iadd, 1) := by decide +kernel
theorem d_Loader_subtableAsSaid_18 : decode b_Loader_subtableAsSaid 18 = .ok (.iconst 2, 1) := by decide +kernel
theorem d_Loader_subtableAsSaid_19 : decode b_Loader_subtableAsSaid 19 = .ok (.iload_n 2, 1) := by decide +kernel
theorem d_Loader_subtableAsSaid_20 : decode b_Loader_subtableAsSaid 20 = .ok (.imul, 1) := by decide +kernel
theorem d_Loader_subtableAsSaid_21 : decode b_Loader_subtableAsSaid 21 = .ok (.iadd, 1) := by decide +kernel
theorem d_Loader_subtableAsSaid_22 : decode b_Loader_subtableAsSaid 22 = .ok (.invokevirtual 21, 3) := by decide +kernel
theorem d_Loader_subtableAsSaid_25 : decode b_Loader_subtableAsSaid 25 = .ok (.iadd, 1) := by decide +kernel
theorem d_Loader_subtableAsSaid_26 : decode b_Loader_subtableAsSaid 26 = .ok (.istore 4, 2) := by decide +kernel
theorem d_Loader_subtableAsSaid_28 : decode b_Loader_subtableAsSaid 28 = .ok (.iload_n 3, 1) := by decide +kernel
theorem d_Loader_subtableAsSaid_29 : decode b_Loader_subtableAsSaid 29 = .ok (.bipush 9, 2) := by decide +kernel
theorem d_Loader_subtableAsSaid_31 : decode b_Loader_subtableAsSaid 31 = .ok (.if_icmp .ne 55, 3) := by decide +kernel
theorem d_Loader_subtableAsSaid_34 : decode b_Loader_subtableAsSaid 34 = .ok (.aload_n 0, 1) := by decide +kernel
theorem d_Loader_subtableAsSaid_35 : decode b_Loader_subtableAsSaid 35 = .ok (.iload 4, 2) := by decide +kernel
theorem d_Loader_subtableAsSaid_37 : decode b_Loader_subtableAsSaid 37 = .ok (.iload_n 1, 1) := by decide +kernel
theorem d_Loader_subtableAsSaid_38 : decode b_Loader_subtableAsSaid 38 = .ok (.aload_n 0, 1) := by decide +kernel
theorem d_Loader_subtableAsSaid_39 : decode b_Loader_subtableAsSaid 39 = .ok (.getfield 9, 3) := by decide +kernel
theorem d_Loader_subtableAsSaid_42 : decode b_Loader_subtableAsSaid 42 = .ok (.iload_n 1, 1) := by decide +kernel
theorem d_Loader_subtableAsSaid_43 : decode b_Loader_subtableAsSaid 43 = .ok (.bipush 6, 2) := by decide +kernel
theorem d_Loader_subtableAsSaid_45 : decode b_Loader_subtableAsSaid 45 = .ok (.iadd, 1) := by decide +kernel
theorem d_Loader_subtableAsSaid_46 : decode b_Loader_subtableAsSaid 46 = .ok (.invokevirtual 21, 3) := by decide +kernel
theorem d_Loader_subtableAsSaid_49 : decode b_Loader_subtableAsSaid 49 = .ok (.iadd, 1) := by decide +kernel
theorem d_Loader_subtableAsSaid_50 : decode b_Loader_subtableAsSaid 50 = .ok (.invokevirtual 63, 3) := by decide +kernel
theorem d_Loader_subtableAsSaid_53 : decode b_Loader_subtableAsSaid 53 = .ok (.ifCond .ne 5, 3) := by decide +kernel
theorem d_Loader_subtableAsSaid_56 : decode b_Loader_subtableAsSaid 56 = .ok (.iconst 0, 1) := by decide +kernel
theorem d_Loader_subtableAsSaid_57 : decode b_Loader_subtableAsSaid 57 = .ok (.ireturn, 1) := by decide +kernel
theorem d_Loader_subtableAsSaid_58 : decode b_Loader_subtableAsSaid 58 = .ok (.aload_n 0, 1) := by decide +kernel
theorem d_Loader_subtableAsSaid_59 : decode b_Loader_subtableAsSaid 59 = .ok (.getfield 9, 3) := by decide +kernel
theorem d_Loader_subtableAsSaid_62 : decode b_Loader_subtableAsSaid 62 = .ok (.iload 4, 2) := by decide +kernel
theorem d_Loader_subtableAsSaid_64 : decode b_Loader_subtableAsSaid 64 = .ok (.iconst 2, 1) := by decide +kernel
theorem d_Loader_subtableAsSaid_65 : decode b_Loader_subtableAsSaid 65 = .ok (.iadd, 1) := by decide +kernel
theorem d_Loader_subtableAsSaid_66 : decode b_Loader_subtableAsSaid 66 = .ok (.invokevirtual 21, 3) := by decide +kernel
theorem d_Loader_subtableAsSaid_69 : decode b_Loader_subtableAsSaid 69 = .ok (.istore_n 3, 1) := by decide +kernel
theorem d_Loader_subtableAsSaid_70 : decode b_Loader_subtableAsSaid 70 = .ok (.iload 4, 2) := by decide +kernel
theorem d_Loader_subtableAsSaid_72 : decode b_Loader_subtableAsSaid 72 = .ok (.aload_n 0, 1) := by decide +kernel
theorem d_Loader_subtableAsSaid_73 : decode b_Loader_subtableAsSaid 73 = .ok (.getfield 9, 3) := by decide +kernel
theorem d_Loader_subtableAsSaid_76 : decode b_Loader_subtableAsSaid 76 = .ok (.iload 4, 2) := by decide +kernel
theorem d_Loader_subtableAsSaid_78 : decode b_Loader_subtableAsSaid 78 = .ok (.iconst 4, 1) := by decide +kernel
theorem d_Loader_subtableAsSaid_79 : decode b_Loader_subtableAsSaid 79 = .ok (.iadd, 1) := by decide +kernel
theorem d_Loader_subtableAsSaid_80 : decode b_Loader_subtableAsSaid 80 = .ok (.invokevirtual 44, 3) := by decide +kernel
theorem d_Loader_subtableAsSaid_83 : decode b_Loader_subtableAsSaid 83 = .ok (.iadd, 1) := by decide +kernel
theorem d_Loader_subtableAsSaid_84 : decode b_Loader_subtableAsSaid 84 = .ok (.istore 4, 2) := by decide +kernel
theorem d_Loader_subtableAsSaid_86 : decode b_Loader_subtableAsSaid 86 = .ok (.iload_n 3, 1) := by decide +kernel
theorem d_Loader_subtableAsSaid_87 : decode b_Loader_subtableAsSaid 87 = .ok (.tableswitch 46 1 3 #[25, 32, 39], 25) := by decide +kernel
theorem d_Loader_subtableAsSaid_112 : decode b_Loader_subtableAsSaid 112 = .ok (.aload_n 0, 1) := by decide +kernel
theorem d_Loader_subtableAsSaid_113 : decode b_Loader_subtableAsSaid 113 = .ok (.iload 4, 2) := by decide +kernel
theorem d_Loader_subtableAsSaid_115 : decode b_Loader_subtableAsSaid 115 = .ok (.invokevirtual 66, 3) := by decide +kernel
theorem d_Loader_subtableAsSaid_118 : decode b_Loader_subtableAsSaid 118 = .ok (.ireturn, 1) := by decide +kernel
theorem d_Loader_subtableAsSaid_119 : decode b_Loader_subtableAsSaid 119 = .ok (.aload_n 0, 1) := by decide +kernel
theorem d_Loader_subtableAsSaid_120 : decode b_Loader_subtableAsSaid 120 = .ok (.iload 4, 2) := by decide +kernel
theorem d_Loader_subtableAsSaid_122 : decode b_Loader_subtableAsSaid 122 = .ok (.invokevirtual 69, 3) := by decide +kernel
theorem d_Loader_subtableAsSaid_125 : decode b_Loader_subtableAsSaid 125 = .ok (.ireturn, 1) := by decide +kernel
theorem d_Loader_subtableAsSaid_126 : decode b_Loader_subtableAsSaid 126 = .ok (.aload_n 0, 1) := by decide +kernel
theorem d_Loader_subtableAsSaid_127 : decode b_Loader_subtableAsSaid 127 = .ok (.iload 4, 2) := by decide +kernel
theorem d_Loader_subtableAsSaid_129 : decode b_Loader_subtableAsSaid 129 = .ok (.invokevirtual 72, 3) := by decide +kernel
theorem d_Loader_subtableAsSaid_132 : decode b_Loader_subtableAsSaid 132 = .ok (.ireturn, 1) := by decide +kernel
theorem d_Loader_subtableAsSaid_133 : decode b_Loader_subtableAsSaid 133 = .ok (.aload_n 0, 1) := by decide +kernel
theorem d_Loader_subtableAsSaid_134 : decode b_Loader_subtableAsSaid 134 = .ok (.iload_n 3, 1) := by decide +kernel
theorem d_Loader_subtableAsSaid_135 : decode b_Loader_subtableAsSaid 135 = .ok (.iload 4, 2) := by decide +kernel
theorem d_Loader_subtableAsSaid_137 : decode b_Loader_subtableAsSaid 137 = .ok (.invokevirtual 75, 3) := by decide +kernel
theorem d_Loader_subtableAsSaid_140 : decode b_Loader_subtableAsSaid 140 = .ok (.ireturn, 1) := by decide +kernel
abbrev b_Loader_lookupsAsSaid : ByteArray := prog_5_method_11_code
def y_Loader_lookupsAsSaid : MethodName := ⟨R_Loader, "lookupsAsSaid", "()Z"⟩
theorem d_Loader_lookupsAsSaid_0 : decode b_Loader_lookupsAsSaid 0 = .ok (.aload_n 0, 1) := by decide +kernel
theorem d_Loader_lookupsAsSaid_1 : decode b_Loader_lookupsAsSaid 1 = .ok (.iconst 0, 1) := by decide +kernel
theorem d_Loader_lookupsAsSaid_2 : decode b_Loader_lookupsAsSaid 2 = .ok (.putfield 53, 3) := by decide +kernel
theorem d_Loader_lookupsAsSaid_5 : decode b_Loader_lookupsAsSaid 5 = .ok (.aload_n 0, 1) := by decide +kernel
theorem d_Loader_lookupsAsSaid_6 : decode b_Loader_lookupsAsSaid 6 = .ok (.getfield 9, 3) := by decide +kernel
theorem d_Loader_lookupsAsSaid_9 : decode b_Loader_lookupsAsSaid 9 = .ok (.bipush 8, 2) := by decide +kernel
theorem d_Loader_lookupsAsSaid_11 : decode b_Loader_lookupsAsSaid 11 = .ok (.invokevirtual 21, 3) := by decide +kernel
theorem d_Loader_lookupsAsSaid_14 : decode b_Loader_lookupsAsSaid 14 = .ok (.istore_n 1, 1) := by decide +kernel
theorem d_Loader_lookupsAsSaid_15 : decode b_Loader_lookupsAsSaid 15 = .ok (.aload_n 0, 1) := by decide +kernel
theorem d_Loader_lookupsAsSaid_16 : decode b_Loader_lookupsAsSaid 16 = .ok (.iload_n 1, 1) := by decide +kernel
theorem d_Loader_lookupsAsSaid_17 : decode b_Loader_lookupsAsSaid 17 = .ok (.bipush 64, 2) := by decide +kernel
theorem d_Loader_lookupsAsSaid_19 : decode b_Loader_lookupsAsSaid 19 = .ok (.iconst 2, 1) := by decide +kernel
theorem d_Loader_lookupsAsSaid_20 : decode b_Loader_lookupsAsSaid 20 = .ok (.invokevirtual 40, 3) := by decide +kernel
theorem d_Loader_lookupsAsSaid_23 : decode b_Loader_lookupsAsSaid 23 = .ok (.ifCond .ne 5, 3) := by decide +kernel
theorem d_Loader_lookupsAsSaid_26 : decode b_Loader_lookupsAsSaid 26 = .ok (.iconst 0, 1) := by decide +kernel
theorem d_Loader_lookupsAsSaid_27 : decode b_Loader_lookupsAsSaid 27 = .ok (.ireturn, 1) := by decide +kernel
theorem d_Loader_lookupsAsSaid_28 : decode b_Loader_lookupsAsSaid 28 = .ok (.aload_n 0, 1) := by decide +kernel
theorem d_Loader_lookupsAsSaid_29 : decode b_Loader_lookupsAsSaid 29 = .ok (.getfield 9, 3) := by decide +kernel
theorem d_Loader_lookupsAsSaid_32 : decode b_Loader_lookupsAsSaid 32 = .ok (.iload_n 1, 1) := by decide +kernel
theorem d_Loader_lookupsAsSaid_33 : decode b_Loader_lookupsAsSaid 33 = .ok (.invokevirtual 21, 3) := by decide +kernel
theorem d_Loader_lookupsAsSaid_36 : decode b_Loader_lookupsAsSaid 36 = .ok (.istore_n 2, 1) := by decide +kernel
theorem d_Loader_lookupsAsSaid_37 : decode b_Loader_lookupsAsSaid 37 = .ok (.iconst 0, 1) := by decide +kernel
theorem d_Loader_lookupsAsSaid_38 : decode b_Loader_lookupsAsSaid 38 = .ok (.istore_n 3, 1) := by decide +kernel
theorem d_Loader_lookupsAsSaid_39 : decode b_Loader_lookupsAsSaid 39 = .ok (.iload_n 3, 1) := by decide +kernel
theorem d_Loader_lookupsAsSaid_40 : decode b_Loader_lookupsAsSaid 40 = .ok (.iload_n 2, 1) := by decide +kernel
theorem d_Loader_lookupsAsSaid_41 : decode b_Loader_lookupsAsSaid 41 = .ok (.if_icmp .ge 80, 3) := by decide +kernel
theorem d_Loader_lookupsAsSaid_44 : decode b_Loader_lookupsAsSaid 44 = .ok (.iload_n 1, 1) := by decide +kernel
theorem d_Loader_lookupsAsSaid_45 : decode b_Loader_lookupsAsSaid 45 = .ok (.aload_n 0, 1) := by decide +kernel
theorem d_Loader_lookupsAsSaid_46 : decode b_Loader_lookupsAsSaid 46 = .ok (.getfield 9, 3) := by decide +kernel
theorem d_Loader_lookupsAsSaid_49 : decode b_Loader_lookupsAsSaid 49 = .ok (.iload_n 1, 1) := by decide +kernel
theorem d_Loader_lookupsAsSaid_50 : decode b_Loader_lookupsAsSaid 50 = .ok (.iconst 2, 1) := by decide +kernel
theorem d_Loader_lookupsAsSaid_51 : decode b_Loader_lookupsAsSaid 51 = .ok (.iadd, 1) := by decide +kernel
theorem d_Loader_lookupsAsSaid_52 : decode b_Loader_lookupsAsSaid 52 = .ok (.iconst 2, 1) := by decide +kernel
theorem d_Loader_lookupsAsSaid_53 : decode b_Loader_lookupsAsSaid 53 = .ok (.iload_n 3, 1) := by decide +kernel
theorem d_Loader_lookupsAsSaid_54 : decode b_Loader_lookupsAsSaid 54 = .ok (.imul, 1) := by decide +kernel
theorem d_Loader_lookupsAsSaid_55 : decode b_Loader_lookupsAsSaid 55 = .ok (.iadd, 1) := by decide +kernel
theorem d_Loader_lookupsAsSaid_56 : decode b_Loader_lookupsAsSaid 56 = .ok (.invokevirtual 21, 3) := by decide +kernel
theorem d_Loader_lookupsAsSaid_59 : decode b_Loader_lookupsAsSaid 59 = .ok (.iadd, 1) := by decide +kernel
theorem d_Loader_lookupsAsSaid_60 : decode b_Loader_lookupsAsSaid 60 = .ok (.istore 4, 2) := by decide +kernel
theorem d_Loader_lookupsAsSaid_62 : decode b_Loader_lookupsAsSaid 62 = .ok (.aload_n 0, 1) := by decide +kernel
theorem d_Loader_lookupsAsSaid_63 : decode b_Loader_lookupsAsSaid 63 = .ok (.iload 4, 2) := by decide +kernel
theorem d_Loader_lookupsAsSaid_65 : decode b_Loader_lookupsAsSaid 65 = .ok (.invokevirtual 57, 3) := by decide +kernel
theorem d_Loader_lookupsAsSaid_68 : decode b_Loader_lookupsAsSaid 68 = .ok (.ifCond .ne 5, 3) := by decide +kernel
theorem d_Loader_lookupsAsSaid_71 : decode b_Loader_lookupsAsSaid 71 = .ok (.iconst 0, 1) := by decide +kernel
theorem d_Loader_lookupsAsSaid_72 : decode b_Loader_lookupsAsSaid 72 = .ok (.ireturn, 1) := by decide +kernel
theorem d_Loader_lookupsAsSaid_73 : decode b_Loader_lookupsAsSaid 73 = .ok (.aload_n 0, 1) := by decide +kernel
theorem d_Loader_lookupsAsSaid_74 : decode b_Loader_lookupsAsSaid 74 = .ok (.getfield 9, 3) := by decide +kernel
theorem d_Loader_lookupsAsSaid_77 : decode b_Loader_lookupsAsSaid 77 = .ok (.iload 4, 2) := by decide +kernel
theorem d_Loader_lookupsAsSaid_79 : decode b_Loader_lookupsAsSaid 79 = .ok (.iconst 4, 1) := by decide +kernel
theorem d_Loader_lookupsAsSaid_80 : decode b_Loader_lookupsAsSaid 80 = .ok (.iadd, 1) := by decide +kernel
theorem d_Loader_lookupsAsSaid_81 : decode b_Loader_lookupsAsSaid 81 = .ok (.invokevirtual 21, 3) := by decide +kernel
theorem d_Loader_lookupsAsSaid_84 : decode b_Loader_lookupsAsSaid 84 = .ok (.istore 5, 2) := by decide +kernel
theorem d_Loader_lookupsAsSaid_86 : decode b_Loader_lookupsAsSaid 86 = .ok (.iconst 0, 1) := by decide +kernel
theorem d_Loader_lookupsAsSaid_87 : decode b_Loader_lookupsAsSaid 87 = .ok (.istore 6, 2) := by decide +kernel
theorem d_Loader_lookupsAsSaid_89 : decode b_Loader_lookupsAsSaid 89 = .ok (.iload 6, 2) := by decide +kernel
theorem d_Loader_lookupsAsSaid_91 : decode b_Loader_lookupsAsSaid 91 = .ok (.iload 5, 2) := by decide +kernel
theorem d_Loader_lookupsAsSaid_93 : decode b_Loader_lookupsAsSaid 93 = .ok (.if_icmp .ge 22, 3) := by decide +kernel
theorem d_Loader_lookupsAsSaid_96 : decode b_Loader_lookupsAsSaid 96 = .ok (.aload_n 0, 1) := by decide +kernel
theorem d_Loader_lookupsAsSaid_97 : decode b_Loader_lookupsAsSaid 97 = .ok (.iload 4, 2) := by decide +kernel
theorem d_Loader_lookupsAsSaid_99 : decode b_Loader_lookupsAsSaid 99 = .ok (.iload 6, 2) := by decide +kernel
theorem d_Loader_lookupsAsSaid_101 : decode b_Loader_lookupsAsSaid 101 = .ok (.invokevirtual 60, 3) := by decide +kernel
theorem d_Loader_lookupsAsSaid_104 : decode b_Loader_lookupsAsSaid 104 = .ok (.ifCond .ne 5, 3) := by decide +kernel
theorem d_Loader_lookupsAsSaid_107 : decode b_Loader_lookupsAsSaid 107 = .ok (.iconst 0, 1) := by decide +kernel
theorem d_Loader_lookupsAsSaid_108 : decode b_Loader_lookupsAsSaid 108 = .ok (.ireturn, 1) := by decide +kernel
theorem d_Loader_lookupsAsSaid_109 : decode b_Loader_lookupsAsSaid 109 = .ok (.iinc 6 1, 3) := by decide +kernel
theorem d_Loader_lookupsAsSaid_112 : decode b_Loader_lookupsAsSaid 112 = .ok (.goto (-23), 3) := by decide +kernel
theorem d_Loader_lookupsAsSaid_115 : decode b_Loader_lookupsAsSaid 115 = .ok (.iinc 3 1, 3) := by decide +kernel
theorem d_Loader_lookupsAsSaid_118 : decode b_Loader_lookupsAsSaid 118 = .ok (.goto (-79), 3) := by decide +kernel
theorem d_Loader_lookupsAsSaid_121 : decode b_Loader_lookupsAsSaid 121 = .ok (.iconst 1, 1) := by decide +kernel
theorem d_Loader_lookupsAsSaid_122 : decode b_Loader_lookupsAsSaid 122 = .ok (.ireturn, 1) := by decide +kernel
abbrev b_Kinds_tell : ByteArray := prog_4_method_2_code
def y_Kinds_tell : MethodName := ⟨R_Kinds, "tell", "(IIII)Z"⟩
theorem d_Kinds_tell_0 : decode b_Kinds_tell 0 = .ok (.aload_n 0, 1) := by decide +kernel
theorem d_Kinds_tell_1 : decode b_Kinds_tell 1 = .ok (.getfield 24, 3) := by decide +kernel
theorem d_Kinds_tell_4 : decode b_Kinds_tell 4 = .ok (.sipush 256, 3) := by decide +kernel
theorem d_Kinds_tell_7 : decode b_Kinds_tell 7 = .ok (.if_icmp .lt 5, 3) := by decide +kernel
theorem d_Kinds_tell_10 : decode b_Kinds_tell 10 = .ok (.iconst 0, 1) := by decide +kernel
theorem d_Kinds_tell_11 : decode b_Kinds_tell 11 = .ok (.ireturn, 1) := by decide +kernel
theorem d_Kinds_tell_12 : decode b_Kinds_tell 12 = .ok (.aload_n 0, 1) := by decide +kernel
theorem d_Kinds_tell_13 : decode b_Kinds_tell 13 = .ok (.getfield 9, 3) := by decide +kernel
theorem d_Kinds_tell_16 : decode b_Kinds_tell 16 = .ok (.aload_n 0, 1) := by decide +kernel
theorem d_Kinds_tell_17 : decode b_Kinds_tell 17 = .ok (.getfield 24, 3) := by decide +kernel
theorem d_Kinds_tell_20 : decode b_Kinds_tell 20 = .ok (.iload_n 1, 1) := by decide +kernel
theorem d_Kinds_tell_21 : decode b_Kinds_tell 21 = .ok (.iastore, 1) := by decide +kernel
theorem d_Kinds_tell_22 : decode b_Kinds_tell 22 = .ok (.aload_n 0, 1) := by decide +kernel
theorem d_Kinds_tell_23 : decode b_Kinds_tell 23 = .ok (.getfield 15, 3) := by decide +kernel
theorem d_Kinds_tell_26 : decode b_Kinds_tell 26 = .ok (.aload_n 0, 1) := by decide +kernel
theorem d_Kinds_tell_27 : decode b_Kinds_tell 27 = .ok (.getfield 24, 3) := by decide +kernel
theorem d_Kinds_tell_30 : decode b_Kinds_tell 30 = .ok (.iload_n 2, 1) := by decide +kernel
theorem d_Kinds_tell_31 : decode b_Kinds_tell 31 = .ok (.iastore, 1) := by decide +kernel
theorem d_Kinds_tell_32 : decode b_Kinds_tell 32 = .ok (.aload_n 0, 1) := by decide +kernel
theorem d_Kinds_tell_33 : decode b_Kinds_tell 33 = .ok (.getfield 18, 3) := by decide +kernel
theorem d_Kinds_tell_36 : decode b_Kinds_tell 36 = .ok (.aload_n 0, 1) := by decide +kernel
theorem d_Kinds_tell_37 : decode b_Kinds_tell 37 = .ok (.getfield 24, 3) := by decide +kernel
theorem d_Kinds_tell_40 : decode b_Kinds_tell 40 = .ok (.iload_n 3, 1) := by decide +kernel
theorem d_Kinds_tell_41 : decode b_Kinds_tell 41 = .ok (.iastore, 1) := by decide +kernel
theorem d_Kinds_tell_42 : decode b_Kinds_tell 42 = .ok (.aload_n 0, 1) := by decide +kernel
theorem d_Kinds_tell_43 : decode b_Kinds_tell 43 = .ok (.getfield 21, 3) := by decide +kernel
theorem d_Kinds_tell_46 : decode b_Kinds_tell 46 = .ok (.aload_n 0, 1) := by decide +kernel
theorem d_Kinds_tell_47 : decode b_Kinds_tell 47 = .ok (.getfield 24, 3) := by decide +kernel
theorem d_Kinds_tell_50 : decode b_Kinds_tell 50 = .ok (.iload 4, 2) := by decide +kernel
theorem d_Kinds_tell_52 : decode b_Kinds_tell 52 = .ok (.iastore, 1) := by decide +kernel
theorem d_Kinds_tell_53 : decode b_Kinds_tell 53 = .ok (.aload_n 0, 1) := by decide +kernel
theorem d_Kinds_tell_54 : decode b_Kinds_tell 54 = .ok (.dup, 1) := by decide +kernel
theorem d_Kinds_tell_55 : decode b_Kinds_tell 55 = .ok (.getfield 24, 3) := by decide +kernel
theorem d_Kinds_tell_58 : decode b_Kinds_tell 58 = .ok (.iconst 1, 1) := by decide +kernel
theorem d_Kinds_tell_59 : decode b_Kinds_tell 59 = .ok (.iadd, 1) := by decide +kernel
theorem d_Kinds_tell_60 : decode b_Kinds_tell 60 = .ok (.putfield 24, 3) := by decide +kernel
theorem d_Kinds_tell_63 : decode b_Kinds_tell 63 = .ok (.iconst 1, 1) := by decide +kernel
theorem d_Kinds_tell_64 : decode b_Kinds_tell 64 = .ok (.ireturn, 1) := by decide +kernel
abbrev b_Kinds_drop : ByteArray := prog_4_method_3_code
def y_Kinds_drop : MethodName := ⟨R_Kinds, "drop", "()I"⟩
theorem d_Kinds_drop_0 : decode b_Kinds_drop 0 = .ok (.aload_n 0, 1) := by decide +kernel
theorem d_Kinds_drop_1 : decode b_Kinds_drop 1 = .ok (.getfield 24, 3) := by decide +kernel
theorem d_Kinds_drop_4 : decode b_Kinds_drop 4 = .ok (.istore_n 1, 1) := by decide +kernel
theorem d_Kinds_drop_5 : decode b_Kinds_drop 5 = .ok (.aload_n 0, 1) := by decide +kernel
theorem d_Kinds_drop_6 : decode b_Kinds_drop 6 = .ok (.iconst 0, 1) := by decide +kernel
theorem d_Kinds_drop_7 : decode b_Kinds_drop 7 = .ok (.putfield 24, 3) := by decide +kernel
theorem d_Kinds_drop_10 : decode b_Kinds_drop 10 = .ok (.iload_n 1, 1) := by decide +kernel
theorem d_Kinds_drop_11 : decode b_Kinds_drop 11 = .ok (.ireturn, 1) := by decide +kernel
abbrev b_Kinds_rangeOf : ByteArray := prog_4_method_4_code
def y_Kinds_rangeOf : MethodName := ⟨R_Kinds, "rangeOf", "(I)I"⟩
theorem d_Kinds_rangeOf_0 : decode b_Kinds_rangeOf 0 = .ok (.aload_n 0, 1) := by decide +kernel
theorem d_Kinds_rangeOf_1 : decode b_Kinds_rangeOf 1 = .ok (.getfield 24, 3) := by decide +kernel
theorem d_Kinds_rangeOf_4 : decode b_Kinds_rangeOf 4 = .ok (.iconst 1, 1) := by decide +kernel
theorem d_Kinds_rangeOf_5 : decode b_Kinds_rangeOf 5 = .ok (.isub, 1) := by decide +kernel
theorem d_Kinds_rangeOf_6 : decode b_Kinds_rangeOf 6 = .ok (.istore_n 2, 1) := by decide +kernel
theorem d_Kinds_rangeOf_7 : decode b_Kinds_rangeOf 7 = .ok (.iload_n 2, 1) := by decide +kernel
theorem d_Kinds_rangeOf_8 : decode b_Kinds_rangeOf 8 = .ok (.ifCond .lt 31, 3) := by decide +kernel
theorem d_Kinds_rangeOf_11 : decode b_Kinds_rangeOf 11 = .ok (.iload_n 1, 1) := by decide +kernel
theorem d_Kinds_rangeOf_12 : decode b_Kinds_rangeOf 12 = .ok (.aload_n 0, 1) := by decide +kernel
theorem d_Kinds_rangeOf_13 : decode b_Kinds_rangeOf 13 = .ok (.getfield 9, 3) := by decide +kernel
theorem d_Kinds_rangeOf_16 : decode b_Kinds_rangeOf 16 = .ok (.iload_n 2, 1) := by decide +kernel
theorem d_Kinds_rangeOf_17 : decode b_Kinds_rangeOf 17 = .ok (.iaload, 1) := by decide +kernel
theorem d_Kinds_rangeOf_18 : decode b_Kinds_rangeOf 18 = .ok (.if_icmp .lt 15, 3) := by decide +kernel
theorem d_Kinds_rangeOf_21 : decode b_Kinds_rangeOf 21 = .ok (.iload_n 1, 1) := by decide +kernel
theorem d_Kinds_rangeOf_22 : decode b_Kinds_rangeOf 22 = .ok (.aload_n 0, 1) := by decide +kernel
theorem d_Kinds_rangeOf_23 : decode b_Kinds_rangeOf 23 = .ok (.getfield 15, 3) := by decide +kernel
theorem d_Kinds_rangeOf_26 : decode b_Kinds_rangeOf 26 = .ok (.iload_n 2, 1) := by decide +kernel
theorem d_Kinds_rangeOf_27 : decode b_Kinds_rangeOf 27 = .ok (.iaload, 1) := by decide +kernel
theorem d_Kinds_rangeOf_28 : decode b_Kinds_rangeOf 28 = .ok (.if_icmp .gt 5, 3) := by decide +kernel
theorem d_Kinds_rangeOf_31 : decode b_Kinds_rangeOf 31 = .ok (.iload_n 2, 1) := by decide +kernel
theorem d_Kinds_rangeOf_32 : decode b_Kinds_rangeOf 32 = .ok (.ireturn, 1) := by decide +kernel
theorem d_Kinds_rangeOf_33 : decode b_Kinds_rangeOf 33 = .ok (.iinc 2 (-1), 3) := by decide +kernel
theorem d_Kinds_rangeOf_36 : decode b_Kinds_rangeOf 36 = .ok (.goto (-29), 3) := by decide +kernel
theorem d_Kinds_rangeOf_39 : decode b_Kinds_rangeOf 39 = .ok (.iconst (-1), 1) := by decide +kernel
theorem d_Kinds_rangeOf_40 : decode b_Kinds_rangeOf 40 = .ok (.ireturn, 1) := by decide +kernel
abbrev b_Tags_find : ByteArray := prog_9_method_4_code
def y_Tags_find : MethodName := ⟨R_Tags, "find", "(I)I"⟩
theorem d_Tags_find_0 : decode b_Tags_find 0 = .ok (.iconst 0, 1) := by decide +kernel
theorem d_Tags_find_1 : decode b_Tags_find 1 = .ok (.istore_n 2, 1) := by decide +kernel
theorem d_Tags_find_2 : decode b_Tags_find 2 = .ok (.iload_n 2, 1) := by decide +kernel
theorem d_Tags_find_3 : decode b_Tags_find 3 = .ok (.aload_n 0, 1) := by decide +kernel
theorem d_Tags_find_4 : decode b_Tags_find 4 = .ok (.getfield 23, 3) := by decide +kernel
theorem d_Tags_find_7 : decode b_Tags_find 7 = .ok (.if_icmp .ge 21, 3) := by decide +kernel
theorem d_Tags_find_10 : decode b_Tags_find 10 = .ok (.aload_n 0, 1) := by decide +kernel
theorem d_Tags_find_11 : decode b_Tags_find 11 = .ok (.getfield 9, 3) := by decide +kernel
theorem d_Tags_find_14 : decode b_Tags_find 14 = .ok (.iload_n 2, 1) := by decide +kernel
theorem d_Tags_find_15 : decode b_Tags_find 15 = .ok (.iaload, 1) := by decide +kernel
theorem d_Tags_find_16 : decode b_Tags_find 16 = .ok (.iload_n 1, 1) := by decide +kernel
theorem d_Tags_find_17 : decode b_Tags_find 17 = .ok (.if_icmp .ne 5, 3) := by decide +kernel
theorem d_Tags_find_20 : decode b_Tags_find 20 = .ok (.iload_n 2, 1) := by decide +kernel
theorem d_Tags_find_21 : decode b_Tags_find 21 = .ok (.ireturn, 1) := by decide +kernel
theorem d_Tags_find_22 : decode b_Tags_find 22 = .ok (.iinc 2 1, 3) := by decide +kernel
theorem d_Tags_find_25 : decode b_Tags_find 25 = .ok (.goto (-23), 3) := by decide +kernel
theorem d_Tags_find_28 : decode b_Tags_find 28 = .ok (.iconst (-1), 1) := by decide +kernel
theorem d_Tags_find_29 : decode b_Tags_find 29 = .ok (.ireturn, 1) := by decide +kernel
abbrev b_Tags_tell : ByteArray := prog_9_method_2_code
def y_Tags_tell : MethodName := ⟨R_Tags, "tell", "(IZ)Z"⟩
theorem d_Tags_tell_0 : decode b_Tags_tell 0 = .ok (.aload_n 0, 1) := by decide +kernel
theorem d_Tags_tell_1 : decode b_Tags_tell 1 = .ok (.iload_n 1, 1) := by decide +kernel
theorem d_Tags_tell_2 : decode b_Tags_tell 2 = .ok (.invokevirtual 19, 3) := by decide +kernel
theorem d_Tags_tell_5 : decode b_Tags_tell 5 = .ok (.istore_n 3, 1) := by decide +kernel
theorem d_Tags_tell_6 : decode b_Tags_tell 6 = .ok (.iload_n 3, 1) := by decide +kernel
theorem d_Tags_tell_7 : decode b_Tags_tell 7 = .ok (.iconst (-1), 1) := by decide +kernel
theorem d_Tags_tell_8 : decode b_Tags_tell 8 = .ok (.if_icmp .ne 29, 3) := by decide +kernel
theorem d_Tags_tell_11 : decode b_Tags_tell 11 = .ok (.aload_n 0, 1) := by decide +kernel
theorem d_Tags_tell_12 : decode b_Tags_tell 12 = .ok (.getfield 23, 3) := by decide +kernel
theorem d_Tags_tell_15 : decode b_Tags_tell 15 = .ok (.bipush 20, 2) := by decide +kernel
theorem d_Tags_tell_17 : decode b_Tags_tell 17 = .ok (.if_icmp .lt 5, 3) := by decide +kernel
theorem d_Tags_tell_20 : decode b_Tags_tell 20 = .ok (.iconst 0, 1) := by decide +kernel
theorem d_Tags_tell_21 : decode b_Tags_tell 21 = .ok (.ireturn, 1) := by decide +kernel
theorem d_Tags_tell_22 : decode b_Tags_tell 22 = .ok (.aload_n 0, 1) := by decide +kernel
theorem d_Tags_tell_23 : decode b_Tags_tell 23 = .ok (.getfield 23, 3) := by decide +kernel
theorem d_Tags_tell_26 : decode b_Tags_tell 26 = .ok (.istore_n 3, 1) := by decide +kernel
theorem d_Tags_tell_27 : decode b_Tags_tell 27 = .ok (.aload_n 0, 1) := by decide +kernel
theorem d_Tags_tell_28 : decode b_Tags_tell 28 = .ok (.dup, 1) := by decide +kernel
theorem d_Tags_tell_29 : decode b_Tags_tell 29 = .ok (.getfield 23, 3) := by decide +kernel
theorem d_Tags_tell_32 : decode b_Tags_tell 32 = .ok (.iconst 1, 1) := by decide +kernel
theorem d_Tags_tell_33 : decode b_Tags_tell 33 = .ok (.iadd, 1) := by decide +kernel
theorem d_Tags_tell_34 : decode b_Tags_tell 34 = .ok (.putfield 23, 3) := by decide +kernel
theorem d_Tags_tell_37 : decode b_Tags_tell 37 = .ok (.aload_n 0, 1) := by decide +kernel
theorem d_Tags_tell_38 : decode b_Tags_tell 38 = .ok (.getfield 9, 3) := by decide +kernel
theorem d_Tags_tell_41 : decode b_Tags_tell 41 = .ok (.iload_n 3, 1) := by decide +kernel
theorem d_Tags_tell_42 : decode b_Tags_tell 42 = .ok (.iload_n 1, 1) := by decide +kernel
theorem d_Tags_tell_43 : decode b_Tags_tell 43 = .ok (.iastore, 1) := by decide +kernel
theorem d_Tags_tell_44 : decode b_Tags_tell 44 = .ok (.aload_n 0, 1) := by decide +kernel
theorem d_Tags_tell_45 : decode b_Tags_tell 45 = .ok (.getfield 15, 3) := by decide +kernel
theorem d_Tags_tell_48 : decode b_Tags_tell 48 = .ok (.iload_n 3, 1) := by decide +kernel
theorem d_Tags_tell_49 : decode b_Tags_tell 49 = .ok (.iload_n 2, 1) := by decide +kernel
theorem d_Tags_tell_50 : decode b_Tags_tell 50 = .ok (.bastore, 1) := by decide +kernel
theorem d_Tags_tell_51 : decode b_Tags_tell 51 = .ok (.iconst 1, 1) := by decide +kernel
theorem d_Tags_tell_52 : decode b_Tags_tell 52 = .ok (.ireturn, 1) := by decide +kernel
abbrev b_Tags_isOn : ByteArray := prog_9_method_3_code
def y_Tags_isOn : MethodName := ⟨R_Tags, "isOn", "(I)Z"⟩
theorem d_Tags_isOn_0 : decode b_Tags_isOn 0 = .ok (.aload_n 0, 1) := by decide +kernel
theorem d_Tags_isOn_1 : decode b_Tags_isOn 1 = .ok (.iload_n 1, 1) := by decide +kernel
theorem d_Tags_isOn_2 : decode b_Tags_isOn 2 = .ok (.invokevirtual 19, 3) := by decide +kernel
theorem d_Tags_isOn_5 : decode b_Tags_isOn 5 = .ok (.istore_n 2, 1) := by decide +kernel
theorem d_Tags_isOn_6 : decode b_Tags_isOn 6 = .ok (.iload_n 2, 1) := by decide +kernel
theorem d_Tags_isOn_7 : decode b_Tags_isOn 7 = .ok (.iconst (-1), 1) := by decide +kernel
theorem d_Tags_isOn_8 : decode b_Tags_isOn 8 = .ok (.if_icmp .eq 16, 3) := by decide +kernel
theorem d_Tags_isOn_11 : decode b_Tags_isOn 11 = .ok (.aload_n 0, 1) := by decide +kernel
theorem d_Tags_isOn_12 : decode b_Tags_isOn 12 = .ok (.getfield 15, 3) := by decide +kernel
theorem d_Tags_isOn_15 : decode b_Tags_isOn 15 = .ok (.iload_n 2, 1) := by decide +kernel
theorem d_Tags_isOn_16 : decode b_Tags_isOn 16 = .ok (.baload, 1) := by decide +kernel
theorem d_Tags_isOn_17 : decode b_Tags_isOn 17 = .ok (.ifCond .eq 7, 3) := by decide +kernel
theorem d_Tags_isOn_20 : decode b_Tags_isOn 20 = .ok (.iconst 1, 1) := by decide +kernel
theorem d_Tags_isOn_21 : decode b_Tags_isOn 21 = .ok (.goto 4, 3) := by decide +kernel
theorem d_Tags_isOn_24 : decode b_Tags_isOn 24 = .ok (.iconst 0, 1) := by decide +kernel
theorem d_Tags_isOn_25 : decode b_Tags_isOn 25 = .ok (.ireturn, 1) := by decide +kernel
abbrev b_Told_append : ByteArray := prog_10_method_2_code
def y_Told_append : MethodName := ⟨R_Told, "append", "(III)Z"⟩
theorem d_Told_append_0 : decode b_Told_append 0 = .ok (.aload_n 0, 1) := by decide +kernel
theorem d_Told_append_1 : decode b_Told_append 1 = .ok (.getfield 21, 3) := by decide +kernel
theorem d_Told_append_4 : decode b_Told_append 4 = .ok (.sipush 800, 3) := by decide +kernel
theorem d_Told_append_7 : decode b_Told_append 7 = .ok (.if_icmp .lt 5, 3) := by decide +kernel
theorem d_Told_append_10 : decode b_Told_append 10 = .ok (.iconst 0, 1) := by decide +kernel
theorem d_Told_append_11 : decode b_Told_append 11 = .ok (.ireturn, 1) := by decide +kernel
theorem d_Told_append_12 : decode b_Told_append 12 = .ok (.aload_n 0, 1) := by decide +kernel
theorem d_Told_append_13 : decode b_Told_append 13 = .ok (.getfield 9, 3) := by decide +kernel
theorem d_Told_append_16 : decode b_Told_append 16 = .ok (.aload_n 0, 1) := by decide +kernel
theorem d_Told_append_17 : decode b_Told_append 17 = .ok (.getfield 21, 3) := by decide +kernel
theorem d_Told_append_20 : decode b_Told_append 20 = .ok (.iload_n 1, 1) := by decide +kernel
theorem d_Told_append_21 : decode b_Told_append 21 = .ok (.iastore, 1) := by decide +kernel
theorem d_Told_append_22 : decode b_Told_append 22 = .ok (.aload_n 0, 1) := by decide +kernel
theorem d_Told_append_23 : decode b_Told_append 23 = .ok (.getfield 15, 3) := by decide +kernel
theorem d_Told_append_26 : decode b_Told_append 26 = .ok (.aload_n 0, 1) := by decide +kernel
theorem d_Told_append_27 : decode b_Told_append 27 = .ok (.getfield 21, 3) := by decide +kernel
theorem d_Told_append_30 : decode b_Told_append 30 = .ok (.iload_n 2, 1) := by decide +kernel
theorem d_Told_append_31 : decode b_Told_append 31 = .ok (.iastore, 1) := by decide +kernel
theorem d_Told_append_32 : decode b_Told_append 32 = .ok (.aload_n 0, 1) := by decide +kernel
theorem d_Told_append_33 : decode b_Told_append 33 = .ok (.getfield 18, 3) := by decide +kernel
theorem d_Told_append_36 : decode b_Told_append 36 = .ok (.aload_n 0, 1) := by decide +kernel
theorem d_Told_append_37 : decode b_Told_append 37 = .ok (.getfield 21, 3) := by decide +kernel
theorem d_Told_append_40 : decode b_Told_append 40 = .ok (.iload_n 3, 1) := by decide +kernel
theorem d_Told_append_41 : decode b_Told_append 41 = .ok (.iastore, 1) := by decide +kernel
theorem d_Told_append_42 : decode b_Told_append 42 = .ok (.aload_n 0, 1) := by decide +kernel
theorem d_Told_append_43 : decode b_Told_append 43 = .ok (.dup, 1) := by decide +kernel
theorem d_Told_append_44 : decode b_Told_append 44 = .ok (.getfield 21, 3) := by decide +kernel
theorem d_Told_append_47 : decode b_Told_append 47 = .ok (.iconst 1, 1) := by decide +kernel
theorem d_Told_append_48 : decode b_Told_append 48 = .ok (.iadd, 1) := by decide +kernel
theorem d_Told_append_49 : decode b_Told_append 49 = .ok (.putfield 21, 3) := by decide +kernel
theorem d_Told_append_52 : decode b_Told_append 52 = .ok (.iconst 1, 1) := by decide +kernel
theorem d_Told_append_53 : decode b_Told_append 53 = .ok (.ireturn, 1) := by decide +kernel
abbrev b_Told_drop : ByteArray := prog_10_method_3_code
def y_Told_drop : MethodName := ⟨R_Told, "drop", "()I"⟩
theorem d_Told_drop_0 : decode b_Told_drop 0 = .ok (.aload_n 0, 1) := by decide +kernel
theorem d_Told_drop_1 : decode b_Told_drop 1 = .ok (.getfield 21, 3) := by decide +kernel
theorem d_Told_drop_4 : decode b_Told_drop 4 = .ok (.istore_n 1, 1) := by decide +kernel
theorem d_Told_drop_5 : decode b_Told_drop 5 = .ok (.aload_n 0, 1) := by decide +kernel
theorem d_Told_drop_6 : decode b_Told_drop 6 = .ok (.iconst 0, 1) := by decide +kernel
theorem d_Told_drop_7 : decode b_Told_drop 7 = .ok (.putfield 21, 3) := by decide +kernel
theorem d_Told_drop_10 : decode b_Told_drop 10 = .ok (.iload_n 1, 1) := by decide +kernel
theorem d_Told_drop_11 : decode b_Told_drop 11 = .ok (.ireturn, 1) := by decide +kernel
abbrev b_Choice_placeByTag : ByteArray := prog_2_method_4_code
def y_Choice_placeByTag : MethodName := ⟨R_Choice, "placeByTag", "(II)I"⟩
theorem d_Choice_placeByTag_0 : decode b_Choice_placeByTag 0 = .ok (.aload_n 0, 1) := by decide +kernel
theorem d_Choice_placeByTag_1 : decode b_Choice_placeByTag 1 = .ok (.getfield 15, 3) := by decide +kernel
theorem d_Choice_placeByTag_4 : decode b_Choice_placeByTag 4 = .ok (.iload_n 1, 1) := by decide +kernel
theorem d_Choice_placeByTag_5 : decode b_Choice_placeByTag 5 = .ok (.invokevirtual 27, 3) := by decide +kernel
theorem d_Choice_placeByTag_8 : decode b_Choice_placeByTag 8 = .ok (.istore_n 3, 1) := by decide +kernel
theorem d_Choice_placeByTag_9 : decode b_Choice_placeByTag 9 = .ok (.iconst 0, 1) := by decide +kernel
theorem d_Choice_placeByTag_10 : decode b_Choice_placeByTag 10 = .ok (.istore 4, 2) := by decide +kernel
theorem d_Choice_placeByTag_12 : decode b_Choice_placeByTag 12 = .ok (.iload 4, 2) := by decide +kernel
theorem d_Choice_placeByTag_14 : decode b_Choice_placeByTag 14 = .ok (.iload_n 3, 1) := by decide +kernel
theorem d_Choice_placeByTag_15 : decode b_Choice_placeByTag 15 = .ok (.if_icmp .ge 47, 3) := by decide +kernel
theorem d_Choice_placeByTag_18 : decode b_Choice_placeByTag 18 = .ok (.aload_n 0, 1) := by decide +kernel
theorem d_Choice_placeByTag_19 : decode b_Choice_placeByTag 19 = .ok (.getfield 15, 3) := by decide +kernel
theorem d_Choice_placeByTag_22 : decode b_Choice_placeByTag 22 = .ok (.iload_n 1, 1) := by decide +kernel
theorem d_Choice_placeByTag_23 : decode b_Choice_placeByTag 23 = .ok (.iconst 2, 1) := by decide +kernel
theorem d_Choice_placeByTag_24 : decode b_Choice_placeByTag 24 = .ok (.iadd, 1) := by decide +kernel
theorem d_Choice_placeByTag_25 : decode b_Choice_placeByTag 25 = .ok (.bipush 6, 2) := by decide +kernel
theorem d_Choice_placeByTag_27 : decode b_Choice_placeByTag 27 = .ok (.iload 4, 2) := by decide +kernel
theorem d_Choice_placeByTag_29 : decode b_Choice_placeByTag 29 = .ok (.imul, 1) := by decide +kernel
theorem d_Choice_placeByTag_30 : decode b_Choice_placeByTag 30 = .ok (.iadd, 1) := by decide +kernel
theorem d_Choice_placeByTag_31 : decode b_Choice_placeByTag 31 = .ok (.invokevirtual 38, 3) := by decide +kernel
theorem d_Choice_placeByTag_34 : decode b_Choice_placeByTag 34 = .ok (.iload_n 2, 1) := by decide +kernel
theorem d_Choice_placeByTag_35 : decode b_Choice_placeByTag 35 = .ok (.if_icmp .ne 21, 3) := by decide +kernel
theorem d_Choice_placeByTag_38 : decode b_Choice_placeByTag 38 = .ok (.aload_n 0, 1) := by decide +kernel
theorem d_Choice_placeByTag_39 : decode b_Choice_placeByTag 39 = .ok (.getfield 15, 3) := by decide +kernel
theorem d_Choice_placeByTag_42 : decode b_Choice_placeByTag 42 = .ok (.iload_n 1, 1) := by decide +kernel
theorem d_Choice_placeByTag_43 : decode b_Choice_placeByTag 43 = .ok (.bipush 6, 2) := by decide +kernel
theorem d_Choice_placeByTag_45 : decode b_Choice_placeByTag 45 = .ok (.iadd, 1) := by decide +kernel
theorem d_Choice_placeByTag_46 : decode b_Choice_placeByTag 46 = .ok (.bipush 6, 2) := by decide +kernel
theorem d_Choice_placeByTag_48 : decode b_Choice_placeByTag 48 = .ok (.iload 4, 2) := by decide +kernel
theorem d_Choice_placeByTag_50 : decode b_Choice_placeByTag 50 = .ok (.imul, 1) := by decide +kernel
theorem d_Choice_placeByTag_51 : decode b_Choice_placeByTag 51 = .ok (.iadd, 1) := by decide +kernel
theorem d_Choice_placeByTag_52 : decode b_Choice_placeByTag 52 = .ok (.invokevirtual 27, 3) := by decide +kernel
theorem d_Choice_placeByTag_55 : decode b_Choice_placeByTag 55 = .ok (.ireturn, 1) := by decide +kernel
theorem d_Choice_placeByTag_56 : decode b_Choice_placeByTag 56 = .ok (.iinc 4 1, 3) := by decide +kernel
theorem d_Choice_placeByTag_59 : decode b_Choice_placeByTag 59 = .ok (.goto (-47), 3) := by decide +kernel
theorem d_Choice_placeByTag_62 : decode b_Choice_placeByTag 62 = .ok (.iconst (-1), 1) := by decide +kernel
theorem d_Choice_placeByTag_63 : decode b_Choice_placeByTag 63 = .ok (.ireturn, 1) := by decide +kernel
abbrev b_Choice_languageAt : ByteArray := prog_2_method_3_code
def y_Choice_languageAt : MethodName := ⟨R_Choice, "languageAt", "(II)I"⟩
theorem d_Choice_languageAt_0 : decode b_Choice_languageAt 0 = .ok (.aload_n 0, 1) := by decide +kernel
theorem d_Choice_languageAt_1 : decode b_Choice_languageAt 1 = .ok (.getfield 15, 3) := by decide +kernel
theorem d_Choice_languageAt_4 : decode b_Choice_languageAt 4 = .ok (.iconst 4, 1) := by decide +kernel
theorem d_Choice_languageAt_5 : decode b_Choice_languageAt 5 = .ok (.invokevirtual 27, 3) := by decide +kernel
theorem d_Choice_languageAt_8 : decode b_Choice_languageAt 8 = .ok (.istore_n 3, 1) := by decide +kernel
theorem d_Choice_languageAt_9 : decode b_Choice_languageAt 9 = .ok (.aload_n 0, 1) := by decide +kernel
theorem d_Choice_languageAt_10 : decode b_Choice_languageAt 10 = .ok (.iload_n 3, 1) := by decide +kernel
theorem d_Choice_languageAt_11 : decode b_Choice_languageAt 11 = .ok (.iload_n 1, 1) := by decide +kernel
theorem d_Choice_languageAt_12 : decode b_Choice_languageAt 12 = .ok (.invokevirtual 47, 3) := by decide +kernel
theorem d_Choice_languageAt_15 : decode b_Choice_languageAt 15 = .ok (.istore 4, 2) := by decide +kernel
theorem d_Choice_languageAt_17 : decode b_Choice_languageAt 17 = .ok (.iload 4, 2) := by decide +kernel
theorem d_Choice_languageAt_19 : decode b_Choice_languageAt 19 = .ok (.iconst (-1), 1) := by decide +kernel
theorem d_Choice_languageAt_20 : decode b_Choice_languageAt 20 = .ok (.if_icmp .ne 12, 3) := by decide +kernel
theorem d_Choice_languageAt_23 : decode b_Choice_languageAt 23 = .ok (.aload_n 0, 1) := by decide +kernel
theorem d_Choice_languageAt_24 : decode b_Choice_languageAt 24 = .ok (.iload_n 3, 1) := by decide +kernel
theorem d_Choice_languageAt_25 : decode b_Choice_languageAt 25 = .ok (.ldc 50, 2) := by decide +kernel
theorem d_Choice_languageAt_27 : decode b_Choice_languageAt 27 = .ok (.invokevirtual 47, 3) := by decide +kernel
theorem d_Choice_languageAt_30 : decode b_Choice_languageAt 30 = .ok (.istore 4, 2) := by decide +kernel
theorem d_Choice_languageAt_32 : decode b_Choice_languageAt 32 = .ok (.iload 4, 2) := by decide +kernel
theorem d_Choice_languageAt_34 : decode b_Choice_languageAt 34 = .ok (.iconst (-1), 1) := by decide +kernel
theorem d_Choice_languageAt_35 : decode b_Choice_languageAt 35 = .ok (.if_icmp .ne 5, 3) := by decide +kernel
theorem d_Choice_languageAt_38 : decode b_Choice_languageAt 38 = .ok (.iconst (-1), 1) := by decide +kernel
theorem d_Choice_languageAt_39 : decode b_Choice_languageAt 39 = .ok (.ireturn, 1) := by decide +kernel
theorem d_Choice_languageAt_40 : decode b_Choice_languageAt 40 = .ok (.iload_n 3, 1) := by decide +kernel
theorem d_Choice_languageAt_41 : decode b_Choice_languageAt 41 = .ok (.iload 4, 2) := by decide +kernel
theorem d_Choice_languageAt_43 : decode b_Choice_languageAt 43 = .ok (.iadd, 1) := by decide +kernel
theorem d_Choice_languageAt_44 : decode b_Choice_languageAt 44 = .ok (.istore 5, 2) := by decide +kernel
theorem d_Choice_languageAt_46 : decode b_Choice_languageAt 46 = .ok (.aload_n 0, 1) := by decide +kernel
theorem d_Choice_languageAt_47 : decode b_Choice_languageAt 47 = .ok (.iload 5, 2) := by decide +kernel
theorem d_Choice_languageAt_49 : decode b_Choice_languageAt 49 = .ok (.iconst 2, 1) := by decide +kernel
theorem d_Choice_languageAt_50 : decode b_Choice_languageAt 50 = .ok (.iadd, 1) := by decide +kernel
theorem d_Choice_languageAt_51 : decode b_Choice_languageAt 51 = .ok (.iload_n 2, 1) := by decide +kernel
theorem d_Choice_languageAt_52 : decode b_Choice_languageAt 52 = .ok (.invokevirtual 47, 3) := by decide +kernel
theorem d_Choice_languageAt_55 : decode b_Choice_languageAt 55 = .ok (.istore 4, 2) := by decide +kernel
theorem d_Choice_languageAt_57 : decode b_Choice_languageAt 57 = .ok (.iload 4, 2) := by decide +kernel
theorem d_Choice_languageAt_59 : decode b_Choice_languageAt 59 = .ok (.iconst (-1), 1) := by decide +kernel
theorem d_Choice_languageAt_60 : decode b_Choice_languageAt 60 = .ok (.if_icmp .eq 9, 3) := by decide +kernel
theorem d_Choice_languageAt_63 : decode b_Choice_languageAt 63 = .ok (.iload 5, 2) := by decide +kernel
theorem d_Choice_languageAt_65 : decode b_Choice_languageAt 65 = .ok (.iload 4, 2) := by decide +kernel
theorem d_Choice_languageAt_67 : decode b_Choice_languageAt 67 = .ok (.iadd, 1) := by decide +kernel
theorem d_Choice_languageAt_68 : decode b_Choice_languageAt 68 = .ok (.ireturn, 1) := by decide +kernel
theorem d_Choice_languageAt_69 : decode b_Choice_languageAt 69 = .ok (.aload_n 0, 1) := by decide +kernel
theorem d_Choice_languageAt_70 : decode b_Choice_languageAt 70 = .ok (.getfield 15, 3) := by decide +kernel
theorem d_Choice_languageAt_73 : decode b_Choice_languageAt 73 = .ok (.iload 5, 2) := by decide +kernel
theorem d_Choice_languageAt_75 : decode b_Choice_languageAt 75 = .ok (.invokevirtual 27, 3) := by decide +kernel
theorem d_Choice_languageAt_78 : decode b_Choice_languageAt 78 = .ok (.istore 6, 2) := by decide +kernel
theorem d_Choice_languageAt_80 : decode b_Choice_languageAt 80 = .ok (.iload 6, 2) := by decide +kernel
theorem d_Choice_languageAt_82 : decode b_Choice_languageAt 82 = .ok (.ifCond .ne 7, 3) := by decide +kernel
theorem d_Choice_languageAt_85 : decode b_Choice_languageAt 85 = .ok (.iconst (-1), 1) := by decide +kernel
theorem d_Choice_languageAt_86 : decode b_Choice_languageAt 86 = .ok (.goto 8, 3) := by decide +kernel
theorem d_Choice_languageAt_89 : decode b_Choice_languageAt 89 = .ok (.iload 5, 2) := by decide +kernel
theorem d_Choice_languageAt_91 : decode b_Choice_languageAt 91 = .ok (.iload 6, 2) := by decide +kernel
theorem d_Choice_languageAt_93 : decode b_Choice_languageAt 93 = .ok (.iadd, 1) := by decide +kernel
theorem d_Choice_languageAt_94 : decode b_Choice_languageAt 94 = .ok (.ireturn, 1) := by decide +kernel
abbrev b_Choice_wantLookupsOf : ByteArray := prog_2_method_5_code
def y_Choice_wantLookupsOf : MethodName := ⟨R_Choice, "wantLookupsOf", "(I)V"⟩
theorem d_Choice_wantLookupsOf_0 : decode b_Choice_wantLookupsOf 0 = .ok (.aload_n 0, 1) := by decide +kernel
theorem d_Choice_wantLookupsOf_1 : decode b_Choice_wantLookupsOf 1 = .ok (.getfield 15, 3) := by decide +kernel
theorem d_Choice_wantLookupsOf_4 : decode b_Choice_wantLookupsOf 4 = .ok (.bipush 6, 2) := by decide +kernel
theorem d_Choice_wantLookupsOf_6 : decode b_Choice_wantLookupsOf 6 = .ok (.invokevirtual 27, 3) := by decide +kernel
theorem d_Choice_wantLookupsOf_9 : decode b_Choice_wantLookupsOf 9 = .ok (.istore_n 2, 1) := by decide +kernel
theorem d_Choice_wantLookupsOf_10 : decode b_Choice_wantLookupsOf 10 = .ok (.iload_n 2, 1) := by decide +kernel
theorem d_Choice_wantLookupsOf_11 : decode b_Choice_wantLookupsOf 11 = .ok (.aload_n 0, 1) := by decide +kernel
theorem d_Choice_wantLookupsOf_12 : decode b_Choice_wantLookupsOf 12 = .ok (.getfield 15, 3) := by decide +kernel
theorem d_Choice_wantLookupsOf_15 : decode b_Choice_wantLookupsOf 15 = .ok (.iload_n 2, 1) := by decide +kernel
theorem d_Choice_wantLookupsOf_16 : decode b_Choice_wantLookupsOf 16 = .ok (.bipush 6, 2) := by decide +kernel
theorem d_Choice_wantLookupsOf_18 : decode b_Choice_wantLookupsOf 18 = .ok (.iadd, 1) := by decide +kernel
theorem d_Choice_wantLookupsOf_19 : decode b_Choice_wantLookupsOf 19 = .ok (.bipush 6, 2) := by decide +kernel
theorem d_Choice_wantLookupsOf_21 : decode b_Choice_wantLookupsOf 21 = .ok (.iload_n 1, 1) := by decide +kernel
theorem d_Choice_wantLookupsOf_22 : decode b_Choice_wantLookupsOf 22 = .ok (.imul, 1) := by decide +kernel
theorem d_Choice_wantLookupsOf_23 : decode b_Choice_wantLookupsOf 23 = .ok (.iadd, 1) := by decide +kernel
theorem d_Choice_wantLookupsOf_24 : decode b_Choice_wantLookupsOf 24 = .ok (.invokevirtual 27, 3) := by decide +kernel
theorem d_Choice_wantLookupsOf_27 : decode b_Choice_wantLookupsOf 27 = .ok (.iadd, 1) := by decide +kernel
theorem d_Choice_wantLookupsOf_28 : decode b_Choice_wantLookupsOf 28 = .ok (.istore_n 3, 1) := by decide +kernel
theorem d_Choice_wantLookupsOf_29 : decode b_Choice_wantLookupsOf 29 = .ok (.aload_n 0, 1) := by decide +kernel
theorem d_Choice_wantLookupsOf_30 : decode b_Choice_wantLookupsOf 30 = .ok (.getfield 15, 3) := by decide +kernel
theorem d_Choice_wantLookupsOf_33 : decode b_Choice_wantLookupsOf 33 = .ok (.iload_n 3, 1) := by decide +kernel
theorem d_Choice_wantLookupsOf_34 : decode b_Choice_wantLookupsOf 34 = .ok (.iconst 2, 1) := by decide +kernel
theorem d_Choice_wantLookupsOf_35 : decode b_Choice_wantLookupsOf 35 = .ok (.iadd, 1) := by decide +kernel
theorem d_Choice_wantLookupsOf_36 : decode b_Choice_wantLookupsOf 36 = .ok (.invokevirtual 27, 3) := by decide +kernel
theorem d_Choice_wantLookupsOf_39 : decode b_Choice_wantLookupsOf 39 = .ok (.istore 4, 2) := by decide +kernel
theorem d_Choice_wantLookupsOf_41 : decode b_Choice_wantLookupsOf 41 = .ok (.iconst 0, 1) := by decide +kernel
theorem d_Choice_wantLookupsOf_42 : decode b_Choice_wantLookupsOf 42 = .ok (.istore 5, 2) := by decide +kernel
theorem d_Choice_wantLookupsOf_44 : decode b_Choice_wantLookupsOf 44 = .ok (.iload 5, 2) := by decide +kernel
theorem d_Choice_wantLookupsOf_46 : decode b_Choice_wantLookupsOf 46 = .ok (.iload 4, 2) := by decide +kernel
theorem d_Choice_wantLookupsOf_48 : decode b_Choice_wantLookupsOf 48 = .ok (.if_icmp .ge 41, 3) := by decide +kernel
theorem d_Choice_wantLookupsOf_51 : decode b_Choice_wantLookupsOf 51 = .ok (.aload_n 0, 1) := by decide +kernel
theorem d_Choice_wantLookupsOf_52 : decode b_Choice_wantLookupsOf 52 = .ok (.getfield 15, 3) := by decide +kernel
theorem d_Choice_wantLookupsOf_55 : decode b_Choice_wantLookupsOf 55 = .ok (.iload_n 3, 1) := by decide +kernel
theorem d_Choice_wantLookupsOf_56 : decode b_Choice_wantLookupsOf 56 = .ok (.iconst 4, 1) := by decide +kernel
theorem d_Choice_wantLookupsOf_57 : decode b_Choice_wantLookupsOf 57 = .ok (.iadd, 1) := by decide +kernel
theorem d_Choice_wantLookupsOf_58 : decode b_Choice_wantLookupsOf 58 = .ok (.iconst 2, 1) := by decide +kernel
theorem d_Choice_wantLookupsOf_59 : decode b_Choice_wantLookupsOf 59 = .ok (.iload 5, 2) := by decide +kernel
theorem d_Choice_wantLookupsOf_61 : decode b_Choice_wantLookupsOf 61 = .ok (.imul, 1) := by decide +kernel
theorem d_Choice_wantLookupsOf_62 : decode b_Choice_wantLookupsOf 62 = .ok (.iadd, 1) := by decide +kernel
theorem d_Choice_wantLookupsOf_63 : decode b_Choice_wantLookupsOf 63 = .ok (.invokevirtual 27, 3) := by decide +kernel
theorem d_Choice_wantLookupsOf_66 : decode b_Choice_wantLookupsOf 66 = .ok (.istore 6, 2) := by decide +kernel
theorem d_Choice_wantLookupsOf_68 : decode b_Choice_wantLookupsOf 68 = .ok (.iload 6, 2) := by decide +kernel
theorem d_Choice_wantLookupsOf_70 : decode b_Choice_wantLookupsOf 70 = .ok (.bipush 64, 2) := by decide +kernel
theorem d_Choice_wantLookupsOf_72 : decode b_Choice_wantLookupsOf 72 = .ok (.if_icmp .ge 11, 3) := by decide +kernel
theorem d_Choice_wantLookupsOf_75 : decode b_Choice_wantLookupsOf 75 = .ok (.aload_n 0, 1) := by decide +kernel
theorem d_Choice_wantLookupsOf_76 : decode b_Choice_wantLookupsOf 76 = .ok (.getfield 9, 3) := by decide +kernel
theorem d_Choice_wantLookupsOf_79 : decode b_Choice_wantLookupsOf 79 = .ok (.iload 6, 2) := by decide +kernel
theorem d_Choice_wantLookupsOf_81 : decode b_Choice_wantLookupsOf 81 = .ok (.iconst 1, 1) := by decide +kernel
theorem d_Choice_wantLookupsOf_82 : decode b_Choice_wantLookupsOf 82 = .ok (.bastore, 1) := by decide +kernel
theorem d_Choice_wantLookupsOf_83 : decode b_Choice_wantLookupsOf 83 = .ok (.iinc 5 1, 3) := by decide +kernel
theorem d_Choice_wantLookupsOf_86 : decode b_Choice_wantLookupsOf 86 = .ok (.goto (-42), 3) := by decide +kernel
theorem d_Choice_wantLookupsOf_89 : decode b_Choice_wantLookupsOf 89 = .ok (.return_, 1) := by decide +kernel
abbrev b_Choice_find : ByteArray := prog_2_method_2_code
def y_Choice_find : MethodName := ⟨R_Choice, "find", "(II)V"⟩
theorem d_Choice_find_0 : decode b_Choice_find 0 = .ok (.iconst 0, 1) := by decide +kernel
theorem d_Choice_find_1 : decode b_Choice_find 1 = .ok (.istore_n 3, 1) := by decide +kernel
theorem d_Choice_find_2 : decode b_Choice_find 2 = .ok (.iload_n 3, 1) := by decide +kernel
theorem d_Choice_find_3 : decode b_Choice_find 3 = .ok (.bipush 64, 2) := by decide +kernel
theorem d_Choice_find_5 : decode b_Choice_find 5 = .ok (.if_icmp .ge 16, 3) := by decide +kernel
theorem d_Choice_find_8 : decode b_Choice_find 8 = .ok (.aload_n 0, 1) := by decide +kernel
theorem d_Choice_find_9 : decode b_Choice_find 9 = .ok (.getfield 9, 3) := by decide +kernel
theorem d_Choice_find_12 : decode b_Choice_find 12 = .ok (.iload_n 3, 1) := by decide +kernel
theorem d_Choice_find_13 : decode b_Choice_find 13 = .ok (.iconst 0, 1) := by decide +kernel
theorem d_Choice_find_14 : decode b_Choice_find 14 = .ok (.bastore, 1) := by decide +kernel
theorem d_Choice_find_15 : decode b_Choice_find 15 = .ok (.iinc 3 1, 3) := by decide +kernel
theorem d_Choice_find_18 : decode b_Choice_find 18 = .ok (.goto (-16), 3) := by decide +kernel
theorem d_Choice_find_21 : decode b_Choice_find 21 = .ok (.aload_n 0, 1) := by decide +kernel
theorem d_Choice_find_22 : decode b_Choice_find 22 = .ok (.iload_n 1, 1) := by decide +kernel
theorem d_Choice_find_23 : decode b_Choice_find 23 = .ok (.iload_n 2, 1) := by decide +kernel
theorem d_Choice_find_24 : decode b_Choice_find 24 = .ok (.invokevirtual 23, 3) := by decide +kernel
theorem d_Choice_find_27 : decode b_Choice_find 27 = .ok (.istore_n 3, 1) := by decide +kernel
theorem d_Choice_find_28 : decode b_Choice_find 28 = .ok (.iload_n 3, 1) := by decide +kernel
theorem d_Choice_find_29 : decode b_Choice_find 29 = .ok (.iconst (-1), 1) := by decide +kernel
theorem d_Choice_find_30 : decode b_Choice_find 30 = .ok (.if_icmp .ne 4, 3) := by decide +kernel
theorem d_Choice_find_33 : decode b_Choice_find 33 = .ok (.return_, 1) := by decide +kernel
theorem d_Choice_find_34 : decode b_Choice_find 34 = .ok (.aload_n 0, 1) := by decide +kernel
theorem d_Choice_find_35 : decode b_Choice_find 35 = .ok (.getfield 15, 3) := by decide +kernel
theorem d_Choice_find_38 : decode b_Choice_find 38 = .ok (.iload_n 3, 1) := by decide +kernel
theorem d_Choice_find_39 : decode b_Choice_find 39 = .ok (.iconst 2, 1) := by decide +kernel
theorem d_Choice_find_40 : decode b_Choice_find 40 = .ok (.iadd, 1) := by decide +kernel
theorem d_Choice_find_41 : decode b_Choice_find 41 = .ok (.invokevirtual 27, 3) := by decide +kernel
theorem d_Choice_find_44 : decode b_Choice_find 44 = .ok (.istore 4, 2) := by decide +kernel
theorem d_Choice_find_46 : decode b_Choice_find 46 = .ok (.iload 4, 2) := by decide +kernel
theorem d_Choice_find_48 : decode b_Choice_find 48 = .ok (.ldc 33, 2) := by decide +kernel
theorem d_Choice_find_50 : decode b_Choice_find 50 = .ok (.if_icmp .eq 9, 3) := by decide +kernel
theorem d_Choice_find_53 : decode b_Choice_find 53 = .ok (.aload_n 0, 1) := by decide +kernel
theorem d_Choice_find_54 : decode b_Choice_find 54 = .ok (.iload 4, 2) := by decide +kernel
theorem d_Choice_find_56 : decode b_Choice_find 56 = .ok (.invokevirtual 34, 3) := by decide +kernel
theorem d_Choice_find_59 : decode b_Choice_find 59 = .ok (.aload_n 0, 1) := by decide +kernel
theorem d_Choice_find_60 : decode b_Choice_find 60 = .ok (.getfield 15, 3) := by decide +kernel
theorem d_Choice_find_63 : decode b_Choice_find 63 = .ok (.bipush 6, 2) := by decide +kernel
theorem d_Choice_find_65 : decode b_Choice_find 65 = .ok (.invokevirtual 27, 3) := by decide +kernel
theorem d_Choice_find_68 : decode b_Choice_find 68 = .ok (.istore 5, 2) := by decide +kernel
theorem d_Choice_find_70 : decode b_Choice_find 70 = .ok (.aload_n 0, 1) := by decide +kernel
theorem d_Choice_find_71 : decode b_Choice_find 71 = .ok (.getfield 15, 3) := by decide +kernel
theorem d_Choice_find_74 : decode b_Choice_find 74 = .ok (.iload_n 3, 1) := by decide +kernel
theorem d_Choice_find_75 : decode b_Choice_find 75 = .ok (.iconst 4, 1) := by decide +kernel
theorem d_Choice_find_76 : decode b_Choice_find 76 = .ok (.iadd, 1) := by decide +kernel
theorem d_Choice_find_77 : decode b_Choice_find 77 = .ok (.invokevirtual 27, 3) := by decide +kernel
theorem d_Choice_find_80 : decode b_Choice_find 80 = .ok (.istore 6, 2) := by decide +kernel
theorem d_Choice_find_82 : decode b_Choice_find 82 = .ok (.iconst 0, 1) := by decide +kernel
theorem d_Choice_find_83 : decode b_Choice_find 83 = .ok (.istore 7, 2) := by decide +kernel
theorem d_Choice_find_85 : decode b_Choice_find 85 = .ok (.iload 7, 2) := by decide +kernel
theorem d_Choice_find_87 : decode b_Choice_find 87 = .ok (.iload 6, 2) := by decide +kernel
theorem d_Choice_find_89 : decode b_Choice_find 89 = .ok (.if_icmp .ge 60, 3) := by decide +kernel
theorem d_Choice_find_92 : decode b_Choice_find 92 = .ok (.aload_n 0, 1) := by decide +kernel
theorem d_Choice_find_93 : decode b_Choice_find 93 = .ok (.getfield 15, 3) := by decide +kernel
theorem d_Choice_find_96 : decode b_Choice_find 96 = .ok (.iload_n 3, 1) := by decide +kernel
theorem d_Choice_find_97 : decode b_Choice_find 97 = .ok (.bipush 6, 2) := by decide +kernel
theorem d_Choice_find_99 : decode b_Choice_find 99 = .ok (.iadd, 1) := by decide +kernel
theorem d_Choice_find_100 : decode b_Choice_find 100 = .ok (.iconst 2, 1) := by decide +kernel
theorem d_Choice_find_101 : decode b_Choice_find 101 = .ok (.iload 7, 2) := by decide +kernel
theorem d_Choice_find_103 : decode b_Choice_find 103 = .ok (.imul, 1) := by decide +kernel
theorem d_Choice_find_104 : decode b_Choice_find 104 = .ok (.iadd, 1) := by decide +kernel
theorem d_Choice_find_105 : decode b_Choice_find 105 = .ok (.invokevirtual 27, 3) := by decide +kernel
theorem d_Choice_find_108 : decode b_Choice_find 108 = .ok (.istore 8, 2) := by decide +kernel
theorem d_Choice_find_110 : decode b_Choice_find 110 = .ok (.aload_n 0, 1) := by decide +kernel
theorem d_Choice_find_111 : decode b_Choice_find 111 = .ok (.getfield 19, 3) := by decide +kernel
theorem d_Choice_find_114 : decode b_Choice_find 114 = .ok (.aload_n 0, 1) := by decide +kernel
theorem d_Choice_find_115 : decode b_Choice_find 115 = .ok (.getfield 15, 3) := by decide +kernel
theorem d_Choice_find_118 : decode b_Choice_find 118 = .ok (.iload 5, 2) := by decide +kernel
theorem d_Choice_find_120 : decode b_Choice_find 120 = .ok (.iconst 2, 1) := by decide +kernel
theorem d_Choice_find_121 : decode b_Choice_find 121 = .ok (.iadd, 1) := by decide +kernel
theorem d_Choice_find_122 : decode b_Choice_find 122 = .ok (.bipush 6, 2) := by decide +kernel
theorem d_Choice_find_124 : decode b_Choice_find 124 = .ok (.iload 8, 2) := by decide +kernel
theorem d_Choice_find_126 : decode b_Choice_find 126 = .ok (.imul, 1) := by decide +kernel
theorem d_Choice_find_127 : decode b_Choice_find 127 = .ok (.iadd, 1) := by decide +kernel
theorem d_Choice_find_128 : decode b_Choice_find 128 = .ok (.invokevirtual 38, 3) := by decide +kernel
theorem d_Choice_find_131 : decode b_Choice_find 131 = .ok (.invokevirtual 41, 3) := by decide +kernel
theorem d_Choice_find_134 : decode b_Choice_find 134 = .ok (.ifCond .eq 9, 3) := by decide +kernel
theorem d_Choice_find_137 : decode b_Choice_find 137 = .ok (.aload_n 0, 1) := by decide +kernel
theorem d_Choice_find_138 : decode b_Choice_find 138 = .ok (.iload 8, 2) := by decide +kernel
theorem d_Choice_find_140 : decode b_Choice_find 140 = .ok (.invokevirtual 34, 3) := by decide +kernel
theorem d_Choice_find_143 : decode b_Choice_find 143 = .ok (.iinc 7 1, 3) := by decide +kernel
theorem d_Choice_find_146 : decode b_Choice_find 146 = .ok (.goto (-61), 3) := by decide +kernel
theorem d_Choice_find_149 : decode b_Choice_find 149 = .ok (.return_, 1) := by decide +kernel
abbrev b_Run_start : ByteArray := prog_6_method_2_code
def y_Run_start : MethodName := ⟨R_Run, "start", "(LGlyphPositions$Told;)V"⟩
theorem d_Run_start_0 : decode b_Run_start 0 = .ok (.aload_n 0, 1) := by decide +kernel
theorem d_Run_start_1 : decode b_Run_start 1 = .ok (.aload_n 1, 1) := by decide +kernel
theorem d_Run_start_2 : decode b_Run_start 2 = .ok (.getfield 37, 3) := by decide +kernel
theorem d_Run_start_5 : decode b_Run_start 5 = .ok (.putfield 43, 3) := by decide +kernel
theorem d_Run_start_8 : decode b_Run_start 8 = .ok (.iconst 0, 1) := by decide +kernel
theorem d_Run_start_9 : decode b_Run_start 9 = .ok (.istore_n 2, 1) := by decide +kernel
theorem d_Run_start_10 : decode b_Run_start 10 = .ok (.iload_n 2, 1) := by decide +kernel
theorem d_Run_start_11 : decode b_Run_start 11 = .ok (.aload_n 0, 1) := by decide +kernel
theorem d_Run_start_12 : decode b_Run_start 12 = .ok (.getfield 43, 3) := by decide +kernel
theorem d_Run_start_15 : decode b_Run_start 15 = .ok (.if_icmp .ge 49, 3) := by decide +kernel
theorem d_Run_start_18 : decode b_Run_start 18 = .ok (.aload_n 0, 1) := by decide +kernel
theorem d_Run_start_19 : decode b_Run_start 19 = .ok (.getfield 9, 3) := by decide +kernel
theorem d_Run_start_22 : decode b_Run_start 22 = .ok (.iload_n 2, 1) := by decide +kernel
theorem d_Run_start_23 : decode b_Run_start 23 = .ok (.aload_n 1, 1) := by decide +kernel
theorem d_Run_start_24 : decode b_Run_start 24 = .ok (.getfield 44, 3) := by decide +kernel
theorem d_Run_start_27 : decode b_Run_start 27 = .ok (.iload_n 2, 1) := by decide +kernel
theorem d_Run_start_28 : decode b_Run_start 28 = .ok (.iaload, 1) := by decide +kernel
theorem d_Run_start_29 : decode b_Run_start 29 = .ok (.iastore, 1) := by decide +kernel
theorem d_Run_start_30 : decode b_Run_start 30 = .ok (.aload_n 0, 1) := by decide +kernel
theorem d_Run_start_31 : decode b_Run_start 31 = .ok (.getfield 15, 3) := by decide +kernel
theorem d_Run_start_34 : decode b_Run_start 34 = .ok (.iload_n 2, 1) := by decide +kernel
theorem d_Run_start_35 : decode b_Run_start 35 = .ok (.iconst 0, 1) := by decide +kernel
theorem d_Run_start_36 : decode b_Run_start 36 = .ok (.iastore, 1) := by decide +kernel
theorem d_Run_start_37 : decode b_Run_start 37 = .ok (.aload_n 0, 1) := by decide +kernel
theorem d_Run_start_38 : decode b_Run_start 38 = .ok (.getfield 18, 3) := by decide +kernel
theorem d_Run_start_41 : decode b_Run_start 41 = .ok (.iload_n 2, 1) := by decide +kernel
theorem d_Run_start_42 : decode b_Run_start 42 = .ok (.iconst 0, 1) := by decide +kernel
theorem d_Run_start_43 : decode b_Run_start 43 = .ok (.iastore, 1) := by decide +kernel
theorem d_Run_start_44 : decode b_Run_start 44 = .ok (.aload_n 0, 1) := by decide +kernel
theorem d_Run_start_45 : decode b_Run_start 45 = .ok (.getfield 21, 3) := by decide +kernel
theorem d_Run_start_48 : decode b_Run_start 48 = .ok (.iload_n 2, 1) := by decide +kernel
theorem d_Run_start_49 : decode b_Run_start 49 = .ok (.iconst 0, 1) := by decide +kernel
theorem d_Run_start_50 : decode b_Run_start 50 = .ok (.iastore, 1) := by decide +kernel
theorem d_Run_start_51 : decode b_Run_start 51 = .ok (.aload_n 0, 1) := by decide +kernel
theorem d_Run_start_52 : decode b_Run_start 52 = .ok (.getfield 24, 3) := by decide +kernel
theorem d_Run_start_55 : decode b_Run_start 55 = .ok (.iload_n 2, 1) := by decide +kernel
theorem d_Run_start_56 : decode b_Run_start 56 = .ok (.iconst (-1), 1) := by decide +kernel
theorem d_Run_start_57 : decode b_Run_start 57 = .ok (.iastore, 1) := by decide +kernel
theorem d_Run_start_58 : decode b_Run_start 58 = .ok (.iinc 2 1, 3) := by decide +kernel
theorem d_Run_start_61 : decode b_Run_start 61 = .ok (.goto (-51), 3) := by decide +kernel
theorem d_Run_start_64 : decode b_Run_start 64 = .ok (.return_, 1) := by decide +kernel
abbrev b_Run_goOver : ByteArray := prog_6_method_8_code
def y_Run_goOver : MethodName := ⟨R_Run, "goOver", "(IIII)V"⟩
theorem d_Run_goOver_0 : decode b_Run_goOver 0 = .ok (.iload_n 2, 1) := by decide +kernel
theorem d_Run_goOver_1 : decode b_Run_goOver 1 = .ok (.istore 5, 2) := by decide +kernel
theorem d_Run_goOver_3 : decode b_Run_goOver 3 = .ok (.iload 5, 2) := by decide +kernel
theorem d_Run_goOver_5 : decode b_Run_goOver 5 = .ok (.iload_n 3, 1) := by decide +kernel
theorem d_Run_goOver_6 : decode b_Run_goOver 6 = .ok (.if_icmp .ge 47, 3) := by decide +kernel
theorem d_Run_goOver_9 : decode b_Run_goOver 9 = .ok (.aload_n 0, 1) := by decide +kernel
theorem d_Run_goOver_10 : decode b_Run_goOver 10 = .ok (.getfield 18, 3) := by decide +kernel
theorem d_Run_goOver_13 : decode b_Run_goOver 13 = .ok (.iload_n 1, 1) := by decide +kernel
theorem d_Run_goOver_14 : decode b_Run_goOver 14 = .ok (.dup2, 1) := by decide +kernel
theorem d_Run_goOver_15 : decode b_Run_goOver 15 = .ok (.iaload, 1) := by decide +kernel
theorem d_Run_goOver_16 : decode b_Run_goOver 16 = .ok (.iload 4, 2) := by decide +kernel
theorem d_Run_goOver_18 : decode b_Run_goOver 18 = .ok (.aload_n 0, 1) := by decide +kernel
theorem d_Run_goOver_19 : decode b_Run_goOver 19 = .ok (.getfield 9, 3) := by decide +kernel
theorem d_Run_goOver_22 : decode b_Run_goOver 22 = .ok (.iload 5, 2) := by decide +kernel
theorem d_Run_goOver_24 : decode b_Run_goOver 24 = .ok (.iaload, 1) := by decide +kernel
theorem d_Run_goOver_25 : decode b_Run_goOver 25 = .ok (.imul, 1) := by decide +kernel
theorem d_Run_goOver_26 : decode b_Run_goOver 26 = .ok (.iadd, 1) := by decide +kernel
theorem d_Run_goOver_27 : decode b_Run_goOver 27 = .ok (.iastore, 1) := by decide +kernel
theorem d_Run_goOver_28 : decode b_Run_goOver 28 = .ok (.aload_n 0, 1) := by decide +kernel
theorem d_Run_goOver_29 : decode b_Run_goOver 29 = .ok (.getfield 21, 3) := by decide +kernel
theorem d_Run_goOver_32 : decode b_Run_goOver 32 = .ok (.iload_n 1, 1) := by decide +kernel
theorem d_Run_goOver_33 : decode b_Run_goOver 33 = .ok (.dup2, 1) := by decide +kernel
theorem d_Run_goOver_34 : decode b_Run_goOver 34 = .ok (.iaload, 1) := by decide +kernel
theorem d_Run_goOver_35 : decode b_Run_goOver 35 = .ok (.iload 4, 2) := by decide +kernel
theorem d_Run_goOver_37 : decode b_Run_goOver 37 = .ok (.aload_n 0, 1) := by decide +kernel
theorem d_Run_goOver_38 : decode b_Run_goOver 38 = .ok (.getfield 15, 3) := by decide +kernel
theorem d_Run_goOver_41 : decode b_Run_goOver 41 = .ok (.iload 5, 2) := by decide +kernel
theorem d_Run_goOver_43 : decode b_Run_goOver 43 = .ok (.iaload, 1) := by decide +kernel
theorem d_Run_goOver_44 : decode b_Run_goOver 44 = .ok (.imul, 1) := by decide +kernel
theorem d_Run_goOver_45 : decode b_Run_goOver 45 = .ok (.iadd, 1) := by decide +kernel
theorem d_Run_goOver_46 : decode b_Run_goOver 46 = .ok (.iastore, 1) := by decide +kernel
theorem d_Run_goOver_47 : decode b_Run_goOver 47 = .ok (.iinc 5 1, 3) := by decide +kernel
theorem d_Run_goOver_50 : decode b_Run_goOver 50 = .ok (.goto (-47), 3) := by decide +kernel
theorem d_Run_goOver_53 : decode b_Run_goOver 53 = .ok (.return_, 1) := by decide +kernel
abbrev b_Run_finish : ByteArray := prog_6_method_7_code
def y_Run_finish : MethodName := ⟨R_Run, "finish", "(Z)V"⟩
theorem d_Run_finish_0 : decode b_Run_finish 0 = .ok (.iconst 0, 1) := by decide +kernel
theorem d_Run_finish_1 : decode b_Run_finish 1 = .ok (.istore_n 2, 1) := by decide +kernel
theorem d_Run_finish_2 : decode b_Run_finish 2 = .ok (.iload_n 2, 1) := by decide +kernel
theorem d_Run_finish_3 : decode b_Run_finish 3 = .ok (.aload_n 0, 1) := by decide +kernel
theorem d_Run_finish_4 : decode b_Run_finish 4 = .ok (.getfield 43, 3) := by decide +kernel
theorem d_Run_finish_7 : decode b_Run_finish 7 = .ok (.if_icmp .ge 111, 3) := by decide +kernel
theorem d_Run_finish_10 : decode b_Run_finish 10 = .ok (.aload_n 0, 1) := by decide +kernel
theorem d_Run_finish_11 : decode b_Run_finish 11 = .ok (.getfield 24, 3) := by decide +kernel
theorem d_Run_finish_14 : decode b_Run_finish 14 = .ok (.iload_n 2, 1) := by decide +kernel
theorem d_Run_finish_15 : decode b_Run_finish 15 = .ok (.iaload, 1) := by decide +kernel
theorem d_Run_finish_16 : decode b_Run_finish 16 = .ok (.istore_n 3, 1) := by decide +kernel
theorem d_Run_finish_17 : decode b_Run_finish 17 = .ok (.iload_n 3, 1) := by decide +kernel
theorem d_Run_finish_18 : decode b_Run_finish 18 = .ok (.ifCond .lt 94, 3) := by decide +kernel
theorem d_Run_finish_21 : decode b_Run_finish 21 = .ok (.iload_n 3, 1) := by decide +kernel
theorem d_Run_finish_22 : decode b_Run_finish 22 = .ok (.iload_n 2, 1) := by decide +kernel
theorem d_Run_finish_23 : decode b_Run_finish 23 = .ok (.if_icmp .lt 6, 3) := by decide +kernel
theorem d_Run_finish_26 : decode b_Run_finish 26 = .ok (.goto 86, 3) := by decide +kernel
theorem d_Run_finish_29 : decode b_Run_finish 29 = .ok (.aload_n 0, 1) := by decide +kernel
theorem d_Run_finish_30 : decode b_Run_finish 30 = .ok (.getfield 21, 3) := by decide +kernel
theorem d_Run_finish_33 : decode b_Run_finish 33 = .ok (.iload_n 2, 1) := by decide +kernel
theorem d_Run_finish_34 : decode b_Run_finish 34 = .ok (.dup2, 1) := by decide +kernel
theorem d_Run_finish_35 : decode b_Run_finish 35 = .ok (.iaload, 1) := by decide +kernel
theorem d_Run_finish_36 : decode b_Run_finish 36 = .ok (.aload_n 0, 1) := by decide +kernel
theorem d_Run_finish_37 : decode b_Run_finish 37 = .ok (.getfield 34, 3) := by decide +kernel
theorem d_Run_finish_40 : decode b_Run_finish 40 = .ok (.iload_n 2, 1) := by decide +kernel
theorem d_Run_finish_41 : decode b_Run_finish 41 = .ok (.iaload, 1) := by decide +kernel
theorem d_Run_finish_42 : decode b_Run_finish 42 = .ok (.aload_n 0, 1) := by decide +kernel
theorem d_Run_finish_43 : decode b_Run_finish 43 = .ok (.getfield 21, 3) := by decide +kernel
theorem d_Run_finish_46 : decode b_Run_finish 46 = .ok (.iload_n 3, 1) := by decide +kernel
theorem d_Run_finish_47 : decode b_Run_finish 47 = .ok (.iaload, 1) := by decide +kernel
theorem d_Run_finish_48 : decode b_Run_finish 48 = .ok (.iadd, 1) := by decide +kernel
theorem d_Run_finish_49 : decode b_Run_finish 49 = .ok (.iadd, 1) := by decide +kernel
theorem d_Run_finish_50 : decode b_Run_finish 50 = .ok (.iastore, 1) := by decide +kernel
theorem d_Run_finish_51 : decode b_Run_finish 51 = .ok (.aload_n 0, 1) := by decide +kernel
theorem d_Run_finish_52 : decode b_Run_finish 52 = .ok (.getfield 27, 3) := by decide +kernel
theorem d_Run_finish_55 : decode b_Run_finish 55 = .ok (.iload_n 2, 1) := by decide +kernel
theorem d_Run_finish_56 : decode b_Run_finish 56 = .ok (.baload, 1) := by decide +kernel
theorem d_Run_finish_57 : decode b_Run_finish 57 = .ok (.ifCond .eq 6, 3) := by decide +kernel
theorem d_Run_finish_60 : decode b_Run_finish 60 = .ok (.goto 52, 3) := by decide +kernel
theorem d_Run_finish_63 : decode b_Run_finish 63 = .ok (.aload_n 0, 1) := by decide +kernel
theorem d_Run_finish_64 : decode b_Run_finish 64 = .ok (.getfield 18, 3) := by decide +kernel
theorem d_Run_finish_67 : decode b_Run_finish 67 = .ok (.iload_n 2, 1) := by decide +kernel
theorem d_Run_finish_68 : decode b_Run_finish 68 = .ok (.dup2, 1) := by decide +kernel
theorem d_Run_finish_69 : decode b_Run_finish 69 = .ok (.iaload, 1) := by decide +kernel
theorem d_Run_finish_70 : decode b_Run_finish 70 = .ok (.aload_n 0, 1) := by decide +kernel
theorem d_Run_finish_71 : decode b_Run_finish 71 = .ok (.getfield 31, 3) := by decide +kernel
theorem d_Run_finish_74 : decode b_Run_finish 74 = .ok (.iload_n 2, 1) := by decide +kernel
theorem d_Run_finish_75 : decode b_Run_finish 75 = .ok (.iaload, 1) := by decide +kernel
theorem d_Run_finish_76 : decode b_Run_finish 76 = .ok (.aload_n 0, 1) := by decide +kernel
theorem d_Run_finish_77 : decode b_Run_finish 77 = .ok (.getfield 18, 3) := by decide +kernel
theorem d_Run_finish_80 : decode b_Run_finish 80 = .ok (.iload_n 3, 1) := by decide +kernel
theorem d_Run_finish_81 : decode b_Run_finish 81 = .ok (.iaload, 1) := by decide +kernel
theorem d_Run_finish_82 : decode b_Run_finish 82 = .ok (.iadd, 1) := by decide +kernel
theorem d_Run_finish_83 : decode b_Run_finish 83 = .ok (.iadd, 1) := by decide +kernel
theorem d_Run_finish_84 : decode b_Run_finish 84 = .ok (.iastore, 1) := by decide +kernel
theorem d_Run_finish_85 : decode b_Run_finish 85 = .ok (.iload_n 1, 1) := by decide +kernel
theorem d_Run_finish_86 : decode b_Run_finish 86 = .ok (.ifCond .eq 18, 3) := by decide +kernel
theorem d_Run_finish_89 : decode b_Run_finish 89 = .ok (.aload_n 0, 1) := by decide +kernel
theorem d_Run_finish_90 : decode b_Run_finish 90 = .ok (.iload_n 2, 1) := by decide +kernel
theorem d_Run_finish_91 : decode b_Run_finish 91 = .ok (.iload_n 3, 1) := by decide +kernel
theorem d_Run_finish_92 : decode b_Run_finish 92 = .ok (.iconst 1, 1) := by decide +kernel
theorem d_Run_finish_93 : decode b_Run_finish 93 = .ok (.iadd, 1) := by decide +kernel
theorem d_Run_finish_94 : decode b_Run_finish 94 = .ok (.iload_n 2, 1) := by decide +kernel
theorem d_Run_finish_95 : decode b_Run_finish 95 = .ok (.iconst 1, 1) := by decide +kernel
theorem d_Run_finish_96 : decode b_Run_finish 96 = .ok (.iadd, 1) := by decide +kernel
theorem d_Run_finish_97 : decode b_Run_finish 97 = .ok (.iconst 1, 1) := by decide +kernel
theorem d_Run_finish_98 : decode b_Run_finish 98 = .ok (.invokevirtual 45, 3) := by decide +kernel
theorem d_Run_finish_101 : decode b_Run_finish 101 = .ok (.goto 11, 3) := by decide +kernel
theorem d_Run_finish_104 : decode b_Run_finish 104 = .ok (.aload_n 0, 1) := by decide +kernel
theorem d_Run_finish_105 : decode b_Run_finish 105 = .ok (.iload_n 2, 1) := by decide +kernel
theorem d_Run_finish_106 : decode b_Run_finish 106 = .ok (.iload_n 3, 1) := by decide +kernel
theorem d_Run_finish_107 : decode b_Run_finish 107 = .ok (.iload_n 2, 1) := by decide +kernel
theorem d_Run_finish_108 : decode b_Run_finish 108 = .ok (.iconst (-1), 1) := by decide +kernel
theorem d_Run_finish_109 : decode b_Run_finish 109 = .ok (.invokevirtual 45, 3) := by decide +kernel
theorem d_Run_finish_112 : decode b_Run_finish 112 = .ok (.iinc 2 1, 3) := by decide +kernel
theorem d_Run_finish_115 : decode b_Run_finish 115 = .ok (.goto (-113), 3) := by decide +kernel
theorem d_Run_finish_118 : decode b_Run_finish 118 = .ok (.return_, 1) := by decide +kernel
abbrev b_Run_widthsBefore : ByteArray := prog_6_method_9_code
def y_Run_widthsBefore : MethodName := ⟨R_Run, "widthsBefore", "(I)I"⟩
theorem d_Run_widthsBefore_0 : decode b_Run_widthsBefore 0 = .ok (.iconst 0, 1) := by decide +kernel
theorem d_Run_widthsBefore_1 : decode b_Run_widthsBefore 1 = .ok (.istore_n 2, 1) := by decide +kernel
theorem d_Run_widthsBefore_2 : decode b_Run_widthsBefore 2 = .ok (.iconst 0, 1) := by decide +kernel
theorem d_Run_widthsBefore_3 : decode b_Run_widthsBefore 3 = .ok (.istore_n 3, 1) := by decide +kernel
theorem d_Run_widthsBefore_4 : decode b_Run_widthsBefore 4 = .ok (.iload_n 3, 1) := by decide +kernel
theorem d_Run_widthsBefore_5 : decode b_Run_widthsBefore 5 = .ok (.iload_n 1, 1) := by decide +kernel
theorem d_Run_widthsBefore_6 : decode b_Run_widthsBefore 6 = .ok (.if_icmp .ge 18, 3) := by decide +kernel
theorem d_Run_widthsBefore_9 : decode b_Run_widthsBefore 9 = .ok (.iload_n 2, 1) := by decide +kernel
theorem d_Run_widthsBefore_10 : decode b_Run_widthsBefore 10 = .ok (.aload_n 0, 1) := by decide +kernel
theorem d_Run_widthsBefore_11 : decode b_Run_widthsBefore 11 = .ok (.getfield 9, 3) := by decide +kernel
theorem d_Run_widthsBefore_14 : decode b_Run_widthsBefore 14 = .ok (.iload_n 3, 1) := by decide +kernel
theorem d_Run_widthsBefore_15 : decode b_Run_widthsBefore 15 = .ok (.iaload, 1) := by decide +kernel
theorem d_Run_widthsBefore_16 : decode b_Run_widthsBefore 16 = .ok (.iadd, 1) := by decide +kernel
theorem d_Run_widthsBefore_17 : decode b_Run_widthsBefore 17 = .ok (.istore_n 2, 1) := by decide +kernel
theorem d_Run_widthsBefore_18 : decode b_Run_widthsBefore 18 = .ok (.iinc 3 1, 3) := by decide +kernel
theorem d_Run_widthsBefore_21 : decode b_Run_widthsBefore 21 = .ok (.goto (-17), 3) := by decide +kernel
theorem d_Run_widthsBefore_24 : decode b_Run_widthsBefore 24 = .ok (.iload_n 2, 1) := by decide +kernel
theorem d_Run_widthsBefore_25 : decode b_Run_widthsBefore 25 = .ok (.ireturn, 1) := by decide +kernel
abbrev b_Run_getMore : ByteArray := prog_6_method_3_code
def y_Run_getMore : MethodName := ⟨R_Run, "getMore", "(III)V"⟩
theorem d_Run_getMore_0 : decode b_Run_getMore 0 = .ok (.iload_n 1, 1) := by decide +kernel
theorem d_Run_getMore_1 : decode b_Run_getMore 1 = .ok (.ifCond .lt 11, 3) := by decide +kernel
theorem d_Run_getMore_4 : decode b_Run_getMore 4 = .ok (.iload_n 1, 1) := by decide +kernel
theorem d_Run_getMore_5 : decode b_Run_getMore 5 = .ok (.aload_n 0, 1) := by decide +kernel
theorem d_Run_getMore_6 : decode b_Run_getMore 6 = .ok (.getfield 43, 3) := by decide +kernel
theorem d_Run_getMore_9 : decode b_Run_getMore 9 = .ok (.if_icmp .lt 4, 3) := by decide +kernel
theorem d_Run_getMore_12 : decode b_Run_getMore 12 = .ok (.return_, 1) := by decide +kernel
theorem d_Run_getMore_13 : decode b_Run_getMore 13 = .ok (.iload_n 2, 1) := by decide +kernel
theorem d_Run_getMore_14 : decode b_Run_getMore 14 = .ok (.tableswitch 82 0 3 #[30, 43, 56, 69], 30) := by decide +kernel
theorem d_Run_getMore_44 : decode b_Run_getMore 44 = .ok (.aload_n 0, 1) := by decide +kernel
theorem d_Run_getMore_45 : decode b_Run_getMore 45 = .ok (.getfield 18, 3) := by decide +kernel
theorem d_Run_getMore_48 : decode b_Run_getMore 48 = .ok (.iload_n 1, 1) := by decide +kernel
theorem d_Run_getMore_49 : decode b_Run_getMore 49 = .ok (.dup2, 1) := by decide +kernel
theorem d_Run_getMore_50 : decode b_Run_getMore 50 = .ok (.iaload, 1) := by decide +kernel
theorem d_Run_getMore_51 : decode b_Run_getMore 51 = .ok (.iload_n 3, 1) := by decide +kernel
theorem d_Run_getMore_52 : decode b_Run_getMore 52 = .ok (.iadd, 1) := by decide +kernel
theorem d_Run_getMore_53 : decode b_Run_getMore 53 = .ok (.iastore, 1) := by decide +kernel
theorem d_Run_getMore_54 : decode b_Run_getMore 54 = .ok (.goto 42, 3) := by decide +kernel
theorem d_Run_getMore_57 : decode b_Run_getMore 57 = .ok (.aload_n 0, 1) := by decide +kernel
theorem d_Run_getMore_58 : decode b_Run_getMore 58 = .ok (.getfield 21, 3) := by decide +kernel
theorem d_Run_getMore_61 : decode b_Run_getMore 61 = .ok (.iload_n 1, 1) := by decide +kernel
theorem d_Run_getMore_62 : decode b_Run_getMore 62 = .ok (.dup2, 1) := by decide +kernel
theorem d_Run_getMore_63 : decode b_Run_getMore 63 = .ok (.iaload, 1) := by decide +kernel
theorem d_Run_getMore_64 : decode b_Run_getMore 64 = .ok (.iload_n 3, 1) := by decide +kernel
theorem d_Run_getMore_65 : decode b_Run_getMore 65 = .ok (.iadd, 1) := by decide +kernel
theorem d_Run_getMore_66 : decode b_Run_getMore 66 = .ok (.iastore, 1) := by decide +kernel
theorem d_Run_getMore_67 : decode b_Run_getMore 67 = .ok (.goto 29, 3) := by decide +kernel
theorem d_Run_getMore_70 : decode b_Run_getMore 70 = .ok (.aload_n 0, 1) := by decide +kernel
theorem d_Run_getMore_71 : decode b_Run_getMore 71 = .ok (.getfield 9, 3) := by decide +kernel
theorem d_Run_getMore_74 : decode b_Run_getMore 74 = .ok (.iload_n 1, 1) := by decide +kernel
theorem d_Run_getMore_75 : decode b_Run_getMore 75 = .ok (.dup2, 1) := by decide +kernel
theorem d_Run_getMore_76 : decode b_Run_getMore 76 = .ok (.iaload, 1) := by decide +kernel
theorem d_Run_getMore_77 : decode b_Run_getMore 77 = .ok (.iload_n 3, 1) := by decide +kernel
theorem d_Run_getMore_78 : decode b_Run_getMore 78 = .ok (.iadd, 1) := by decide +kernel
theorem d_Run_getMore_79 : decode b_Run_getMore 79 = .ok (.iastore, 1) := by decide +kernel
theorem d_Run_getMore_80 : decode b_Run_getMore 80 = .ok (.goto 16, 3) := by decide +kernel
theorem d_Run_getMore_83 : decode b_Run_getMore 83 = .ok (.aload_n 0, 1) := by decide +kernel
theorem d_Run_getMore_84 : decode b_Run_getMore 84 = .ok (.getfield 15, 3) := by decide +kernel
theorem d_Run_getMore_87 : decode b_Run_getMore 87 = .ok (.iload_n 1, 1) := by decide +kernel
theorem d_Run_getMore_88 : decode b_Run_getMore 88 = .ok (.dup2, 1) := by decide +kernel
theorem d_Run_getMore_89 : decode b_Run_getMore 89 = .ok (.iaload, 1) := by decide +kernel
theorem d_Run_getMore_90 : decode b_Run_getMore 90 = .ok (.iload_n 3, 1) := by decide +kernel
theorem d_Run_getMore_91 : decode b_Run_getMore 91 = .ok (.iadd, 1) := by decide +kernel
theorem d_Run_getMore_92 : decode b_Run_getMore 92 = .ok (.iastore, 1) := by decide +kernel
theorem d_Run_getMore_93 : decode b_Run_getMore 93 = .ok (.goto 3, 3) := by decide +kernel
theorem d_Run_getMore_96 : decode b_Run_getMore 96 = .ok (.return_, 1) := by decide +kernel
abbrev b_Run_join : ByteArray := prog_6_method_4_code
def y_Run_join : MethodName := ⟨R_Run, "join", "(IIII)V"⟩
theorem d_Run_join_0 : decode b_Run_join 0 = .ok (.aload_n 0, 1) := by decide +kernel
theorem d_Run_join_1 : decode b_Run_join 1 = .ok (.getfield 9, 3) := by decide +kernel
theorem d_Run_join_4 : decode b_Run_join 4 = .ok (.iload_n 1, 1) := by decide +kernel
theorem d_Run_join_5 : decode b_Run_join 5 = .ok (.iload_n 2, 1) := by decide +kernel
theorem d_Run_join_6 : decode b_Run_join 6 = .ok (.aload_n 0, 1) := by decide +kernel
theorem d_Run_join_7 : decode b_Run_join 7 = .ok (.getfield 18, 3) := by decide +kernel
theorem d_Run_join_10 : decode b_Run_join 10 = .ok (.iload_n 1, 1) := by decide +kernel
theorem d_Run_join_11 : decode b_Run_join 11 = .ok (.iaload, 1) := by decide +kernel
theorem d_Run_join_12 : decode b_Run_join 12 = .ok (.iadd, 1) := by decide +kernel
theorem d_Run_join_13 : decode b_Run_join 13 = .ok (.iastore, 1) := by decide +kernel
theorem d_Run_join_14 : decode b_Run_join 14 = .ok (.iload 4, 2) := by decide +kernel
theorem d_Run_join_16 : decode b_Run_join 16 = .ok (.aload_n 0, 1) := by decide +kernel
theorem d_Run_join_17 : decode b_Run_join 17 = .ok (.getfield 18, 3) := by decide +kernel
theorem d_Run_join_20 : decode b_Run_join 20 = .ok (.iload_n 3, 1) := by decide +kernel
theorem d_Run_join_21 : decode b_Run_join 21 = .ok (.iaload, 1) := by decide +kernel
theorem d_Run_join_22 : decode b_Run_join 22 = .ok (.iadd, 1) := by decide +kernel
theorem d_Run_join_23 : decode b_Run_join 23 = .ok (.istore 5, 2) := by decide +kernel
theorem d_Run_join_25 : decode b_Run_join 25 = .ok (.aload_n 0, 1) := by decide +kernel
theorem d_Run_join_26 : decode b_Run_join 26 = .ok (.getfield 9, 3) := by decide +kernel
theorem d_Run_join_29 : decode b_Run_join 29 = .ok (.iload_n 3, 1) := by decide +kernel
theorem d_Run_join_30 : decode b_Run_join 30 = .ok (.dup2, 1) := by decide +kernel
theorem d_Run_join_31 : decode b_Run_join 31 = .ok (.iaload, 1) := by decide +kernel
theorem d_Run_join_32 : decode b_Run_join 32 = .ok (.iload 5, 2) := by decide +kernel
theorem d_Run_join_34 : decode b_Run_join 34 = .ok (.isub, 1) := by decide +kernel
theorem d_Run_join_35 : decode b_Run_join 35 = .ok (.iastore, 1) := by decide +kernel
theorem d_Run_join_36 : decode b_Run_join 36 = .ok (.aload_n 0, 1) := by decide +kernel
theorem d_Run_join_37 : decode b_Run_join 37 = .ok (.getfield 18, 3) := by decide +kernel
theorem d_Run_join_40 : decode b_Run_join 40 = .ok (.iload_n 3, 1) := by decide +kernel
theorem d_Run_join_41 : decode b_Run_join 41 = .ok (.dup2, 1) := by decide +kernel
theorem d_Run_join_42 : decode b_Run_join 42 = .ok (.iaload, 1) := by decide +kernel
theorem d_Run_join_43 : decode b_Run_join 43 = .ok (.iload 5, 2) := by decide +kernel
theorem d_Run_join_45 : decode b_Run_join 45 = .ok (.isub, 1) := by decide +kernel
theorem d_Run_join_46 : decode b_Run_join 46 = .ok (.iastore, 1) := by decide +kernel
theorem d_Run_join_47 : decode b_Run_join 47 = .ok (.return_, 1) := by decide +kernel
abbrev b_Run_hangByCursive : ByteArray := prog_6_method_5_code
def y_Run_hangByCursive : MethodName := ⟨R_Run, "hangByCursive", "(III)V"⟩
theorem d_Run_hangByCursive_0 : decode b_Run_hangByCursive 0 = .ok (.aload_n 0, 1) := by decide +kernel
theorem d_Run_hangByCursive_1 : decode b_Run_hangByCursive 1 = .ok (.getfield 24, 3) := by decide +kernel
theorem d_Run_hangByCursive_4 : decode b_Run_hangByCursive 4 = .ok (.iload_n 1, 1) := by decide +kernel
theorem d_Run_hangByCursive_5 : decode b_Run_hangByCursive 5 = .ok (.iload_n 2, 1) := by decide +kernel
theorem d_Run_hangByCursive_6 : decode b_Run_hangByCursive 6 = .ok (.iastore, 1) := by decide +kernel
theorem d_Run_hangByCursive_7 : decode b_Run_hangByCursive 7 = .ok (.aload_n 0, 1) := by decide +kernel
theorem d_Run_hangByCursive_8 : decode b_Run_hangByCursive 8 = .ok (.getfield 27, 3) := by decide +kernel
theorem d_Run_hangByCursive_11 : decode b_Run_hangByCursive 11 = .ok (.iload_n 1, 1) := by decide +kernel
theorem d_Run_hangByCursive_12 : decode b_Run_hangByCursive 12 = .ok (.iconst 1, 1) := by decide +kernel
theorem d_Run_hangByCursive_13 : decode b_Run_hangByCursive 13 = .ok (.bastore, 1) := by decide +kernel
theorem d_Run_hangByCursive_14 : decode b_Run_hangByCursive 14 = .ok (.aload_n 0, 1) := by decide +kernel
theorem d_Run_hangByCursive_15 : decode b_Run_hangByCursive 15 = .ok (.getfield 34, 3) := by decide +kernel
theorem d_Run_hangByCursive_18 : decode b_Run_hangByCursive 18 = .ok (.iload_n 1, 1) := by decide +kernel
theorem d_Run_hangByCursive_19 : decode b_Run_hangByCursive 19 = .ok (.iload_n 3, 1) := by decide +kernel
theorem d_Run_hangByCursive_20 : decode b_Run_hangByCursive 20 = .ok (.iastore, 1) := by decide +kernel
theorem d_Run_hangByCursive_21 : decode b_Run_hangByCursive 21 = .ok (.return_, 1) := by decide +kernel
abbrev b_Run_hangByMark : ByteArray := prog_6_method_6_code
def y_Run_hangByMark : MethodName := ⟨R_Run, "hangByMark", "(IIII)V"⟩
theorem d_Run_hangByMark_0 : decode b_Run_hangByMark 0 = .ok (.aload_n 0, 1) := by decide +kernel
theorem d_Run_hangByMark_1 : decode b_Run_hangByMark 1 = .ok (.getfield 24, 3) := by decide +kernel
theorem d_Run_hangByMark_4 : decode b_Run_hangByMark 4 = .ok (.iload_n 1, 1) := by decide +kernel
theorem d_Run_hangByMark_5 : decode b_Run_hangByMark 5 = .ok (.iload_n 2, 1) := by decide +kernel
theorem d_Run_hangByMark_6 : decode b_Run_hangByMark 6 = .ok (.iastore, 1) := by decide +kernel
theorem d_Run_hangByMark_7 : decode b_Run_hangByMark 7 = .ok (.aload_n 0, 1) := by decide +kernel
theorem d_Run_hangByMark_8 : decode b_Run_hangByMark 8 = .ok (.getfield 27, 3) := by decide +kernel
theorem d_Run_hangByMark_11 : decode b_Run_hangByMark 11 = .ok (.iload_n 1, 1) := by decide +kernel
theorem d_Run_hangByMark_12 : decode b_Run_hangByMark 12 = .ok (.iconst 0, 1) := by decide +kernel
theorem d_Run_hangByMark_13 : decode b_Run_hangByMark 13 = .ok (.bastore, 1) := by decide +kernel
theorem d_Run_hangByMark_14 : decode b_Run_hangByMark 14 = .ok (.aload_n 0, 1) := by decide +kernel
theorem d_Run_hangByMark_15 : decode b_Run_hangByMark 15 = .ok (.getfield 31, 3) := by decide +kernel
theorem d_Run_hangByMark_18 : decode b_Run_hangByMark 18 = .ok (.iload_n 1, 1) := by decide +kernel
theorem d_Run_hangByMark_19 : decode b_Run_hangByMark 19 = .ok (.iload_n 3, 1) := by decide +kernel
theorem d_Run_hangByMark_20 : decode b_Run_hangByMark 20 = .ok (.iastore, 1) := by decide +kernel
theorem d_Run_hangByMark_21 : decode b_Run_hangByMark 21 = .ok (.aload_n 0, 1) := by decide +kernel
theorem d_Run_hangByMark_22 : decode b_Run_hangByMark 22 = .ok (.getfield 34, 3) := by decide +kernel
theorem d_Run_hangByMark_25 : decode b_Run_hangByMark 25 = .ok (.iload_n 1, 1) := by decide +kernel
theorem d_Run_hangByMark_26 : decode b_Run_hangByMark 26 = .ok (.iload 4, 2) := by decide +kernel
theorem d_Run_hangByMark_28 : decode b_Run_hangByMark 28 = .ok (.iastore, 1) := by decide +kernel
theorem d_Run_hangByMark_29 : decode b_Run_hangByMark 29 = .ok (.aload_n 0, 1) := by decide +kernel
theorem d_Run_hangByMark_30 : decode b_Run_hangByMark 30 = .ok (.getfield 18, 3) := by decide +kernel
theorem d_Run_hangByMark_33 : decode b_Run_hangByMark 33 = .ok (.iload_n 1, 1) := by decide +kernel
theorem d_Run_hangByMark_34 : decode b_Run_hangByMark 34 = .ok (.iconst 0, 1) := by decide +kernel
theorem d_Run_hangByMark_35 : decode b_Run_hangByMark 35 = .ok (.iastore, 1) := by decide +kernel
theorem d_Run_hangByMark_36 : decode b_Run_hangByMark 36 = .ok (.aload_n 0, 1) := by decide +kernel
theorem d_Run_hangByMark_37 : decode b_Run_hangByMark 37 = .ok (.getfield 21, 3) := by decide +kernel
theorem d_Run_hangByMark_40 : decode b_Run_hangByMark 40 = .ok (.iload_n 1, 1) := by decide +kernel
theorem d_Run_hangByMark_41 : decode b_Run_hangByMark 41 = .ok (.iconst 0, 1) := by decide +kernel
theorem d_Run_hangByMark_42 : decode b_Run_hangByMark 42 = .ok (.iastore, 1) := by decide +kernel
theorem d_Run_hangByMark_43 : decode b_Run_hangByMark 43 = .ok (.return_, 1) := by decide +kernel
abbrev b_Setter_start : ByteArray := prog_7_method_2_code
def y_Setter_start : MethodName := ⟨R_Setter, "start", "(Z)V"⟩
theorem d_Setter_start_0 : decode b_Setter_start 0 = .ok (.aload_n 0, 1) := by decide +kernel
theorem d_Setter_start_1 : decode b_Setter_start 1 = .ok (.iload_n 1, 1) := by decide +kernel
theorem d_Setter_start_2 : decode b_Setter_start 2 = .ok (.putfield 47, 3) := by decide +kernel
theorem d_Setter_start_5 : decode b_Setter_start 5 = .ok (.iconst (-1), 1) := by decide +kernel
theorem d_Setter_start_6 : decode b_Setter_start 6 = .ok (.istore_n 2, 1) := by decide +kernel
theorem d_Setter_start_7 : decode b_Setter_start 7 = .ok (.iconst 0, 1) := by decide +kernel
theorem d_Setter_start_8 : decode b_Setter_start 8 = .ok (.istore_n 3, 1) := by decide +kernel
theorem d_Setter_start_9 : decode b_Setter_start 9 = .ok (.iload_n 3, 1) := by decide +kernel
theorem d_Setter_start_10 : decode b_Setter_start 10 = .ok (.aload_n 0, 1) := by decide +kernel
theorem d_Setter_start_11 : decode b_Setter_start 11 = .ok (.getfield 43, 3) := by decide +kernel
theorem d_Setter_start_14 : decode b_Setter_start 14 = .ok (.getfield 51, 3) := by decide +kernel
theorem d_Setter_start_17 : decode b_Setter_start 17 = .ok (.if_icmp .ge 98, 3) := by decide +kernel
theorem d_Setter_start_20 : decode b_Setter_start 20 = .ok (.aload_n 0, 1) := by decide +kernel
theorem d_Setter_start_21 : decode b_Setter_start 21 = .ok (.getfield 39, 3) := by decide +kernel
theorem d_Setter_start_24 : decode b_Setter_start 24 = .ok (.aload_n 0, 1) := by decide +kernel
theorem d_Setter_start_25 : decode b_Setter_start 25 = .ok (.getfield 35, 3) := by decide +kernel
theorem d_Setter_start_28 : decode b_Setter_start 28 = .ok (.getfield 57, 3) := by decide +kernel
theorem d_Setter_start_31 : decode b_Setter_start 31 = .ok (.iload_n 3, 1) := by decide +kernel
theorem d_Setter_start_32 : decode b_Setter_start 32 = .ok (.iaload, 1) := by decide +kernel
theorem d_Setter_start_33 : decode b_Setter_start 33 = .ok (.invokevirtual 62, 3) := by decide +kernel
theorem d_Setter_start_36 : decode b_Setter_start 36 = .ok (.istore 4, 2) := by decide +kernel
theorem d_Setter_start_38 : decode b_Setter_start 38 = .ok (.aload_n 0, 1) := by decide +kernel
theorem d_Setter_start_39 : decode b_Setter_start 39 = .ok (.getfield 9, 3) := by decide +kernel
theorem d_Setter_start_42 : decode b_Setter_start 42 = .ok (.iload_n 3, 1) := by decide +kernel
theorem d_Setter_start_43 : decode b_Setter_start 43 = .ok (.iload 4, 2) := by decide +kernel
theorem d_Setter_start_45 : decode b_Setter_start 45 = .ok (.iconst (-1), 1) := by decide +kernel
theorem d_Setter_start_46 : decode b_Setter_start 46 = .ok (.if_icmp .ne 7, 3) := by decide +kernel
theorem d_Setter_start_49 : decode b_Setter_start 49 = .ok (.iconst 0, 1) := by decide +kernel
theorem d_Setter_start_50 : decode b_Setter_start 50 = .ok (.goto 13, 3) := by decide +kernel
theorem d_Setter_start_53 : decode b_Setter_start 53 = .ok (.aload_n 0, 1) := by decide +kernel
theorem d_Setter_start_54 : decode b_Setter_start 54 = .ok (.getfield 39, 3) := by decide +kernel
theorem d_Setter_start_57 : decode b_Setter_start 57 = .ok (.getfield 68, 3) := by decide +kernel
theorem d_Setter_start_60 : decode b_Setter_start 60 = .ok (.iload 4, 2) := by decide +kernel
theorem d_Setter_start_62 : decode b_Setter_start 62 = .ok (.iaload, 1) := by decide +kernel
theorem d_Setter_start_63 : decode b_Setter_start 63 = .ok (.iastore, 1) := by decide +kernel
theorem d_Setter_start_64 : decode b_Setter_start 64 = .ok (.aload_n 0, 1) := by decide +kernel
theorem d_Setter_start_65 : decode b_Setter_start 65 = .ok (.getfield 15, 3) := by decide +kernel
theorem d_Setter_start_68 : decode b_Setter_start 68 = .ok (.iload_n 3, 1) := by decide +kernel
theorem d_Setter_start_69 : decode b_Setter_start 69 = .ok (.iload 4, 2) := by decide +kernel
theorem d_Setter_start_71 : decode b_Setter_start 71 = .ok (.iconst (-1), 1) := by decide +kernel
theorem d_Setter_start_72 : decode b_Setter_start 72 = .ok (.if_icmp .ne 7, 3) := by decide +kernel
theorem d_Setter_start_75 : decode b_Setter_start 75 = .ok (.iconst 0, 1) := by decide +kernel
theorem d_Setter_start_76 : decode b_Setter_start 76 = .ok (.goto 13, 3) := by decide +kernel
theorem d_Setter_start_79 : decode b_Setter_start 79 = .ok (.aload_n 0, 1) := by decide +kernel
theorem d_Setter_start_80 : decode b_Setter_start 80 = .ok (.getfield 39, 3) := by decide +kernel
theorem d_Setter_start_83 : decode b_Setter_start 83 = .ok (.getfield 69, 3) := by decide +kernel
theorem d_Setter_start_86 : decode b_Setter_start 86 = .ok (.iload 4, 2) := by decide +kernel
theorem d_Setter_start_88 : decode b_Setter_start 88 = .ok (.iaload, 1) := by decide +kernel
theorem d_Setter_start_89 : decode b_Setter_start 89 = .ok (.iastore, 1) := by decide +kernel
theorem d_Setter_start_90 : decode b_Setter_start 90 = .ok (.aload_n 0, 1) := by decide +kernel
theorem d_Setter_start_91 : decode b_Setter_start 91 = .ok (.getfield 18, 3) := by decide +kernel
theorem d_Setter_start_94 : decode b_Setter_start 94 = .ok (.iload_n 3, 1) := by decide +kernel
theorem d_Setter_start_95 : decode b_Setter_start 95 = .ok (.iload_n 2, 1) := by decide +kernel
theorem d_Setter_start_96 : decode b_Setter_start 96 = .ok (.iastore, 1) := by decide +kernel
theorem d_Setter_start_97 : decode b_Setter_start 97 = .ok (.aload_n 0, 1) := by decide +kernel
theorem d_Setter_start_98 : decode b_Setter_start 98 = .ok (.getfield 9, 3) := by decide +kernel
theorem d_Setter_start_101 : decode b_Setter_start 101 = .ok (.iload_n 3, 1) := by decide +kernel
theorem d_Setter_start_102 : decode b_Setter_start 102 = .ok (.iaload, 1) := by decide +kernel
theorem d_Setter_start_103 : decode b_Setter_start 103 = .ok (.iconst 3, 1) := by decide +kernel
theorem d_Setter_start_104 : decode b_Setter_start 104 = .ok (.if_icmp .eq 5, 3) := by decide +kernel
theorem d_Setter_start_107 : decode b_Setter_start 107 = .ok (.iload_n 3, 1) := by decide +kernel
theorem d_Setter_start_108 : decode b_Setter_start 108 = .ok (.istore_n 2, 1) := by decide +kernel
theorem d_Setter_start_109 : decode b_Setter_start 109 = .ok (.iinc 3 1, 3) := by decide +kernel
theorem d_Setter_start_112 : decode b_Setter_start 112 = .ok (.goto (-103), 3) := by decide +kernel
theorem d_Setter_start_115 : decode b_Setter_start 115 = .ok (.return_, 1) := by decide +kernel
abbrev b_Setter_passesOver : ByteArray := prog_7_method_5_code
def y_Setter_passesOver : MethodName := ⟨R_Setter, "passesOver", "(III)Z"⟩
theorem d_Setter_passesOver_0 : decode b_Setter_passesOver 0 = .ok (.iload_n 0, 1) := by decide +kernel
theorem d_Setter_passesOver_1 : decode b_Setter_passesOver 1 = .ok (.bipush 8, 2) := by decide +kernel
theorem d_Setter_passesOver_3 : decode b_Setter_passesOver 3 = .ok (.ishr, 1) := by decide +kernel
theorem d_Setter_passesOver_4 : decode b_Setter_passesOver 4 = .ok (.istore_n 3, 1) := by decide +kernel
theorem d_Setter_passesOver_5 : decode b_Setter_passesOver 5 = .ok (.iload_n 1, 1) := by decide +kernel
theorem d_Setter_passesOver_6 : decode b_Setter_passesOver 6 = .ok (.tableswitch 72 1 3 #[26, 38, 50], 26) := by decide +kernel
theorem d_Setter_passesOver_32 : decode b_Setter_passesOver 32 = .ok (.iload_n 0, 1) := by decide +kernel
theorem d_Setter_passesOver_33 : decode b_Setter_passesOver 33 = .ok (.iconst 2, 1) := by decide +kernel
theorem d_Setter_passesOver_34 : decode b_Setter_passesOver 34 = .ok (.iand, 1) := by decide +kernel
theorem d_Setter_passesOver_35 : decode b_Setter_passesOver 35 = .ok (.ifCond .eq 7, 3) := by decide +kernel
theorem d_Setter_passesOver_38 : decode b_Setter_passesOver 38 = .ok (.iconst 1, 1) := by decide +kernel
theorem d_Setter_passesOver_39 : decode b_Setter_passesOver 39 = .ok (.goto 4, 3) := by decide +kernel
theorem d_Setter_passesOver_42 : decode b_Setter_passesOver 42 = .ok (.iconst 0, 1) := by decide +kernel
theorem d_Setter_passesOver_43 : decode b_Setter_passesOver 43 = .ok (.ireturn, 1) := by decide +kernel
theorem d_Setter_passesOver_44 : decode b_Setter_passesOver 44 = .ok (.iload_n 0, 1) := by decide +kernel
theorem d_Setter_passesOver_45 : decode b_Setter_passesOver 45 = .ok (.iconst 4, 1) := by decide +kernel
theorem d_Setter_passesOver_46 : decode b_Setter_passesOver 46 = .ok (.iand, 1) := by decide +kernel
theorem d_Setter_passesOver_47 : decode b_Setter_passesOver 47 = .ok (.ifCond .eq 7, 3) := by decide +kernel
theorem d_Setter_passesOver_50 : decode b_Setter_passesOver 50 = .ok (.iconst 1, 1) := by decide +kernel
theorem d_Setter_passesOver_51 : decode b_Setter_passesOver 51 = .ok (.goto 4, 3) := by decide +kernel
theorem d_Setter_passesOver_54 : decode b_Setter_passesOver 54 = .ok (.iconst 0, 1) := by decide +kernel
theorem d_Setter_passesOver_55 : decode b_Setter_passesOver 55 = .ok (.ireturn, 1) := by decide +kernel
theorem d_Setter_passesOver_56 : decode b_Setter_passesOver 56 = .ok (.iload_n 0, 1) := by decide +kernel
theorem d_Setter_passesOver_57 : decode b_Setter_passesOver 57 = .ok (.bipush 8, 2) := by decide +kernel
theorem d_Setter_passesOver_59 : decode b_Setter_passesOver 59 = .ok (.iand, 1) := by decide +kernel
theorem d_Setter_passesOver_60 : decode b_Setter_passesOver 60 = .ok (.ifCond .ne 12, 3) := by decide +kernel
theorem d_Setter_passesOver_63 : decode b_Setter_passesOver 63 = .ok (.iload_n 3, 1) := by decide +kernel
theorem d_Setter_passesOver_64 : decode b_Setter_passesOver 64 = .ok (.ifCond .eq 12, 3) := by decide +kernel
theorem d_Setter_passesOver_67 : decode b_Setter_passesOver 67 = .ok (.iload_n 3, 1) := by decide +kernel
theorem d_Setter_passesOver_68 : decode b_Setter_passesOver 68 = .ok (.iload_n 2, 1) := by decide +kernel
theorem d_Setter_passesOver_69 : decode b_Setter_passesOver 69 = .ok (.if_icmp .eq 7, 3) := by decide +kernel
theorem d_Setter_passesOver_72 : decode b_Setter_passesOver 72 = .ok (.iconst 1, 1) := by decide +kernel
theorem d_Setter_passesOver_73 : decode b_Setter_passesOver 73 = .ok (.goto 4, 3) := by decide +kernel
theorem d_Setter_passesOver_76 : decode b_Setter_passesOver 76 = .ok (.iconst 0, 1) := by decide +kernel
theorem d_Setter_passesOver_77 : decode b_Setter_passesOver 77 = .ok (.ireturn, 1) := by decide +kernel
theorem d_Setter_passesOver_78 : decode b_Setter_passesOver 78 = .ok (.iconst 0, 1) := by decide +kernel
theorem d_Setter_passesOver_79 : decode b_Setter_passesOver 79 = .ok (.ireturn, 1) := by decide +kernel
abbrev b_Setter_findPassedOver : ByteArray := prog_7_method_4_code
def y_Setter_findPassedOver : MethodName := ⟨R_Setter, "findPassedOver", "(I)V"⟩
theorem d_Setter_findPassedOver_0 : decode b_Setter_findPassedOver 0 = .ok (.iconst (-1), 1) := by decide +kernel
theorem d_Setter_findPassedOver_1 : decode b_Setter_findPassedOver 1 = .ok (.istore_n 2, 1) := by decide +kernel
theorem d_Setter_findPassedOver_2 : decode b_Setter_findPassedOver 2 = .ok (.iconst 0, 1) := by decide +kernel
theorem d_Setter_findPassedOver_3 : decode b_Setter_findPassedOver 3 = .ok (.istore_n 3, 1) := by decide +kernel
theorem d_Setter_findPassedOver_4 : decode b_Setter_findPassedOver 4 = .ok (.iload_n 3, 1) := by decide +kernel
theorem d_Setter_findPassedOver_5 : decode b_Setter_findPassedOver 5 = .ok (.aload_n 0, 1) := by decide +kernel
theorem d_Setter_findPassedOver_6 : decode b_Setter_findPassedOver 6 = .ok (.getfield 43, 3) := by decide +kernel
theorem d_Setter_findPassedOver_9 : decode b_Setter_findPassedOver 9 = .ok (.getfield 51, 3) := by decide +kernel
theorem d_Setter_findPassedOver_12 : decode b_Setter_findPassedOver 12 = .ok (.if_icmp .ge 53, 3) := by decide +kernel
theorem d_Setter_findPassedOver_15 : decode b_Setter_findPassedOver 15 = .ok (.aload_n 0, 1) := by decide +kernel
theorem d_Setter_findPassedOver_16 : decode b_Setter_findPassedOver 16 = .ok (.getfield 21, 3) := by decide +kernel
theorem d_Setter_findPassedOver_19 : decode b_Setter_findPassedOver 19 = .ok (.iload_n 3, 1) := by decide +kernel
theorem d_Setter_findPassedOver_20 : decode b_Setter_findPassedOver 20 = .ok (.iload_n 1, 1) := by decide +kernel
theorem d_Setter_findPassedOver_21 : decode b_Setter_findPassedOver 21 = .ok (.aload_n 0, 1) := by decide +kernel
theorem d_Setter_findPassedOver_22 : decode b_Setter_findPassedOver 22 = .ok (.getfield 9, 3) := by decide +kernel
theorem d_Setter_findPassedOver_25 : decode b_Setter_findPassedOver 25 = .ok (.iload_n 3, 1) := by decide +kernel
theorem d_Setter_findPassedOver_26 : decode b_Setter_findPassedOver 26 = .ok (.iaload, 1) := by decide +kernel
theorem d_Setter_findPassedOver_27 : decode b_Setter_findPassedOver 27 = .ok (.aload_n 0, 1) := by decide +kernel
theorem d_Setter_findPassedOver_28 : decode b_Setter_findPassedOver 28 = .ok (.getfield 15, 3) := by decide +kernel
theorem d_Setter_findPassedOver_31 : decode b_Setter_findPassedOver 31 = .ok (.iload_n 3, 1) := by decide +kernel
theorem d_Setter_findPassedOver_32 : decode b_Setter_findPassedOver 32 = .ok (.iaload, 1) := by decide +kernel
theorem d_Setter_findPassedOver_33 : decode b_Setter_findPassedOver 33 = .ok (.invokestatic 83, 3) := by decide +kernel
theorem d_Setter_findPassedOver_36 : decode b_Setter_findPassedOver 36 = .ok (.bastore, 1) := by decide +kernel
theorem d_Setter_findPassedOver_37 : decode b_Setter_findPassedOver 37 = .ok (.aload_n 0, 1) := by decide +kernel
theorem d_Setter_findPassedOver_38 : decode b_Setter_findPassedOver 38 = .ok (.getfield 25, 3) := by decide +kernel
theorem d_Setter_findPassedOver_41 : decode b_Setter_findPassedOver 41 = .ok (.iload_n 3, 1) := by decide +kernel
theorem d_Setter_findPassedOver_42 : decode b_Setter_findPassedOver 42 = .ok (.iload_n 2, 1) := by decide +kernel
theorem d_Setter_findPassedOver_43 : decode b_Setter_findPassedOver 43 = .ok (.iastore, 1) := by decide +kernel
theorem d_Setter_findPassedOver_44 : decode b_Setter_findPassedOver 44 = .ok (.aload_n 0, 1) := by decide +kernel
theorem d_Setter_findPassedOver_45 : decode b_Setter_findPassedOver 45 = .ok (.getfield 21, 3) := by decide +kernel
theorem d_Setter_findPassedOver_48 : decode b_Setter_findPassedOver 48 = .ok (.iload_n 3, 1) := by decide +kernel
theorem d_Setter_findPassedOver_49 : decode b_Setter_findPassedOver 49 = .ok (.baload, 1) := by decide +kernel
theorem d_Setter_findPassedOver_50 : decode b_Setter_findPassedOver 50 = .ok (.ifCond .eq 7, 3) := by decide +kernel
theorem d_Setter_findPassedOver_53 : decode b_Setter_findPassedOver 53 = .ok (.iload_n 2, 1) := by decide +kernel
theorem d_Setter_findPassedOver_54 : decode b_Setter_findPassedOver 54 = .ok (.goto 4, 3) := by decide +kernel
theorem d_Setter_findPassedOver_57 : decode b_Setter_findPassedOver 57 = .ok (.iload_n 3, 1) := by decide +kernel
theorem d_Setter_findPassedOver_58 : decode b_Setter_findPassedOver 58 = .ok (.istore_n 2, 1) := by decide +kernel
theorem d_Setter_findPassedOver_59 : decode b_Setter_findPassedOver 59 = .ok (.iinc 3 1, 3) := by decide +kernel
theorem d_Setter_findPassedOver_62 : decode b_Setter_findPassedOver 62 = .ok (.goto (-58), 3) := by decide +kernel
theorem d_Setter_findPassedOver_65 : decode b_Setter_findPassedOver 65 = .ok (.iconst (-1), 1) := by decide +kernel
theorem d_Setter_findPassedOver_66 : decode b_Setter_findPassedOver 66 = .ok (.istore_n 2, 1) := by decide +kernel
theorem d_Setter_findPassedOver_67 : decode b_Setter_findPassedOver 67 = .ok (.aload_n 0, 1) := by decide +kernel
theorem d_Setter_findPassedOver_68 : decode b_Setter_findPassedOver 68 = .ok (.getfield 43, 3) := by decide +kernel
theorem d_Setter_findPassedOver_71 : decode b_Setter_findPassedOver 71 = .ok (.getfield 51, 3) := by decide +kernel
theorem d_Setter_findPassedOver_74 : decode b_Setter_findPassedOver 74 = .ok (.iconst 1, 1) := by decide +kernel
theorem d_Setter_findPassedOver_75 : decode b_Setter_findPassedOver 75 = .ok (.isub, 1) := by decide +kernel
theorem d_Setter_findPassedOver_76 : decode b_Setter_findPassedOver 76 = .ok (.istore_n 3, 1) := by decide +kernel
theorem d_Setter_findPassedOver_77 : decode b_Setter_findPassedOver 77 = .ok (.iload_n 3, 1) := by decide +kernel
theorem d_Setter_findPassedOver_78 : decode b_Setter_findPassedOver 78 = .ok (.ifCond .lt 31, 3) := by decide +kernel
theorem d_Setter_findPassedOver_81 : decode b_Setter_findPassedOver 81 = .ok (.aload_n 0, 1) := by decide +kernel
theorem d_Setter_findPassedOver_82 : decode b_Setter_findPassedOver 82 = .ok (.getfield 28, 3) := by decide +kernel
theorem d_Setter_findPassedOver_85 : decode b_Setter_findPassedOver 85 = .ok (.iload_n 3, 1) := by decide +kernel
theorem d_Setter_findPassedOver_86 : decode b_Setter_findPassedOver 86 = .ok (.iload_n 2, 1) := by decide +kernel
theorem d_Setter_findPassedOver_87 : decode b_Setter_findPassedOver 87 = .ok (.iastore, 1) := by decide +kernel
theorem d_Setter_findPassedOver_88 : decode b_Setter_findPassedOver 88 = .ok (.aload_n 0, 1) := by decide +kernel
theorem d_Setter_findPassedOver_89 : decode b_Setter_findPassedOver 89 = .ok (.getfield 21, 3) := by decide +kernel
theorem d_Setter_findPassedOver_92 : decode b_Setter_findPassedOver 92 = .ok (.iload_n 3, 1) := by decide +kernel
theorem d_Setter_findPassedOver_93 : decode b_Setter_findPassedOver 93 = .ok (.baload, 1) := by decide +kernel
theorem d_Setter_findPassedOver_94 : decode b_Setter_findPassedOver 94 = .ok (.ifCond .eq 7, 3) := by decide +kernel
theorem d_Setter_findPassedOver_97 : decode b_Setter_findPassedOver 97 = .ok (.iload_n 2, 1) := by decide +kernel
theorem d_Setter_findPassedOver_98 : decode b_Setter_findPassedOver 98 = .ok (.goto 4, 3) := by decide +kernel
theorem d_Setter_findPassedOver_101 : decode b_Setter_findPassedOver 101 = .ok (.iload_n 3, 1) := by decide +kernel
theorem d_Setter_findPassedOver_102 : decode b_Setter_findPassedOver 102 = .ok (.istore_n 2, 1) := by decide +kernel
theorem d_Setter_findPassedOver_103 : decode b_Setter_findPassedOver 103 = .ok (.iinc 3 (-1), 3) := by decide +kernel
theorem d_Setter_findPassedOver_106 : decode b_Setter_findPassedOver 106 = .ok (.goto (-29), 3) := by decide +kernel
theorem d_Setter_findPassedOver_109 : decode b_Setter_findPassedOver 109 = .ok (.return_, 1) := by decide +kernel
abbrev b_GlyphSets_lastUpTo : ByteArray := prog_3_method_4_code
def y_GlyphSets_lastUpTo : MethodName := ⟨R_GlyphSets, "lastUpTo", "(LGlyphPositions$Table;IIII)I"⟩
theorem d_GlyphSets_lastUpTo_0 : decode b_GlyphSets_lastUpTo 0 = .ok (.iconst 0, 1) := by decide +kernel
theorem d_GlyphSets_lastUpTo_1 : decode b_GlyphSets_lastUpTo 1 = .ok (.istore 5, 2) := by decide +kernel
theorem d_GlyphSets_lastUpTo_3 : decode b_GlyphSets_lastUpTo 3 = .ok (.iload_n 2, 1) := by decide +kernel
theorem d_GlyphSets_lastUpTo_4 : decode b_GlyphSets_lastUpTo 4 = .ok (.istore 6, 2) := by decide +kernel
theorem d_GlyphSets_lastUpTo_6 : decode b_GlyphSets_lastUpTo 6 = .ok (.iload 5, 2) := by decide +kernel
theorem d_GlyphSets_lastUpTo_8 : decode b_GlyphSets_lastUpTo 8 = .ok (.iload 6, 2) := by decide +kernel
theorem d_GlyphSets_lastUpTo_10 : decode b_GlyphSets_lastUpTo 10 = .ok (.if_icmp .ge 43, 3) := by decide +kernel
theorem d_GlyphSets_lastUpTo_13 : decode b_GlyphSets_lastUpTo 13 = .ok (.iload 5, 2) := by decide +kernel
theorem d_GlyphSets_lastUpTo_15 : decode b_GlyphSets_lastUpTo 15 = .ok (.iload 6, 2) := by decide +kernel
theorem d_GlyphSets_lastUpTo_17 : decode b_GlyphSets_lastUpTo 17 = .ok (.iadd, 1) := by decide +kernel
theorem d_GlyphSets_lastUpTo_18 : decode b_GlyphSets_lastUpTo 18 = .ok (.iconst 1, 1) := by decide +kernel
theorem d_GlyphSets_lastUpTo_19 : decode b_GlyphSets_lastUpTo 19 = .ok (.iushr, 1) := by decide +kernel
theorem d_GlyphSets_lastUpTo_20 : decode b_GlyphSets_lastUpTo 20 = .ok (.istore 7, 2) := by decide +kernel
theorem d_GlyphSets_lastUpTo_22 : decode b_GlyphSets_lastUpTo 22 = .ok (.aload_n 0, 1) := by decide +kernel
theorem d_GlyphSets_lastUpTo_23 : decode b_GlyphSets_lastUpTo 23 = .ok (.iload_n 1, 1) := by decide +kernel
theorem d_GlyphSets_lastUpTo_24 : decode b_GlyphSets_lastUpTo 24 = .ok (.iload_n 3, 1) := by decide +kernel
theorem d_GlyphSets_lastUpTo_25 : decode b_GlyphSets_lastUpTo 25 = .ok (.iload 7, 2) := by decide +kernel
theorem d_GlyphSets_lastUpTo_27 : decode b_GlyphSets_lastUpTo 27 = .ok (.imul, 1) := by decide +kernel
theorem d_GlyphSets_lastUpTo_28 : decode b_GlyphSets_lastUpTo 28 = .ok (.iadd, 1) := by decide +kernel
theorem d_GlyphSets_lastUpTo_29 : decode b_GlyphSets_lastUpTo 29 = .ok (.invokevirtual 9, 3) := by decide +kernel
theorem d_GlyphSets_lastUpTo_32 : decode b_GlyphSets_lastUpTo 32 = .ok (.iload 4, 2) := by decide +kernel
theorem d_GlyphSets_lastUpTo_34 : decode b_GlyphSets_lastUpTo 34 = .ok (.if_icmp .gt 12, 3) := by decide +kernel
theorem d_GlyphSets_lastUpTo_37 : decode b_GlyphSets_lastUpTo 37 = .ok (.iload 7, 2) := by decide +kernel
theorem d_GlyphSets_lastUpTo_39 : decode b_GlyphSets_lastUpTo 39 = .ok (.iconst 1, 1) := by decide +kernel
theorem d_GlyphSets_lastUpTo_40 : decode b_GlyphSets_lastUpTo 40 = .ok (.iadd, 1) := by decide +kernel
theorem d_GlyphSets_lastUpTo_41 : decode b_GlyphSets_lastUpTo 41 = .ok (.istore 5, 2) := by decide +kernel
theorem d_GlyphSets_lastUpTo_43 : decode b_GlyphSets_lastUpTo 43 = .ok (.goto 7, 3) := by decide +kernel
theorem d_GlyphSets_lastUpTo_46 : decode b_GlyphSets_lastUpTo 46 = .ok (.iload 7, 2) := by decide +kernel
theorem d_GlyphSets_lastUpTo_48 : decode b_GlyphSets_lastUpTo 48 = .ok (.istore 6, 2) := by decide +kernel
theorem d_GlyphSets_lastUpTo_50 : decode b_GlyphSets_lastUpTo 50 = .ok (.goto (-44), 3) := by decide +kernel
theorem d_GlyphSets_lastUpTo_53 : decode b_GlyphSets_lastUpTo 53 = .ok (.iload 5, 2) := by decide +kernel
theorem d_GlyphSets_lastUpTo_55 : decode b_GlyphSets_lastUpTo 55 = .ok (.iconst 1, 1) := by decide +kernel
theorem d_GlyphSets_lastUpTo_56 : decode b_GlyphSets_lastUpTo 56 = .ok (.isub, 1) := by decide +kernel
theorem d_GlyphSets_lastUpTo_57 : decode b_GlyphSets_lastUpTo 57 = .ok (.ireturn, 1) := by decide +kernel
abbrev b_GlyphSets_indexOf : ByteArray := prog_3_method_2_code
def y_GlyphSets_indexOf : MethodName := ⟨R_GlyphSets, "indexOf", "(LGlyphPositions$Table;II)I"⟩
theorem d_GlyphSets_indexOf_0 : decode b_GlyphSets_indexOf 0 = .ok (.aload_n 0, 1) := by decide +kernel
theorem d_GlyphSets_indexOf_1 : decode b_GlyphSets_indexOf 1 = .ok (.iload_n 1, 1) := by decide +kernel
theorem d_GlyphSets_indexOf_2 : decode b_GlyphSets_indexOf 2 = .ok (.invokevirtual 9, 3) := by decide +kernel
theorem d_GlyphSets_indexOf_5 : decode b_GlyphSets_indexOf 5 = .ok (.iconst 2, 1) := by decide +kernel
theorem d_GlyphSets_indexOf_6 : decode b_GlyphSets_indexOf 6 = .ok (.if_icmp .ne 7, 3) := by decide +kernel
theorem d_GlyphSets_indexOf_9 : decode b_GlyphSets_indexOf 9 = .ok (.iconst 1, 1) := by decide +kernel
theorem d_GlyphSets_indexOf_10 : decode b_GlyphSets_indexOf 10 = .ok (.goto 4, 3) := by decide +kernel
theorem d_GlyphSets_indexOf_13 : decode b_GlyphSets_indexOf 13 = .ok (.iconst 0, 1) := by decide +kernel
theorem d_GlyphSets_indexOf_14 : decode b_GlyphSets_indexOf 14 = .ok (.istore_n 3, 1) := by decide +kernel
theorem d_GlyphSets_indexOf_15 : decode b_GlyphSets_indexOf 15 = .ok (.iload_n 3, 1) := by decide +kernel
theorem d_GlyphSets_indexOf_16 : decode b_GlyphSets_indexOf 16 = .ok (.ifCond .eq 8, 3) := by decide +kernel
theorem d_GlyphSets_indexOf_19 : decode b_GlyphSets_indexOf 19 = .ok (.bipush 6, 2) := by decide +kernel
theorem d_GlyphSets_indexOf_21 : decode b_GlyphSets_indexOf 21 = .ok (.goto 4, 3) := by decide +kernel
theorem d_GlyphSets_indexOf_24 : decode b_GlyphSets_indexOf 24 = .ok (.iconst 2, 1) := by decide +kernel
theorem d_GlyphSets_indexOf_25 : decode b_GlyphSets_indexOf 25 = .ok (.istore 4, 2) := by decide +kernel
theorem d_GlyphSets_indexOf_27 : decode b_GlyphSets_indexOf 27 = .ok (.aload_n 0, 1) := by decide +kernel
theorem d_GlyphSets_indexOf_28 : decode b_GlyphSets_indexOf 28 = .ok (.iload_n 1, 1) := by decide +kernel
theorem d_GlyphSets_indexOf_29 : decode b_GlyphSets_indexOf 29 = .ok (.iconst 4, 1) := by decide +kernel
theorem d_GlyphSets_indexOf_30 : decode b_GlyphSets_indexOf 30 = .ok (.iadd, 1) := by decide +kernel
theorem d_GlyphSets_indexOf_31 : decode b_GlyphSets_indexOf 31 = .ok (.aload_n 0, 1) := by decide +kernel
theorem d_GlyphSets_indexOf_32 : decode b_GlyphSets_indexOf 32 = .ok (.iload_n 1, 1) := by decide +kernel
theorem d_GlyphSets_indexOf_33 : decode b_GlyphSets_indexOf 33 = .ok (.iconst 2, 1) := by decide +kernel
theorem d_GlyphSets_indexOf_34 : decode b_GlyphSets_indexOf 34 = .ok (.iadd, 1) := by decide +kernel
theorem d_GlyphSets_indexOf_35 : decode b_GlyphSets_indexOf 35 = .ok (.invokevirtual 9, 3) := by decide +kernel
theorem d_GlyphSets_indexOf_38 : decode b_GlyphSets_indexOf 38 = .ok (.iload 4, 2) := by decide +kernel
theorem d_GlyphSets_indexOf_40 : decode b_GlyphSets_indexOf 40 = .ok (.iload_n 2, 1) := by decide +kernel
theorem d_GlyphSets_indexOf_41 : decode b_GlyphSets_indexOf 41 = .ok (.invokestatic 15, 3) := by decide +kernel
theorem d_GlyphSets_indexOf_44 : decode b_GlyphSets_indexOf 44 = .ok (.istore 5, 2) := by decide +kernel
theorem d_GlyphSets_indexOf_46 : decode b_GlyphSets_indexOf 46 = .ok (.iload 5, 2) := by decide +kernel
theorem d_GlyphSets_indexOf_48 : decode b_GlyphSets_indexOf 48 = .ok (.iconst (-1), 1) := by decide +kernel
theorem d_GlyphSets_indexOf_49 : decode b_GlyphSets_indexOf 49 = .ok (.if_icmp .ne 5, 3) := by decide +kernel
theorem d_GlyphSets_indexOf_52 : decode b_GlyphSets_indexOf 52 = .ok (.iconst (-1), 1) := by decide +kernel
theorem d_GlyphSets_indexOf_53 : decode b_GlyphSets_indexOf 53 = .ok (.ireturn, 1) := by decide +kernel
theorem d_GlyphSets_indexOf_54 : decode b_GlyphSets_indexOf 54 = .ok (.iload_n 1, 1) := by decide +kernel
theorem d_GlyphSets_indexOf_55 : decode b_GlyphSets_indexOf 55 = .ok (.iconst 4, 1) := by decide +kernel
theorem d_GlyphSets_indexOf_56 : decode b_GlyphSets_indexOf 56 = .ok (.iadd, 1) := by decide +kernel
theorem d_GlyphSets_indexOf_57 : decode b_GlyphSets_indexOf 57 = .ok (.iload 4, 2) := by decide +kernel
theorem d_GlyphSets_indexOf_59 : decode b_GlyphSets_indexOf 59 = .ok (.iload 5, 2) := by decide +kernel
theorem d_GlyphSets_indexOf_61 : decode b_GlyphSets_indexOf 61 = .ok (.imul, 1) := by decide +kernel
theorem d_GlyphSets_indexOf_62 : decode b_GlyphSets_indexOf 62 = .ok (.iadd, 1) := by decide +kernel
theorem d_GlyphSets_indexOf_63 : decode b_GlyphSets_indexOf 63 = .ok (.istore 6, 2) := by decide +kernel
theorem d_GlyphSets_indexOf_65 : decode b_GlyphSets_indexOf 65 = .ok (.iload_n 3, 1) := by decide +kernel
theorem d_GlyphSets_indexOf_66 : decode b_GlyphSets_indexOf 66 = .ok (.ifCond .eq 41, 3) := by decide +kernel
theorem d_GlyphSets_indexOf_69 : decode b_GlyphSets_indexOf 69 = .ok (.iload_n 2, 1) := by decide +kernel
theorem d_GlyphSets_indexOf_70 : decode b_GlyphSets_indexOf 70 = .ok (.aload_n 0, 1) := by decide +kernel
theorem d_GlyphSets_indexOf_71 : decode b_GlyphSets_indexOf 71 = .ok (.iload 6, 2) := by decide +kernel
theorem d_GlyphSets_indexOf_73 : decode b_GlyphSets_indexOf 73 = .ok (.invokevirtual 9, 3) := by decide +kernel
theorem d_GlyphSets_indexOf_76 : decode b_GlyphSets_indexOf 76 = .ok (.isub, 1) := by decide +kernel
theorem d_GlyphSets_indexOf_77 : decode b_GlyphSets_indexOf 77 = .ok (.istore 7, 2) := by decide +kernel
theorem d_GlyphSets_indexOf_79 : decode b_GlyphSets_indexOf 79 = .ok (.iload_n 2, 1) := by decide +kernel
theorem d_GlyphSets_indexOf_80 : decode b_GlyphSets_indexOf 80 = .ok (.aload_n 0, 1) := by decide +kernel
theorem d_GlyphSets_indexOf_81 : decode b_GlyphSets_indexOf 81 = .ok (.iload 6, 2) := by decide +kernel
theorem d_GlyphSets_indexOf_83 : decode b_GlyphSets_indexOf 83 = .ok (.iconst 2, 1) := by decide +kernel
theorem d_GlyphSets_indexOf_84 : decode b_GlyphSets_indexOf 84 = .ok (.iadd, 1) := by decide +kernel
theorem d_GlyphSets_indexOf_85 : decode b_GlyphSets_indexOf 85 = .ok (.invokevirtual 9, 3) := by decide +kernel
theorem d_GlyphSets_indexOf_88 : decode b_GlyphSets_indexOf 88 = .ok (.if_icmp .gt 17, 3) := by decide +kernel
theorem d_GlyphSets_indexOf_91 : decode b_GlyphSets_indexOf 91 = .ok (.aload_n 0, 1) := by decide +kernel
theorem d_GlyphSets_indexOf_92 : decode b_GlyphSets_indexOf 92 = .ok (.iload 6, 2) := by decide +kernel
theorem d_GlyphSets_indexOf_94 : decode b_GlyphSets_indexOf 94 = .ok (.iconst 4, 1) := by decide +kernel
theorem d_GlyphSets_indexOf_95 : decode b_GlyphSets_indexOf 95 = .ok (.iadd, 1) := by decide +kernel
theorem d_GlyphSets_indexOf_96 : decode b_GlyphSets_indexOf 96 = .ok (.invokevirtual 9, 3) := by decide +kernel
theorem d_GlyphSets_indexOf_99 : decode b_GlyphSets_indexOf 99 = .ok (.iload 7, 2) := by decide +kernel
theorem d_GlyphSets_indexOf_101 : decode b_GlyphSets_indexOf 101 = .ok (.iadd, 1) := by decide +kernel
theorem d_GlyphSets_indexOf_102 : decode b_GlyphSets_indexOf 102 = .ok (.goto 4, 3) := by decide +kernel
theorem d_GlyphSets_indexOf_105 : decode b_GlyphSets_indexOf 105 = .ok (.iconst (-1), 1) := by decide +kernel
theorem d_GlyphSets_indexOf_106 : decode b_GlyphSets_indexOf 106 = .ok (.ireturn, 1) := by decide +kernel
theorem d_GlyphSets_indexOf_107 : decode b_GlyphSets_indexOf 107 = .ok (.iload_n 2, 1) := by decide +kernel
theorem d_GlyphSets_indexOf_108 : decode b_GlyphSets_indexOf 108 = .ok (.aload_n 0, 1) := by decide +kernel
theorem d_GlyphSets_indexOf_109 : decode b_GlyphSets_indexOf 109 = .ok (.iload 6, 2) := by decide +kernel
theorem d_GlyphSets_indexOf_111 : decode b_GlyphSets_indexOf 111 = .ok (.invokevirtual 9, 3) := by decide +kernel
theorem d_GlyphSets_indexOf_114 : decode b_GlyphSets_indexOf 114 = .ok (.if_icmp .ne 8, 3) := by decide +kernel
theorem d_GlyphSets_indexOf_117 : decode b_GlyphSets_indexOf 117 = .ok (.iload 5, 2) := by decide +kernel
theorem d_GlyphSets_indexOf_119 : decode b_GlyphSets_indexOf 119 = .ok (.goto 4, 3) := by decide +kernel
theorem d_GlyphSets_indexOf_122 : decode b_GlyphSets_indexOf 122 = .ok (.iconst (-1), 1) := by decide +kernel
theorem d_GlyphSets_indexOf_123 : decode b_GlyphSets_indexOf 123 = .ok (.ireturn, 1) := by decide +kernel
abbrev b_Setter_indexAt : ByteArray := prog_7_method_15_code
def y_Setter_indexAt : MethodName := ⟨R_Setter, "indexAt", "(III)I"⟩
theorem d_Setter_indexAt_0 : decode b_Setter_indexAt 0 = .ok (.aload_n 0, 1) := by decide +kernel
theorem d_Setter_indexAt_1 : decode b_Setter_indexAt 1 = .ok (.getfield 31, 3) := by decide +kernel
theorem d_Setter_indexAt_4 : decode b_Setter_indexAt 4 = .ok (.iload_n 2, 1) := by decide +kernel
theorem d_Setter_indexAt_5 : decode b_Setter_indexAt 5 = .ok (.aload_n 0, 1) := by decide +kernel
theorem d_Setter_indexAt_6 : decode b_Setter_indexAt 6 = .ok (.getfield 31, 3) := by decide +kernel
theorem d_Setter_indexAt_9 : decode b_Setter_indexAt 9 = .ok (.iload_n 1, 1) := by decide +kernel
theorem d_Setter_indexAt_10 : decode b_Setter_indexAt 10 = .ok (.invokevirtual 70, 3) := by decide +kernel
theorem d_Setter_indexAt_13 : decode b_Setter_indexAt 13 = .ok (.iadd, 1) := by decide +kernel
theorem d_Setter_indexAt_14 : decode b_Setter_indexAt 14 = .ok (.aload_n 0, 1) := by decide +kernel
theorem d_Setter_indexAt_15 : decode b_Setter_indexAt 15 = .ok (.getfield 35, 3) := by decide +kernel
theorem d_Setter_indexAt_18 : decode b_Setter_indexAt 18 = .ok (.getfield 57, 3) := by decide +kernel
theorem d_Setter_indexAt_21 : decode b_Setter_indexAt 21 = .ok (.iload_n 3, 1) := by decide +kernel
theorem d_Setter_indexAt_22 : decode b_Setter_indexAt 22 = .ok (.iaload, 1) := by decide +kernel
theorem d_Setter_indexAt_23 : decode b_Setter_indexAt 23 = .ok (.invokestatic 157, 3) := by decide +kernel
theorem d_Setter_indexAt_26 : decode b_Setter_indexAt 26 = .ok (.ireturn, 1) := by decide +kernel
abbrev b_Setter_anchorAt : ByteArray := prog_7_method_16_code
def y_Setter_anchorAt : MethodName := ⟨R_Setter, "anchorAt", "(II)I"⟩
theorem d_Setter_anchorAt_0 : decode b_Setter_anchorAt 0 = .ok (.aload_n 0, 1) := by decide +kernel
theorem d_Setter_anchorAt_1 : decode b_Setter_anchorAt 1 = .ok (.getfield 31, 3) := by decide +kernel
theorem d_Setter_anchorAt_4 : decode b_Setter_anchorAt 4 = .ok (.iload_n 1, 1) := by decide +kernel
theorem d_Setter_anchorAt_5 : decode b_Setter_anchorAt 5 = .ok (.invokevirtual 70, 3) := by decide +kernel
theorem d_Setter_anchorAt_8 : decode b_Setter_anchorAt 8 = .ok (.istore_n 3, 1) := by decide +kernel
theorem d_Setter_anchorAt_9 : decode b_Setter_anchorAt 9 = .ok (.iload_n 3, 1) := by decide +kernel
theorem d_Setter_anchorAt_10 : decode b_Setter_anchorAt 10 = .ok (.ifCond .ne 7, 3) := by decide +kernel
theorem d_Setter_anchorAt_13 : decode b_Setter_anchorAt 13 = .ok (.iconst (-1), 1) := by decide +kernel
theorem d_Setter_anchorAt_14 : decode b_Setter_anchorAt 14 = .ok (.goto 6, 3) := by decide +kernel
theorem d_Setter_anchorAt_17 : decode b_Setter_anchorAt 17 = .ok (.iload_n 2, 1) := by decide +kernel
theorem d_Setter_anchorAt_18 : decode b_Setter_anchorAt 18 = .ok (.iload_n 3, 1) := by decide +kernel
theorem d_Setter_anchorAt_19 : decode b_Setter_anchorAt 19 = .ok (.iadd, 1) := by decide +kernel
theorem d_Setter_anchorAt_20 : decode b_Setter_anchorAt 20 = .ok (.ireturn, 1) := by decide +kernel
abbrev b_Setter_anchorOn : ByteArray := prog_7_method_14_code
def y_Setter_anchorOn : MethodName := ⟨R_Setter, "anchorOn", "(IIIII)I"⟩
theorem d_Setter_anchorOn_0 : decode b_Setter_anchorOn 0 = .ok (.aload_n 0, 1) := by decide +kernel
theorem d_Setter_anchorOn_1 : decode b_Setter_anchorOn 1 = .ok (.getfield 31, 3) := by decide +kernel
theorem d_Setter_anchorOn_4 : decode b_Setter_anchorOn 4 = .ok (.iload_n 2, 1) := by decide +kernel
theorem d_Setter_anchorOn_5 : decode b_Setter_anchorOn 5 = .ok (.bipush 6, 2) := by decide +kernel
theorem d_Setter_anchorOn_7 : decode b_Setter_anchorOn 7 = .ok (.iadd, 1) := by decide +kernel
theorem d_Setter_anchorOn_8 : decode b_Setter_anchorOn 8 = .ok (.invokevirtual 70, 3) := by decide +kernel
theorem d_Setter_anchorOn_11 : decode b_Setter_anchorOn 11 = .ok (.istore 6, 2) := by decide +kernel
theorem d_Setter_anchorOn_13 : decode b_Setter_anchorOn 13 = .ok (.iload_n 2, 1) := by decide +kernel
theorem d_Setter_anchorOn_14 : decode b_Setter_anchorOn 14 = .ok (.aload_n 0, 1) := by decide +kernel
theorem d_Setter_anchorOn_15 : decode b_Setter_anchorOn 15 = .ok (.getfield 31, 3) := by decide +kernel
theorem d_Setter_anchorOn_18 : decode b_Setter_anchorOn 18 = .ok (.iload_n 2, 1) := by decide +kernel
theorem d_Setter_anchorOn_19 : decode b_Setter_anchorOn 19 = .ok (.bipush 10, 2) := by decide +kernel
theorem d_Setter_anchorOn_21 : decode b_Setter_anchorOn 21 = .ok (.iadd, 1) := by decide +kernel
theorem d_Setter_anchorOn_22 : decode b_Setter_anchorOn 22 = .ok (.invokevirtual 70, 3) := by decide +kernel
theorem d_Setter_anchorOn_25 : decode b_Setter_anchorOn 25 = .ok (.iadd, 1) := by decide +kernel
theorem d_Setter_anchorOn_26 : decode b_Setter_anchorOn 26 = .ok (.istore 7, 2) := by decide +kernel
theorem d_Setter_anchorOn_28 : decode b_Setter_anchorOn 28 = .ok (.iload_n 1, 1) := by decide +kernel
theorem d_Setter_anchorOn_29 : decode b_Setter_anchorOn 29 = .ok (.iconst 5, 1) := by decide +kernel
theorem d_Setter_anchorOn_30 : decode b_Setter_anchorOn 30 = .ok (.if_icmp .eq 24, 3) := by decide +kernel
theorem d_Setter_anchorOn_33 : decode b_Setter_anchorOn 33 = .ok (.aload_n 0, 1) := by decide +kernel
theorem d_Setter_anchorOn_34 : decode b_Setter_anchorOn 34 = .ok (.iload 7, 2) := by decide +kernel
theorem d_Setter_anchorOn_36 : decode b_Setter_anchorOn 36 = .ok (.iconst 2, 1) := by decide +kernel
theorem d_Setter_anchorOn_37 : decode b_Setter_anchorOn 37 = .ok (.iadd, 1) := by decide +kernel
theorem d_Setter_anchorOn_38 : decode b_Setter_anchorOn 38 = .ok (.iconst 2, 1) := by decide +kernel
theorem d_Setter_anchorOn_39 : decode b_Setter_anchorOn 39 = .ok (.iload_n 3, 1) := by decide +kernel
theorem d_Setter_anchorOn_40 : decode b_Setter_anchorOn 40 = .ok (.iload 6, 2) := by decide +kernel
theorem d_Setter_anchorOn_42 : decode b_Setter_anchorOn 42 = .ok (.imul, 1) := by decide +kernel
theorem d_Setter_anchorOn_43 : decode b_Setter_anchorOn 43 = .ok (.iload 4, 2) := by decide +kernel
theorem d_Setter_anchorOn_45 : decode b_Setter_anchorOn 45 = .ok (.iadd, 1) := by decide +kernel
theorem d_Setter_anchorOn_46 : decode b_Setter_anchorOn 46 = .ok (.imul, 1) := by decide +kernel
theorem d_Setter_anchorOn_47 : decode b_Setter_anchorOn 47 = .ok (.iadd, 1) := by decide +kernel
theorem d_Setter_anchorOn_48 : decode b_Setter_anchorOn 48 = .ok (.iload 7, 2) := by decide +kernel
theorem d_Setter_anchorOn_50 : decode b_Setter_anchorOn 50 = .ok (.invokevirtual 137, 3) := by decide +kernel
theorem d_Setter_anchorOn_53 : decode b_Setter_anchorOn 53 = .ok (.ireturn, 1) := by decide +kernel
theorem d_Setter_anchorOn_54 : decode b_Setter_anchorOn 54 = .ok (.iload 7, 2) := by decide +kernel
theorem d_Setter_anchorOn_56 : decode b_Setter_anchorOn 56 = .ok (.aload_n 0, 1) := by decide +kernel
theorem d_Setter_anchorOn_57 : decode b_Setter_anchorOn 57 = .ok (.getfield 31, 3) := by decide +kernel
theorem d_Setter_anchorOn_60 : decode b_Setter_anchorOn 60 = .ok (.iload 7, 2) := by decide +kernel
theorem d_Setter_anchorOn_62 : decode b_Setter_anchorOn 62 = .ok (.iconst 2, 1) := by decide +kernel
theorem d_Setter_anchorOn_63 : decode b_Setter_anchorOn 63 = .ok (.iadd, 1) := by decide +kernel
theorem d_Setter_anchorOn_64 : decode b_Setter_anchorOn 64 = .ok (.iconst 2, 1) := by decide +kernel
theorem d_Setter_anchorOn_65 : decode b_Setter_anchorOn 65 = .ok (.iload_n 3, 1) := by decide +kernel
theorem d_Setter_anchorOn_66 : decode b_Setter_anchorOn 66 = .ok (.imul, 1) := by decide +kernel
theorem d_Setter_anchorOn_67 : decode b_Setter_anchorOn 67 = .ok (.iadd, 1) := by decide +kernel
theorem d_Setter_anchorOn_68 : decode b_Setter_anchorOn 68 = .ok (.invokevirtual 70, 3) := by decide +kernel
theorem d_Setter_anchorOn_71 : decode b_Setter_anchorOn 71 = .ok (.iadd, 1) := by decide +kernel
theorem d_Setter_anchorOn_72 : decode b_Setter_anchorOn 72 = .ok (.istore 8, 2) := by decide +kernel
theorem d_Setter_anchorOn_74 : decode b_Setter_anchorOn 74 = .ok (.aload_n 0, 1) := by decide +kernel
theorem d_Setter_anchorOn_75 : decode b_Setter_anchorOn 75 = .ok (.getfield 31, 3) := by decide +kernel
theorem d_Setter_anchorOn_78 : decode b_Setter_anchorOn 78 = .ok (.iload 8, 2) := by decide +kernel
theorem d_Setter_anchorOn_80 : decode b_Setter_anchorOn 80 = .ok (.invokevirtual 70, 3) := by decide +kernel
theorem d_Setter_anchorOn_83 : decode b_Setter_anchorOn 83 = .ok (.istore 9, 2) := by decide +kernel
theorem d_Setter_anchorOn_85 : decode b_Setter_anchorOn 85 = .ok (.iload 5, 2) := by decide +kernel
theorem d_Setter_anchorOn_87 : decode b_Setter_anchorOn 87 = .ok (.ifCond .eq 10, 3) := by decide +kernel
theorem d_Setter_anchorOn_90 : decode b_Setter_anchorOn 90 = .ok (.iload 5, 2) := by decide +kernel
theorem d_Setter_anchorOn_92 : decode b_Setter_anchorOn 92 = .ok (.iload 9, 2) := by decide +kernel
theorem d_Setter_anchorOn_94 : decode b_Setter_anchorOn 94 = .ok (.if_icmp .le 8, 3) := by decide +kernel
theorem d_Setter_anchorOn_97 : decode b_Setter_anchorOn 97 = .ok (.iload 9, 2) := by decide +kernel
theorem d_Setter_anchorOn_99 : decode b_Setter_anchorOn 99 = .ok (.goto 5, 3) := by decide +kernel
theorem d_Setter_anchorOn_102 : decode b_Setter_anchorOn 102 = .ok (.iload 5, 2) := by decide +kernel
theorem d_Setter_anchorOn_104 : decode b_Setter_anchorOn 104 = .ok (.istore 10, 2) := by decide +kernel
theorem d_Setter_anchorOn_106 : decode b_Setter_anchorOn 106 = .ok (.aload_n 0, 1) := by decide +kernel
theorem d_Setter_anchorOn_107 : decode b_Setter_anchorOn 107 = .ok (.iload 8, 2) := by decide +kernel
theorem d_Setter_anchorOn_109 : decode b_Setter_anchorOn 109 = .ok (.iconst 2, 1) := by decide +kernel
theorem d_Setter_anchorOn_110 : decode b_Setter_anchorOn 110 = .ok (.iadd, 1) := by decide +kernel
theorem d_Setter_anchorOn_111 : decode b_Setter_anchorOn 111 = .ok (.iconst 2, 1) := by decide +kernel
theorem d_Setter_anchorOn_112 : decode b_Setter_anchorOn 112 = .ok (.iload 10, 2) := by decide +kernel
theorem d_Setter_anchorOn_114 : decode b_Setter_anchorOn 114 = .ok (.iconst 1, 1) := by decide +kernel
theorem d_Setter_anchorOn_115 : decode b_Setter_anchorOn 115 = .ok (.isub, 1) := by decide +kernel
theorem d_Setter_anchorOn_116 : decode b_Setter_anchorOn 116 = .ok (.iload 6, 2) := by decide +kernel
theorem d_Setter_anchorOn_118 : decode b_Setter_anchorOn 118 = .ok (.imul, 1) := by decide +kernel
theorem d_Setter_anchorOn_119 : decode b_Setter_anchorOn 119 = .ok (.iload 4, 2) := by decide +kernel
theorem d_Setter_anchorOn_121 : decode b_Setter_anchorOn 121 = .ok (.iadd, 1) := by decide +kernel
theorem d_Setter_anchorOn_122 : decode b_Setter_anchorOn 122 = .ok (.imul, 1) := by decide +kernel
theorem d_Setter_anchorOn_123 : decode b_Setter_anchorOn 123 = .ok (.iadd, 1) := by decide +kernel
theorem d_Setter_anchorOn_124 : decode b_Setter_anchorOn 124 = .ok (.iload 8, 2) := by decide +kernel
theorem d_Setter_anchorOn_126 : decode b_Setter_anchorOn 126 = .ok (.invokevirtual 137, 3) := by decide +kernel
theorem d_Setter_anchorOn_129 : decode b_Setter_anchorOn 129 = .ok (.ireturn, 1) := by decide +kernel
abbrev b_Setter_takeMark : ByteArray := prog_7_method_13_code
def y_Setter_takeMark : MethodName := ⟨R_Setter, "takeMark", "(III)Z"⟩
theorem d_Setter_takeMark_0 : decode b_Setter_takeMark 0 = .ok (.iload_n 1, 1) := by decide +kernel
theorem d_Setter_takeMark_1 : decode b_Setter_takeMark 1 = .ok (.bipush 6, 2) := by decide +kernel
theorem d_Setter_takeMark_3 : decode b_Setter_takeMark 3 = .ok (.if_icmp .ne 12, 3) := by decide +kernel
theorem d_Setter_takeMark_6 : decode b_Setter_takeMark 6 = .ok (.aload_n 0, 1) := by decide +kernel
theorem d_Setter_takeMark_7 : decode b_Setter_takeMark 7 = .ok (.getfield 25, 3) := by decide +kernel
theorem d_Setter_takeMark_10 : decode b_Setter_takeMark 10 = .ok (.iload_n 3, 1) := by decide +kernel
theorem d_Setter_takeMark_11 : decode b_Setter_takeMark 11 = .ok (.iaload, 1) := by decide +kernel
theorem d_Setter_takeMark_12 : decode b_Setter_takeMark 12 = .ok (.goto 9, 3) := by decide +kernel
theorem d_Setter_takeMark_15 : decode b_Setter_takeMark 15 = .ok (.aload_n 0, 1) := by decide +kernel
theorem d_Setter_takeMark_16 : decode b_Setter_takeMark 16 = .ok (.getfield 18, 3) := by decide +kernel
theorem d_Setter_takeMark_19 : decode b_Setter_takeMark 19 = .ok (.iload_n 3, 1) := by decide +kernel
theorem d_Setter_takeMark_20 : decode b_Setter_takeMark 20 = .ok (.iaload, 1) := by decide +kernel
theorem d_Setter_takeMark_21 : decode b_Setter_takeMark 21 = .ok (.istore 4, 2) := by decide +kernel
theorem d_Setter_takeMark_23 : decode b_Setter_takeMark 23 = .ok (.iload 4, 2) := by decide +kernel
theorem d_Setter_takeMark_25 : decode b_Setter_takeMark 25 = .ok (.iconst (-1), 1) := by decide +kernel
theorem d_Setter_takeMark_26 : decode b_Setter_takeMark 26 = .ok (.if_icmp .eq 20, 3) := by decide +kernel
theorem d_Setter_takeMark_29 : decode b_Setter_takeMark 29 = .ok (.iload_n 1, 1) := by decide +kernel
theorem d_Setter_takeMark_30 : decode b_Setter_takeMark 30 = .ok (.bipush 6, 2) := by decide +kernel
theorem d_Setter_takeMark_32 : decode b_Setter_takeMark 32 = .ok (.if_icmp .ne 16, 3) := by decide +kernel
theorem d_Setter_takeMark_35 : decode b_Setter_takeMark 35 = .ok (.aload_n 0, 1) := by decide +kernel
theorem d_Setter_takeMark_36 : decode b_Setter_takeMark 36 = .ok (.getfield 9, 3) := by decide +kernel
theorem d_Setter_takeMark_39 : decode b_Setter_takeMark 39 = .ok (.iload 4, 2) := by decide +kernel
theorem d_Setter_takeMark_41 : decode b_Setter_takeMark 41 = .ok (.iaload, 1) := by decide +kernel
theorem d_Setter_takeMark_42 : decode b_Setter_takeMark 42 = .ok (.iconst 3, 1) := by decide +kernel
theorem d_Setter_takeMark_43 : decode b_Setter_takeMark 43 = .ok (.if_icmp .eq 5, 3) := by decide +kernel
theorem d_Setter_takeMark_46 : decode b_Setter_takeMark 46 = .ok (.iconst 0, 1) := by decide +kernel
theorem d_Setter_takeMark_47 : decode b_Setter_takeMark 47 = .ok (.ireturn, 1) := by decide +kernel
theorem d_Setter_takeMark_48 : decode b_Setter_takeMark 48 = .ok (.aload_n 0, 1) := by decide +kernel
theorem d_Setter_takeMark_49 : decode b_Setter_takeMark 49 = .ok (.iload_n 2, 1) := by decide +kernel
theorem d_Setter_takeMark_50 : decode b_Setter_takeMark 50 = .ok (.iconst 2, 1) := by decide +kernel
theorem d_Setter_takeMark_51 : decode b_Setter_takeMark 51 = .ok (.iadd, 1) := by decide +kernel
theorem d_Setter_takeMark_52 : decode b_Setter_takeMark 52 = .ok (.iload_n 2, 1) := by decide +kernel
theorem d_Setter_takeMark_53 : decode b_Setter_takeMark 53 = .ok (.iload_n 3, 1) := by decide +kernel
theorem d_Setter_takeMark_54 : decode b_Setter_takeMark 54 = .ok (.invokevirtual 104, 3) := by decide +kernel
theorem d_Setter_takeMark_57 : decode b_Setter_takeMark 57 = .ok (.istore 5, 2) := by decide +kernel
theorem d_Setter_takeMark_59 : decode b_Setter_takeMark 59 = .ok (.aload_n 0, 1) := by decide +kernel
theorem d_Setter_takeMark_60 : decode b_Setter_takeMark 60 = .ok (.iload_n 2, 1) := by decide +kernel
theorem d_Setter_takeMark_61 : decode b_Setter_takeMark 61 = .ok (.iconst 4, 1) := by decide +kernel
theorem d_Setter_takeMark_62 : decode b_Setter_takeMark 62 = .ok (.iadd, 1) := by decide +kernel
theorem d_Setter_takeMark_63 : decode b_Setter_takeMark 63 = .ok (.iload_n 2, 1) := by decide +kernel
theorem d_Setter_takeMark_64 : decode b_Setter_takeMark 64 = .ok (.iload 4, 2) := by decide +kernel
theorem d_Setter_takeMark_66 : decode b_Setter_takeMark 66 = .ok (.invokevirtual 104, 3) := by decide +kernel
theorem d_Setter_takeMark_69 : decode b_Setter_takeMark 69 = .ok (.istore 6, 2) := by decide +kernel
theorem d_Setter_takeMark_71 : decode b_Setter_takeMark 71 = .ok (.iload 5, 2) := by decide +kernel
theorem d_Setter_takeMark_73 : decode b_Setter_takeMark 73 = .ok (.iconst (-1), 1) := by decide +kernel
theorem d_Setter_takeMark_74 : decode b_Setter_takeMark 74 = .ok (.if_icmp .eq 9, 3) := by decide +kernel
theorem d_Setter_takeMark_77 : decode b_Setter_takeMark 77 = .ok (.iload 6, 2) := by decide +kernel
theorem d_Setter_takeMark_79 : decode b_Setter_takeMark 79 = .ok (.iconst (-1), 1) := by decide +kernel
theorem d_Setter_takeMark_80 : decode b_Setter_takeMark 80 = .ok (.if_icmp .ne 5, 3) := by decide +kernel
theorem d_Setter_takeMark_83 : decode b_Setter_takeMark 83 = .ok (.iconst 0, 1) := by decide +kernel
theorem d_Setter_takeMark_84 : decode b_Setter_takeMark 84 = .ok (.ireturn, 1) := by decide +kernel
theorem d_Setter_takeMark_85 : decode b_Setter_takeMark 85 = .ok (.iload_n 2, 1) := by decide +kernel
theorem d_Setter_takeMark_86 : decode b_Setter_takeMark 86 = .ok (.aload_n 0, 1) := by decide +kernel
theorem d_Setter_takeMark_87 : decode b_Setter_takeMark 87 = .ok (.getfield 31, 3) := by decide +kernel
theorem d_Setter_takeMark_90 : decode b_Setter_takeMark 90 = .ok (.iload_n 2, 1) := by decide +kernel
theorem d_Setter_takeMark_91 : decode b_Setter_takeMark 91 = .ok (.bipush 8, 2) := by decide +kernel
theorem d_Setter_takeMark_93 : decode b_Setter_takeMark 93 = .ok (.iadd, 1) := by decide +kernel
theorem d_Setter_takeMark_94 : decode b_Setter_takeMark 94 = .ok (.invokevirtual 70, 3) := by decide +kernel
theorem d_Setter_takeMark_97 : decode b_Setter_takeMark 97 = .ok (.iadd, 1) := by decide +kernel
theorem d_Setter_takeMark_98 : decode b_Setter_takeMark 98 = .ok (.istore 7, 2) := by decide +kernel
theorem d_Setter_takeMark_100 : decode b_Setter_takeMark 100 = .ok (.iload 7, 2) := by decide +kernel
theorem d_Setter_takeMark_102 : decode b_Setter_takeMark 102 = .ok (.iconst 2, 1) := by decide +kernel
theorem d_Setter_takeMark_103 : decode b_Setter_takeMark 103 = .ok (.iadd, 1) := by decide +kernel
theorem d_Setter_takeMark_104 : decode b_Setter_takeMark 104 = .ok (.iconst 4, 1) := by decide +kernel
theorem d_Setter_takeMark_105 : decode b_Setter_takeMark 105 = .ok (.iload 5, 2) := by decide +kernel
theorem d_Setter_takeMark_107 : decode b_Setter_takeMark 107 = .ok (.imul, 1) := by decide +kernel
theorem d_Setter_takeMark_108 : decode b_Setter_takeMark 108 = .ok (.iadd, 1) := by decide +kernel
theorem d_Setter_takeMark_109 : decode b_Setter_takeMark 109 = .ok (.istore 8, 2) := by decide +kernel
theorem d_Setter_takeMark_111 : decode b_Setter_takeMark 111 = .ok (.iload 7, 2) := by decide +kernel
theorem d_Setter_takeMark_113 : decode b_Setter_takeMark 113 = .ok (.aload_n 0, 1) := by decide +kernel
theorem d_Setter_takeMark_114 : decode b_Setter_takeMark 114 = .ok (.getfield 31, 3) := by decide +kernel
theorem d_Setter_takeMark_117 : decode b_Setter_takeMark 117 = .ok (.iload 8, 2) := by decide +kernel
theorem d_Setter_takeMark_119 : decode b_Setter_takeMark 119 = .ok (.iconst 2, 1) := by decide +kernel
theorem d_Setter_takeMark_120 : decode b_Setter_takeMark 120 = .ok (.iadd, 1) := by decide +kernel
theorem d_Setter_takeMark_121 : decode b_Setter_takeMark 121 = .ok (.invokevirtual 70, 3) := by decide +kernel
theorem d_Setter_takeMark_124 : decode b_Setter_takeMark 124 = .ok (.iadd, 1) := by decide +kernel
theorem d_Setter_takeMark_125 : decode b_Setter_takeMark 125 = .ok (.istore 9, 2) := by decide +kernel
theorem d_Setter_takeMark_127 : decode b_Setter_takeMark 127 = .ok (.aload_n 0, 1) := by decide +kernel
theorem d_Setter_takeMark_128 : decode b_Setter_takeMark 128 = .ok (.iload_n 1, 1) := by decide +kernel
theorem d_Setter_takeMark_129 : decode b_Setter_takeMark 129 = .ok (.iload_n 2, 1) := by decide +kernel
theorem d_Setter_takeMark_130 : decode b_Setter_takeMark 130 = .ok (.iload 6, 2) := by decide +kernel
theorem d_Setter_takeMark_132 : decode b_Setter_takeMark 132 = .ok (.aload_n 0, 1) := by decide +kernel
theorem d_Setter_takeMark_133 : decode b_Setter_takeMark 133 = .ok (.getfield 31, 3) := by decide +kernel
theorem d_Setter_takeMark_136 : decode b_Setter_takeMark 136 = .ok (.iload 8, 2) := by decide +kernel
theorem d_Setter_takeMark_138 : decode b_Setter_takeMark 138 = .ok (.invokevirtual 70, 3) := by decide +kernel
theorem d_Setter_takeMark_141 : decode b_Setter_takeMark 141 = .ok (.aload_n 0, 1) := by decide +kernel
theorem d_Setter_takeMark_142 : decode b_Setter_takeMark 142 = .ok (.getfield 35, 3) := by decide +kernel
theorem d_Setter_takeMark_145 : decode b_Setter_takeMark 145 = .ok (.getfield 147, 3) := by decide +kernel
theorem d_Setter_takeMark_148 : decode b_Setter_takeMark 148 = .ok (.iload_n 3, 1) := by decide +kernel
theorem d_Setter_takeMark_149 : decode b_Setter_takeMark 149 = .ok (.iaload, 1) := by decide +kernel
theorem d_Setter_takeMark_150 : decode b_Setter_takeMark 150 = .ok (.invokevirtual 150, 3) := by decide +kernel
theorem d_Setter_takeMark_153 : decode b_Setter_takeMark 153 = .ok (.istore 10, 2) := by decide +kernel
theorem d_Setter_takeMark_155 : decode b_Setter_takeMark 155 = .ok (.iload 10, 2) := by decide +kernel
theorem d_Setter_takeMark_157 : decode b_Setter_takeMark 157 = .ok (.iconst (-1), 1) := by decide +kernel
theorem d_Setter_takeMark_158 : decode b_Setter_takeMark 158 = .ok (.if_icmp .ne 5, 3) := by decide +kernel
theorem d_Setter_takeMark_161 : decode b_Setter_takeMark 161 = .ok (.iconst 0, 1) := by decide +kernel
theorem d_Setter_takeMark_162 : decode b_Setter_takeMark 162 = .ok (.ireturn, 1) := by decide +kernel
theorem d_Setter_takeMark_163 : decode b_Setter_takeMark 163 = .ok (.aload_n 0, 1) := by decide +kernel
theorem d_Setter_takeMark_164 : decode b_Setter_takeMark 164 = .ok (.getfield 43, 3) := by decide +kernel
theorem d_Setter_takeMark_167 : decode b_Setter_takeMark 167 = .ok (.iload_n 3, 1) := by decide +kernel
theorem d_Setter_takeMark_168 : decode b_Setter_takeMark 168 = .ok (.iload 4, 2) := by decide +kernel
theorem d_Setter_takeMark_170 : decode b_Setter_takeMark 170 = .ok (.aload_n 0, 1) := by decide +kernel
theorem d_Setter_takeMark_171 : decode b_Setter_takeMark 171 = .ok (.getfield 31, 3) := by decide +kernel
theorem d_Setter_takeMark_174 : decode b_Setter_takeMark 174 = .ok (.iload 10, 2) := by decide +kernel
theorem d_Setter_takeMark_176 : decode b_Setter_takeMark 176 = .ok (.iconst 2, 1) := by decide +kernel
theorem d_Setter_takeMark_177 : decode b_Setter_takeMark 177 = .ok (.iadd, 1) := by decide +kernel
theorem d_Setter_takeMark_178 : decode b_Setter_takeMark 178 = .ok (.invokevirtual 131, 3) := by decide +kernel
theorem d_Setter_takeMark_181 : decode b_Setter_takeMark 181 = .ok (.aload_n 0, 1) := by decide +kernel
theorem d_Setter_takeMark_182 : decode b_Setter_takeMark 182 = .ok (.getfield 31, 3) := by decide +kernel
theorem d_Setter_takeMark_185 : decode b_Setter_takeMark 185 = .ok (.iload 9, 2) := by decide +kernel
theorem d_Setter_takeMark_187 : decode b_Setter_takeMark 187 = .ok (.iconst 2, 1) := by decide +kernel
theorem d_Setter_takeMark_188 : decode b_Setter_takeMark 188 = .ok (.iadd, 1) := by decide +kernel
theorem d_Setter_takeMark_189 : decode b_Setter_takeMark 189 = .ok (.invokevirtual 131, 3) := by decide +kernel
theorem d_Setter_takeMark_192 : decode b_Setter_takeMark 192 = .ok (.isub, 1) := by decide +kernel
theorem d_Setter_takeMark_193 : decode b_Setter_takeMark 193 = .ok (.aload_n 0, 1) := by decide +kernel
theorem d_Setter_takeMark_194 : decode b_Setter_takeMark 194 = .ok (.getfield 31, 3) := by decide +kernel
theorem d_Setter_takeMark_197 : decode b_Setter_takeMark 197 = .ok (.iload 10, 2) := by decide +kernel
theorem d_Setter_takeMark_199 : decode b_Setter_takeMark 199 = .ok (.iconst 4, 1) := by decide +kernel
theorem d_Setter_takeMark_200 : decode b_Setter_takeMark 200 = .ok (.iadd, 1) := by decide +kernel
theorem d_Setter_takeMark_201 : decode b_Setter_takeMark 201 = .ok (.invokevirtual 131, 3) := by decide +kernel
theorem d_Setter_takeMark_204 : decode b_Setter_takeMark 204 = .ok (.aload_n 0, 1) := by decide +kernel
theorem d_Setter_takeMark_205 : decode b_Setter_takeMark 205 = .ok (.getfield 31, 3) := by decide +kernel
theorem d_Setter_takeMark_208 : decode b_Setter_takeMark 208 = .ok (.iload 9, 2) := by decide +kernel
theorem d_Setter_takeMark_210 : decode b_Setter_takeMark 210 = .ok (.iconst 4, 1) := by decide +kernel
theorem d_Setter_takeMark_211 : decode b_Setter_takeMark 211 = .ok (.iadd, 1) := by decide +kernel
theorem d_Setter_takeMark_212 : decode b_Setter_takeMark 212 = .ok (.invokevirtual 131, 3) := by decide +kernel
theorem d_Setter_takeMark_215 : decode b_Setter_takeMark 215 = .ok (.isub, 1) := by decide +kernel
theorem d_Setter_takeMark_216 : decode b_Setter_takeMark 216 = .ok (.invokevirtual 154, 3) := by decide +kernel
theorem d_Setter_takeMark_219 : decode b_Setter_takeMark 219 = .ok (.iconst 1, 1) := by decide +kernel
theorem d_Setter_takeMark_220 : decode b_Setter_takeMark 220 = .ok (.ireturn, 1) := by decide +kernel
abbrev b_Setter_takeCursive : ByteArray := prog_7_method_12_code
def y_Setter_takeCursive : MethodName := ⟨R_Setter, "takeCursive", "(II)Z"⟩
theorem d_Setter_takeCursive_0 : decode b_Setter_takeCursive 0 = .ok (.aload_n 0, 1) := by decide +kernel
theorem d_Setter_takeCursive_1 : decode b_Setter_takeCursive 1 = .ok (.getfield 28, 3) := by decide +kernel
theorem d_Setter_takeCursive_4 : decode b_Setter_takeCursive 4 = .ok (.iload_n 2, 1) := by decide +kernel
theorem d_Setter_takeCursive_5 : decode b_Setter_takeCursive 5 = .ok (.iaload, 1) := by decide +kernel
theorem d_Setter_takeCursive_6 : decode b_Setter_takeCursive 6 = .ok (.istore_n 3, 1) := by decide +kernel
theorem d_Setter_takeCursive_7 : decode b_Setter_takeCursive 7 = .ok (.iload_n 3, 1) := by decide +kernel
theorem d_Setter_takeCursive_8 : decode b_Setter_takeCursive 8 = .ok (.iconst (-1), 1) := by decide +kernel
theorem d_Setter_takeCursive_9 : decode b_Setter_takeCursive 9 = .ok (.if_icmp .ne 5, 3) := by decide +kernel
theorem d_Setter_takeCursive_12 : decode b_Setter_takeCursive 12 = .ok (.iconst 0, 1) := by decide +kernel
theorem d_Setter_takeCursive_13 : decode b_Setter_takeCursive 13 = .ok (.ireturn, 1) := by decide +kernel
theorem d_Setter_takeCursive_14 : decode b_Setter_takeCursive 14 = .ok (.aload_n 0, 1) := by decide +kernel
theorem d_Setter_takeCursive_15 : decode b_Setter_takeCursive 15 = .ok (.iload_n 1, 1) := by decide +kernel
theorem d_Setter_takeCursive_16 : decode b_Setter_takeCursive 16 = .ok (.iconst 2, 1) := by decide +kernel
theorem d_Setter_takeCursive_17 : decode b_Setter_takeCursive 17 = .ok (.iadd, 1) := by decide +kernel
theorem d_Setter_takeCursive_18 : decode b_Setter_takeCursive 18 = .ok (.iload_n 1, 1) := by decide +kernel
theorem d_Setter_takeCursive_19 : decode b_Setter_takeCursive 19 = .ok (.iload_n 2, 1) := by decide +kernel
theorem d_Setter_takeCursive_20 : decode b_Setter_takeCursive 20 = .ok (.invokevirtual 104, 3) := by decide +kernel
theorem d_Setter_takeCursive_23 : decode b_Setter_takeCursive 23 = .ok (.istore 4, 2) := by decide +kernel
theorem d_Setter_takeCursive_25 : decode b_Setter_takeCursive 25 = .ok (.aload_n 0, 1) := by decide +kernel
theorem d_Setter_takeCursive_26 : decode b_Setter_takeCursive 26 = .ok (.iload_n 1, 1) := by decide +kernel
theorem d_Setter_takeCursive_27 : decode b_Setter_takeCursive 27 = .ok (.iconst 2, 1) := by decide +kernel
theorem d_Setter_takeCursive_28 : decode b_Setter_takeCursive 28 = .ok (.iadd, 1) := by decide +kernel
theorem d_Setter_takeCursive_29 : decode b_Setter_takeCursive 29 = .ok (.iload_n 1, 1) := by decide +kernel
theorem d_Setter_takeCursive_30 : decode b_Setter_takeCursive 30 = .ok (.iload_n 3, 1) := by decide +kernel
theorem d_Setter_takeCursive_31 : decode b_Setter_takeCursive 31 = .ok (.invokevirtual 104, 3) := by decide +kernel
theorem d_Setter_takeCursive_34 : decode b_Setter_takeCursive 34 = .ok (.istore 5, 2) := by decide +kernel
theorem d_Setter_takeCursive_36 : decode b_Setter_takeCursive 36 = .ok (.iload 4, 2) := by decide +kernel
theorem d_Setter_takeCursive_38 : decode b_Setter_takeCursive 38 = .ok (.iconst (-1), 1) := by decide +kernel
theorem d_Setter_takeCursive_39 : decode b_Setter_takeCursive 39 = .ok (.if_icmp .eq 9, 3) := by decide +kernel
theorem d_Setter_takeCursive_42 : decode b_Setter_takeCursive 42 = .ok (.iload 5, 2) := by decide +kernel
theorem d_Setter_takeCursive_44 : decode b_Setter_takeCursive 44 = .ok (.iconst (-1), 1) := by decide +kernel
theorem d_Setter_takeCursive_45 : decode b_Setter_takeCursive 45 = .ok (.if_icmp .ne 5, 3) := by decide +kernel
theorem d_Setter_takeCursive_48 : decode b_Setter_takeCursive 48 = .ok (.iconst 0, 1) := by decide +kernel
theorem d_Setter_takeCursive_49 : decode b_Setter_takeCursive 49 = .ok (.ireturn, 1) := by decide +kernel
theorem d_Setter_takeCursive_50 : decode b_Setter_takeCursive 50 = .ok (.aload_n 0, 1) := by decide +kernel
theorem d_Setter_takeCursive_51 : decode b_Setter_takeCursive 51 = .ok (.iload_n 1, 1) := by decide +kernel
theorem d_Setter_takeCursive_52 : decode b_Setter_takeCursive 52 = .ok (.bipush 8, 2) := by decide +kernel
theorem d_Setter_takeCursive_54 : decode b_Setter_takeCursive 54 = .ok (.iadd, 1) := by decide +kernel
theorem d_Setter_takeCursive_55 : decode b_Setter_takeCursive 55 = .ok (.iconst 4, 1) := by decide +kernel
theorem d_Setter_takeCursive_56 : decode b_Setter_takeCursive 56 = .ok (.iload 4, 2) := by decide +kernel
theorem d_Setter_takeCursive_58 : decode b_Setter_takeCursive 58 = .ok (.imul, 1) := by decide +kernel
theorem d_Setter_takeCursive_59 : decode b_Setter_takeCursive 59 = .ok (.iadd, 1) := by decide +kernel
theorem d_Setter_takeCursive_60 : decode b_Setter_takeCursive 60 = .ok (.iload_n 1, 1) := by decide +kernel
theorem d_Setter_takeCursive_61 : decode b_Setter_takeCursive 61 = .ok (.invokevirtual 137, 3) := by decide +kernel
theorem d_Setter_takeCursive_64 : decode b_Setter_takeCursive 64 = .ok (.istore 6, 2) := by decide +kernel
theorem d_Setter_takeCursive_66 : decode b_Setter_takeCursive 66 = .ok (.aload_n 0, 1) := by decide +kernel
theorem d_Setter_takeCursive_67 : decode b_Setter_takeCursive 67 = .ok (.iload_n 1, 1) := by decide +kernel
theorem d_Setter_takeCursive_68 : decode b_Setter_takeCursive 68 = .ok (.bipush 6, 2) := by decide +kernel
theorem d_Setter_takeCursive_70 : decode b_Setter_takeCursive 70 = .ok (.iadd, 1) := by decide +kernel
theorem d_Setter_takeCursive_71 : decode b_Setter_takeCursive 71 = .ok (.iconst 4, 1) := by decide +kernel
theorem d_Setter_takeCursive_72 : decode b_Setter_takeCursive 72 = .ok (.iload 5, 2) := by decide +kernel
theorem d_Setter_takeCursive_74 : decode b_Setter_takeCursive 74 = .ok (.imul, 1) := by decide +kernel
theorem d_Setter_takeCursive_75 : decode b_Setter_takeCursive 75 = .ok (.iadd, 1) := by decide +kernel
theorem d_Setter_takeCursive_76 : decode b_Setter_takeCursive 76 = .ok (.iload_n 1, 1) := by decide +kernel
theorem d_Setter_takeCursive_77 : decode b_Setter_takeCursive 77 = .ok (.invokevirtual 137, 3) := by decide +kernel
theorem d_Setter_takeCursive_80 : decode b_Setter_takeCursive 80 = .ok (.istore 7, 2) := by decide +kernel
theorem d_Setter_takeCursive_82 : decode b_Setter_takeCursive 82 = .ok (.iload 6, 2) := by decide +kernel
theorem d_Setter_takeCursive_84 : decode b_Setter_takeCursive 84 = .ok (.iconst (-1), 1) := by decide +kernel
theorem d_Setter_takeCursive_85 : decode b_Setter_takeCursive 85 = .ok (.if_icmp .eq 9, 3) := by decide +kernel
theorem d_Setter_takeCursive_88 : decode b_Setter_takeCursive 88 = .ok (.iload 7, 2) := by decide +kernel
theorem d_Setter_takeCursive_90 : decode b_Setter_takeCursive 90 = .ok (.iconst (-1), 1) := by decide +kernel
theorem d_Setter_takeCursive_91 : decode b_Setter_takeCursive 91 = .ok (.if_icmp .ne 5, 3) := by decide +kernel
theorem d_Setter_takeCursive_94 : decode b_Setter_takeCursive 94 = .ok (.iconst 0, 1) := by decide +kernel
theorem d_Setter_takeCursive_95 : decode b_Setter_takeCursive 95 = .ok (.ireturn, 1) := by decide +kernel
theorem d_Setter_takeCursive_96 : decode b_Setter_takeCursive 96 = .ok (.aload_n 0, 1) := by decide +kernel
theorem d_Setter_takeCursive_97 : decode b_Setter_takeCursive 97 = .ok (.getfield 47, 3) := by decide +kernel
theorem d_Setter_takeCursive_100 : decode b_Setter_takeCursive 100 = .ok (.ifCond .eq 37, 3) := by decide +kernel
theorem d_Setter_takeCursive_103 : decode b_Setter_takeCursive 103 = .ok (.aload_n 0, 1) := by decide +kernel
theorem d_Setter_takeCursive_104 : decode b_Setter_takeCursive 104 = .ok (.getfield 43, 3) := by decide +kernel
theorem d_Setter_takeCursive_107 : decode b_Setter_takeCursive 107 = .ok (.iload_n 3, 1) := by decide +kernel
theorem d_Setter_takeCursive_108 : decode b_Setter_takeCursive 108 = .ok (.aload_n 0, 1) := by decide +kernel
theorem d_Setter_takeCursive_109 : decode b_Setter_takeCursive 109 = .ok (.getfield 31, 3) := by decide +kernel
theorem d_Setter_takeCursive_112 : decode b_Setter_takeCursive 112 = .ok (.iload 7, 2) := by decide +kernel
theorem d_Setter_takeCursive_114 : decode b_Setter_takeCursive 114 = .ok (.iconst 2, 1) := by decide +kernel
theorem d_Setter_takeCursive_115 : decode b_Setter_takeCursive 115 = .ok (.iadd, 1) := by decide +kernel
theorem d_Setter_takeCursive_116 : decode b_Setter_takeCursive 116 = .ok (.invokevirtual 131, 3) := by decide +kernel
theorem d_Setter_takeCursive_119 : decode b_Setter_takeCursive 119 = .ok (.iload_n 2, 1) := by decide +kernel
theorem d_Setter_takeCursive_120 : decode b_Setter_takeCursive 120 = .ok (.aload_n 0, 1) := by decide +kernel
theorem d_Setter_takeCursive_121 : decode b_Setter_takeCursive 121 = .ok (.getfield 31, 3) := by decide +kernel
theorem d_Setter_takeCursive_124 : decode b_Setter_takeCursive 124 = .ok (.iload 6, 2) := by decide +kernel
theorem d_Setter_takeCursive_126 : decode b_Setter_takeCursive 126 = .ok (.iconst 2, 1) := by decide +kernel
theorem d_Setter_takeCursive_127 : decode b_Setter_takeCursive 127 = .ok (.iadd, 1) := by decide +kernel
theorem d_Setter_takeCursive_128 : decode b_Setter_takeCursive 128 = .ok (.invokevirtual 131, 3) := by decide +kernel
theorem d_Setter_takeCursive_131 : decode b_Setter_takeCursive 131 = .ok (.invokevirtual 140, 3) := by decide +kernel
theorem d_Setter_takeCursive_134 : decode b_Setter_takeCursive 134 = .ok (.goto 34, 3) := by decide +kernel
theorem d_Setter_takeCursive_137 : decode b_Setter_takeCursive 137 = .ok (.aload_n 0, 1) := by decide +kernel
theorem d_Setter_takeCursive_138 : decode b_Setter_takeCursive 138 = .ok (.getfield 43, 3) := by decide +kernel
theorem d_Setter_takeCursive_141 : decode b_Setter_takeCursive 141 = .ok (.iload_n 2, 1) := by decide +kernel
theorem d_Setter_takeCursive_142 : decode b_Setter_takeCursive 142 = .ok (.aload_n 0, 1) := by decide +kernel
theorem d_Setter_takeCursive_143 : decode b_Setter_takeCursive 143 = .ok (.getfield 31, 3) := by decide +kernel
theorem d_Setter_takeCursive_146 : decode b_Setter_takeCursive 146 = .ok (.iload 6, 2) := by decide +kernel
theorem d_Setter_takeCursive_148 : decode b_Setter_takeCursive 148 = .ok (.iconst 2, 1) := by decide +kernel
theorem d_Setter_takeCursive_149 : decode b_Setter_takeCursive 149 = .ok (.iadd, 1) := by decide +kernel
theorem d_Setter_takeCursive_150 : decode b_Setter_takeCursive 150 = .ok (.invokevirtual 131, 3) := by decide +kernel
theorem d_Setter_takeCursive_153 : decode b_Setter_takeCursive 153 = .ok (.iload_n 3, 1) := by decide +kernel
theorem d_Setter_takeCursive_154 : decode b_Setter_takeCursive 154 = .ok (.aload_n 0, 1) := by decide +kernel
theorem d_Setter_takeCursive_155 : decode b_Setter_takeCursive 155 = .ok (.getfield 31, 3) := by decide +kernel
theorem d_Setter_takeCursive_158 : decode b_Setter_takeCursive 158 = .ok (.iload 7, 2) := by decide +kernel
theorem d_Setter_takeCursive_160 : decode b_Setter_takeCursive 160 = .ok (.iconst 2, 1) := by decide +kernel
theorem d_Setter_takeCursive_161 : decode b_Setter_takeCursive 161 = .ok (.iadd, 1) := by decide +kernel
theorem d_Setter_takeCursive_162 : decode b_Setter_takeCursive 162 = .ok (.invokevirtual 131, 3) := by decide +kernel
theorem d_Setter_takeCursive_165 : decode b_Setter_takeCursive 165 = .ok (.invokevirtual 140, 3) := by decide +kernel
theorem d_Setter_takeCursive_168 : decode b_Setter_takeCursive 168 = .ok (.aload_n 0, 1) := by decide +kernel
theorem d_Setter_takeCursive_169 : decode b_Setter_takeCursive 169 = .ok (.getfield 43, 3) := by decide +kernel
theorem d_Setter_takeCursive_172 : decode b_Setter_takeCursive 172 = .ok (.iload_n 3, 1) := by decide +kernel
theorem d_Setter_takeCursive_173 : decode b_Setter_takeCursive 173 = .ok (.iload_n 2, 1) := by decide +kernel
theorem d_Setter_takeCursive_174 : decode b_Setter_takeCursive 174 = .ok (.aload_n 0, 1) := by decide +kernel
theorem d_Setter_takeCursive_175 : decode b_Setter_takeCursive 175 = .ok (.getfield 31, 3) := by decide +kernel
theorem d_Setter_takeCursive_178 : decode b_Setter_takeCursive 178 = .ok (.iload 6, 2) := by decide +kernel
theorem d_Setter_takeCursive_180 : decode b_Setter_takeCursive 180 = .ok (.iconst 4, 1) := by decide +kernel
theorem d_Setter_takeCursive_181 : decode b_Setter_takeCursive 181 = .ok (.iadd, 1) := by decide +kernel
theorem d_Setter_takeCursive_182 : decode b_Setter_takeCursive 182 = .ok (.invokevirtual 131, 3) := by decide +kernel
theorem d_Setter_takeCursive_185 : decode b_Setter_takeCursive 185 = .ok (.aload_n 0, 1) := by decide +kernel
theorem d_Setter_takeCursive_186 : decode b_Setter_takeCursive 186 = .ok (.getfield 31, 3) := by decide +kernel
theorem d_Setter_takeCursive_189 : decode b_Setter_takeCursive 189 = .ok (.iload 7, 2) := by decide +kernel
theorem d_Setter_takeCursive_191 : decode b_Setter_takeCursive 191 = .ok (.iconst 4, 1) := by decide +kernel
theorem d_Setter_takeCursive_192 : decode b_Setter_takeCursive 192 = .ok (.iadd, 1) := by decide +kernel
theorem d_Setter_takeCursive_193 : decode b_Setter_takeCursive 193 = .ok (.invokevirtual 131, 3) := by decide +kernel
theorem d_Setter_takeCursive_196 : decode b_Setter_takeCursive 196 = .ok (.isub, 1) := by decide +kernel
theorem d_Setter_takeCursive_197 : decode b_Setter_takeCursive 197 = .ok (.invokevirtual 144, 3) := by decide +kernel
theorem d_Setter_takeCursive_200 : decode b_Setter_takeCursive 200 = .ok (.iconst 1, 1) := by decide +kernel
theorem d_Setter_takeCursive_201 : decode b_Setter_takeCursive 201 = .ok (.ireturn, 1) := by decide +kernel
abbrev b_GlyphSets_classOf : ByteArray := prog_3_method_3_code
def y_GlyphSets_classOf : MethodName := ⟨R_GlyphSets, "classOf", "(LGlyphPositions$Table;II)I"⟩
theorem d_GlyphSets_classOf_0 : decode b_GlyphSets_classOf 0 = .ok (.aload_n 0, 1) := by decide +kernel
theorem d_GlyphSets_classOf_1 : decode b_GlyphSets_classOf 1 = .ok (.iload_n 1, 1) := by decide +kernel
theorem d_GlyphSets_classOf_2 : decode b_GlyphSets_classOf 2 = .ok (.invokevirtual 9, 3) := by decide +kernel
theorem d_GlyphSets_classOf_5 : decode b_GlyphSets_classOf 5 = .ok (.iconst 1, 1) := by decide +kernel
theorem d_GlyphSets_classOf_6 : decode b_GlyphSets_classOf 6 = .ok (.if_icmp .ne 45, 3) := by decide +kernel
theorem d_GlyphSets_classOf_9 : decode b_GlyphSets_classOf 9 = .ok (.iload_n 2, 1) := by decide +kernel
theorem d_GlyphSets_classOf_10 : decode b_GlyphSets_classOf 10 = .ok (.aload_n 0, 1) := by decide +kernel
theorem d_GlyphSets_classOf_11 : decode b_GlyphSets_classOf 11 = .ok (.iload_n 1, 1) := by decide +kernel
theorem d_GlyphSets_classOf_12 : decode b_GlyphSets_classOf 12 = .ok (.iconst 2, 1) := by decide +kernel
theorem d_GlyphSets_classOf_13 : decode b_GlyphSets_classOf 13 = .ok (.iadd, 1) := by decide +kernel
theorem d_GlyphSets_classOf_14 : decode b_GlyphSets_classOf 14 = .ok (.invokevirtual 9, 3) := by decide +kernel
theorem d_GlyphSets_classOf_17 : decode b_GlyphSets_classOf 17 = .ok (.isub, 1) := by decide +kernel
theorem d_GlyphSets_classOf_18 : decode b_GlyphSets_classOf 18 = .ok (.istore_n 3, 1) := by decide +kernel
theorem d_GlyphSets_classOf_19 : decode b_GlyphSets_classOf 19 = .ok (.iload_n 3, 1) := by decide +kernel
theorem d_GlyphSets_classOf_20 : decode b_GlyphSets_classOf 20 = .ok (.ifCond .lt 29, 3) := by decide +kernel
theorem d_GlyphSets_classOf_23 : decode b_GlyphSets_classOf 23 = .ok (.iload_n 3, 1) := by decide +kernel
theorem d_GlyphSets_classOf_24 : decode b_GlyphSets_classOf 24 = .ok (.aload_n 0, 1) := by decide +kernel
theorem d_GlyphSets_classOf_25 : decode b_GlyphSets_classOf 25 = .ok (.iload_n 1, 1) := by decide +kernel
theorem d_GlyphSets_classOf_26 : decode b_GlyphSets_classOf 26 = .ok (.iconst 4, 1) := by decide +kernel
theorem d_GlyphSets_classOf_27 : decode b_GlyphSets_classOf 27 = .ok (.iadd, 1) := by decide +kernel
theorem d_GlyphSets_classOf_28 : decode b_GlyphSets_classOf 28 = .ok (.invokevirtual 9, 3) := by decide +kernel
theorem d_GlyphSets_classOf_31 : decode b_GlyphSets_classOf 31 = .ok (.if_icmp .ge 18, 3) := by decide +kernel
theorem d_GlyphSets_classOf_34 : decode b_GlyphSets_classOf 34 = .ok (.aload_n 0, 1) := by decide +kernel
theorem d_GlyphSets_classOf_35 : decode b_GlyphSets_classOf 35 = .ok (.iload_n 1, 1) := by decide +kernel
theorem d_GlyphSets_classOf_36 : decode b_GlyphSets_classOf 36 = .ok (.bipush 6, 2) := by decide +kernel
theorem d_GlyphSets_classOf_38 : decode b_GlyphSets_classOf 38 = .ok (.iadd, 1) := by decide +kernel
theorem d_GlyphSets_classOf_39 : decode b_GlyphSets_classOf 39 = .ok (.iconst 2, 1) := by decide +kernel
theorem d_GlyphSets_classOf_40 : decode b_GlyphSets_classOf 40 = .ok (.iload_n 3, 1) := by decide +kernel
theorem d_GlyphSets_classOf_41 : decode b_GlyphSets_classOf 41 = .ok (.imul, 1) := by decide +kernel
theorem d_GlyphSets_classOf_42 : decode b_GlyphSets_classOf 42 = .ok (.iadd, 1) := by decide +kernel
theorem d_GlyphSets_classOf_43 : decode b_GlyphSets_classOf 43 = .ok (.invokevirtual 9, 3) := by decide +kernel
theorem d_GlyphSets_classOf_46 : decode b_GlyphSets_classOf 46 = .ok (.goto 4, 3) := by decide +kernel
theorem d_GlyphSets_classOf_49 : decode b_GlyphSets_classOf 49 = .ok (.iconst 0, 1) := by decide +kernel
theorem d_GlyphSets_classOf_50 : decode b_GlyphSets_classOf 50 = .ok (.ireturn, 1) := by decide +kernel
theorem d_GlyphSets_classOf_51 : decode b_GlyphSets_classOf 51 = .ok (.aload_n 0, 1) := by decide +kernel
theorem d_GlyphSets_classOf_52 : decode b_GlyphSets_classOf 52 = .ok (.iload_n 1, 1) := by decide +kernel
theorem d_GlyphSets_classOf_53 : decode b_GlyphSets_classOf 53 = .ok (.iconst 4, 1) := by decide +kernel
theorem d_GlyphSets_classOf_54 : decode b_GlyphSets_classOf 54 = .ok (.iadd, 1) := by decide +kernel
theorem d_GlyphSets_classOf_55 : decode b_GlyphSets_classOf 55 = .ok (.aload_n 0, 1) := by decide +kernel
theorem d_GlyphSets_classOf_56 : decode b_GlyphSets_classOf 56 = .ok (.iload_n 1, 1) := by decide +kernel
theorem d_GlyphSets_classOf_57 : decode b_GlyphSets_classOf 57 = .ok (.iconst 2, 1) := by decide +kernel
theorem d_GlyphSets_classOf_58 : decode b_GlyphSets_classOf 58 = .ok (.iadd, 1) := by decide +kernel
theorem d_GlyphSets_classOf_59 : decode b_GlyphSets_classOf 59 = .ok (.invokevirtual 9, 3) := by decide +kernel
theorem d_GlyphSets_classOf_62 : decode b_GlyphSets_classOf 62 = .ok (.bipush 6, 2) := by decide +kernel
theorem d_GlyphSets_classOf_64 : decode b_GlyphSets_classOf 64 = .ok (.iload_n 2, 1) := by decide +kernel
theorem d_GlyphSets_classOf_65 : decode b_GlyphSets_classOf 65 = .ok (.invokestatic 15, 3) := by decide +kernel
theorem d_GlyphSets_classOf_68 : decode b_GlyphSets_classOf 68 = .ok (.istore_n 3, 1) := by decide +kernel
theorem d_GlyphSets_classOf_69 : decode b_GlyphSets_classOf 69 = .ok (.iload_n 1, 1) := by decide +kernel
theorem d_GlyphSets_classOf_70 : decode b_GlyphSets_classOf 70 = .ok (.iconst 4, 1) := by decide +kernel
theorem d_GlyphSets_classOf_71 : decode b_GlyphSets_classOf 71 = .ok (.iadd, 1) := by decide +kernel
theorem d_GlyphSets_classOf_72 : decode b_GlyphSets_classOf 72 = .ok (.bipush 6, 2) := by decide +kernel
theorem d_GlyphSets_classOf_74 : decode b_GlyphSets_classOf 74 = .ok (.iload_n 3, 1) := by decide +kernel
theorem d_GlyphSets_classOf_75 : decode b_GlyphSets_classOf 75 = .ok (.imul, 1) := by decide +kernel
theorem d_GlyphSets_classOf_76 : decode b_GlyphSets_classOf 76 = .ok (.iadd, 1) := by decide +kernel
theorem d_GlyphSets_classOf_77 : decode b_GlyphSets_classOf 77 = .ok (.istore 4, 2) := by decide +kernel
theorem d_GlyphSets_classOf_79 : decode b_GlyphSets_classOf 79 = .ok (.iload_n 3, 1) := by decide +kernel
theorem d_GlyphSets_classOf_80 : decode b_GlyphSets_classOf 80 = .ok (.iconst (-1), 1) := by decide +kernel
theorem d_GlyphSets_classOf_81 : decode b_GlyphSets_classOf 81 = .ok (.if_icmp .eq 26, 3) := by decide +kernel
theorem d_GlyphSets_classOf_84 : decode b_GlyphSets_classOf 84 = .ok (.iload_n 2, 1) := by decide +kernel
theorem d_GlyphSets_classOf_85 : decode b_GlyphSets_classOf 85 = .ok (.aload_n 0, 1) := by decide +kernel
theorem d_GlyphSets_classOf_86 : decode b_GlyphSets_classOf 86 = .ok (.iload 4, 2) := by decide +kernel
theorem d_GlyphSets_classOf_88 : decode b_GlyphSets_classOf 88 = .ok (.iconst 2, 1) := by decide +kernel
theorem d_GlyphSets_classOf_89 : decode b_GlyphSets_classOf 89 = .ok (.iadd, 1) := by decide +kernel
theorem d_GlyphSets_classOf_90 : decode b_GlyphSets_classOf 90 = .ok (.invokevirtual 9, 3) := by decide +kernel
theorem d_GlyphSets_classOf_93 : decode b_GlyphSets_classOf 93 = .ok (.if_icmp .gt 14, 3) := by decide +kernel
theorem d_GlyphSets_classOf_96 : decode b_GlyphSets_classOf 96 = .ok (.aload_n 0, 1) := by decide +kernel
theorem d_GlyphSets_classOf_97 : decode b_GlyphSets_classOf 97 = .ok (.iload 4, 2) := by decide +kernel
theorem d_GlyphSets_classOf_99 : decode b_GlyphSets_classOf 99 = .ok (.iconst 4, 1) := by decide +kernel
theorem d_GlyphSets_classOf_100 : decode b_GlyphSets_classOf 100 = .ok (.iadd, 1) := by decide +kernel
theorem d_GlyphSets_classOf_101 : decode b_GlyphSets_classOf 101 = .ok (.invokevirtual 9, 3) := by decide +kernel
theorem d_GlyphSets_classOf_104 : decode b_GlyphSets_classOf 104 = .ok (.goto 4, 3) := by decide +kernel
theorem d_GlyphSets_classOf_107 : decode b_GlyphSets_classOf 107 = .ok (.iconst 0, 1) := by decide +kernel
theorem d_GlyphSets_classOf_108 : decode b_GlyphSets_classOf 108 = .ok (.ireturn, 1) := by decide +kernel
abbrev b_Setter_valuesByClasses : ByteArray := prog_7_method_10_code
def y_Setter_valuesByClasses : MethodName := ⟨R_Setter, "valuesByClasses", "(IIII)I"⟩
theorem d_Setter_valuesByClasses_0 : decode b_Setter_valuesByClasses 0 = .ok (.aload_n 0, 1) := by decide +kernel
theorem d_Setter_valuesByClasses_1 : decode b_Setter_valuesByClasses 1 = .ok (.getfield 31, 3) := by decide +kernel
theorem d_Setter_valuesByClasses_4 : decode b_Setter_valuesByClasses 4 = .ok (.iload_n 1, 1) := by decide +kernel
theorem d_Setter_valuesByClasses_5 : decode b_Setter_valuesByClasses 5 = .ok (.aload_n 0, 1) := by decide +kernel
theorem d_Setter_valuesByClasses_6 : decode b_Setter_valuesByClasses 6 = .ok (.getfield 31, 3) := by decide +kernel
theorem d_Setter_valuesByClasses_9 : decode b_Setter_valuesByClasses 9 = .ok (.iload_n 1, 1) := by decide +kernel
theorem d_Setter_valuesByClasses_10 : decode b_Setter_valuesByClasses 10 = .ok (.bipush 8, 2) := by decide +kernel
theorem d_Setter_valuesByClasses_12 : decode b_Setter_valuesByClasses 12 = .ok (.iadd, 1) := by decide +kernel
theorem d_Setter_valuesByClasses_13 : decode b_Setter_valuesByClasses 13 = .ok (.invokevirtual 70, 3) := by decide +kernel
theorem d_Setter_valuesByClasses_16 : decode b_Setter_valuesByClasses 16 = .ok (.iadd, 1) := by decide +kernel
theorem d_Setter_valuesByClasses_17 : decode b_Setter_valuesByClasses 17 = .ok (.aload_n 0, 1) := by decide +kernel
theorem d_Setter_valuesByClasses_18 : decode b_Setter_valuesByClasses 18 = .ok (.getfield 35, 3) := by decide +kernel
theorem d_Setter_valuesByClasses_21 : decode b_Setter_valuesByClasses 21 = .ok (.getfield 57, 3) := by decide +kernel
theorem d_Setter_valuesByClasses_24 : decode b_Setter_valuesByClasses 24 = .ok (.iload_n 3, 1) := by decide +kernel
theorem d_Setter_valuesByClasses_25 : decode b_Setter_valuesByClasses 25 = .ok (.iaload, 1) := by decide +kernel
theorem d_Setter_valuesByClasses_26 : decode b_Setter_valuesByClasses 26 = .ok (.invokestatic 127, 3) := by decide +kernel
theorem d_Setter_valuesByClasses_29 : decode b_Setter_valuesByClasses 29 = .ok (.istore 5, 2) := by decide +kernel
theorem d_Setter_valuesByClasses_31 : decode b_Setter_valuesByClasses 31 = .ok (.aload_n 0, 1) := by decide +kernel
theorem d_Setter_valuesByClasses_32 : decode b_Setter_valuesByClasses 32 = .ok (.getfield 31, 3) := by decide +kernel
theorem d_Setter_valuesByClasses_35 : decode b_Setter_valuesByClasses 35 = .ok (.iload_n 1, 1) := by decide +kernel
theorem d_Setter_valuesByClasses_36 : decode b_Setter_valuesByClasses 36 = .ok (.aload_n 0, 1) := by decide +kernel
theorem d_Setter_valuesByClasses_37 : decode b_Setter_valuesByClasses 37 = .ok (.getfield 31, 3) := by decide +kernel
theorem d_Setter_valuesByClasses_40 : decode b_Setter_valuesByClasses 40 = .ok (.iload_n 1, 1) := by decide +kernel
theorem d_Setter_valuesByClasses_41 : decode b_Setter_valuesByClasses 41 = .ok (.bipush 10, 2) := by decide +kernel
theorem d_Setter_valuesByClasses_43 : decode b_Setter_valuesByClasses 43 = .ok (.iadd, 1) := by decide +kernel
theorem d_Setter_valuesByClasses_44 : decode b_Setter_valuesByClasses 44 = .ok (.invokevirtual 70, 3) := by decide +kernel
theorem d_Setter_valuesByClasses_47 : decode b_Setter_valuesByClasses 47 = .ok (.iadd, 1) := by decide +kernel
theorem d_Setter_valuesByClasses_48 : decode b_Setter_valuesByClasses 48 = .ok (.aload_n 0, 1) := by decide +kernel
theorem d_Setter_valuesByClasses_49 : decode b_Setter_valuesByClasses 49 = .ok (.getfield 35, 3) := by decide +kernel
theorem d_Setter_valuesByClasses_52 : decode b_Setter_valuesByClasses 52 = .ok (.getfield 57, 3) := by decide +kernel
theorem d_Setter_valuesByClasses_55 : decode b_Setter_valuesByClasses 55 = .ok (.iload 4, 2) := by decide +kernel
theorem d_Setter_valuesByClasses_57 : decode b_Setter_valuesByClasses 57 = .ok (.iaload, 1) := by decide +kernel
theorem d_Setter_valuesByClasses_58 : decode b_Setter_valuesByClasses 58 = .ok (.invokestatic 127, 3) := by decide +kernel
theorem d_Setter_valuesByClasses_61 : decode b_Setter_valuesByClasses 61 = .ok (.istore 6, 2) := by decide +kernel
theorem d_Setter_valuesByClasses_63 : decode b_Setter_valuesByClasses 63 = .ok (.aload_n 0, 1) := by decide +kernel
theorem d_Setter_valuesByClasses_64 : decode b_Setter_valuesByClasses 64 = .ok (.getfield 31, 3) := by decide +kernel
theorem d_Setter_valuesByClasses_67 : decode b_Setter_valuesByClasses 67 = .ok (.iload_n 1, 1) := by decide +kernel
theorem d_Setter_valuesByClasses_68 : decode b_Setter_valuesByClasses 68 = .ok (.bipush 12, 2) := by decide +kernel
theorem d_Setter_valuesByClasses_70 : decode b_Setter_valuesByClasses 70 = .ok (.iadd, 1) := by decide +kernel
theorem d_Setter_valuesByClasses_71 : decode b_Setter_valuesByClasses 71 = .ok (.invokevirtual 70, 3) := by decide +kernel
theorem d_Setter_valuesByClasses_74 : decode b_Setter_valuesByClasses 74 = .ok (.istore 7, 2) := by decide +kernel
theorem d_Setter_valuesByClasses_76 : decode b_Setter_valuesByClasses 76 = .ok (.aload_n 0, 1) := by decide +kernel
theorem d_Setter_valuesByClasses_77 : decode b_Setter_valuesByClasses 77 = .ok (.getfield 31, 3) := by decide +kernel
theorem d_Setter_valuesByClasses_80 : decode b_Setter_valuesByClasses 80 = .ok (.iload_n 1, 1) := by decide +kernel
theorem d_Setter_valuesByClasses_81 : decode b_Setter_valuesByClasses 81 = .ok (.bipush 14, 2) := by decide +kernel
theorem d_Setter_valuesByClasses_83 : decode b_Setter_valuesByClasses 83 = .ok (.iadd, 1) := by decide +kernel
theorem d_Setter_valuesByClasses_84 : decode b_Setter_valuesByClasses 84 = .ok (.invokevirtual 70, 3) := by decide +kernel
theorem d_Setter_valuesByClasses_87 : decode b_Setter_valuesByClasses 87 = .ok (.istore 8, 2) := by decide +kernel
theorem d_Setter_valuesByClasses_89 : decode b_Setter_valuesByClasses 89 = .ok (.iload 5, 2) := by decide +kernel
theorem d_Setter_valuesByClasses_91 : decode b_Setter_valuesByClasses 91 = .ok (.iload 7, 2) := by decide +kernel
theorem d_Setter_valuesByClasses_93 : decode b_Setter_valuesByClasses 93 = .ok (.if_icmp .ge 10, 3) := by decide +kernel
theorem d_Setter_valuesByClasses_96 : decode b_Setter_valuesByClasses 96 = .ok (.iload 6, 2) := by decide +kernel
theorem d_Setter_valuesByClasses_98 : decode b_Setter_valuesByClasses 98 = .ok (.iload 8, 2) := by decide +kernel
theorem d_Setter_valuesByClasses_100 : decode b_Setter_valuesByClasses 100 = .ok (.if_icmp .lt 5, 3) := by decide +kernel
theorem d_Setter_valuesByClasses_103 : decode b_Setter_valuesByClasses 103 = .ok (.iconst (-1), 1) := by decide +kernel
theorem d_Setter_valuesByClasses_104 : decode b_Setter_valuesByClasses 104 = .ok (.ireturn, 1) := by decide +kernel
theorem d_Setter_valuesByClasses_105 : decode b_Setter_valuesByClasses 105 = .ok (.iload_n 1, 1) := by decide +kernel
theorem d_Setter_valuesByClasses_106 : decode b_Setter_valuesByClasses 106 = .ok (.bipush 16, 2) := by decide +kernel
theorem d_Setter_valuesByClasses_108 : decode b_Setter_valuesByClasses 108 = .ok (.iadd, 1) := by decide +kernel
theorem d_Setter_valuesByClasses_109 : decode b_Setter_valuesByClasses 109 = .ok (.iload 5, 2) := by decide +kernel
theorem d_Setter_valuesByClasses_111 : decode b_Setter_valuesByClasses 111 = .ok (.iload 8, 2) := by decide +kernel
theorem d_Setter_valuesByClasses_113 : decode b_Setter_valuesByClasses 113 = .ok (.imul, 1) := by decide +kernel
theorem d_Setter_valuesByClasses_114 : decode b_Setter_valuesByClasses 114 = .ok (.iload 6, 2) := by decide +kernel
theorem d_Setter_valuesByClasses_116 : decode b_Setter_valuesByClasses 116 = .ok (.iadd, 1) := by decide +kernel
theorem d_Setter_valuesByClasses_117 : decode b_Setter_valuesByClasses 117 = .ok (.iload_n 2, 1) := by decide +kernel
theorem d_Setter_valuesByClasses_118 : decode b_Setter_valuesByClasses 118 = .ok (.imul, 1) := by decide +kernel
theorem d_Setter_valuesByClasses_119 : decode b_Setter_valuesByClasses 119 = .ok (.iadd, 1) := by decide +kernel
theorem d_Setter_valuesByClasses_120 : decode b_Setter_valuesByClasses 120 = .ok (.ireturn, 1) := by decide +kernel
abbrev b_Setter_giveValue : ByteArray := prog_7_method_11_code
def y_Setter_giveValue : MethodName := ⟨R_Setter, "giveValue", "(III)V"⟩
theorem d_Setter_giveValue_0 : decode b_Setter_giveValue 0 = .ok (.iload_n 2, 1) := by decide +kernel
theorem d_Setter_giveValue_1 : decode b_Setter_giveValue 1 = .ok (.istore 4, 2) := by decide +kernel
theorem d_Setter_giveValue_3 : decode b_Setter_giveValue 3 = .ok (.iconst 0, 1) := by decide +kernel
theorem d_Setter_giveValue_4 : decode b_Setter_giveValue 4 = .ok (.istore 5, 2) := by decide +kernel
theorem d_Setter_giveValue_6 : decode b_Setter_giveValue 6 = .ok (.iload 5, 2) := by decide +kernel
theorem d_Setter_giveValue_8 : decode b_Setter_giveValue 8 = .ok (.iconst 4, 1) := by decide +kernel
theorem d_Setter_giveValue_9 : decode b_Setter_giveValue 9 = .ok (.if_icmp .ge 40, 3) := by decide +kernel
theorem d_Setter_giveValue_12 : decode b_Setter_giveValue 12 = .ok (.iload_n 3, 1) := by decide +kernel
theorem d_Setter_giveValue_13 : decode b_Setter_giveValue 13 = .ok (.iload 5, 2) := by decide +kernel
theorem d_Setter_giveValue_15 : decode b_Setter_giveValue 15 = .ok (.ishr, 1) := by decide +kernel
theorem d_Setter_giveValue_16 : decode b_Setter_giveValue 16 = .ok (.iconst 1, 1) := by decide +kernel
theorem d_Setter_giveValue_17 : decode b_Setter_giveValue 17 = .ok (.iand, 1) := by decide +kernel
theorem d_Setter_giveValue_18 : decode b_Setter_giveValue 18 = .ok (.ifCond .eq 25, 3) := by decide +kernel
theorem d_Setter_giveValue_21 : decode b_Setter_giveValue 21 = .ok (.aload_n 0, 1) := by decide +kernel
theorem d_Setter_giveValue_22 : decode b_Setter_giveValue 22 = .ok (.getfield 43, 3) := by decide +kernel
theorem d_Setter_giveValue_25 : decode b_Setter_giveValue 25 = .ok (.iload_n 1, 1) := by decide +kernel
theorem d_Setter_giveValue_26 : decode b_Setter_giveValue 26 = .ok (.iload 5, 2) := by decide +kernel
theorem d_Setter_giveValue_28 : decode b_Setter_giveValue 28 = .ok (.aload_n 0, 1) := by decide +kernel
theorem d_Setter_giveValue_29 : decode b_Setter_giveValue 29 = .ok (.getfield 31, 3) := by decide +kernel
theorem d_Setter_giveValue_32 : decode b_Setter_giveValue 32 = .ok (.iload 4, 2) := by decide +kernel
theorem d_Setter_giveValue_34 : decode b_Setter_giveValue 34 = .ok (.invokevirtual 131, 3) := by decide +kernel
theorem d_Setter_giveValue_37 : decode b_Setter_giveValue 37 = .ok (.invokevirtual 134, 3) := by decide +kernel
theorem d_Setter_giveValue_40 : decode b_Setter_giveValue 40 = .ok (.iinc 4 2, 3) := by decide +kernel
theorem d_Setter_giveValue_43 : decode b_Setter_giveValue 43 = .ok (.iinc 5 1, 3) := by decide +kernel
theorem d_Setter_giveValue_46 : decode b_Setter_giveValue 46 = .ok (.goto (-40), 3) := by decide +kernel
theorem d_Setter_giveValue_49 : decode b_Setter_giveValue 49 = .ok (.return_, 1) := by decide +kernel
abbrev b_Setter_valuesInRow : ByteArray := prog_7_method_9_code
def y_Setter_valuesInRow : MethodName := ⟨R_Setter, "valuesInRow", "(III)I"⟩
theorem d_Setter_valuesInRow_0 : decode b_Setter_valuesInRow 0 = .ok (.iconst 2, 1) := by decide +kernel
theorem d_Setter_valuesInRow_1 : decode b_Setter_valuesInRow 1 = .ok (.iload_n 2, 1) := by decide +kernel
theorem d_Setter_valuesInRow_2 : decode b_Setter_valuesInRow 2 = .ok (.iadd, 1) := by decide +kernel
theorem d_Setter_valuesInRow_3 : decode b_Setter_valuesInRow 3 = .ok (.istore 4, 2) := by decide +kernel
theorem d_Setter_valuesInRow_5 : decode b_Setter_valuesInRow 5 = .ok (.aload_n 0, 1) := by decide +kernel
theorem d_Setter_valuesInRow_6 : decode b_Setter_valuesInRow 6 = .ok (.getfield 35, 3) := by decide +kernel
theorem d_Setter_valuesInRow_9 : decode b_Setter_valuesInRow 9 = .ok (.getfield 57, 3) := by decide +kernel
theorem d_Setter_valuesInRow_12 : decode b_Setter_valuesInRow 12 = .ok (.iload_n 3, 1) := by decide +kernel
theorem d_Setter_valuesInRow_13 : decode b_Setter_valuesInRow 13 = .ok (.iaload, 1) := by decide +kernel
theorem d_Setter_valuesInRow_14 : decode b_Setter_valuesInRow 14 = .ok (.istore 5, 2) := by decide +kernel
theorem d_Setter_valuesInRow_16 : decode b_Setter_valuesInRow 16 = .ok (.aload_n 0, 1) := by decide +kernel
theorem d_Setter_valuesInRow_17 : decode b_Setter_valuesInRow 17 = .ok (.getfield 31, 3) := by decide +kernel
theorem d_Setter_valuesInRow_20 : decode b_Setter_valuesInRow 20 = .ok (.iload_n 1, 1) := by decide +kernel
theorem d_Setter_valuesInRow_21 : decode b_Setter_valuesInRow 21 = .ok (.iconst 2, 1) := by decide +kernel
theorem d_Setter_valuesInRow_22 : decode b_Setter_valuesInRow 22 = .ok (.iadd, 1) := by decide +kernel
theorem d_Setter_valuesInRow_23 : decode b_Setter_valuesInRow 23 = .ok (.aload_n 0, 1) := by decide +kernel
theorem d_Setter_valuesInRow_24 : decode b_Setter_valuesInRow 24 = .ok (.getfield 31, 3) := by decide +kernel
theorem d_Setter_valuesInRow_27 : decode b_Setter_valuesInRow 27 = .ok (.iload_n 1, 1) := by decide +kernel
theorem d_Setter_valuesInRow_28 : decode b_Setter_valuesInRow 28 = .ok (.invokevirtual 70, 3) := by decide +kernel
theorem d_Setter_valuesInRow_31 : decode b_Setter_valuesInRow 31 = .ok (.iload 4, 2) := by decide +kernel
theorem d_Setter_valuesInRow_33 : decode b_Setter_valuesInRow 33 = .ok (.iload 5, 2) := by decide +kernel
theorem d_Setter_valuesInRow_35 : decode b_Setter_valuesInRow 35 = .ok (.invokestatic 121, 3) := by decide +kernel
theorem d_Setter_valuesInRow_38 : decode b_Setter_valuesInRow 38 = .ok (.istore 6, 2) := by decide +kernel
theorem d_Setter_valuesInRow_40 : decode b_Setter_valuesInRow 40 = .ok (.iload_n 1, 1) := by decide +kernel
theorem d_Setter_valuesInRow_41 : decode b_Setter_valuesInRow 41 = .ok (.iconst 2, 1) := by decide +kernel
theorem d_Setter_valuesInRow_42 : decode b_Setter_valuesInRow 42 = .ok (.iadd, 1) := by decide +kernel
theorem d_Setter_valuesInRow_43 : decode b_Setter_valuesInRow 43 = .ok (.iload 4, 2) := by decide +kernel
theorem d_Setter_valuesInRow_45 : decode b_Setter_valuesInRow 45 = .ok (.iload 6, 2) := by decide +kernel
theorem d_Setter_valuesInRow_47 : decode b_Setter_valuesInRow 47 = .ok (.imul, 1) := by decide +kernel
theorem d_Setter_valuesInRow_48 : decode b_Setter_valuesInRow 48 = .ok (.iadd, 1) := by decide +kernel
theorem d_Setter_valuesInRow_49 : decode b_Setter_valuesInRow 49 = .ok (.istore 7, 2) := by decide +kernel
theorem d_Setter_valuesInRow_51 : decode b_Setter_valuesInRow 51 = .ok (.iload 6, 2) := by decide +kernel
theorem d_Setter_valuesInRow_53 : decode b_Setter_valuesInRow 53 = .ok (.iconst (-1), 1) := by decide +kernel
theorem d_Setter_valuesInRow_54 : decode b_Setter_valuesInRow 54 = .ok (.if_icmp .eq 24, 3) := by decide +kernel
theorem d_Setter_valuesInRow_57 : decode b_Setter_valuesInRow 57 = .ok (.aload_n 0, 1) := by decide +kernel
theorem d_Setter_valuesInRow_58 : decode b_Setter_valuesInRow 58 = .ok (.getfield 31, 3) := by decide +kernel
theorem d_Setter_valuesInRow_61 : decode b_Setter_valuesInRow 61 = .ok (.iload 7, 2) := by decide +kernel
theorem d_Setter_valuesInRow_63 : decode b_Setter_valuesInRow 63 = .ok (.invokevirtual 70, 3) := by decide +kernel
theorem d_Setter_valuesInRow_66 : decode b_Setter_valuesInRow 66 = .ok (.iload 5, 2) := by decide +kernel
theorem d_Setter_valuesInRow_68 : decode b_Setter_valuesInRow 68 = .ok (.if_icmp .ne 10, 3) := by decide +kernel
theorem d_Setter_valuesInRow_71 : decode b_Setter_valuesInRow 71 = .ok (.iload 7, 2) := by decide +kernel
theorem d_Setter_valuesInRow_73 : decode b_Setter_valuesInRow 73 = .ok (.iconst 2, 1) := by decide +kernel
theorem d_Setter_valuesInRow_74 : decode b_Setter_valuesInRow 74 = .ok (.iadd, 1) := by decide +kernel
theorem d_Setter_valuesInRow_75 : decode b_Setter_valuesInRow 75 = .ok (.goto 4, 3) := by decide +kernel
theorem d_Setter_valuesInRow_78 : decode b_Setter_valuesInRow 78 = .ok (.iconst (-1), 1) := by decide +kernel
theorem d_Setter_valuesInRow_79 : decode b_Setter_valuesInRow 79 = .ok (.ireturn, 1) := by decide +kernel
abbrev b_Setter_takePair : ByteArray := prog_7_method_8_code
def y_Setter_takePair : MethodName := ⟨R_Setter, "takePair", "(II)I"⟩
theorem d_Setter_takePair_0 : decode b_Setter_takePair 0 = .ok (.aload_n 0, 1) := by decide +kernel
theorem d_Setter_takePair_1 : decode b_Setter_takePair 1 = .ok (.iload_n 1, 1) := by decide +kernel
theorem d_Setter_takePair_2 : decode b_Setter_takePair 2 = .ok (.iconst 2, 1) := by decide +kernel
theorem d_Setter_takePair_3 : decode b_Setter_takePair 3 = .ok (.iadd, 1) := by decide +kernel
theorem d_Setter_takePair_4 : decode b_Setter_takePair 4 = .ok (.iload_n 1, 1) := by decide +kernel
theorem d_Setter_takePair_5 : decode b_Setter_takePair 5 = .ok (.iload_n 2, 1) := by decide +kernel
theorem d_Setter_takePair_6 : decode b_Setter_takePair 6 = .ok (.invokevirtual 104, 3) := by decide +kernel
theorem d_Setter_takePair_9 : decode b_Setter_takePair 9 = .ok (.istore_n 3, 1) := by decide +kernel
theorem d_Setter_takePair_10 : decode b_Setter_takePair 10 = .ok (.aload_n 0, 1) := by decide +kernel
theorem d_Setter_takePair_11 : decode b_Setter_takePair 11 = .ok (.getfield 28, 3) := by decide +kernel
theorem d_Setter_takePair_14 : decode b_Setter_takePair 14 = .ok (.iload_n 2, 1) := by decide +kernel
theorem d_Setter_takePair_15 : decode b_Setter_takePair 15 = .ok (.iaload, 1) := by decide +kernel
theorem d_Setter_takePair_16 : decode b_Setter_takePair 16 = .ok (.istore 4, 2) := by decide +kernel
theorem d_Setter_takePair_18 : decode b_Setter_takePair 18 = .ok (.iload_n 3, 1) := by decide +kernel
theorem d_Setter_takePair_19 : decode b_Setter_takePair 19 = .ok (.iconst (-1), 1) := by decide +kernel
theorem d_Setter_takePair_20 : decode b_Setter_takePair 20 = .ok (.if_icmp .eq 9, 3) := by decide +kernel
theorem d_Setter_takePair_23 : decode b_Setter_takePair 23 = .ok (.iload 4, 2) := by decide +kernel
theorem d_Setter_takePair_25 : decode b_Setter_takePair 25 = .ok (.iconst (-1), 1) := by decide +kernel
theorem d_Setter_takePair_26 : decode b_Setter_takePair 26 = .ok (.if_icmp .ne 5, 3) := by decide +kernel
theorem d_Setter_takePair_29 : decode b_Setter_takePair 29 = .ok (.iconst (-1), 1) := by decide +kernel
theorem d_Setter_takePair_30 : decode b_Setter_takePair 30 = .ok (.ireturn, 1) := by decide +kernel
theorem d_Setter_takePair_31 : decode b_Setter_takePair 31 = .ok (.aload_n 0, 1) := by decide +kernel
theorem d_Setter_takePair_32 : decode b_Setter_takePair 32 = .ok (.getfield 31, 3) := by decide +kernel
theorem d_Setter_takePair_35 : decode b_Setter_takePair 35 = .ok (.iload_n 1, 1) := by decide +kernel
theorem d_Setter_takePair_36 : decode b_Setter_takePair 36 = .ok (.iconst 4, 1) := by decide +kernel
theorem d_Setter_takePair_37 : decode b_Setter_takePair 37 = .ok (.iadd, 1) := by decide +kernel
theorem d_Setter_takePair_38 : decode b_Setter_takePair 38 = .ok (.invokevirtual 70, 3) := by decide +kernel
theorem d_Setter_takePair_41 : decode b_Setter_takePair 41 = .ok (.istore 5, 2) := by decide +kernel
theorem d_Setter_takePair_43 : decode b_Setter_takePair 43 = .ok (.aload_n 0, 1) := by decide +kernel
theorem d_Setter_takePair_44 : decode b_Setter_takePair 44 = .ok (.getfield 31, 3) := by decide +kernel
theorem d_Setter_takePair_47 : decode b_Setter_takePair 47 = .ok (.iload_n 1, 1) := by decide +kernel
theorem d_Setter_takePair_48 : decode b_Setter_takePair 48 = .ok (.bipush 6, 2) := by decide +kernel
theorem d_Setter_takePair_50 : decode b_Setter_takePair 50 = .ok (.iadd, 1) := by decide +kernel
theorem d_Setter_takePair_51 : decode b_Setter_takePair 51 = .ok (.invokevirtual 70, 3) := by decide +kernel
theorem d_Setter_takePair_54 : decode b_Setter_takePair 54 = .ok (.istore 6, 2) := by decide +kernel
theorem d_Setter_takePair_56 : decode b_Setter_takePair 56 = .ok (.iload 5, 2) := by decide +kernel
theorem d_Setter_takePair_58 : decode b_Setter_takePair 58 = .ok (.invokestatic 107, 3) := by decide +kernel
theorem d_Setter_takePair_61 : decode b_Setter_takePair 61 = .ok (.iload 6, 2) := by decide +kernel
theorem d_Setter_takePair_63 : decode b_Setter_takePair 63 = .ok (.invokestatic 107, 3) := by decide +kernel
theorem d_Setter_takePair_66 : decode b_Setter_takePair 66 = .ok (.iadd, 1) := by decide +kernel
theorem d_Setter_takePair_67 : decode b_Setter_takePair 67 = .ok (.istore 7, 2) := by decide +kernel
theorem d_Setter_takePair_69 : decode b_Setter_takePair 69 = .ok (.aload_n 0, 1) := by decide +kernel
theorem d_Setter_takePair_70 : decode b_Setter_takePair 70 = .ok (.getfield 31, 3) := by decide +kernel
theorem d_Setter_takePair_73 : decode b_Setter_takePair 73 = .ok (.iload_n 1, 1) := by decide +kernel
theorem d_Setter_takePair_74 : decode b_Setter_takePair 74 = .ok (.invokevirtual 70, 3) := by decide +kernel
theorem d_Setter_takePair_77 : decode b_Setter_takePair 77 = .ok (.iconst 1, 1) := by decide +kernel
theorem d_Setter_takePair_78 : decode b_Setter_takePair 78 = .ok (.if_icmp .ne 31, 3) := by decide +kernel
theorem d_Setter_takePair_81 : decode b_Setter_takePair 81 = .ok (.aload_n 0, 1) := by decide +kernel
theorem d_Setter_takePair_82 : decode b_Setter_takePair 82 = .ok (.iload_n 1, 1) := by decide +kernel
theorem d_Setter_takePair_83 : decode b_Setter_takePair 83 = .ok (.aload_n 0, 1) := by decide +kernel
theorem d_Setter_takePair_84 : decode b_Setter_takePair 84 = .ok (.getfield 31, 3) := by decide +kernel
theorem d_Setter_takePair_87 : decode b_Setter_takePair 87 = .ok (.iload_n 1, 1) := by decide +kernel
theorem d_Setter_takePair_88 : decode b_Setter_takePair 88 = .ok (.bipush 10, 2) := by decide +kernel
theorem d_Setter_takePair_90 : decode b_Setter_takePair 90 = .ok (.iadd, 1) := by decide +kernel
theorem d_Setter_takePair_91 : decode b_Setter_takePair 91 = .ok (.iconst 2, 1) := by decide +kernel
theorem d_Setter_takePair_92 : decode b_Setter_takePair 92 = .ok (.iload_n 3, 1) := by decide +kernel
theorem d_Setter_takePair_93 : decode b_Setter_takePair 93 = .ok (.imul, 1) := by decide +kernel
theorem d_Setter_takePair_94 : decode b_Setter_takePair 94 = .ok (.iadd, 1) := by decide +kernel
theorem d_Setter_takePair_95 : decode b_Setter_takePair 95 = .ok (.invokevirtual 70, 3) := by decide +kernel
theorem d_Setter_takePair_98 : decode b_Setter_takePair 98 = .ok (.iadd, 1) := by decide +kernel
theorem d_Setter_takePair_99 : decode b_Setter_takePair 99 = .ok (.iload 7, 2) := by decide +kernel
theorem d_Setter_takePair_101 : decode b_Setter_takePair 101 = .ok (.iload 4, 2) := by decide +kernel
theorem d_Setter_takePair_103 : decode b_Setter_takePair 103 = .ok (.invokevirtual 114, 3) := by decide +kernel
theorem d_Setter_takePair_106 : decode b_Setter_takePair 106 = .ok (.goto 13, 3) := by decide +kernel
theorem d_Setter_takePair_109 : decode b_Setter_takePair 109 = .ok (.aload_n 0, 1) := by decide +kernel
theorem d_Setter_takePair_110 : decode b_Setter_takePair 110 = .ok (.iload_n 1, 1) := by decide +kernel
theorem d_Setter_takePair_111 : decode b_Setter_takePair 111 = .ok (.iload 7, 2) := by decide +kernel
theorem d_Setter_takePair_113 : decode b_Setter_takePair 113 = .ok (.iload_n 2, 1) := by decide +kernel
theorem d_Setter_takePair_114 : decode b_Setter_takePair 114 = .ok (.iload 4, 2) := by decide +kernel
theorem d_Setter_takePair_116 : decode b_Setter_takePair 116 = .ok (.invokevirtual 117, 3) := by decide +kernel
theorem d_Setter_takePair_119 : decode b_Setter_takePair 119 = .ok (.istore 8, 2) := by decide +kernel
theorem d_Setter_takePair_121 : decode b_Setter_takePair 121 = .ok (.iload 8, 2) := by decide +kernel
theorem d_Setter_takePair_123 : decode b_Setter_takePair 123 = .ok (.iconst (-1), 1) := by decide +kernel
theorem d_Setter_takePair_124 : decode b_Setter_takePair 124 = .ok (.if_icmp .ne 5, 3) := by decide +kernel
theorem d_Setter_takePair_127 : decode b_Setter_takePair 127 = .ok (.iconst (-1), 1) := by decide +kernel
theorem d_Setter_takePair_128 : decode b_Setter_takePair 128 = .ok (.ireturn, 1) := by decide +kernel
theorem d_Setter_takePair_129 : decode b_Setter_takePair 129 = .ok (.aload_n 0, 1) := by decide +kernel
theorem d_Setter_takePair_130 : decode b_Setter_takePair 130 = .ok (.iload_n 2, 1) := by decide +kernel
theorem d_Setter_takePair_131 : decode b_Setter_takePair 131 = .ok (.iload 8, 2) := by decide +kernel
theorem d_Setter_takePair_133 : decode b_Setter_takePair 133 = .ok (.iload 5, 2) := by decide +kernel
theorem d_Setter_takePair_135 : decode b_Setter_takePair 135 = .ok (.invokevirtual 110, 3) := by decide +kernel
theorem d_Setter_takePair_138 : decode b_Setter_takePair 138 = .ok (.aload_n 0, 1) := by decide +kernel
theorem d_Setter_takePair_139 : decode b_Setter_takePair 139 = .ok (.iload 4, 2) := by decide +kernel
theorem d_Setter_takePair_141 : decode b_Setter_takePair 141 = .ok (.iload 8, 2) := by decide +kernel
theorem d_Setter_takePair_143 : decode b_Setter_takePair 143 = .ok (.iload 5, 2) := by decide +kernel
theorem d_Setter_takePair_145 : decode b_Setter_takePair 145 = .ok (.invokestatic 107, 3) := by decide +kernel
theorem d_Setter_takePair_148 : decode b_Setter_takePair 148 = .ok (.iadd, 1) := by decide +kernel
theorem d_Setter_takePair_149 : decode b_Setter_takePair 149 = .ok (.iload 6, 2) := by decide +kernel
theorem d_Setter_takePair_151 : decode b_Setter_takePair 151 = .ok (.invokevirtual 110, 3) := by decide +kernel
theorem d_Setter_takePair_154 : decode b_Setter_takePair 154 = .ok (.iload 6, 2) := by decide +kernel
theorem d_Setter_takePair_156 : decode b_Setter_takePair 156 = .ok (.ifCond .ne 9, 3) := by decide +kernel
theorem d_Setter_takePair_159 : decode b_Setter_takePair 159 = .ok (.iload_n 2, 1) := by decide +kernel
theorem d_Setter_takePair_160 : decode b_Setter_takePair 160 = .ok (.iconst 1, 1) := by decide +kernel
theorem d_Setter_takePair_161 : decode b_Setter_takePair 161 = .ok (.iadd, 1) := by decide +kernel
theorem d_Setter_takePair_162 : decode b_Setter_takePair 162 = .ok (.goto 7, 3) := by decide +kernel
theorem d_Setter_takePair_165 : decode b_Setter_takePair 165 = .ok (.iload 4, 2) := by decide +kernel
theorem d_Setter_takePair_167 : decode b_Setter_takePair 167 = .ok (.iconst 1, 1) := by decide +kernel
theorem d_Setter_takePair_168 : decode b_Setter_takePair 168 = .ok (.iadd, 1) := by decide +kernel
theorem d_Setter_takePair_169 : decode b_Setter_takePair 169 = .ok (.ireturn, 1) := by decide +kernel
abbrev b_Setter_takeSingle : ByteArray := prog_7_method_7_code
def y_Setter_takeSingle : MethodName := ⟨R_Setter, "takeSingle", "(II)Z"⟩
theorem d_Setter_takeSingle_0 : decode b_Setter_takeSingle 0 = .ok (.aload_n 0, 1) := by decide +kernel
theorem d_Setter_takeSingle_1 : decode b_Setter_takeSingle 1 = .ok (.iload_n 1, 1) := by decide +kernel
theorem d_Setter_takeSingle_2 : decode b_Setter_takeSingle 2 = .ok (.iconst 2, 1) := by decide +kernel
theorem d_Setter_takeSingle_3 : decode b_Setter_takeSingle 3 = .ok (.iadd, 1) := by decide +kernel
theorem d_Setter_takeSingle_4 : decode b_Setter_takeSingle 4 = .ok (.iload_n 1, 1) := by decide +kernel
theorem d_Setter_takeSingle_5 : decode b_Setter_takeSingle 5 = .ok (.iload_n 2, 1) := by decide +kernel
theorem d_Setter_takeSingle_6 : decode b_Setter_takeSingle 6 = .ok (.invokevirtual 104, 3) := by decide +kernel
theorem d_Setter_takeSingle_9 : decode b_Setter_takeSingle 9 = .ok (.istore_n 3, 1) := by decide +kernel
theorem d_Setter_takeSingle_10 : decode b_Setter_takeSingle 10 = .ok (.iload_n 3, 1) := by decide +kernel
theorem d_Setter_takeSingle_11 : decode b_Setter_takeSingle 11 = .ok (.iconst (-1), 1) := by decide +kernel
theorem d_Setter_takeSingle_12 : decode b_Setter_takeSingle 12 = .ok (.if_icmp .ne 5, 3) := by decide +kernel
theorem d_Setter_takeSingle_15 : decode b_Setter_takeSingle 15 = .ok (.iconst 0, 1) := by decide +kernel
theorem d_Setter_takeSingle_16 : decode b_Setter_takeSingle 16 = .ok (.ireturn, 1) := by decide +kernel
theorem d_Setter_takeSingle_17 : decode b_Setter_takeSingle 17 = .ok (.aload_n 0, 1) := by decide +kernel
theorem d_Setter_takeSingle_18 : decode b_Setter_takeSingle 18 = .ok (.getfield 31, 3) := by decide +kernel
theorem d_Setter_takeSingle_21 : decode b_Setter_takeSingle 21 = .ok (.iload_n 1, 1) := by decide +kernel
theorem d_Setter_takeSingle_22 : decode b_Setter_takeSingle 22 = .ok (.iconst 4, 1) := by decide +kernel
theorem d_Setter_takeSingle_23 : decode b_Setter_takeSingle 23 = .ok (.iadd, 1) := by decide +kernel
theorem d_Setter_takeSingle_24 : decode b_Setter_takeSingle 24 = .ok (.invokevirtual 70, 3) := by decide +kernel
theorem d_Setter_takeSingle_27 : decode b_Setter_takeSingle 27 = .ok (.istore 4, 2) := by decide +kernel
theorem d_Setter_takeSingle_29 : decode b_Setter_takeSingle 29 = .ok (.aload_n 0, 1) := by decide +kernel
theorem d_Setter_takeSingle_30 : decode b_Setter_takeSingle 30 = .ok (.getfield 31, 3) := by decide +kernel
theorem d_Setter_takeSingle_33 : decode b_Setter_takeSingle 33 = .ok (.iload_n 1, 1) := by decide +kernel
theorem d_Setter_takeSingle_34 : decode b_Setter_takeSingle 34 = .ok (.invokevirtual 70, 3) := by decide +kernel
theorem d_Setter_takeSingle_37 : decode b_Setter_takeSingle 37 = .ok (.iconst 1, 1) := by decide +kernel
theorem d_Setter_takeSingle_38 : decode b_Setter_takeSingle 38 = .ok (.if_icmp .ne 10, 3) := by decide +kernel
theorem d_Setter_takeSingle_41 : decode b_Setter_takeSingle 41 = .ok (.iload_n 1, 1) := by decide +kernel
theorem d_Setter_takeSingle_42 : decode b_Setter_takeSingle 42 = .ok (.bipush 6, 2) := by decide +kernel
theorem d_Setter_takeSingle_44 : decode b_Setter_takeSingle 44 = .ok (.iadd, 1) := by decide +kernel
theorem d_Setter_takeSingle_45 : decode b_Setter_takeSingle 45 = .ok (.goto 15, 3) := by decide +kernel
theorem d_Setter_takeSingle_48 : decode b_Setter_takeSingle 48 = .ok (.iload_n 1, 1) := by decide +kernel
theorem d_Setter_takeSingle_49 : decode b_Setter_takeSingle 49 = .ok (.bipush 8, 2) := by decide +kernel
theorem d_Setter_takeSingle_51 : decode b_Setter_takeSingle 51 = .ok (.iadd, 1) := by decide +kernel
theorem d_Setter_takeSingle_52 : decode b_Setter_takeSingle 52 = .ok (.iload_n 3, 1) := by decide +kernel
theorem d_Setter_takeSingle_53 : decode b_Setter_takeSingle 53 = .ok (.iload 4, 2) := by decide +kernel
theorem d_Setter_takeSingle_55 : decode b_Setter_takeSingle 55 = .ok (.invokestatic 107, 3) := by decide +kernel
theorem d_Setter_takeSingle_58 : decode b_Setter_takeSingle 58 = .ok (.imul, 1) := by decide +kernel
theorem d_Setter_takeSingle_59 : decode b_Setter_takeSingle 59 = .ok (.iadd, 1) := by decide +kernel
theorem d_Setter_takeSingle_60 : decode b_Setter_takeSingle 60 = .ok (.istore 5, 2) := by decide +kernel
theorem d_Setter_takeSingle_62 : decode b_Setter_takeSingle 62 = .ok (.aload_n 0, 1) := by decide +kernel
theorem d_Setter_takeSingle_63 : decode b_Setter_takeSingle 63 = .ok (.iload_n 2, 1) := by decide +kernel
theorem d_Setter_takeSingle_64 : decode b_Setter_takeSingle 64 = .ok (.iload 5, 2) := by decide +kernel
theorem d_Setter_takeSingle_66 : decode b_Setter_takeSingle 66 = .ok (.iload 4, 2) := by decide +kernel
theorem d_Setter_takeSingle_68 : decode b_Setter_takeSingle 68 = .ok (.invokevirtual 110, 3) := by decide +kernel
theorem d_Setter_takeSingle_71 : decode b_Setter_takeSingle 71 = .ok (.iconst 1, 1) := by decide +kernel
theorem d_Setter_takeSingle_72 : decode b_Setter_takeSingle 72 = .ok (.ireturn, 1) := by decide +kernel
abbrev b_Setter_take : ByteArray := prog_7_method_6_code
def y_Setter_take : MethodName := ⟨R_Setter, "take", "(III)I"⟩
theorem d_Setter_take_0 : decode b_Setter_take 0 = .ok (.aload_n 0, 1) := by decide +kernel
theorem d_Setter_take_1 : decode b_Setter_take 1 = .ok (.getfield 31, 3) := by decide +kernel
theorem d_Setter_take_4 : decode b_Setter_take 4 = .ok (.iload_n 1, 1) := by decide +kernel
theorem d_Setter_take_5 : decode b_Setter_take 5 = .ok (.invokevirtual 70, 3) := by decide +kernel
theorem d_Setter_take_8 : decode b_Setter_take 8 = .ok (.istore 4, 2) := by decide +kernel
theorem d_Setter_take_10 : decode b_Setter_take 10 = .ok (.iload_n 1, 1) := by decide +kernel
theorem d_Setter_take_11 : decode b_Setter_take 11 = .ok (.aload_n 0, 1) := by decide +kernel
theorem d_Setter_take_12 : decode b_Setter_take 12 = .ok (.getfield 31, 3) := by decide +kernel
theorem d_Setter_take_15 : decode b_Setter_take 15 = .ok (.iload_n 1, 1) := by decide +kernel
theorem d_Setter_take_16 : decode b_Setter_take 16 = .ok (.bipush 6, 2) := by decide +kernel
theorem d_Setter_take_18 : decode b_Setter_take 18 = .ok (.iadd, 1) := by decide +kernel
theorem d_Setter_take_19 : decode b_Setter_take 19 = .ok (.iconst 2, 1) := by decide +kernel
theorem d_Setter_take_20 : decode b_Setter_take 20 = .ok (.iload_n 2, 1) := by decide +kernel
theorem d_Setter_take_21 : decode b_Setter_take 21 = .ok (.imul, 1) := by decide +kernel
theorem d_Setter_take_22 : decode b_Setter_take 22 = .ok (.iadd, 1) := by decide +kernel
theorem d_Setter_take_23 : decode b_Setter_take 23 = .ok (.invokevirtual 70, 3) := by decide +kernel
theorem d_Setter_take_26 : decode b_Setter_take 26 = .ok (.iadd, 1) := by decide +kernel
theorem d_Setter_take_27 : decode b_Setter_take 27 = .ok (.istore 5, 2) := by decide +kernel
theorem d_Setter_take_29 : decode b_Setter_take 29 = .ok (.iload 4, 2) := by decide +kernel
theorem d_Setter_take_31 : decode b_Setter_take 31 = .ok (.bipush 9, 2) := by decide +kernel
theorem d_Setter_take_33 : decode b_Setter_take 33 = .ok (.if_icmp .ne 32, 3) := by decide +kernel
theorem d_Setter_take_36 : decode b_Setter_take 36 = .ok (.aload_n 0, 1) := by decide +kernel
theorem d_Setter_take_37 : decode b_Setter_take 37 = .ok (.getfield 31, 3) := by decide +kernel
theorem d_Setter_take_40 : decode b_Setter_take 40 = .ok (.iload 5, 2) := by decide +kernel
theorem d_Setter_take_42 : decode b_Setter_take 42 = .ok (.iconst 2, 1) := by decide +kernel
theorem d_Setter_take_43 : decode b_Setter_take 43 = .ok (.iadd, 1) := by decide +kernel
theorem d_Setter_take_44 : decode b_Setter_take 44 = .ok (.invokevirtual 70, 3) := by decide +kernel
theorem d_Setter_take_47 : decode b_Setter_take 47 = .ok (.istore 4, 2) := by decide +kernel
theorem d_Setter_take_49 : decode b_Setter_take 49 = .ok (.iload 5, 2) := by decide +kernel
theorem d_Setter_take_51 : decode b_Setter_take 51 = .ok (.aload_n 0, 1) := by decide +kernel
theorem d_Setter_take_52 : decode b_Setter_take 52 = .ok (.getfield 31, 3) := by decide +kernel
theorem d_Setter_take_55 : decode b_Setter_take 55 = .ok (.iload 5, 2) := by decide +kernel
theorem d_Setter_take_57 : decode b_Setter_take 57 = .ok (.iconst 4, 1) := by decide +kernel
theorem d_Setter_take_58 : decode b_Setter_take 58 = .ok (.iadd, 1) := by decide +kernel
theorem d_Setter_take_59 : decode b_Setter_take 59 = .ok (.invokevirtual 87, 3) := by decide +kernel
theorem d_Setter_take_62 : decode b_Setter_take 62 = .ok (.iadd, 1) := by decide +kernel
theorem d_Setter_take_63 : decode b_Setter_take 63 = .ok (.istore 5, 2) := by decide +kernel
theorem d_Setter_take_65 : decode b_Setter_take 65 = .ok (.iload 4, 2) := by decide +kernel
theorem d_Setter_take_67 : decode b_Setter_take 67 = .ok (.tableswitch 69 1 3 #[25, 43, 51], 25) := by decide +kernel
theorem d_Setter_take_92 : decode b_Setter_take 92 = .ok (.aload_n 0, 1) := by decide +kernel
theorem d_Setter_take_93 : decode b_Setter_take 93 = .ok (.iload 5, 2) := by decide +kernel
theorem d_Setter_take_95 : decode b_Setter_take 95 = .ok (.iload_n 3, 1) := by decide +kernel
theorem d_Setter_take_96 : decode b_Setter_take 96 = .ok (.invokevirtual 90, 3) := by decide +kernel
theorem d_Setter_take_99 : decode b_Setter_take 99 = .ok (.ifCond .eq 9, 3) := by decide +kernel
theorem d_Setter_take_102 : decode b_Setter_take 102 = .ok (.iload_n 3, 1) := by decide +kernel
theorem d_Setter_take_103 : decode b_Setter_take 103 = .ok (.iconst 1, 1) := by decide +kernel
theorem d_Setter_take_104 : decode b_Setter_take 104 = .ok (.iadd, 1) := by decide +kernel
theorem d_Setter_take_105 : decode b_Setter_take 105 = .ok (.goto 4, 3) := by decide +kernel
theorem d_Setter_take_108 : decode b_Setter_take 108 = .ok (.iconst (-1), 1) := by decide +kernel
theorem d_Setter_take_109 : decode b_Setter_take 109 = .ok (.ireturn, 1) := by decide +kernel
theorem d_Setter_take_110 : decode b_Setter_take 110 = .ok (.aload_n 0, 1) := by decide +kernel
theorem d_Setter_take_111 : decode b_Setter_take 111 = .ok (.iload 5, 2) := by decide +kernel
theorem d_Setter_take_113 : decode b_Setter_take 113 = .ok (.iload_n 3, 1) := by decide +kernel
theorem d_Setter_take_114 : decode b_Setter_take 114 = .ok (.invokevirtual 94, 3) := by decide +kernel
theorem d_Setter_take_117 : decode b_Setter_take 117 = .ok (.ireturn, 1) := by decide +kernel
theorem d_Setter_take_118 : decode b_Setter_take 118 = .ok (.aload_n 0, 1) := by decide +kernel
theorem d_Setter_take_119 : decode b_Setter_take 119 = .ok (.iload 5, 2) := by decide +kernel
theorem d_Setter_take_121 : decode b_Setter_take 121 = .ok (.iload_n 3, 1) := by decide +kernel
theorem d_Setter_take_122 : decode b_Setter_take 122 = .ok (.invokevirtual 98, 3) := by decide +kernel
theorem d_Setter_take_125 : decode b_Setter_take 125 = .ok (.ifCond .eq 9, 3) := by decide +kernel
theorem d_Setter_take_128 : decode b_Setter_take 128 = .ok (.iload_n 3, 1) := by decide +kernel
theorem d_Setter_take_129 : decode b_Setter_take 129 = .ok (.iconst 1, 1) := by decide +kernel
theorem d_Setter_take_130 : decode b_Setter_take 130 = .ok (.iadd, 1) := by decide +kernel
theorem d_Setter_take_131 : decode b_Setter_take 131 = .ok (.goto 4, 3) := by decide +kernel
theorem d_Setter_take_134 : decode b_Setter_take 134 = .ok (.iconst (-1), 1) := by decide +kernel
theorem d_Setter_take_135 : decode b_Setter_take 135 = .ok (.ireturn, 1) := by decide +kernel
theorem d_Setter_take_136 : decode b_Setter_take 136 = .ok (.aload_n 0, 1) := by decide +kernel
theorem d_Setter_take_137 : decode b_Setter_take 137 = .ok (.iload 4, 2) := by decide +kernel
theorem d_Setter_take_139 : decode b_Setter_take 139 = .ok (.iload 5, 2) := by decide +kernel
theorem d_Setter_take_141 : decode b_Setter_take 141 = .ok (.iload_n 3, 1) := by decide +kernel
theorem d_Setter_take_142 : decode b_Setter_take 142 = .ok (.invokevirtual 101, 3) := by decide +kernel
theorem d_Setter_take_145 : decode b_Setter_take 145 = .ok (.ifCond .eq 9, 3) := by decide +kernel
theorem d_Setter_take_148 : decode b_Setter_take 148 = .ok (.iload_n 3, 1) := by decide +kernel
theorem d_Setter_take_149 : decode b_Setter_take 149 = .ok (.iconst 1, 1) := by decide +kernel
theorem d_Setter_take_150 : decode b_Setter_take 150 = .ok (.iadd, 1) := by decide +kernel
theorem d_Setter_take_151 : decode b_Setter_take 151 = .ok (.goto 4, 3) := by decide +kernel
theorem d_Setter_take_154 : decode b_Setter_take 154 = .ok (.iconst (-1), 1) := by decide +kernel
theorem d_Setter_take_155 : decode b_Setter_take 155 = .ok (.ireturn, 1) := by decide +kernel
abbrev b_Setter_carryOut : ByteArray := prog_7_method_3_code
def y_Setter_carryOut : MethodName := ⟨R_Setter, "carryOut", "(I)V"⟩
theorem d_Setter_carryOut_0 : decode b_Setter_carryOut 0 = .ok (.aload_n 0, 1) := by decide +kernel
theorem d_Setter_carryOut_1 : decode b_Setter_carryOut 1 = .ok (.getfield 31, 3) := by decide +kernel
theorem d_Setter_carryOut_4 : decode b_Setter_carryOut 4 = .ok (.bipush 8, 2) := by decide +kernel
theorem d_Setter_carryOut_6 : decode b_Setter_carryOut 6 = .ok (.invokevirtual 70, 3) := by decide +kernel
theorem d_Setter_carryOut_9 : decode b_Setter_carryOut 9 = .ok (.istore_n 2, 1) := by decide +kernel
theorem d_Setter_carryOut_10 : decode b_Setter_carryOut 10 = .ok (.iload_n 2, 1) := by decide +kernel
theorem d_Setter_carryOut_11 : decode b_Setter_carryOut 11 = .ok (.aload_n 0, 1) := by decide +kernel
theorem d_Setter_carryOut_12 : decode b_Setter_carryOut 12 = .ok (.getfield 31, 3) := by decide +kernel
theorem d_Setter_carryOut_15 : decode b_Setter_carryOut 15 = .ok (.iload_n 2, 1) := by decide +kernel
theorem d_Setter_carryOut_16 : decode b_Setter_carryOut 16 = .ok (.iconst 2, 1) := by decide +kernel
theorem d_Setter_carryOut_17 : decode b_Setter_carryOut 17 = .ok (.iadd, 1) := by decide +kernel
theorem d_Setter_carryOut_18 : decode b_Setter_carryOut 18 = .ok (.iconst 2, 1) := by decide +kernel
theorem d_Setter_carryOut_19 : decode b_Setter_carryOut 19 = .ok (.iload_n 1, 1) := by decide +kernel
theorem d_Setter_carryOut_20 : decode b_Setter_carryOut 20 = .ok (.imul, 1) := by decide +kernel
theorem d_Setter_carryOut_21 : decode b_Setter_carryOut 21 = .ok (.iadd, 1) := by decide +kernel
theorem d_Setter_carryOut_22 : decode b_Setter_carryOut 22 = .ok (.invokevirtual 70, 3) := by decide +kernel
theorem d_Setter_carryOut_25 : decode b_Setter_carryOut 25 = .ok (.iadd, 1) := by decide +kernel
theorem d_Setter_carryOut_26 : decode b_Setter_carryOut 26 = .ok (.istore_n 3, 1) := by decide +kernel
theorem d_Setter_carryOut_27 : decode b_Setter_carryOut 27 = .ok (.aload_n 0, 1) := by decide +kernel
theorem d_Setter_carryOut_28 : decode b_Setter_carryOut 28 = .ok (.aload_n 0, 1) := by decide +kernel
theorem d_Setter_carryOut_29 : decode b_Setter_carryOut 29 = .ok (.getfield 31, 3) := by decide +kernel
theorem d_Setter_carryOut_32 : decode b_Setter_carryOut 32 = .ok (.iload_n 3, 1) := by decide +kernel
theorem d_Setter_carryOut_33 : decode b_Setter_carryOut 33 = .ok (.iconst 2, 1) := by decide +kernel
theorem d_Setter_carryOut_34 : decode b_Setter_carryOut 34 = .ok (.iadd, 1) := by decide +kernel
theorem d_Setter_carryOut_35 : decode b_Setter_carryOut 35 = .ok (.invokevirtual 70, 3) := by decide +kernel
theorem d_Setter_carryOut_38 : decode b_Setter_carryOut 38 = .ok (.invokevirtual 75, 3) := by decide +kernel
theorem d_Setter_carryOut_41 : decode b_Setter_carryOut 41 = .ok (.aload_n 0, 1) := by decide +kernel
theorem d_Setter_carryOut_42 : decode b_Setter_carryOut 42 = .ok (.getfield 31, 3) := by decide +kernel
theorem d_Setter_carryOut_45 : decode b_Setter_carryOut 45 = .ok (.iload_n 3, 1) := by decide +kernel
theorem d_Setter_carryOut_46 : decode b_Setter_carryOut 46 = .ok (.iconst 4, 1) := by decide +kernel
theorem d_Setter_carryOut_47 : decode b_Setter_carryOut 47 = .ok (.iadd, 1) := by decide +kernel
theorem d_Setter_carryOut_48 : decode b_Setter_carryOut 48 = .ok (.invokevirtual 70, 3) := by decide +kernel
theorem d_Setter_carryOut_51 : decode b_Setter_carryOut 51 = .ok (.istore 4, 2) := by decide +kernel
theorem d_Setter_carryOut_53 : decode b_Setter_carryOut 53 = .ok (.iconst 0, 1) := by decide +kernel
theorem d_Setter_carryOut_54 : decode b_Setter_carryOut 54 = .ok (.istore 5, 2) := by decide +kernel
theorem d_Setter_carryOut_56 : decode b_Setter_carryOut 56 = .ok (.iconst 0, 1) := by decide +kernel
theorem d_Setter_carryOut_57 : decode b_Setter_carryOut 57 = .ok (.istore 6, 2) := by decide +kernel
theorem d_Setter_carryOut_59 : decode b_Setter_carryOut 59 = .ok (.iload 6, 2) := by decide +kernel
theorem d_Setter_carryOut_61 : decode b_Setter_carryOut 61 = .ok (.aload_n 0, 1) := by decide +kernel
theorem d_Setter_carryOut_62 : decode b_Setter_carryOut 62 = .ok (.getfield 43, 3) := by decide +kernel
theorem d_Setter_carryOut_65 : decode b_Setter_carryOut 65 = .ok (.getfield 51, 3) := by decide +kernel
theorem d_Setter_carryOut_68 : decode b_Setter_carryOut 68 = .ok (.if_icmp .ge 82, 3) := by decide +kernel
theorem d_Setter_carryOut_71 : decode b_Setter_carryOut 71 = .ok (.iload 6, 2) := by decide +kernel
theorem d_Setter_carryOut_73 : decode b_Setter_carryOut 73 = .ok (.iload 5, 2) := by decide +kernel
theorem d_Setter_carryOut_75 : decode b_Setter_carryOut 75 = .ok (.if_icmp .lt 69, 3) := by decide +kernel
theorem d_Setter_carryOut_78 : decode b_Setter_carryOut 78 = .ok (.aload_n 0, 1) := by decide +kernel
theorem d_Setter_carryOut_79 : decode b_Setter_carryOut 79 = .ok (.getfield 21, 3) := by decide +kernel
theorem d_Setter_carryOut_82 : decode b_Setter_carryOut 82 = .ok (.iload 6, 2) := by decide +kernel
theorem d_Setter_carryOut_84 : decode b_Setter_carryOut 84 = .ok (.baload, 1) := by decide +kernel
theorem d_Setter_carryOut_85 : decode b_Setter_carryOut 85 = .ok (.ifCond .eq 6, 3) := by decide +kernel
theorem d_Setter_carryOut_88 : decode b_Setter_carryOut 88 = .ok (.goto 56, 3) := by decide +kernel
theorem d_Setter_carryOut_91 : decode b_Setter_carryOut 91 = .ok (.iconst (-1), 1) := by decide +kernel
theorem d_Setter_carryOut_92 : decode b_Setter_carryOut 92 = .ok (.istore 7, 2) := by decide +kernel
theorem d_Setter_carryOut_94 : decode b_Setter_carryOut 94 = .ok (.iconst 0, 1) := by decide +kernel
theorem d_Setter_carryOut_95 : decode b_Setter_carryOut 95 = .ok (.istore 8, 2) := by decide +kernel
theorem d_Setter_carryOut_97 : decode b_Setter_carryOut 97 = .ok (.iload 8, 2) := by decide +kernel
theorem d_Setter_carryOut_99 : decode b_Setter_carryOut 99 = .ok (.iload 4, 2) := by decide +kernel
theorem d_Setter_carryOut_101 : decode b_Setter_carryOut 101 = .ok (.if_icmp .ge 26, 3) := by decide +kernel
theorem d_Setter_carryOut_104 : decode b_Setter_carryOut 104 = .ok (.iload 7, 2) := by decide +kernel
theorem d_Setter_carryOut_106 : decode b_Setter_carryOut 106 = .ok (.iconst (-1), 1) := by decide +kernel
theorem d_Setter_carryOut_107 : decode b_Setter_carryOut 107 = .ok (.if_icmp .ne 20, 3) := by decide +kernel
theorem d_Setter_carryOut_110 : decode b_Setter_carryOut 110 = .ok (.aload_n 0, 1) := by decide +kernel
theorem d_Setter_carryOut_111 : decode b_Setter_carryOut 111 = .ok (.iload_n 3, 1) := by decide +kernel
theorem d_Setter_carryOut_112 : decode b_Setter_carryOut 112 = .ok (.iload 8, 2) := by decide +kernel
theorem d_Setter_carryOut_114 : decode b_Setter_carryOut 114 = .ok (.iload 6, 2) := by decide +kernel
theorem d_Setter_carryOut_116 : decode b_Setter_carryOut 116 = .ok (.invokevirtual 79, 3) := by decide +kernel
theorem d_Setter_carryOut_119 : decode b_Setter_carryOut 119 = .ok (.istore 7, 2) := by decide +kernel
theorem d_Setter_carryOut_121 : decode b_Setter_carryOut 121 = .ok (.iinc 8 1, 3) := by decide +kernel
theorem d_Setter_carryOut_124 : decode b_Setter_carryOut 124 = .ok (.goto (-27), 3) := by decide +kernel
theorem d_Setter_carryOut_127 : decode b_Setter_carryOut 127 = .ok (.iload 7, 2) := by decide +kernel
theorem d_Setter_carryOut_129 : decode b_Setter_carryOut 129 = .ok (.iconst (-1), 1) := by decide +kernel
theorem d_Setter_carryOut_130 : decode b_Setter_carryOut 130 = .ok (.if_icmp .ne 10, 3) := by decide +kernel
theorem d_Setter_carryOut_133 : decode b_Setter_carryOut 133 = .ok (.iload 6, 2) := by decide +kernel
theorem d_Setter_carryOut_135 : decode b_Setter_carryOut 135 = .ok (.iconst 1, 1) := by decide +kernel
theorem d_Setter_carryOut_136 : decode b_Setter_carryOut 136 = .ok (.iadd, 1) := by decide +kernel
theorem d_Setter_carryOut_137 : decode b_Setter_carryOut 137 = .ok (.goto 5, 3) := by decide +kernel
theorem d_Setter_carryOut_140 : decode b_Setter_carryOut 140 = .ok (.iload 7, 2) := by decide +kernel
theorem d_Setter_carryOut_142 : decode b_Setter_carryOut 142 = .ok (.istore 5, 2) := by decide +kernel
theorem d_Setter_carryOut_144 : decode b_Setter_carryOut 144 = .ok (.iinc 6 1, 3) := by decide +kernel
theorem d_Setter_carryOut_147 : decode b_Setter_carryOut 147 = .ok (.goto (-88), 3) := by decide +kernel
theorem d_Setter_carryOut_150 : decode b_Setter_carryOut 150 = .ok (.return_, 1) := by decide +kernel
abbrev b_GlyphPositionsModel_thrown : ByteArray := prog_12_method_2_code
def y_GlyphPositionsModel_thrown : MethodName := ⟨R_GlyphPositionsModel, "thrown", "()I"⟩
theorem d_GlyphPositionsModel_thrown_0 : decode b_GlyphPositionsModel_thrown 0 = .ok (.aload_n 0, 1) := by decide +kernel
theorem d_GlyphPositionsModel_thrown_1 : decode b_GlyphPositionsModel_thrown 1 = .ok (.getfield 77, 3) := by decide +kernel
theorem d_GlyphPositionsModel_thrown_4 : decode b_GlyphPositionsModel_thrown 4 = .ok (.ireturn, 1) := by decide +kernel
abbrev b_GlyphPositionsModel_feed : ByteArray := prog_12_method_4_code
def y_GlyphPositionsModel_feed : MethodName := ⟨R_GlyphPositionsModel, "feed", "(I)I"⟩
theorem d_GlyphPositionsModel_feed_0 : decode b_GlyphPositionsModel_feed 0 = .ok (.aload_n 0, 1) := by decide +kernel
theorem d_GlyphPositionsModel_feed_1 : decode b_GlyphPositionsModel_feed 1 = .ok (.iconst 0, 1) := by decide +kernel
theorem d_GlyphPositionsModel_feed_2 : decode b_GlyphPositionsModel_feed 2 = .ok (.putfield 77, 3) := by decide +kernel
theorem d_GlyphPositionsModel_feed_5 : decode b_GlyphPositionsModel_feed 5 = .ok (.aload_n 0, 1) := by decide +kernel
theorem d_GlyphPositionsModel_feed_6 : decode b_GlyphPositionsModel_feed 6 = .ok (.getfield 81, 3) := by decide +kernel
theorem d_GlyphPositionsModel_feed_9 : decode b_GlyphPositionsModel_feed 9 = .ok (.iconst 4, 1) := by decide +kernel
theorem d_GlyphPositionsModel_feed_10 : decode b_GlyphPositionsModel_feed 10 = .ok (.iadd, 1) := by decide +kernel
theorem d_GlyphPositionsModel_feed_11 : decode b_GlyphPositionsModel_feed 11 = .ok (.sipush 8192, 3) := by decide +kernel
theorem d_GlyphPositionsModel_feed_14 : decode b_GlyphPositionsModel_feed 14 = .ok (.if_icmp .le 5, 3) := by decide +kernel
theorem d_GlyphPositionsModel_feed_17 : decode b_GlyphPositionsModel_feed 17 = .ok (.iconst (-1), 1) := by decide +kernel
theorem d_GlyphPositionsModel_feed_18 : decode b_GlyphPositionsModel_feed 18 = .ok (.ireturn, 1) := by decide +kernel
theorem d_GlyphPositionsModel_feed_19 : decode b_GlyphPositionsModel_feed 19 = .ok (.iconst 3, 1) := by decide +kernel
theorem d_GlyphPositionsModel_feed_20 : decode b_GlyphPositionsModel_feed 20 = .ok (.istore_n 2, 1) := by decide +kernel
theorem d_GlyphPositionsModel_feed_21 : decode b_GlyphPositionsModel_feed 21 = .ok (.iload_n 2, 1) := by decide +kernel
theorem d_GlyphPositionsModel_feed_22 : decode b_GlyphPositionsModel_feed 22 = .ok (.ifCond .lt 38, 3) := by decide +kernel
theorem d_GlyphPositionsModel_feed_25 : decode b_GlyphPositionsModel_feed 25 = .ok (.aload_n 0, 1) := by decide +kernel
theorem d_GlyphPositionsModel_feed_26 : decode b_GlyphPositionsModel_feed 26 = .ok (.getfield 7, 3) := by decide +kernel
theorem d_GlyphPositionsModel_feed_29 : decode b_GlyphPositionsModel_feed 29 = .ok (.aload_n 0, 1) := by decide +kernel
theorem d_GlyphPositionsModel_feed_30 : decode b_GlyphPositionsModel_feed 30 = .ok (.getfield 81, 3) := by decide +kernel
theorem d_GlyphPositionsModel_feed_33 : decode b_GlyphPositionsModel_feed 33 = .ok (.iload_n 1, 1) := by decide +kernel
theorem d_GlyphPositionsModel_feed_34 : decode b_GlyphPositionsModel_feed 34 = .ok (.bipush 8, 2) := by decide +kernel
theorem d_GlyphPositionsModel_feed_36 : decode b_GlyphPositionsModel_feed 36 = .ok (.iload_n 2, 1) := by decide +kernel
theorem d_GlyphPositionsModel_feed_37 : decode b_GlyphPositionsModel_feed 37 = .ok (.imul, 1) := by decide +kernel
theorem d_GlyphPositionsModel_feed_38 : decode b_GlyphPositionsModel_feed 38 = .ok (.ishr, 1) := by decide +kernel
theorem d_GlyphPositionsModel_feed_39 : decode b_GlyphPositionsModel_feed 39 = .ok (.sipush 255, 3) := by decide +kernel
theorem d_GlyphPositionsModel_feed_42 : decode b_GlyphPositionsModel_feed 42 = .ok (.iand, 1) := by decide +kernel
theorem d_GlyphPositionsModel_feed_43 : decode b_GlyphPositionsModel_feed 43 = .ok (.iastore, 1) := by decide +kernel
theorem d_GlyphPositionsModel_feed_44 : decode b_GlyphPositionsModel_feed 44 = .ok (.aload_n 0, 1) := by decide +kernel
theorem d_GlyphPositionsModel_feed_45 : decode b_GlyphPositionsModel_feed 45 = .ok (.dup, 1) := by decide +kernel
theorem d_GlyphPositionsModel_feed_46 : decode b_GlyphPositionsModel_feed 46 = .ok (.getfield 81, 3) := by decide +kernel
theorem d_GlyphPositionsModel_feed_49 : decode b_GlyphPositionsModel_feed 49 = .ok (.iconst 1, 1) := by decide +kernel
theorem d_GlyphPositionsModel_feed_50 : decode b_GlyphPositionsModel_feed 50 = .ok (.iadd, 1) := by decide +kernel
theorem d_GlyphPositionsModel_feed_51 : decode b_GlyphPositionsModel_feed 51 = .ok (.putfield 81, 3) := by decide +kernel
theorem d_GlyphPositionsModel_feed_54 : decode b_GlyphPositionsModel_feed 54 = .ok (.iinc 2 (-1), 3) := by decide +kernel
theorem d_GlyphPositionsModel_feed_57 : decode b_GlyphPositionsModel_feed 57 = .ok (.goto (-36), 3) := by decide +kernel
theorem d_GlyphPositionsModel_feed_60 : decode b_GlyphPositionsModel_feed 60 = .ok (.aload_n 0, 1) := by decide +kernel
theorem d_GlyphPositionsModel_feed_61 : decode b_GlyphPositionsModel_feed 61 = .ok (.getfield 81, 3) := by decide +kernel
theorem d_GlyphPositionsModel_feed_64 : decode b_GlyphPositionsModel_feed 64 = .ok (.ireturn, 1) := by decide +kernel
abbrev b_GlyphPositionsModel_refused : ByteArray := prog_12_method_3_code
def y_GlyphPositionsModel_refused : MethodName := ⟨R_GlyphPositionsModel, "refused", "(I)Z"⟩
theorem d_GlyphPositionsModel_refused_0 : decode b_GlyphPositionsModel_refused 0 = .ok (.aload_n 0, 1) := by decide +kernel
theorem d_GlyphPositionsModel_refused_1 : decode b_GlyphPositionsModel_refused 1 = .ok (.iload_n 1, 1) := by decide +kernel
theorem d_GlyphPositionsModel_refused_2 : decode b_GlyphPositionsModel_refused 2 = .ok (.putfield 77, 3) := by decide +kernel
theorem d_GlyphPositionsModel_refused_5 : decode b_GlyphPositionsModel_refused 5 = .ok (.iload_n 1, 1) := by decide +kernel
theorem d_GlyphPositionsModel_refused_6 : decode b_GlyphPositionsModel_refused 6 = .ok (.ifCond .le 7, 3) := by decide +kernel
theorem d_GlyphPositionsModel_refused_9 : decode b_GlyphPositionsModel_refused 9 = .ok (.iconst 1, 1) := by decide +kernel
theorem d_GlyphPositionsModel_refused_10 : decode b_GlyphPositionsModel_refused 10 = .ok (.goto 4, 3) := by decide +kernel
theorem d_GlyphPositionsModel_refused_13 : decode b_GlyphPositionsModel_refused 13 = .ok (.iconst 0, 1) := by decide +kernel
theorem d_GlyphPositionsModel_refused_14 : decode b_GlyphPositionsModel_refused 14 = .ok (.ireturn, 1) := by decide +kernel
abbrev b_GlyphPositionsModel_put : ByteArray := prog_12_method_5_code
def y_GlyphPositionsModel_put : MethodName := ⟨R_GlyphPositionsModel, "put", "(II)I"⟩
theorem d_GlyphPositionsModel_put_0 : decode b_GlyphPositionsModel_put 0 = .ok (.iload_n 1, 1) := by decide +kernel
theorem d_GlyphPositionsModel_put_1 : decode b_GlyphPositionsModel_put 1 = .ok (.ifCond .lt 15, 3) := by decide +kernel
theorem d_GlyphPositionsModel_put_4 : decode b_GlyphPositionsModel_put 4 = .ok (.iload_n 1, 1) := by decide +kernel
theorem d_GlyphPositionsModel_put_5 : decode b_GlyphPositionsModel_put 5 = .ok (.aload_n 0, 1) := by decide +kernel
theorem d_GlyphPositionsModel_put_6 : decode b_GlyphPositionsModel_put 6 = .ok (.getfield 81, 3) := by decide +kernel
theorem d_GlyphPositionsModel_put_9 : decode b_GlyphPositionsModel_put 9 = .ok (.if_icmp .ge 7, 3) := by decide +kernel
theorem d_GlyphPositionsModel_put_12 : decode b_GlyphPositionsModel_put 12 = .ok (.iconst 1, 1) := by decide +kernel
theorem d_GlyphPositionsModel_put_13 : decode b_GlyphPositionsModel_put 13 = .ok (.goto 4, 3) := by decide +kernel
theorem d_GlyphPositionsModel_put_16 : decode b_GlyphPositionsModel_put 16 = .ok (.iconst 0, 1) := by decide +kernel
theorem d_GlyphPositionsModel_put_17 : decode b_GlyphPositionsModel_put 17 = .ok (.istore_n 3, 1) := by decide +kernel
theorem d_GlyphPositionsModel_put_18 : decode b_GlyphPositionsModel_put 18 = .ok (.aload_n 0, 1) := by decide +kernel
theorem d_GlyphPositionsModel_put_19 : decode b_GlyphPositionsModel_put 19 = .ok (.iload_n 3, 1) := by decide +kernel
theorem d_GlyphPositionsModel_put_20 : decode b_GlyphPositionsModel_put 20 = .ok (.ifCond .ne 7, 3) := by decide +kernel
theorem d_GlyphPositionsModel_put_23 : decode b_GlyphPositionsModel_put 23 = .ok (.iconst 1, 1) := by decide +kernel
theorem d_GlyphPositionsModel_put_24 : decode b_GlyphPositionsModel_put 24 = .ok (.goto 19, 3) := by decide +kernel
theorem d_GlyphPositionsModel_put_27 : decode b_GlyphPositionsModel_put 27 = .ok (.iload_n 2, 1) := by decide +kernel
theorem d_GlyphPositionsModel_put_28 : decode b_GlyphPositionsModel_put 28 = .ok (.ifCond .lt 10, 3) := by decide +kernel
theorem d_GlyphPositionsModel_put_31 : decode b_GlyphPositionsModel_put 31 = .ok (.iload_n 2, 1) := by decide +kernel
theorem d_GlyphPositionsModel_put_32 : decode b_GlyphPositionsModel_put 32 = .ok (.sipush 255, 3) := by decide +kernel
theorem d_GlyphPositionsModel_put_35 : decode b_GlyphPositionsModel_put 35 = .ok (.if_icmp .le 7, 3) := by decide +kernel
theorem d_GlyphPositionsModel_put_38 : decode b_GlyphPositionsModel_put 38 = .ok (.iconst 2, 1) := by decide +kernel
theorem d_GlyphPositionsModel_put_39 : decode b_GlyphPositionsModel_put 39 = .ok (.goto 4, 3) := by decide +kernel
theorem d_GlyphPositionsModel_put_42 : decode b_GlyphPositionsModel_put 42 = .ok (.iconst 0, 1) := by decide +kernel
theorem d_GlyphPositionsModel_put_43 : decode b_GlyphPositionsModel_put 43 = .ok (.invokevirtual 84, 3) := by decide +kernel
theorem d_GlyphPositionsModel_put_46 : decode b_GlyphPositionsModel_put 46 = .ok (.ifCond .eq 5, 3) := by decide +kernel
theorem d_GlyphPositionsModel_put_49 : decode b_GlyphPositionsModel_put 49 = .ok (.iconst 0, 1) := by decide +kernel
theorem d_GlyphPositionsModel_put_50 : decode b_GlyphPositionsModel_put 50 = .ok (.ireturn, 1) := by decide +kernel
theorem d_GlyphPositionsModel_put_51 : decode b_GlyphPositionsModel_put 51 = .ok (.aload_n 0, 1) := by decide +kernel
theorem d_GlyphPositionsModel_put_52 : decode b_GlyphPositionsModel_put 52 = .ok (.getfield 7, 3) := by decide +kernel
theorem d_GlyphPositionsModel_put_55 : decode b_GlyphPositionsModel_put 55 = .ok (.iload_n 1, 1) := by decide +kernel
theorem d_GlyphPositionsModel_put_56 : decode b_GlyphPositionsModel_put 56 = .ok (.iaload, 1) := by decide +kernel
theorem d_GlyphPositionsModel_put_57 : decode b_GlyphPositionsModel_put 57 = .ok (.istore 4, 2) := by decide +kernel
theorem d_GlyphPositionsModel_put_59 : decode b_GlyphPositionsModel_put 59 = .ok (.aload_n 0, 1) := by decide +kernel
theorem d_GlyphPositionsModel_put_60 : decode b_GlyphPositionsModel_put 60 = .ok (.getfield 7, 3) := by decide +kernel
theorem d_GlyphPositionsModel_put_63 : decode b_GlyphPositionsModel_put 63 = .ok (.iload_n 1, 1) := by decide +kernel
theorem d_GlyphPositionsModel_put_64 : decode b_GlyphPositionsModel_put 64 = .ok (.iload_n 2, 1) := by decide +kernel
theorem d_GlyphPositionsModel_put_65 : decode b_GlyphPositionsModel_put 65 = .ok (.iastore, 1) := by decide +kernel
theorem d_GlyphPositionsModel_put_66 : decode b_GlyphPositionsModel_put 66 = .ok (.iload 4, 2) := by decide +kernel
theorem d_GlyphPositionsModel_put_68 : decode b_GlyphPositionsModel_put 68 = .ok (.ireturn, 1) := by decide +kernel
abbrev b_GlyphPositionsModel_cut : ByteArray := prog_12_method_6_code
def y_GlyphPositionsModel_cut : MethodName := ⟨R_GlyphPositionsModel, "cut", "(I)I"⟩
theorem d_GlyphPositionsModel_cut_0 : decode b_GlyphPositionsModel_cut 0 = .ok (.aload_n 0, 1) := by decide +kernel
theorem d_GlyphPositionsModel_cut_1 : decode b_GlyphPositionsModel_cut 1 = .ok (.iload_n 1, 1) := by decide +kernel
theorem d_GlyphPositionsModel_cut_2 : decode b_GlyphPositionsModel_cut 2 = .ok (.ifCond .ge 7, 3) := by decide +kernel
theorem d_GlyphPositionsModel_cut_5 : decode b_GlyphPositionsModel_cut 5 = .ok (.iconst 1, 1) := by decide +kernel
theorem d_GlyphPositionsModel_cut_6 : decode b_GlyphPositionsModel_cut 6 = .ok (.goto 4, 3) := by decide +kernel
theorem d_GlyphPositionsModel_cut_9 : decode b_GlyphPositionsModel_cut 9 = .ok (.iconst 0, 1) := by decide +kernel
theorem d_GlyphPositionsModel_cut_10 : decode b_GlyphPositionsModel_cut 10 = .ok (.invokevirtual 84, 3) := by decide +kernel
theorem d_GlyphPositionsModel_cut_13 : decode b_GlyphPositionsModel_cut 13 = .ok (.ifCond .eq 5, 3) := by decide +kernel
theorem d_GlyphPositionsModel_cut_16 : decode b_GlyphPositionsModel_cut 16 = .ok (.iconst 0, 1) := by decide +kernel
theorem d_GlyphPositionsModel_cut_17 : decode b_GlyphPositionsModel_cut 17 = .ok (.ireturn, 1) := by decide +kernel
theorem d_GlyphPositionsModel_cut_18 : decode b_GlyphPositionsModel_cut 18 = .ok (.aload_n 0, 1) := by decide +kernel
theorem d_GlyphPositionsModel_cut_19 : decode b_GlyphPositionsModel_cut 19 = .ok (.getfield 81, 3) := by decide +kernel
theorem d_GlyphPositionsModel_cut_22 : decode b_GlyphPositionsModel_cut 22 = .ok (.iload_n 1, 1) := by decide +kernel
theorem d_GlyphPositionsModel_cut_23 : decode b_GlyphPositionsModel_cut 23 = .ok (.if_icmp .le 12, 3) := by decide +kernel
theorem d_GlyphPositionsModel_cut_26 : decode b_GlyphPositionsModel_cut 26 = .ok (.aload_n 0, 1) := by decide +kernel
theorem d_GlyphPositionsModel_cut_27 : decode b_GlyphPositionsModel_cut 27 = .ok (.getfield 81, 3) := by decide +kernel
theorem d_GlyphPositionsModel_cut_30 : decode b_GlyphPositionsModel_cut 30 = .ok (.iload_n 1, 1) := by decide +kernel
theorem d_GlyphPositionsModel_cut_31 : decode b_GlyphPositionsModel_cut 31 = .ok (.isub, 1) := by decide +kernel
theorem d_GlyphPositionsModel_cut_32 : decode b_GlyphPositionsModel_cut 32 = .ok (.goto 4, 3) := by decide +kernel
theorem d_GlyphPositionsModel_cut_35 : decode b_GlyphPositionsModel_cut 35 = .ok (.iconst 0, 1) := by decide +kernel
theorem d_GlyphPositionsModel_cut_36 : decode b_GlyphPositionsModel_cut 36 = .ok (.istore_n 2, 1) := by decide +kernel
theorem d_GlyphPositionsModel_cut_37 : decode b_GlyphPositionsModel_cut 37 = .ok (.aload_n 0, 1) := by decide +kernel
theorem d_GlyphPositionsModel_cut_38 : decode b_GlyphPositionsModel_cut 38 = .ok (.aload_n 0, 1) := by decide +kernel
theorem d_GlyphPositionsModel_cut_39 : decode b_GlyphPositionsModel_cut 39 = .ok (.getfield 81, 3) := by decide +kernel
theorem d_GlyphPositionsModel_cut_42 : decode b_GlyphPositionsModel_cut 42 = .ok (.iload_n 2, 1) := by decide +kernel
theorem d_GlyphPositionsModel_cut_43 : decode b_GlyphPositionsModel_cut 43 = .ok (.isub, 1) := by decide +kernel
theorem d_GlyphPositionsModel_cut_44 : decode b_GlyphPositionsModel_cut 44 = .ok (.putfield 81, 3) := by decide +kernel
theorem d_GlyphPositionsModel_cut_47 : decode b_GlyphPositionsModel_cut 47 = .ok (.iload_n 2, 1) := by decide +kernel
theorem d_GlyphPositionsModel_cut_48 : decode b_GlyphPositionsModel_cut 48 = .ok (.ireturn, 1) := by decide +kernel
abbrev b_GlyphPositionsModel_kind : ByteArray := prog_12_method_39_code
def y_GlyphPositionsModel_kind : MethodName := ⟨R_GlyphPositionsModel, "kind", "(IIII)V"⟩
theorem d_GlyphPositionsModel_kind_0 : decode b_GlyphPositionsModel_kind 0 = .ok (.iload_n 1, 1) := by decide +kernel
theorem d_GlyphPositionsModel_kind_1 : decode b_GlyphPositionsModel_kind 1 = .ok (.ifCond .lt 40, 3) := by decide +kernel
theorem d_GlyphPositionsModel_kind_4 : decode b_GlyphPositionsModel_kind 4 = .ok (.iload_n 2, 1) := by decide +kernel
theorem d_GlyphPositionsModel_kind_5 : decode b_GlyphPositionsModel_kind 5 = .ok (.ldc 113, 2) := by decide +kernel
theorem d_GlyphPositionsModel_kind_7 : decode b_GlyphPositionsModel_kind 7 = .ok (.if_icmp .gt 34, 3) := by decide +kernel
theorem d_GlyphPositionsModel_kind_10 : decode b_GlyphPositionsModel_kind 10 = .ok (.iload_n 1, 1) := by decide +kernel
theorem d_GlyphPositionsModel_kind_11 : decode b_GlyphPositionsModel_kind 11 = .ok (.iload_n 2, 1) := by decide +kernel
theorem d_GlyphPositionsModel_kind_12 : decode b_GlyphPositionsModel_kind 12 = .ok (.if_icmp .gt 29, 3) := by decide +kernel
theorem d_GlyphPositionsModel_kind_15 : decode b_GlyphPositionsModel_kind 15 = .ok (.iload_n 3, 1) := by decide +kernel
theorem d_GlyphPositionsModel_kind_16 : decode b_GlyphPositionsModel_kind 16 = .ok (.ifCond .lt 25, 3) := by decide +kernel
theorem d_GlyphPositionsModel_kind_19 : decode b_GlyphPositionsModel_kind 19 = .ok (.iload_n 3, 1) := by decide +kernel
theorem d_GlyphPositionsModel_kind_20 : decode b_GlyphPositionsModel_kind 20 = .ok (.iconst 3, 1) := by decide +kernel
theorem d_GlyphPositionsModel_kind_21 : decode b_GlyphPositionsModel_kind 21 = .ok (.if_icmp .gt 20, 3) := by decide +kernel
theorem d_GlyphPositionsModel_kind_24 : decode b_GlyphPositionsModel_kind 24 = .ok (.iload 4, 2) := by decide +kernel
theorem d_GlyphPositionsModel_kind_26 : decode b_GlyphPositionsModel_kind 26 = .ok (.ifCond .lt 15, 3) := by decide +kernel
theorem d_GlyphPositionsModel_kind_29 : decode b_GlyphPositionsModel_kind 29 = .ok (.iload 4, 2) := by decide +kernel
theorem d_GlyphPositionsModel_kind_31 : decode b_GlyphPositionsModel_kind 31 = .ok (.sipush 255, 3) := by decide +kernel
theorem d_GlyphPositionsModel_kind_34 : decode b_GlyphPositionsModel_kind 34 = .ok (.if_icmp .gt 7, 3) := by decide +kernel
theorem d_GlyphPositionsModel_kind_37 : decode b_GlyphPositionsModel_kind 37 = .ok (.iconst 1, 1) := by decide +kernel
theorem d_GlyphPositionsModel_kind_38 : decode b_GlyphPositionsModel_kind 38 = .ok (.goto 4, 3) := by decide +kernel
theorem d_GlyphPositionsModel_kind_41 : decode b_GlyphPositionsModel_kind 41 = .ok (.iconst 0, 1) := by decide +kernel
theorem d_GlyphPositionsModel_kind_42 : decode b_GlyphPositionsModel_kind 42 = .ok (.istore 5, 2) := by decide +kernel
theorem d_GlyphPositionsModel_kind_44 : decode b_GlyphPositionsModel_kind 44 = .ok (.aload_n 0, 1) := by decide +kernel
theorem d_GlyphPositionsModel_kind_45 : decode b_GlyphPositionsModel_kind 45 = .ok (.iload 5, 2) := by decide +kernel
theorem d_GlyphPositionsModel_kind_47 : decode b_GlyphPositionsModel_kind 47 = .ok (.ifCond .ne 7, 3) := by decide +kernel
theorem d_GlyphPositionsModel_kind_50 : decode b_GlyphPositionsModel_kind 50 = .ok (.iconst 1, 1) := by decide +kernel
theorem d_GlyphPositionsModel_kind_51 : decode b_GlyphPositionsModel_kind 51 = .ok (.goto 18, 3) := by decide +kernel
theorem d_GlyphPositionsModel_kind_54 : decode b_GlyphPositionsModel_kind 54 = .ok (.aload_n 0, 1) := by decide +kernel
theorem d_GlyphPositionsModel_kind_55 : decode b_GlyphPositionsModel_kind 55 = .ok (.getfield 226, 3) := by decide +kernel
theorem d_GlyphPositionsModel_kind_58 : decode b_GlyphPositionsModel_kind 58 = .ok (.sipush 256, 3) := by decide +kernel
theorem d_GlyphPositionsModel_kind_61 : decode b_GlyphPositionsModel_kind 61 = .ok (.if_icmp .ne 7, 3) := by decide +kernel
theorem d_GlyphPositionsModel_kind_64 : decode b_GlyphPositionsModel_kind 64 = .ok (.iconst 2, 1) := by decide +kernel
theorem d_GlyphPositionsModel_kind_65 : decode b_GlyphPositionsModel_kind 65 = .ok (.goto 4, 3) := by decide +kernel
theorem d_GlyphPositionsModel_kind_68 : decode b_GlyphPositionsModel_kind 68 = .ok (.iconst 0, 1) := by decide +kernel
theorem d_GlyphPositionsModel_kind_69 : decode b_GlyphPositionsModel_kind 69 = .ok (.invokevirtual 84, 3) := by decide +kernel
theorem d_GlyphPositionsModel_kind_72 : decode b_GlyphPositionsModel_kind 72 = .ok (.ifCond .ne 54, 3) := by decide +kernel
theorem d_GlyphPositionsModel_kind_75 : decode b_GlyphPositionsModel_kind 75 = .ok (.aload_n 0, 1) := by decide +kernel
theorem d_GlyphPositionsModel_kind_76 : decode b_GlyphPositionsModel_kind 76 = .ok (.getfield 16, 3) := by decide +kernel
theorem d_GlyphPositionsModel_kind_79 : decode b_GlyphPositionsModel_kind 79 = .ok (.aload_n 0, 1) := by decide +kernel
theorem d_GlyphPositionsModel_kind_80 : decode b_GlyphPositionsModel_kind 80 = .ok (.getfield 226, 3) := by decide +kernel
theorem d_GlyphPositionsModel_kind_83 : decode b_GlyphPositionsModel_kind 83 = .ok (.iload_n 1, 1) := by decide +kernel
theorem d_GlyphPositionsModel_kind_84 : decode b_GlyphPositionsModel_kind 84 = .ok (.iastore, 1) := by decide +kernel
theorem d_GlyphPositionsModel_kind_85 : decode b_GlyphPositionsModel_kind 85 = .ok (.aload_n 0, 1) := by decide +kernel
theorem d_GlyphPositionsModel_kind_86 : decode b_GlyphPositionsModel_kind 86 = .ok (.getfield 19, 3) := by decide +kernel
theorem d_GlyphPositionsModel_kind_89 : decode b_GlyphPositionsModel_kind 89 = .ok (.aload_n 0, 1) := by decide +kernel
theorem d_GlyphPositionsModel_kind_90 : decode b_GlyphPositionsModel_kind 90 = .ok (.getfield 226, 3) := by decide +kernel
theorem d_GlyphPositionsModel_kind_93 : decode b_GlyphPositionsModel_kind 93 = .ok (.iload_n 2, 1) := by decide +kernel
theorem d_GlyphPositionsModel_kind_94 : decode b_GlyphPositionsModel_kind 94 = .ok (.iastore, 1) := by decide +kernel
theorem d_GlyphPositionsModel_kind_95 : decode b_GlyphPositionsModel_kind 95 = .ok (.aload_n 0, 1) := by decide +kernel
theorem d_GlyphPositionsModel_kind_96 : decode b_GlyphPositionsModel_kind 96 = .ok (.getfield 22, 3) := by decide +kernel
theorem d_GlyphPositionsModel_kind_99 : decode b_GlyphPositionsModel_kind 99 = .ok (.aload_n 0, 1) := by decide +kernel
theorem d_GlyphPositionsModel_kind_100 : decode b_GlyphPositionsModel_kind 100 = .ok (.getfield 226, 3) := by decide +kernel
theorem d_GlyphPositionsModel_kind_103 : decode b_GlyphPositionsModel_kind 103 = .ok (.iload_n 3, 1) := by decide +kernel
theorem d_GlyphPositionsModel_kind_104 : decode b_GlyphPositionsModel_kind 104 = .ok (.iastore, 1) := by decide +kernel
theorem d_GlyphPositionsModel_kind_105 : decode b_GlyphPositionsModel_kind 105 = .ok (.aload_n 0, 1) := by decide +kernel
theorem d_GlyphPositionsModel_kind_106 : decode b_GlyphPositionsModel_kind 106 = .ok (.getfield 25, 3) := by decide +kernel
theorem d_GlyphPositionsModel_kind_109 : decode b_GlyphPositionsModel_kind 109 = .ok (.aload_n 0, 1) := by decide +kernel
theorem d_GlyphPositionsModel_kind_110 : decode b_GlyphPositionsModel_kind 110 = .ok (.getfield 226, 3) := by decide +kernel
theorem d_GlyphPositionsModel_kind_113 : decode b_GlyphPositionsModel_kind 113 = .ok (.iload 4, 2) := by decide +kernel
theorem d_GlyphPositionsModel_kind_115 : decode b_GlyphPositionsModel_kind 115 = .ok (.iastore, 1) := by decide +kernel
theorem d_GlyphPositionsModel_kind_116 : decode b_GlyphPositionsModel_kind 116 = .ok (.aload_n 0, 1) := by decide +kernel
theorem d_GlyphPositionsModel_kind_117 : decode b_GlyphPositionsModel_kind 117 = .ok (.dup, 1) := by decide +kernel
theorem d_GlyphPositionsModel_kind_118 : decode b_GlyphPositionsModel_kind 118 = .ok (.getfield 226, 3) := by decide +kernel
theorem d_GlyphPositionsModel_kind_121 : decode b_GlyphPositionsModel_kind 121 = .ok (.iconst 1, 1) := by decide +kernel
theorem d_GlyphPositionsModel_kind_122 : decode b_GlyphPositionsModel_kind 122 = .ok (.iadd, 1) := by decide +kernel
theorem d_GlyphPositionsModel_kind_123 : decode b_GlyphPositionsModel_kind 123 = .ok (.putfield 226, 3) := by decide +kernel
theorem d_GlyphPositionsModel_kind_126 : decode b_GlyphPositionsModel_kind 126 = .ok (.return_, 1) := by decide +kernel
abbrev b_GlyphPositionsModel_forget : ByteArray := prog_12_method_40_code
def y_GlyphPositionsModel_forget : MethodName := ⟨R_GlyphPositionsModel, "forget", "()I"⟩
theorem d_GlyphPositionsModel_forget_0 : decode b_GlyphPositionsModel_forget 0 = .ok (.aload_n 0, 1) := by decide +kernel
theorem d_GlyphPositionsModel_forget_1 : decode b_GlyphPositionsModel_forget 1 = .ok (.iconst 0, 1) := by decide +kernel
theorem d_GlyphPositionsModel_forget_2 : decode b_GlyphPositionsModel_forget 2 = .ok (.putfield 77, 3) := by decide +kernel
theorem d_GlyphPositionsModel_forget_5 : decode b_GlyphPositionsModel_forget 5 = .ok (.aload_n 0, 1) := by decide +kernel
theorem d_GlyphPositionsModel_forget_6 : decode b_GlyphPositionsModel_forget 6 = .ok (.getfield 226, 3) := by decide +kernel
theorem d_GlyphPositionsModel_forget_9 : decode b_GlyphPositionsModel_forget 9 = .ok (.istore_n 1, 1) := by decide +kernel
theorem d_GlyphPositionsModel_forget_10 : decode b_GlyphPositionsModel_forget 10 = .ok (.aload_n 0, 1) := by decide +kernel
theorem d_GlyphPositionsModel_forget_11 : decode b_GlyphPositionsModel_forget 11 = .ok (.iconst 0, 1) := by decide +kernel
theorem d_GlyphPositionsModel_forget_12 : decode b_GlyphPositionsModel_forget 12 = .ok (.putfield 226, 3) := by decide +kernel
theorem d_GlyphPositionsModel_forget_15 : decode b_GlyphPositionsModel_forget 15 = .ok (.iload_n 1, 1) := by decide +kernel
theorem d_GlyphPositionsModel_forget_16 : decode b_GlyphPositionsModel_forget 16 = .ok (.ireturn, 1) := by decide +kernel
abbrev b_GlyphPositionsModel_choose : ByteArray := prog_12_method_41_code
def y_GlyphPositionsModel_choose : MethodName := ⟨R_GlyphPositionsModel, "choose", "(II)V"⟩
theorem d_GlyphPositionsModel_choose_0 : decode b_GlyphPositionsModel_choose 0 = .ok (.aload_n 0, 1) := by decide +kernel
theorem d_GlyphPositionsModel_choose_1 : decode b_GlyphPositionsModel_choose 1 = .ok (.iconst 0, 1) := by decide +kernel
theorem d_GlyphPositionsModel_choose_2 : decode b_GlyphPositionsModel_choose 2 = .ok (.putfield 77, 3) := by decide +kernel
theorem d_GlyphPositionsModel_choose_5 : decode b_GlyphPositionsModel_choose 5 = .ok (.aload_n 0, 1) := by decide +kernel
theorem d_GlyphPositionsModel_choose_6 : decode b_GlyphPositionsModel_choose 6 = .ok (.iload_n 1, 1) := by decide +kernel
theorem d_GlyphPositionsModel_choose_7 : decode b_GlyphPositionsModel_choose 7 = .ok (.putfield 229, 3) := by decide +kernel
theorem d_GlyphPositionsModel_choose_10 : decode b_GlyphPositionsModel_choose 10 = .ok (.aload_n 0, 1) := by decide +kernel
theorem d_GlyphPositionsModel_choose_11 : decode b_GlyphPositionsModel_choose 11 = .ok (.iload_n 2, 1) := by decide +kernel
theorem d_GlyphPositionsModel_choose_12 : decode b_GlyphPositionsModel_choose 12 = .ok (.putfield 232, 3) := by decide +kernel
theorem d_GlyphPositionsModel_choose_15 : decode b_GlyphPositionsModel_choose 15 = .ok (.return_, 1) := by decide +kernel
abbrev b_GlyphPositionsModel_tagAt : ByteArray := prog_12_method_42_code
def y_GlyphPositionsModel_tagAt : MethodName := ⟨R_GlyphPositionsModel, "tagAt", "(I)I"⟩
theorem d_GlyphPositionsModel_tagAt_0 : decode b_GlyphPositionsModel_tagAt 0 = .ok (.iconst (-1), 1) := by decide +kernel
theorem d_GlyphPositionsModel_tagAt_1 : decode b_GlyphPositionsModel_tagAt 1 = .ok (.istore_n 2, 1) := by decide +kernel
theorem d_GlyphPositionsModel_tagAt_2 : decode b_GlyphPositionsModel_tagAt 2 = .ok (.iconst 0, 1) := by decide +kernel
theorem d_GlyphPositionsModel_tagAt_3 : decode b_GlyphPositionsModel_tagAt 3 = .ok (.istore_n 3, 1) := by decide +kernel
theorem d_GlyphPositionsModel_tagAt_4 : decode b_GlyphPositionsModel_tagAt 4 = .ok (.iload_n 3, 1) := by decide +kernel
theorem d_GlyphPositionsModel_tagAt_5 : decode b_GlyphPositionsModel_tagAt 5 = .ok (.aload_n 0, 1) := by decide +kernel
theorem d_GlyphPositionsModel_tagAt_6 : decode b_GlyphPositionsModel_tagAt 6 = .ok (.getfield 235, 3) := by decide +kernel
theorem d_GlyphPositionsModel_tagAt_9 : decode b_GlyphPositionsModel_tagAt 9 = .ok (.if_icmp .ge 25, 3) := by decide +kernel
theorem d_GlyphPositionsModel_tagAt_12 : decode b_GlyphPositionsModel_tagAt 12 = .ok (.aload_n 0, 1) := by decide +kernel
theorem d_GlyphPositionsModel_tagAt_13 : decode b_GlyphPositionsModel_tagAt 13 = .ok (.getfield 28, 3) := by decide +kernel
theorem d_GlyphPositionsModel_tagAt_16 : decode b_GlyphPositionsModel_tagAt 16 = .ok (.iload_n 3, 1) := by decide +kernel
theorem d_GlyphPositionsModel_tagAt_17 : decode b_GlyphPositionsModel_tagAt 17 = .ok (.iaload, 1) := by decide +kernel
theorem d_GlyphPositionsModel_tagAt_18 : decode b_GlyphPositionsModel_tagAt 18 = .ok (.iload_n 1, 1) := by decide +kernel
theorem d_GlyphPositionsModel_tagAt_19 : decode b_GlyphPositionsModel_tagAt 19 = .ok (.if_icmp .ne 7, 3) := by decide +kernel
theorem d_GlyphPositionsModel_tagAt_22 : decode b_GlyphPositionsModel_tagAt 22 = .ok (.iload_n 3, 1) := by decide +kernel
theorem d_GlyphPositionsModel_tagAt_23 : decode b_GlyphPositionsModel_tagAt 23 = .ok (.goto 4, 3) := by decide +kernel
theorem d_GlyphPositionsModel_tagAt_26 : decode b_GlyphPositionsModel_tagAt 26 = .ok (.iload_n 2, 1) := by decide +kernel
theorem d_GlyphPositionsModel_tagAt_27 : decode b_GlyphPositionsModel_tagAt 27 = .ok (.istore_n 2, 1) := by decide +kernel
theorem d_GlyphPositionsModel_tagAt_28 : decode b_GlyphPositionsModel_tagAt 28 = .ok (.iinc 3 1, 3) := by decide +kernel
theorem d_GlyphPositionsModel_tagAt_31 : decode b_GlyphPositionsModel_tagAt 31 = .ok (.goto (-27), 3) := by decide +kernel
theorem d_GlyphPositionsModel_tagAt_34 : decode b_GlyphPositionsModel_tagAt 34 = .ok (.iload_n 2, 1) := by decide +kernel
theorem d_GlyphPositionsModel_tagAt_35 : decode b_GlyphPositionsModel_tagAt 35 = .ok (.ireturn, 1) := by decide +kernel
abbrev b_GlyphPositionsModel_feature : ByteArray := prog_12_method_43_code
def y_GlyphPositionsModel_feature : MethodName := ⟨R_GlyphPositionsModel, "feature", "(IZ)V"⟩
theorem d_GlyphPositionsModel_feature_0 : decode b_GlyphPositionsModel_feature 0 = .ok (.aload_n 0, 1) := by decide +kernel
theorem d_GlyphPositionsModel_feature_1 : decode b_GlyphPositionsModel_feature 1 = .ok (.iload_n 1, 1) := by decide +kernel
theorem d_GlyphPositionsModel_feature_2 : decode b_GlyphPositionsModel_feature 2 = .ok (.invokevirtual 238, 3) := by decide +kernel
theorem d_GlyphPositionsModel_feature_5 : decode b_GlyphPositionsModel_feature 5 = .ok (.istore_n 3, 1) := by decide +kernel
theorem d_GlyphPositionsModel_feature_6 : decode b_GlyphPositionsModel_feature 6 = .ok (.aload_n 0, 1) := by decide +kernel
theorem d_GlyphPositionsModel_feature_7 : decode b_GlyphPositionsModel_feature 7 = .ok (.iload_n 3, 1) := by decide +kernel
theorem d_GlyphPositionsModel_feature_8 : decode b_GlyphPositionsModel_feature 8 = .ok (.ifCond .ge 16, 3) := by decide +kernel
theorem d_GlyphPositionsModel_feature_11 : decode b_GlyphPositionsModel_feature 11 = .ok (.aload_n 0, 1) := by decide +kernel
theorem d_GlyphPositionsModel_feature_12 : decode b_GlyphPositionsModel_feature 12 = .ok (.getfield 235, 3) := by decide +kernel
theorem d_GlyphPositionsModel_feature_15 : decode b_GlyphPositionsModel_feature 15 = .ok (.bipush 20, 2) := by decide +kernel
theorem d_GlyphPositionsModel_feature_17 : decode b_GlyphPositionsModel_feature 17 = .ok (.if_icmp .ne 7, 3) := by decide +kernel
theorem d_GlyphPositionsModel_feature_20 : decode b_GlyphPositionsModel_feature 20 = .ok (.iconst 1, 1) := by decide +kernel
theorem d_GlyphPositionsModel_feature_21 : decode b_GlyphPositionsModel_feature 21 = .ok (.goto 4, 3) := by decide +kernel
theorem d_GlyphPositionsModel_feature_24 : decode b_GlyphPositionsModel_feature 24 = .ok (.iconst 0, 1) := by decide +kernel
theorem d_GlyphPositionsModel_feature_25 : decode b_GlyphPositionsModel_feature 25 = .ok (.invokevirtual 84, 3) := by decide +kernel
theorem d_GlyphPositionsModel_feature_28 : decode b_GlyphPositionsModel_feature 28 = .ok (.ifCond .eq 4, 3) := by decide +kernel
theorem d_GlyphPositionsModel_feature_31 : decode b_GlyphPositionsModel_feature 31 = .ok (.return_, 1) := by decide +kernel
theorem d_GlyphPositionsModel_feature_32 : decode b_GlyphPositionsModel_feature 32 = .ok (.iload_n 3, 1) := by decide +kernel
theorem d_GlyphPositionsModel_feature_33 : decode b_GlyphPositionsModel_feature 33 = .ok (.ifCond .ge 18, 3) := by decide +kernel
theorem d_GlyphPositionsModel_feature_36 : decode b_GlyphPositionsModel_feature 36 = .ok (.aload_n 0, 1) := by decide +kernel
theorem d_GlyphPositionsModel_feature_37 : decode b_GlyphPositionsModel_feature 37 = .ok (.getfield 235, 3) := by decide +kernel
theorem d_GlyphPositionsModel_feature_40 : decode b_GlyphPositionsModel_feature 40 = .ok (.istore_n 3, 1) := by decide +kernel
theorem d_GlyphPositionsModel_feature_41 : decode b_GlyphPositionsModel_feature 41 = .ok (.aload_n 0, 1) := by decide +kernel
theorem d_GlyphPositionsModel_feature_42 : decode b_GlyphPositionsModel_feature 42 = .ok (.dup, 1) := by decide +kernel
theorem d_GlyphPositionsModel_feature_43 : decode b_GlyphPositionsModel_feature 43 = .ok (.getfield 235, 3) := by decide +kernel
theorem d_GlyphPositionsModel_feature_46 : decode b_GlyphPositionsModel_feature 46 = .ok (.iconst 1, 1) := by decide +kernel
theorem d_GlyphPositionsModel_feature_47 : decode b_GlyphPositionsModel_feature 47 = .ok (.iadd, 1) := by decide +kernel
theorem d_GlyphPositionsModel_feature_48 : decode b_GlyphPositionsModel_feature 48 = .ok (.putfield 235, 3) := by decide +kernel
theorem d_GlyphPositionsModel_feature_51 : decode b_GlyphPositionsModel_feature 51 = .ok (.aload_n 0, 1) := by decide +kernel
theorem d_GlyphPositionsModel_feature_52 : decode b_GlyphPositionsModel_feature 52 = .ok (.getfield 28, 3) := by decide +kernel
theorem d_GlyphPositionsModel_feature_55 : decode b_GlyphPositionsModel_feature 55 = .ok (.iload_n 3, 1) := by decide +kernel
theorem d_GlyphPositionsModel_feature_56 : decode b_GlyphPositionsModel_feature 56 = .ok (.iload_n 1, 1) := by decide +kernel
theorem d_GlyphPositionsModel_feature_57 : decode b_GlyphPositionsModel_feature 57 = .ok (.iastore, 1) := by decide +kernel
theorem d_GlyphPositionsModel_feature_58 : decode b_GlyphPositionsModel_feature 58 = .ok (.aload_n 0, 1) := by decide +kernel
theorem d_GlyphPositionsModel_feature_59 : decode b_GlyphPositionsModel_feature 59 = .ok (.getfield 31, 3) := by decide +kernel
theorem d_GlyphPositionsModel_feature_62 : decode b_GlyphPositionsModel_feature 62 = .ok (.iload_n 3, 1) := by decide +kernel
theorem d_GlyphPositionsModel_feature_63 : decode b_GlyphPositionsModel_feature 63 = .ok (.iload_n 2, 1) := by decide +kernel
theorem d_GlyphPositionsModel_feature_64 : decode b_GlyphPositionsModel_feature 64 = .ok (.bastore, 1) := by decide +kernel
theorem d_GlyphPositionsModel_feature_65 : decode b_GlyphPositionsModel_feature 65 = .ok (.return_, 1) := by decide +kernel
abbrev b_GlyphPositionsModel_add : ByteArray := prog_12_method_44_code
def y_GlyphPositionsModel_add : MethodName := ⟨R_GlyphPositionsModel, "add", "(III)I"⟩
theorem d_GlyphPositionsModel_add_0 : decode b_GlyphPositionsModel_add 0 = .ok (.iload_n 1, 1) := by decide +kernel
theorem d_GlyphPositionsModel_add_1 : decode b_GlyphPositionsModel_add 1 = .ok (.ifCond .lt 33, 3) := by decide +kernel
theorem d_GlyphPositionsModel_add_4 : decode b_GlyphPositionsModel_add 4 = .ok (.iload_n 1, 1) := by decide +kernel
theorem d_GlyphPositionsModel_add_5 : decode b_GlyphPositionsModel_add 5 = .ok (.ldc 113, 2) := by decide +kernel
theorem d_GlyphPositionsModel_add_7 : decode b_GlyphPositionsModel_add 7 = .ok (.if_icmp .gt 27, 3) := by decide +kernel
theorem d_GlyphPositionsModel_add_10 : decode b_GlyphPositionsModel_add 10 = .ok (.iload_n 2, 1) := by decide +kernel
theorem d_GlyphPositionsModel_add_11 : decode b_GlyphPositionsModel_add 11 = .ok (.ifCond .lt 23, 3) := by decide +kernel
theorem d_GlyphPositionsModel_add_14 : decode b_GlyphPositionsModel_add 14 = .ok (.iload_n 2, 1) := by decide +kernel
theorem d_GlyphPositionsModel_add_15 : decode b_GlyphPositionsModel_add 15 = .ok (.ldc 113, 2) := by decide +kernel
theorem d_GlyphPositionsModel_add_17 : decode b_GlyphPositionsModel_add 17 = .ok (.if_icmp .gt 17, 3) := by decide +kernel
theorem d_GlyphPositionsModel_add_20 : decode b_GlyphPositionsModel_add 20 = .ok (.iload_n 3, 1) := by decide +kernel
theorem d_GlyphPositionsModel_add_21 : decode b_GlyphPositionsModel_add 21 = .ok (.ifCond .lt 13, 3) := by decide +kernel
theorem d_GlyphPositionsModel_add_24 : decode b_GlyphPositionsModel_add 24 = .ok (.iload_n 3, 1) := by decide +kernel
theorem d_GlyphPositionsModel_add_25 : decode b_GlyphPositionsModel_add 25 = .ok (.bipush 16, 2) := by decide +kernel
theorem d_GlyphPositionsModel_add_27 : decode b_GlyphPositionsModel_add 27 = .ok (.if_icmp .gt 7, 3) := by decide +kernel
theorem d_GlyphPositionsModel_add_30 : decode b_GlyphPositionsModel_add 30 = .ok (.iconst 1, 1) := by decide +kernel
theorem d_GlyphPositionsModel_add_31 : decode b_GlyphPositionsModel_add 31 = .ok (.goto 4, 3) := by decide +kernel
theorem d_GlyphPositionsModel_add_34 : decode b_GlyphPositionsModel_add 34 = .ok (.iconst 0, 1) := by decide +kernel
theorem d_GlyphPositionsModel_add_35 : decode b_GlyphPositionsModel_add 35 = .ok (.istore 4, 2) := by decide +kernel
theorem d_GlyphPositionsModel_add_37 : decode b_GlyphPositionsModel_add 37 = .ok (.aload_n 0, 1) := by decide +kernel
theorem d_GlyphPositionsModel_add_38 : decode b_GlyphPositionsModel_add 38 = .ok (.iload 4, 2) := by decide +kernel
theorem d_GlyphPositionsModel_add_40 : decode b_GlyphPositionsModel_add 40 = .ok (.ifCond .ne 7, 3) := by decide +kernel
theorem d_GlyphPositionsModel_add_43 : decode b_GlyphPositionsModel_add 43 = .ok (.iconst 1, 1) := by decide +kernel
theorem d_GlyphPositionsModel_add_44 : decode b_GlyphPositionsModel_add 44 = .ok (.goto 18, 3) := by decide +kernel
theorem d_GlyphPositionsModel_add_47 : decode b_GlyphPositionsModel_add 47 = .ok (.aload_n 0, 1) := by decide +kernel
theorem d_GlyphPositionsModel_add_48 : decode b_GlyphPositionsModel_add 48 = .ok (.getfield 241, 3) := by decide +kernel
theorem d_GlyphPositionsModel_add_51 : decode b_GlyphPositionsModel_add 51 = .ok (.sipush 800, 3) := by decide +kernel
theorem d_GlyphPositionsModel_add_54 : decode b_GlyphPositionsModel_add 54 = .ok (.if_icmp .ne 7, 3) := by decide +kernel
theorem d_GlyphPositionsModel_add_57 : decode b_GlyphPositionsModel_add 57 = .ok (.iconst 2, 1) := by decide +kernel
theorem d_GlyphPositionsModel_add_58 : decode b_GlyphPositionsModel_add 58 = .ok (.goto 4, 3) := by decide +kernel
theorem d_GlyphPositionsModel_add_61 : decode b_GlyphPositionsModel_add 61 = .ok (.iconst 0, 1) := by decide +kernel
theorem d_GlyphPositionsModel_add_62 : decode b_GlyphPositionsModel_add 62 = .ok (.invokevirtual 84, 3) := by decide +kernel
theorem d_GlyphPositionsModel_add_65 : decode b_GlyphPositionsModel_add 65 = .ok (.ifCond .eq 5, 3) := by decide +kernel
theorem d_GlyphPositionsModel_add_68 : decode b_GlyphPositionsModel_add 68 = .ok (.iconst 0, 1) := by decide +kernel
theorem d_GlyphPositionsModel_add_69 : decode b_GlyphPositionsModel_add 69 = .ok (.ireturn, 1) := by decide +kernel
theorem d_GlyphPositionsModel_add_70 : decode b_GlyphPositionsModel_add 70 = .ok (.aload_n 0, 1) := by decide +kernel
theorem d_GlyphPositionsModel_add_71 : decode b_GlyphPositionsModel_add 71 = .ok (.getfield 35, 3) := by decide +kernel
theorem d_GlyphPositionsModel_add_74 : decode b_GlyphPositionsModel_add 74 = .ok (.aload_n 0, 1) := by decide +kernel
theorem d_GlyphPositionsModel_add_75 : decode b_GlyphPositionsModel_add 75 = .ok (.getfield 241, 3) := by decide +kernel
theorem d_GlyphPositionsModel_add_78 : decode b_GlyphPositionsModel_add 78 = .ok (.iload_n 1, 1) := by decide +kernel
theorem d_GlyphPositionsModel_add_79 : decode b_GlyphPositionsModel_add 79 = .ok (.iastore, 1) := by decide +kernel
theorem d_GlyphPositionsModel_add_80 : decode b_GlyphPositionsModel_add 80 = .ok (.aload_n 0, 1) := by decide +kernel
theorem d_GlyphPositionsModel_add_81 : decode b_GlyphPositionsModel_add 81 = .ok (.getfield 38, 3) := by decide +kernel
theorem d_GlyphPositionsModel_add_84 : decode b_GlyphPositionsModel_add 84 = .ok (.aload_n 0, 1) := by decide +kernel
theorem d_GlyphPositionsModel_add_85 : decode b_GlyphPositionsModel_add 85 = .ok (.getfield 241, 3) := by decide +kernel
theorem d_GlyphPositionsModel_add_88 : decode b_GlyphPositionsModel_add 88 = .ok (.iload_n 2, 1) := by decide +kernel
theorem d_GlyphPositionsModel_add_89 : decode b_GlyphPositionsModel_add 89 = .ok (.iastore, 1) := by decide +kernel
theorem d_GlyphPositionsModel_add_90 : decode b_GlyphPositionsModel_add 90 = .ok (.aload_n 0, 1) := by decide +kernel
theorem d_GlyphPositionsModel_add_91 : decode b_GlyphPositionsModel_add 91 = .ok (.getfield 41, 3) := by decide +kernel
theorem d_GlyphPositionsModel_add_94 : decode b_GlyphPositionsModel_add 94 = .ok (.aload_n 0, 1) := by decide +kernel
theorem d_GlyphPositionsModel_add_95 : decode b_GlyphPositionsModel_add 95 = .ok (.getfield 241, 3) := by decide +kernel
theorem d_GlyphPositionsModel_add_98 : decode b_GlyphPositionsModel_add 98 = .ok (.iload_n 3, 1) := by decide +kernel
theorem d_GlyphPositionsModel_add_99 : decode b_GlyphPositionsModel_add 99 = .ok (.iastore, 1) := by decide +kernel
theorem d_GlyphPositionsModel_add_100 : decode b_GlyphPositionsModel_add 100 = .ok (.aload_n 0, 1) := by decide +kernel
theorem d_GlyphPositionsModel_add_101 : decode b_GlyphPositionsModel_add 101 = .ok (.dup, 1) := by decide +kernel
theorem d_GlyphPositionsModel_add_102 : decode b_GlyphPositionsModel_add 102 = .ok (.getfield 241, 3) := by decide +kernel
theorem d_GlyphPositionsModel_add_105 : decode b_GlyphPositionsModel_add 105 = .ok (.iconst 1, 1) := by decide +kernel
theorem d_GlyphPositionsModel_add_106 : decode b_GlyphPositionsModel_add 106 = .ok (.iadd, 1) := by decide +kernel
theorem d_GlyphPositionsModel_add_107 : decode b_GlyphPositionsModel_add 107 = .ok (.putfield 241, 3) := by decide +kernel
theorem d_GlyphPositionsModel_add_110 : decode b_GlyphPositionsModel_add 110 = .ok (.aload_n 0, 1) := by decide +kernel
theorem d_GlyphPositionsModel_add_111 : decode b_GlyphPositionsModel_add 111 = .ok (.getfield 241, 3) := by decide +kernel
theorem d_GlyphPositionsModel_add_114 : decode b_GlyphPositionsModel_add 114 = .ok (.ireturn, 1) := by decide +kernel
abbrev b_GlyphPositionsModel_clear : ByteArray := prog_12_method_45_code
def y_GlyphPositionsModel_clear : MethodName := ⟨R_GlyphPositionsModel, "clear", "()I"⟩
theorem d_GlyphPositionsModel_clear_0 : decode b_GlyphPositionsModel_clear 0 = .ok (.aload_n 0, 1) := by decide +kernel
theorem d_GlyphPositionsModel_clear_1 : decode b_GlyphPositionsModel_clear 1 = .ok (.iconst 0, 1) := by decide +kernel
theorem d_GlyphPositionsModel_clear_2 : decode b_GlyphPositionsModel_clear 2 = .ok (.putfield 77, 3) := by decide +kernel
theorem d_GlyphPositionsModel_clear_5 : decode b_GlyphPositionsModel_clear 5 = .ok (.aload_n 0, 1) := by decide +kernel
theorem d_GlyphPositionsModel_clear_6 : decode b_GlyphPositionsModel_clear 6 = .ok (.getfield 241, 3) := by decide +kernel
theorem d_GlyphPositionsModel_clear_9 : decode b_GlyphPositionsModel_clear 9 = .ok (.istore_n 1, 1) := by decide +kernel
theorem d_GlyphPositionsModel_clear_10 : decode b_GlyphPositionsModel_clear 10 = .ok (.aload_n 0, 1) := by decide +kernel
theorem d_GlyphPositionsModel_clear_11 : decode b_GlyphPositionsModel_clear 11 = .ok (.iconst 0, 1) := by decide +kernel
theorem d_GlyphPositionsModel_clear_12 : decode b_GlyphPositionsModel_clear 12 = .ok (.putfield 241, 3) := by decide +kernel
theorem d_GlyphPositionsModel_clear_15 : decode b_GlyphPositionsModel_clear 15 = .ok (.iload_n 1, 1) := by decide +kernel
theorem d_GlyphPositionsModel_clear_16 : decode b_GlyphPositionsModel_clear 16 = .ok (.ireturn, 1) := by decide +kernel
abbrev b_GlyphPositionsModel_place : ByteArray := prog_12_method_77_code
def y_GlyphPositionsModel_place : MethodName := ⟨R_GlyphPositionsModel, "place", "(II)I"⟩
theorem d_GlyphPositionsModel_place_0 : decode b_GlyphPositionsModel_place 0 = .ok (.iload_n 1, 1) := by decide +kernel
theorem d_GlyphPositionsModel_place_1 : decode b_GlyphPositionsModel_place 1 = .ok (.ifCond .lt 24, 3) := by decide +kernel
theorem d_GlyphPositionsModel_place_4 : decode b_GlyphPositionsModel_place 4 = .ok (.iload_n 1, 1) := by decide +kernel
theorem d_GlyphPositionsModel_place_5 : decode b_GlyphPositionsModel_place 5 = .ok (.aload_n 0, 1) := by decide +kernel
theorem d_GlyphPositionsModel_place_6 : decode b_GlyphPositionsModel_place 6 = .ok (.getfield 272, 3) := by decide +kernel
theorem d_GlyphPositionsModel_place_9 : decode b_GlyphPositionsModel_place 9 = .ok (.if_icmp .ge 16, 3) := by decide +kernel
theorem d_GlyphPositionsModel_place_12 : decode b_GlyphPositionsModel_place 12 = .ok (.iload_n 2, 1) := by decide +kernel
theorem d_GlyphPositionsModel_place_13 : decode b_GlyphPositionsModel_place 13 = .ok (.ifCond .lt 12, 3) := by decide +kernel
theorem d_GlyphPositionsModel_place_16 : decode b_GlyphPositionsModel_place 16 = .ok (.iload_n 2, 1) := by decide +kernel
theorem d_GlyphPositionsModel_place_17 : decode b_GlyphPositionsModel_place 17 = .ok (.iconst 5, 1) := by decide +kernel
theorem d_GlyphPositionsModel_place_18 : decode b_GlyphPositionsModel_place 18 = .ok (.if_icmp .gt 7, 3) := by decide +kernel
theorem d_GlyphPositionsModel_place_21 : decode b_GlyphPositionsModel_place 21 = .ok (.iconst 1, 1) := by decide +kernel
theorem d_GlyphPositionsModel_place_22 : decode b_GlyphPositionsModel_place 22 = .ok (.goto 4, 3) := by decide +kernel
theorem d_GlyphPositionsModel_place_25 : decode b_GlyphPositionsModel_place 25 = .ok (.iconst 0, 1) := by decide +kernel
theorem d_GlyphPositionsModel_place_26 : decode b_GlyphPositionsModel_place 26 = .ok (.istore_n 3, 1) := by decide +kernel
theorem d_GlyphPositionsModel_place_27 : decode b_GlyphPositionsModel_place 27 = .ok (.aload_n 0, 1) := by decide +kernel
theorem d_GlyphPositionsModel_place_28 : decode b_GlyphPositionsModel_place 28 = .ok (.iload_n 3, 1) := by decide +kernel
theorem d_GlyphPositionsModel_place_29 : decode b_GlyphPositionsModel_place 29 = .ok (.ifCond .eq 7, 3) := by decide +kernel
theorem d_GlyphPositionsModel_place_32 : decode b_GlyphPositionsModel_place 32 = .ok (.iconst 0, 1) := by decide +kernel
theorem d_GlyphPositionsModel_place_33 : decode b_GlyphPositionsModel_place 33 = .ok (.goto 4, 3) := by decide +kernel
theorem d_GlyphPositionsModel_place_36 : decode b_GlyphPositionsModel_place 36 = .ok (.iconst 1, 1) := by decide +kernel
theorem d_GlyphPositionsModel_place_37 : decode b_GlyphPositionsModel_place 37 = .ok (.invokevirtual 84, 3) := by decide +kernel
theorem d_GlyphPositionsModel_place_40 : decode b_GlyphPositionsModel_place 40 = .ok (.ifCond .eq 5, 3) := by decide +kernel
theorem d_GlyphPositionsModel_place_43 : decode b_GlyphPositionsModel_place 43 = .ok (.iconst 0, 1) := by decide +kernel
theorem d_GlyphPositionsModel_place_44 : decode b_GlyphPositionsModel_place 44 = .ok (.ireturn, 1) := by decide +kernel
theorem d_GlyphPositionsModel_place_45 : decode b_GlyphPositionsModel_place 45 = .ok (.iconst 0, 1) := by decide +kernel
theorem d_GlyphPositionsModel_place_46 : decode b_GlyphPositionsModel_place 46 = .ok (.istore 4, 2) := by decide +kernel
theorem d_GlyphPositionsModel_place_48 : decode b_GlyphPositionsModel_place 48 = .ok (.iconst 0, 1) := by decide +kernel
theorem d_GlyphPositionsModel_place_49 : decode b_GlyphPositionsModel_place 49 = .ok (.istore 5, 2) := by decide +kernel
theorem d_GlyphPositionsModel_place_51 : decode b_GlyphPositionsModel_place 51 = .ok (.iload 5, 2) := by decide +kernel
theorem d_GlyphPositionsModel_place_53 : decode b_GlyphPositionsModel_place 53 = .ok (.iload_n 1, 1) := by decide +kernel
theorem d_GlyphPositionsModel_place_54 : decode b_GlyphPositionsModel_place 54 = .ok (.if_icmp .ge 21, 3) := by decide +kernel
theorem d_GlyphPositionsModel_place_57 : decode b_GlyphPositionsModel_place 57 = .ok (.iload 4, 2) := by decide +kernel
theorem d_GlyphPositionsModel_place_59 : decode b_GlyphPositionsModel_place 59 = .ok (.aload_n 0, 1) := by decide +kernel
theorem d_GlyphPositionsModel_place_60 : decode b_GlyphPositionsModel_place 60 = .ok (.getfield 53, 3) := by decide +kernel
theorem d_GlyphPositionsModel_place_63 : decode b_GlyphPositionsModel_place 63 = .ok (.iload 5, 2) := by decide +kernel
theorem d_GlyphPositionsModel_place_65 : decode b_GlyphPositionsModel_place 65 = .ok (.iaload, 1) := by decide +kernel
theorem d_GlyphPositionsModel_place_66 : decode b_GlyphPositionsModel_place 66 = .ok (.iadd, 1) := by decide +kernel
theorem d_GlyphPositionsModel_place_67 : decode b_GlyphPositionsModel_place 67 = .ok (.istore 4, 2) := by decide +kernel
theorem d_GlyphPositionsModel_place_69 : decode b_GlyphPositionsModel_place 69 = .ok (.iinc 5 1, 3) := by decide +kernel
theorem d_GlyphPositionsModel_place_72 : decode b_GlyphPositionsModel_place 72 = .ok (.goto (-21), 3) := by decide +kernel
theorem d_GlyphPositionsModel_place_75 : decode b_GlyphPositionsModel_place 75 = .ok (.iload_n 2, 1) := by decide +kernel
theorem d_GlyphPositionsModel_place_76 : decode b_GlyphPositionsModel_place 76 = .ok (.tableswitch 74 0 4 #[36, 43, 50, 57, 64], 36) := by decide +kernel
theorem d_GlyphPositionsModel_place_112 : decode b_GlyphPositionsModel_place 112 = .ok (.aload_n 0, 1) := by decide +kernel
theorem d_GlyphPositionsModel_place_113 : decode b_GlyphPositionsModel_place 113 = .ok (.getfield 53, 3) := by decide +kernel
theorem d_GlyphPositionsModel_place_116 : decode b_GlyphPositionsModel_place 116 = .ok (.iload_n 1, 1) := by decide +kernel
theorem d_GlyphPositionsModel_place_117 : decode b_GlyphPositionsModel_place 117 = .ok (.iaload, 1) := by decide +kernel
theorem d_GlyphPositionsModel_place_118 : decode b_GlyphPositionsModel_place 118 = .ok (.ireturn, 1) := by decide +kernel
theorem d_GlyphPositionsModel_place_119 : decode b_GlyphPositionsModel_place 119 = .ok (.aload_n 0, 1) := by decide +kernel
theorem d_GlyphPositionsModel_place_120 : decode b_GlyphPositionsModel_place 120 = .ok (.getfield 56, 3) := by decide +kernel
theorem d_GlyphPositionsModel_place_123 : decode b_GlyphPositionsModel_place 123 = .ok (.iload_n 1, 1) := by decide +kernel
theorem d_GlyphPositionsModel_place_124 : decode b_GlyphPositionsModel_place 124 = .ok (.iaload, 1) := by decide +kernel
theorem d_GlyphPositionsModel_place_125 : decode b_GlyphPositionsModel_place 125 = .ok (.ireturn, 1) := by decide +kernel
theorem d_GlyphPositionsModel_place_126 : decode b_GlyphPositionsModel_place 126 = .ok (.aload_n 0, 1) := by decide +kernel
theorem d_GlyphPositionsModel_place_127 : decode b_GlyphPositionsModel_place 127 = .ok (.getfield 59, 3) := by decide +kernel
theorem d_GlyphPositionsModel_place_130 : decode b_GlyphPositionsModel_place 130 = .ok (.iload_n 1, 1) := by decide +kernel
theorem d_GlyphPositionsModel_place_131 : decode b_GlyphPositionsModel_place 131 = .ok (.iaload, 1) := by decide +kernel
theorem d_GlyphPositionsModel_place_132 : decode b_GlyphPositionsModel_place 132 = .ok (.ireturn, 1) := by decide +kernel
theorem d_GlyphPositionsModel_place_133 : decode b_GlyphPositionsModel_place 133 = .ok (.aload_n 0, 1) := by decide +kernel
theorem d_GlyphPositionsModel_place_134 : decode b_GlyphPositionsModel_place 134 = .ok (.getfield 62, 3) := by decide +kernel
theorem d_GlyphPositionsModel_place_137 : decode b_GlyphPositionsModel_place 137 = .ok (.iload_n 1, 1) := by decide +kernel
theorem d_GlyphPositionsModel_place_138 : decode b_GlyphPositionsModel_place 138 = .ok (.iaload, 1) := by decide +kernel
theorem d_GlyphPositionsModel_place_139 : decode b_GlyphPositionsModel_place 139 = .ok (.ireturn, 1) := by decide +kernel
theorem d_GlyphPositionsModel_place_140 : decode b_GlyphPositionsModel_place 140 = .ok (.iload 4, 2) := by decide +kernel
theorem d_GlyphPositionsModel_place_142 : decode b_GlyphPositionsModel_place 142 = .ok (.aload_n 0, 1) := by decide +kernel
theorem d_GlyphPositionsModel_place_143 : decode b_GlyphPositionsModel_place 143 = .ok (.getfield 59, 3) := by decide +kernel
theorem d_GlyphPositionsModel_place_146 : decode b_GlyphPositionsModel_place 146 = .ok (.iload_n 1, 1) := by decide +kernel
theorem d_GlyphPositionsModel_place_147 : decode b_GlyphPositionsModel_place 147 = .ok (.iaload, 1) := by decide +kernel
theorem d_GlyphPositionsModel_place_148 : decode b_GlyphPositionsModel_place 148 = .ok (.iadd, 1) := by decide +kernel
theorem d_GlyphPositionsModel_place_149 : decode b_GlyphPositionsModel_place 149 = .ok (.ireturn, 1) := by decide +kernel
theorem d_GlyphPositionsModel_place_150 : decode b_GlyphPositionsModel_place 150 = .ok (.aload_n 0, 1) := by decide +kernel
theorem d_GlyphPositionsModel_place_151 : decode b_GlyphPositionsModel_place 151 = .ok (.getfield 65, 3) := by decide +kernel
theorem d_GlyphPositionsModel_place_154 : decode b_GlyphPositionsModel_place 154 = .ok (.iload_n 1, 1) := by decide +kernel
theorem d_GlyphPositionsModel_place_155 : decode b_GlyphPositionsModel_place 155 = .ok (.iaload, 1) := by decide +kernel
theorem d_GlyphPositionsModel_place_156 : decode b_GlyphPositionsModel_place 156 = .ok (.ireturn, 1) := by decide +kernel
abbrev b_GlyphPositionsModel_need : ByteArray := prog_12_method_7_code
def y_GlyphPositionsModel_need : MethodName := ⟨R_GlyphPositionsModel, "need", "(Z)V"⟩
theorem d_GlyphPositionsModel_need_0 : decode b_GlyphPositionsModel_need 0 = .ok (.aload_n 0, 1) := by decide +kernel
theorem d_GlyphPositionsModel_need_1 : decode b_GlyphPositionsModel_need 1 = .ok (.aload_n 0, 1) := by decide +kernel
theorem d_GlyphPositionsModel_need_2 : decode b_GlyphPositionsModel_need 2 = .ok (.getfield 88, 3) := by decide +kernel
theorem d_GlyphPositionsModel_need_5 : decode b_GlyphPositionsModel_need 5 = .ok (.ifCond .ne 7, 3) := by decide +kernel
theorem d_GlyphPositionsModel_need_8 : decode b_GlyphPositionsModel_need 8 = .ok (.iload_n 1, 1) := by decide +kernel
theorem d_GlyphPositionsModel_need_9 : decode b_GlyphPositionsModel_need 9 = .ok (.ifCond .ne 7, 3) := by decide +kernel
theorem d_GlyphPositionsModel_need_12 : decode b_GlyphPositionsModel_need 12 = .ok (.iconst 1, 1) := by decide +kernel
theorem d_GlyphPositionsModel_need_13 : decode b_GlyphPositionsModel_need 13 = .ok (.goto 4, 3) := by decide +kernel
theorem d_GlyphPositionsModel_need_16 : decode b_GlyphPositionsModel_need 16 = .ok (.iconst 0, 1) := by decide +kernel
theorem d_GlyphPositionsModel_need_17 : decode b_GlyphPositionsModel_need 17 = .ok (.putfield 88, 3) := by decide +kernel
theorem d_GlyphPositionsModel_need_20 : decode b_GlyphPositionsModel_need 20 = .ok (.return_, 1) := by decide +kernel
abbrev b_GlyphPositionsModel_u16 : ByteArray := prog_12_method_9_code
def y_GlyphPositionsModel_u16 : MethodName := ⟨R_GlyphPositionsModel, "u16", "(J)I"⟩
theorem d_GlyphPositionsModel_u16_0 : decode b_GlyphPositionsModel_u16 0 = .ok (.lload_n 1, 1) := by decide +kernel
theorem d_GlyphPositionsModel_u16_1 : decode b_GlyphPositionsModel_u16 1 = .ok (.lconst 0, 1) := by decide +kernel
theorem d_GlyphPositionsModel_u16_2 : decode b_GlyphPositionsModel_u16 2 = .ok (.lcmp, 1) := by decide +kernel
theorem d_GlyphPositionsModel_u16_3 : decode b_GlyphPositionsModel_u16 3 = .ok (.ifCond .lt 21, 3) := by decide +kernel
theorem d_GlyphPositionsModel_u16_6 : decode b_GlyphPositionsModel_u16 6 = .ok (.lload_n 1, 1) := by decide +kernel
theorem d_GlyphPositionsModel_u16_7 : decode b_GlyphPositionsModel_u16 7 = .ok (.ldc2_w 99, 3) := by decide +kernel
theorem d_GlyphPositionsModel_u16_10 : decode b_GlyphPositionsModel_u16 10 = .ok (.ladd, 1) := by decide +kernel
theorem d_GlyphPositionsModel_u16_11 : decode b_GlyphPositionsModel_u16 11 = .ok (.aload_n 0, 1) := by decide +kernel
theorem d_GlyphPositionsModel_u16_12 : decode b_GlyphPositionsModel_u16 12 = .ok (.getfield 81, 3) := by decide +kernel
theorem d_GlyphPositionsModel_u16_15 : decode b_GlyphPositionsModel_u16 15 = .ok (.i2l, 1) := by decide +kernel
theorem d_GlyphPositionsModel_u16_16 : decode b_GlyphPositionsModel_u16 16 = .ok (.lcmp, 1) := by decide +kernel
theorem d_GlyphPositionsModel_u16_17 : decode b_GlyphPositionsModel_u16 17 = .ok (.ifCond .gt 7, 3) := by decide +kernel
theorem d_GlyphPositionsModel_u16_20 : decode b_GlyphPositionsModel_u16 20 = .ok (.iconst 1, 1) := by decide +kernel
theorem d_GlyphPositionsModel_u16_21 : decode b_GlyphPositionsModel_u16 21 = .ok (.goto 4, 3) := by decide +kernel
theorem d_GlyphPositionsModel_u16_24 : decode b_GlyphPositionsModel_u16 24 = .ok (.iconst 0, 1) := by decide +kernel
theorem d_GlyphPositionsModel_u16_25 : decode b_GlyphPositionsModel_u16 25 = .ok (.istore_n 3, 1) := by decide +kernel
theorem d_GlyphPositionsModel_u16_26 : decode b_GlyphPositionsModel_u16 26 = .ok (.aload_n 0, 1) := by decide +kernel
theorem d_GlyphPositionsModel_u16_27 : decode b_GlyphPositionsModel_u16 27 = .ok (.iload_n 3, 1) := by decide +kernel
theorem d_GlyphPositionsModel_u16_28 : decode b_GlyphPositionsModel_u16 28 = .ok (.invokevirtual 95, 3) := by decide +kernel
theorem d_GlyphPositionsModel_u16_31 : decode b_GlyphPositionsModel_u16 31 = .ok (.iload_n 3, 1) := by decide +kernel
theorem d_GlyphPositionsModel_u16_32 : decode b_GlyphPositionsModel_u16 32 = .ok (.ifCond .eq 27, 3) := by decide +kernel
theorem d_GlyphPositionsModel_u16_35 : decode b_GlyphPositionsModel_u16 35 = .ok (.sipush 256, 3) := by decide +kernel
theorem d_GlyphPositionsModel_u16_38 : decode b_GlyphPositionsModel_u16 38 = .ok (.aload_n 0, 1) := by decide +kernel
theorem d_GlyphPositionsModel_u16_39 : decode b_GlyphPositionsModel_u16 39 = .ok (.getfield 7, 3) := by decide +kernel
theorem d_GlyphPositionsModel_u16_42 : decode b_GlyphPositionsModel_u16 42 = .ok (.lload_n 1, 1) := by decide +kernel
theorem d_GlyphPositionsModel_u16_43 : decode b_GlyphPositionsModel_u16 43 = .ok (.l2i, 1) := by decide +kernel
theorem d_GlyphPositionsModel_u16_44 : decode b_GlyphPositionsModel_u16 44 = .ok (.iaload, 1) := by decide +kernel
theorem d_GlyphPositionsModel_u16_45 : decode b_GlyphPositionsModel_u16 45 = .ok (.imul, 1) := by decide +kernel
theorem d_GlyphPositionsModel_u16_46 : decode b_GlyphPositionsModel_u16 46 = .ok (.aload_n 0, 1) := by decide +kernel
theorem d_GlyphPositionsModel_u16_47 : decode b_GlyphPositionsModel_u16 47 = .ok (.getfield 7, 3) := by decide +kernel
theorem d_GlyphPositionsModel_u16_50 : decode b_GlyphPositionsModel_u16 50 = .ok (.lload_n 1, 1) := by decide +kernel
theorem d_GlyphPositionsModel_u16_51 : decode b_GlyphPositionsModel_u16 51 = .ok (.l2i, 1) := by decide +kernel
theorem d_GlyphPositionsModel_u16_52 : decode b_GlyphPositionsModel_u16 52 = .ok (.iconst 1, 1) := by decide +kernel
theorem d_GlyphPositionsModel_u16_53 : decode b_GlyphPositionsModel_u16 53 = .ok (.iadd, 1) := by decide +kernel
theorem d_GlyphPositionsModel_u16_54 : decode b_GlyphPositionsModel_u16 54 = .ok (.iaload, 1) := by decide +kernel
theorem d_GlyphPositionsModel_u16_55 : decode b_GlyphPositionsModel_u16 55 = .ok (.iadd, 1) := by decide +kernel
theorem d_GlyphPositionsModel_u16_56 : decode b_GlyphPositionsModel_u16 56 = .ok (.goto 4, 3) := by decide +kernel
theorem d_GlyphPositionsModel_u16_59 : decode b_GlyphPositionsModel_u16 59 = .ok (.iconst 0, 1) := by decide +kernel
theorem d_GlyphPositionsModel_u16_60 : decode b_GlyphPositionsModel_u16 60 = .ok (.ireturn, 1) := by decide +kernel
abbrev b_GlyphPositionsModel_checkHead : ByteArray := prog_12_method_12_code
def y_GlyphPositionsModel_checkHead : MethodName := ⟨R_GlyphPositionsModel, "checkHead", "()V"⟩
theorem d_GlyphPositionsModel_checkHead_0 : decode b_GlyphPositionsModel_checkHead 0 = .ok (.aload_n 0, 1) := by decide +kernel
theorem d_GlyphPositionsModel_checkHead_1 : decode b_GlyphPositionsModel_checkHead 1 = .ok (.aload_n 0, 1) := by decide +kernel
theorem d_GlyphPositionsModel_checkHead_2 : decode b_GlyphPositionsModel_checkHead 2 = .ok (.lconst 0, 1) := by decide +kernel
theorem d_GlyphPositionsModel_checkHead_3 : decode b_GlyphPositionsModel_checkHead 3 = .ok (.invokevirtual 103, 3) := by decide +kernel
theorem d_GlyphPositionsModel_checkHead_6 : decode b_GlyphPositionsModel_checkHead 6 = .ok (.iconst 1, 1) := by decide +kernel
theorem d_GlyphPositionsModel_checkHead_7 : decode b_GlyphPositionsModel_checkHead 7 = .ok (.if_icmp .ne 17, 3) := by decide +kernel
theorem d_GlyphPositionsModel_checkHead_10 : decode b_GlyphPositionsModel_checkHead 10 = .ok (.aload_n 0, 1) := by decide +kernel
theorem d_GlyphPositionsModel_checkHead_11 : decode b_GlyphPositionsModel_checkHead 11 = .ok (.ldc2_w 99, 3) := by decide +kernel
theorem d_GlyphPositionsModel_checkHead_14 : decode b_GlyphPositionsModel_checkHead 14 = .ok (.invokevirtual 103, 3) := by decide +kernel
theorem d_GlyphPositionsModel_checkHead_17 : decode b_GlyphPositionsModel_checkHead 17 = .ok (.ifCond .ne 7, 3) := by decide +kernel
theorem d_GlyphPositionsModel_checkHead_20 : decode b_GlyphPositionsModel_checkHead 20 = .ok (.iconst 1, 1) := by decide +kernel
theorem d_GlyphPositionsModel_checkHead_21 : decode b_GlyphPositionsModel_checkHead 21 = .ok (.goto 4, 3) := by decide +kernel
theorem d_GlyphPositionsModel_checkHead_24 : decode b_GlyphPositionsModel_checkHead 24 = .ok (.iconst 0, 1) := by decide +kernel
theorem d_GlyphPositionsModel_checkHead_25 : decode b_GlyphPositionsModel_checkHead 25 = .ok (.invokevirtual 95, 3) := by decide +kernel
theorem d_GlyphPositionsModel_checkHead_28 : decode b_GlyphPositionsModel_checkHead 28 = .ok (.aload_n 0, 1) := by decide +kernel
theorem d_GlyphPositionsModel_checkHead_29 : decode b_GlyphPositionsModel_checkHead 29 = .ok (.aload_n 0, 1) := by decide +kernel
theorem d_GlyphPositionsModel_checkHead_30 : decode b_GlyphPositionsModel_checkHead 30 = .ok (.ldc2_w 107, 3) := by decide +kernel
theorem d_GlyphPositionsModel_checkHead_33 : decode b_GlyphPositionsModel_checkHead 33 = .ok (.invokevirtual 103, 3) := by decide +kernel
theorem d_GlyphPositionsModel_checkHead_36 : decode b_GlyphPositionsModel_checkHead 36 = .ok (.ifCond .le 27, 3) := by decide +kernel
theorem d_GlyphPositionsModel_checkHead_39 : decode b_GlyphPositionsModel_checkHead 39 = .ok (.aload_n 0, 1) := by decide +kernel
theorem d_GlyphPositionsModel_checkHead_40 : decode b_GlyphPositionsModel_checkHead 40 = .ok (.ldc2_w 109, 3) := by decide +kernel
theorem d_GlyphPositionsModel_checkHead_43 : decode b_GlyphPositionsModel_checkHead 43 = .ok (.invokevirtual 103, 3) := by decide +kernel
theorem d_GlyphPositionsModel_checkHead_46 : decode b_GlyphPositionsModel_checkHead 46 = .ok (.ifCond .le 17, 3) := by decide +kernel
theorem d_GlyphPositionsModel_checkHead_49 : decode b_GlyphPositionsModel_checkHead 49 = .ok (.aload_n 0, 1) := by decide +kernel
theorem d_GlyphPositionsModel_checkHead_50 : decode b_GlyphPositionsModel_checkHead 50 = .ok (.ldc2_w 111, 3) := by decide +kernel
theorem d_GlyphPositionsModel_checkHead_53 : decode b_GlyphPositionsModel_checkHead 53 = .ok (.invokevirtual 103, 3) := by decide +kernel
theorem d_GlyphPositionsModel_checkHead_56 : decode b_GlyphPositionsModel_checkHead 56 = .ok (.ifCond .le 7, 3) := by decide +kernel
theorem d_GlyphPositionsModel_checkHead_59 : decode b_GlyphPositionsModel_checkHead 59 = .ok (.iconst 1, 1) := by decide +kernel
theorem d_GlyphPositionsModel_checkHead_60 : decode b_GlyphPositionsModel_checkHead 60 = .ok (.goto 4, 3) := by decide +kernel
theorem d_GlyphPositionsModel_checkHead_63 : decode b_GlyphPositionsModel_checkHead 63 = .ok (.iconst 0, 1) := by decide +kernel
theorem d_GlyphPositionsModel_checkHead_64 : decode b_GlyphPositionsModel_checkHead 64 = .ok (.invokevirtual 95, 3) := by decide +kernel
theorem d_GlyphPositionsModel_checkHead_67 : decode b_GlyphPositionsModel_checkHead 67 = .ok (.return_, 1) := by decide +kernel
abbrev b_GlyphPositionsModel_atMost : ByteArray := prog_12_method_11_code
def y_GlyphPositionsModel_atMost : MethodName := ⟨R_GlyphPositionsModel, "atMost", "(JI)I"⟩
theorem d_GlyphPositionsModel_atMost_0 : decode b_GlyphPositionsModel_atMost 0 = .ok (.aload_n 0, 1) := by decide +kernel
theorem d_GlyphPositionsModel_atMost_1 : decode b_GlyphPositionsModel_atMost 1 = .ok (.lload_n 1, 1) := by decide +kernel
theorem d_GlyphPositionsModel_atMost_2 : decode b_GlyphPositionsModel_atMost 2 = .ok (.invokevirtual 103, 3) := by decide +kernel
theorem d_GlyphPositionsModel_atMost_5 : decode b_GlyphPositionsModel_atMost 5 = .ok (.istore 4, 2) := by decide +kernel
theorem d_GlyphPositionsModel_atMost_7 : decode b_GlyphPositionsModel_atMost 7 = .ok (.aload_n 0, 1) := by decide +kernel
theorem d_GlyphPositionsModel_atMost_8 : decode b_GlyphPositionsModel_atMost 8 = .ok (.iload 4, 2) := by decide +kernel
theorem d_GlyphPositionsModel_atMost_10 : decode b_GlyphPositionsModel_atMost 10 = .ok (.iload_n 3, 1) := by decide +kernel
theorem d_GlyphPositionsModel_atMost_11 : decode b_GlyphPositionsModel_atMost 11 = .ok (.if_icmp .gt 7, 3) := by decide +kernel
theorem d_GlyphPositionsModel_atMost_14 : decode b_GlyphPositionsModel_atMost 14 = .ok (.iconst 1, 1) := by decide +kernel
theorem d_GlyphPositionsModel_atMost_15 : decode b_GlyphPositionsModel_atMost 15 = .ok (.goto 4, 3) := by decide +kernel
theorem d_GlyphPositionsModel_atMost_18 : decode b_GlyphPositionsModel_atMost 18 = .ok (.iconst 0, 1) := by decide +kernel
theorem d_GlyphPositionsModel_atMost_19 : decode b_GlyphPositionsModel_atMost 19 = .ok (.invokevirtual 95, 3) := by decide +kernel
theorem d_GlyphPositionsModel_atMost_22 : decode b_GlyphPositionsModel_atMost 22 = .ok (.aload_n 0, 1) := by decide +kernel
theorem d_GlyphPositionsModel_atMost_23 : decode b_GlyphPositionsModel_atMost 23 = .ok (.getfield 88, 3) := by decide +kernel
theorem d_GlyphPositionsModel_atMost_26 : decode b_GlyphPositionsModel_atMost 26 = .ok (.ifCond .eq 7, 3) := by decide +kernel
theorem d_GlyphPositionsModel_atMost_29 : decode b_GlyphPositionsModel_atMost 29 = .ok (.iconst 0, 1) := by decide +kernel
theorem d_GlyphPositionsModel_atMost_30 : decode b_GlyphPositionsModel_atMost 30 = .ok (.goto 5, 3) := by decide +kernel
theorem d_GlyphPositionsModel_atMost_33 : decode b_GlyphPositionsModel_atMost 33 = .ok (.iload 4, 2) := by decide +kernel
theorem d_GlyphPositionsModel_atMost_35 : decode b_GlyphPositionsModel_atMost 35 = .ok (.ireturn, 1) := by decide +kernel
abbrev b_GlyphPositionsModel_u32 : ByteArray := prog_12_method_10_code
def y_GlyphPositionsModel_u32 : MethodName := ⟨R_GlyphPositionsModel, "u32", "(J)J"⟩
theorem d_GlyphPositionsModel_u32_0 : decode b_GlyphPositionsModel_u32 0 = .ok (.ldc2_w 101, 3) := by decide +kernel
theorem d_GlyphPositionsModel_u32_3 : decode b_GlyphPositionsModel_u32 3 = .ok (.aload_n 0, 1) := by decide +kernel
theorem d_GlyphPositionsModel_u32_4 : decode b_GlyphPositionsModel_u32 4 = .ok (.lload_n 1, 1) := by decide +kernel
theorem d_GlyphPositionsModel_u32_5 : decode b_GlyphPositionsModel_u32 5 = .ok (.invokevirtual 103, 3) := by decide +kernel
theorem d_GlyphPositionsModel_u32_8 : decode b_GlyphPositionsModel_u32 8 = .ok (.i2l, 1) := by decide +kernel
theorem d_GlyphPositionsModel_u32_9 : decode b_GlyphPositionsModel_u32 9 = .ok (.lmul, 1) := by decide +kernel
theorem d_GlyphPositionsModel_u32_10 : decode b_GlyphPositionsModel_u32 10 = .ok (.aload_n 0, 1) := by decide +kernel
theorem d_GlyphPositionsModel_u32_11 : decode b_GlyphPositionsModel_u32 11 = .ok (.lload_n 1, 1) := by decide +kernel
theorem d_GlyphPositionsModel_u32_12 : decode b_GlyphPositionsModel_u32 12 = .ok (.ldc2_w 99, 3) := by decide +kernel
theorem d_GlyphPositionsModel_u32_15 : decode b_GlyphPositionsModel_u32 15 = .ok (.ladd, 1) := by decide +kernel
theorem d_GlyphPositionsModel_u32_16 : decode b_GlyphPositionsModel_u32 16 = .ok (.invokevirtual 103, 3) := by decide +kernel
theorem d_GlyphPositionsModel_u32_19 : decode b_GlyphPositionsModel_u32 19 = .ok (.i2l, 1) := by decide +kernel
theorem d_GlyphPositionsModel_u32_20 : decode b_GlyphPositionsModel_u32 20 = .ok (.ladd, 1) := by decide +kernel
theorem d_GlyphPositionsModel_u32_21 : decode b_GlyphPositionsModel_u32 21 = .ok (.lreturn, 1) := by decide +kernel
abbrev b_GlyphPositionsModel_featureCount : ByteArray := prog_12_method_13_code
def y_GlyphPositionsModel_featureCount : MethodName := ⟨R_GlyphPositionsModel, "featureCount", "()I"⟩
theorem d_GlyphPositionsModel_featureCount_0 : decode b_GlyphPositionsModel_featureCount 0 = .ok (.aload_n 0, 1) := by decide +kernel
theorem d_GlyphPositionsModel_featureCount_1 : decode b_GlyphPositionsModel_featureCount 1 = .ok (.aload_n 0, 1) := by decide +kernel
theorem d_GlyphPositionsModel_featureCount_2 : decode b_GlyphPositionsModel_featureCount 2 = .ok (.ldc2_w 109, 3) := by decide +kernel
theorem d_GlyphPositionsModel_featureCount_5 : decode b_GlyphPositionsModel_featureCount 5 = .ok (.invokevirtual 103, 3) := by decide +kernel
theorem d_GlyphPositionsModel_featureCount_8 : decode b_GlyphPositionsModel_featureCount 8 = .ok (.i2l, 1) := by decide +kernel
theorem d_GlyphPositionsModel_featureCount_9 : decode b_GlyphPositionsModel_featureCount 9 = .ok (.invokevirtual 103, 3) := by decide +kernel
theorem d_GlyphPositionsModel_featureCount_12 : decode b_GlyphPositionsModel_featureCount 12 = .ok (.ireturn, 1) := by decide +kernel
abbrev b_GlyphPositionsModel_checkLanguage : ByteArray := prog_12_method_15_code
def y_GlyphPositionsModel_checkLanguage : MethodName := ⟨R_GlyphPositionsModel, "checkLanguage", "(J)V"⟩
theorem d_GlyphPositionsModel_checkLanguage_0 : decode b_GlyphPositionsModel_checkLanguage 0 = .ok (.aload_n 0, 1) := by decide +kernel
theorem d_GlyphPositionsModel_checkLanguage_1 : decode b_GlyphPositionsModel_checkLanguage 1 = .ok (.lload_n 1, 1) := by decide +kernel
theorem d_GlyphPositionsModel_checkLanguage_2 : decode b_GlyphPositionsModel_checkLanguage 2 = .ok (.ldc2_w 99, 3) := by decide +kernel
theorem d_GlyphPositionsModel_checkLanguage_5 : decode b_GlyphPositionsModel_checkLanguage 5 = .ok (.ladd, 1) := by decide +kernel
theorem d_GlyphPositionsModel_checkLanguage_6 : decode b_GlyphPositionsModel_checkLanguage 6 = .ok (.invokevirtual 103, 3) := by decide +kernel
theorem d_GlyphPositionsModel_checkLanguage_9 : decode b_GlyphPositionsModel_checkLanguage 9 = .ok (.istore_n 3, 1) := by decide +kernel
theorem d_GlyphPositionsModel_checkLanguage_10 : decode b_GlyphPositionsModel_checkLanguage 10 = .ok (.aload_n 0, 1) := by decide +kernel
theorem d_GlyphPositionsModel_checkLanguage_11 : decode b_GlyphPositionsModel_checkLanguage 11 = .ok (.lload_n 1, 1) := by decide +kernel
theorem d_GlyphPositionsModel_checkLanguage_12 : decode b_GlyphPositionsModel_checkLanguage 12 = .ok (.invokevirtual 103, 3) := by decide +kernel
theorem d_GlyphPositionsModel_checkLanguage_15 : decode b_GlyphPositionsModel_checkLanguage 15 = .ok (.pop, 1) := by decide +kernel
theorem d_GlyphPositionsModel_checkLanguage_16 : decode b_GlyphPositionsModel_checkLanguage 16 = .ok (.iload_n 3, 1) := by decide +kernel
theorem d_GlyphPositionsModel_checkLanguage_17 : decode b_GlyphPositionsModel_checkLanguage 17 = .ok (.ldc 113, 2) := by decide +kernel
theorem d_GlyphPositionsModel_checkLanguage_19 : decode b_GlyphPositionsModel_checkLanguage 19 = .ok (.if_icmp .eq 20, 3) := by decide +kernel
theorem d_GlyphPositionsModel_checkLanguage_22 : decode b_GlyphPositionsModel_checkLanguage 22 = .ok (.aload_n 0, 1) := by decide +kernel
theorem d_GlyphPositionsModel_checkLanguage_23 : decode b_GlyphPositionsModel_checkLanguage 23 = .ok (.iload_n 3, 1) := by decide +kernel
theorem d_GlyphPositionsModel_checkLanguage_24 : decode b_GlyphPositionsModel_checkLanguage 24 = .ok (.aload_n 0, 1) := by decide +kernel
theorem d_GlyphPositionsModel_checkLanguage_25 : decode b_GlyphPositionsModel_checkLanguage 25 = .ok (.invokevirtual 114, 3) := by decide +kernel
theorem d_GlyphPositionsModel_checkLanguage_28 : decode b_GlyphPositionsModel_checkLanguage 28 = .ok (.if_icmp .ge 7, 3) := by decide +kernel
theorem d_GlyphPositionsModel_checkLanguage_31 : decode b_GlyphPositionsModel_checkLanguage 31 = .ok (.iconst 1, 1) := by decide +kernel
theorem d_GlyphPositionsModel_checkLanguage_32 : decode b_GlyphPositionsModel_checkLanguage 32 = .ok (.goto 4, 3) := by decide +kernel
theorem d_GlyphPositionsModel_checkLanguage_35 : decode b_GlyphPositionsModel_checkLanguage 35 = .ok (.iconst 0, 1) := by decide +kernel
theorem d_GlyphPositionsModel_checkLanguage_36 : decode b_GlyphPositionsModel_checkLanguage 36 = .ok (.invokevirtual 95, 3) := by decide +kernel
theorem d_GlyphPositionsModel_checkLanguage_39 : decode b_GlyphPositionsModel_checkLanguage 39 = .ok (.aload_n 0, 1) := by decide +kernel
theorem d_GlyphPositionsModel_checkLanguage_40 : decode b_GlyphPositionsModel_checkLanguage 40 = .ok (.lload_n 1, 1) := by decide +kernel
theorem d_GlyphPositionsModel_checkLanguage_41 : decode b_GlyphPositionsModel_checkLanguage 41 = .ok (.ldc2_w 107, 3) := by decide +kernel
theorem d_GlyphPositionsModel_checkLanguage_44 : decode b_GlyphPositionsModel_checkLanguage 44 = .ok (.ladd, 1) := by decide +kernel
theorem d_GlyphPositionsModel_checkLanguage_45 : decode b_GlyphPositionsModel_checkLanguage 45 = .ok (.bipush 64, 2) := by decide +kernel
theorem d_GlyphPositionsModel_checkLanguage_47 : decode b_GlyphPositionsModel_checkLanguage 47 = .ok (.invokevirtual 118, 3) := by decide +kernel
theorem d_GlyphPositionsModel_checkLanguage_50 : decode b_GlyphPositionsModel_checkLanguage 50 = .ok (.istore 4, 2) := by decide +kernel
theorem d_GlyphPositionsModel_checkLanguage_52 : decode b_GlyphPositionsModel_checkLanguage 52 = .ok (.iconst 0, 1) := by decide +kernel
theorem d_GlyphPositionsModel_checkLanguage_53 : decode b_GlyphPositionsModel_checkLanguage 53 = .ok (.istore 5, 2) := by decide +kernel
theorem d_GlyphPositionsModel_checkLanguage_55 : decode b_GlyphPositionsModel_checkLanguage 55 = .ok (.iload 5, 2) := by decide +kernel
theorem d_GlyphPositionsModel_checkLanguage_57 : decode b_GlyphPositionsModel_checkLanguage 57 = .ok (.iload 4, 2) := by decide +kernel
theorem d_GlyphPositionsModel_checkLanguage_59 : decode b_GlyphPositionsModel_checkLanguage 59 = .ok (.if_icmp .ge 49, 3) := by decide +kernel
theorem d_GlyphPositionsModel_checkLanguage_62 : decode b_GlyphPositionsModel_checkLanguage 62 = .ok (.aload_n 0, 1) := by decide +kernel
theorem d_GlyphPositionsModel_checkLanguage_63 : decode b_GlyphPositionsModel_checkLanguage 63 = .ok (.getfield 88, 3) := by decide +kernel
theorem d_GlyphPositionsModel_checkLanguage_66 : decode b_GlyphPositionsModel_checkLanguage 66 = .ok (.ifCond .ne 42, 3) := by decide +kernel
theorem d_GlyphPositionsModel_checkLanguage_69 : decode b_GlyphPositionsModel_checkLanguage 69 = .ok (.aload_n 0, 1) := by decide +kernel
theorem d_GlyphPositionsModel_checkLanguage_70 : decode b_GlyphPositionsModel_checkLanguage 70 = .ok (.aload_n 0, 1) := by decide +kernel
theorem d_GlyphPositionsModel_checkLanguage_71 : decode b_GlyphPositionsModel_checkLanguage 71 = .ok (.lload_n 1, 1) := by decide +kernel
theorem d_GlyphPositionsModel_checkLanguage_72 : decode b_GlyphPositionsModel_checkLanguage 72 = .ok (.ldc2_w 109, 3) := by decide +kernel
theorem d_GlyphPositionsModel_checkLanguage_75 : decode b_GlyphPositionsModel_checkLanguage 75 = .ok (.ladd, 1) := by decide +kernel
theorem d_GlyphPositionsModel_checkLanguage_76 : decode b_GlyphPositionsModel_checkLanguage 76 = .ok (.ldc2_w 99, 3) := by decide +kernel
theorem d_GlyphPositionsModel_checkLanguage_79 : decode b_GlyphPositionsModel_checkLanguage 79 = .ok (.iload 5, 2) := by decide +kernel
theorem d_GlyphPositionsModel_checkLanguage_81 : decode b_GlyphPositionsModel_checkLanguage 81 = .ok (.i2l, 1) := by decide +kernel
theorem d_GlyphPositionsModel_checkLanguage_82 : decode b_GlyphPositionsModel_checkLanguage 82 = .ok (.lmul, 1) := by decide +kernel
theorem d_GlyphPositionsModel_checkLanguage_83 : decode b_GlyphPositionsModel_checkLanguage 83 = .ok (.ladd, 1) := by decide +kernel
theorem d_GlyphPositionsModel_checkLanguage_84 : decode b_GlyphPositionsModel_checkLanguage 84 = .ok (.invokevirtual 103, 3) := by decide +kernel
theorem d_GlyphPositionsModel_checkLanguage_87 : decode b_GlyphPositionsModel_checkLanguage 87 = .ok (.aload_n 0, 1) := by decide +kernel
theorem d_GlyphPositionsModel_checkLanguage_88 : decode b_GlyphPositionsModel_checkLanguage 88 = .ok (.invokevirtual 114, 3) := by decide +kernel
theorem d_GlyphPositionsModel_checkLanguage_91 : decode b_GlyphPositionsModel_checkLanguage 91 = .ok (.if_icmp .ge 7, 3) := by decide +kernel
theorem d_GlyphPositionsModel_checkLanguage_94 : decode b_GlyphPositionsModel_checkLanguage 94 = .ok (.iconst 1, 1) := by decide +kernel
theorem d_GlyphPositionsModel_checkLanguage_95 : decode b_GlyphPositionsModel_checkLanguage 95 = .ok (.goto 4, 3) := by decide +kernel
theorem d_GlyphPositionsModel_checkLanguage_98 : decode b_GlyphPositionsModel_checkLanguage 98 = .ok (.iconst 0, 1) := by decide +kernel
theorem d_GlyphPositionsModel_checkLanguage_99 : decode b_GlyphPositionsModel_checkLanguage 99 = .ok (.invokevirtual 95, 3) := by decide +kernel
theorem d_GlyphPositionsModel_checkLanguage_102 : decode b_GlyphPositionsModel_checkLanguage 102 = .ok (.iinc 5 1, 3) := by decide +kernel
theorem d_GlyphPositionsModel_checkLanguage_105 : decode b_GlyphPositionsModel_checkLanguage 105 = .ok (.goto (-50), 3) := by decide +kernel
theorem d_GlyphPositionsModel_checkLanguage_108 : decode b_GlyphPositionsModel_checkLanguage 108 = .ok (.return_, 1) := by decide +kernel
abbrev b_GlyphPositionsModel_checkScript : ByteArray := prog_12_method_16_code
def y_GlyphPositionsModel_checkScript : MethodName := ⟨R_GlyphPositionsModel, "checkScript", "(J)V"⟩
theorem d_GlyphPositionsModel_checkScript_0 : decode b_GlyphPositionsModel_checkScript 0 = .ok (.aload_n 0, 1) := by decide +kernel
theorem d_GlyphPositionsModel_checkScript_1 : decode b_GlyphPositionsModel_checkScript 1 = .ok (.lload_n 1, 1) := by decide +kernel
theorem d_GlyphPositionsModel_checkScript_2 : decode b_GlyphPositionsModel_checkScript 2 = .ok (.invokevirtual 103, 3) := by decide +kernel
theorem d_GlyphPositionsModel_checkScript_5 : decode b_GlyphPositionsModel_checkScript 5 = .ok (.istore_n 3, 1) := by decide +kernel
theorem d_GlyphPositionsModel_checkScript_6 : decode b_GlyphPositionsModel_checkScript 6 = .ok (.iload_n 3, 1) := by decide +kernel
theorem d_GlyphPositionsModel_checkScript_7 : decode b_GlyphPositionsModel_checkScript 7 = .ok (.ifCond .le 11, 3) := by decide +kernel
theorem d_GlyphPositionsModel_checkScript_10 : decode b_GlyphPositionsModel_checkScript 10 = .ok (.aload_n 0, 1) := by decide +kernel
theorem d_GlyphPositionsModel_checkScript_11 : decode b_GlyphPositionsModel_checkScript 11 = .ok (.lload_n 1, 1) := by decide +kernel
theorem d_GlyphPositionsModel_checkScript_12 : decode b_GlyphPositionsModel_checkScript 12 = .ok (.iload_n 3, 1) := by decide +kernel
theorem d_GlyphPositionsModel_checkScript_13 : decode b_GlyphPositionsModel_checkScript 13 = .ok (.i2l, 1) := by decide +kernel
theorem d_GlyphPositionsModel_checkScript_14 : decode b_GlyphPositionsModel_checkScript 14 = .ok (.ladd, 1) := by decide +kernel
theorem d_GlyphPositionsModel_checkScript_15 : decode b_GlyphPositionsModel_checkScript 15 = .ok (.invokevirtual 122, 3) := by decide +kernel
theorem d_GlyphPositionsModel_checkScript_18 : decode b_GlyphPositionsModel_checkScript 18 = .ok (.aload_n 0, 1) := by decide +kernel
theorem d_GlyphPositionsModel_checkScript_19 : decode b_GlyphPositionsModel_checkScript 19 = .ok (.lload_n 1, 1) := by decide +kernel
theorem d_GlyphPositionsModel_checkScript_20 : decode b_GlyphPositionsModel_checkScript 20 = .ok (.ldc2_w 99, 3) := by decide +kernel
theorem d_GlyphPositionsModel_checkScript_23 : decode b_GlyphPositionsModel_checkScript 23 = .ok (.ladd, 1) := by decide +kernel
theorem d_GlyphPositionsModel_checkScript_24 : decode b_GlyphPositionsModel_checkScript 24 = .ok (.bipush 64, 2) := by decide +kernel
theorem d_GlyphPositionsModel_checkScript_26 : decode b_GlyphPositionsModel_checkScript 26 = .ok (.invokevirtual 118, 3) := by decide +kernel
theorem d_GlyphPositionsModel_checkScript_29 : decode b_GlyphPositionsModel_checkScript 29 = .ok (.istore 4, 2) := by decide +kernel
theorem d_GlyphPositionsModel_checkScript_31 : decode b_GlyphPositionsModel_checkScript 31 = .ok (.ldc2_w 126, 3) := by decide +kernel
theorem d_GlyphPositionsModel_checkScript_34 : decode b_GlyphPositionsModel_checkScript 34 = .ok (.lstore 5, 2) := by decide +kernel
theorem d_GlyphPositionsModel_checkScript_36 : decode b_GlyphPositionsModel_checkScript 36 = .ok (.iconst 0, 1) := by decide +kernel
theorem d_GlyphPositionsModel_checkScript_37 : decode b_GlyphPositionsModel_checkScript 37 = .ok (.istore 7, 2) := by decide +kernel
theorem d_GlyphPositionsModel_checkScript_39 : decode b_GlyphPositionsModel_checkScript 39 = .ok (.iload 7, 2) := by decide +kernel
theorem d_GlyphPositionsModel_checkScript_41 : decode b_GlyphPositionsModel_checkScript 41 = .ok (.iload 4, 2) := by decide +kernel
theorem d_GlyphPositionsModel_checkScript_43 : decode b_GlyphPositionsModel_checkScript 43 = .ok (.if_icmp .ge 80, 3) := by decide +kernel
theorem d_GlyphPositionsModel_checkScript_46 : decode b_GlyphPositionsModel_checkScript 46 = .ok (.aload_n 0, 1) := by decide +kernel
theorem d_GlyphPositionsModel_checkScript_47 : decode b_GlyphPositionsModel_checkScript 47 = .ok (.getfield 88, 3) := by decide +kernel
theorem d_GlyphPositionsModel_checkScript_50 : decode b_GlyphPositionsModel_checkScript 50 = .ok (.ifCond .ne 73, 3) := by decide +kernel
theorem d_GlyphPositionsModel_checkScript_53 : decode b_GlyphPositionsModel_checkScript 53 = .ok (.aload_n 0, 1) := by decide +kernel
theorem d_GlyphPositionsModel_checkScript_54 : decode b_GlyphPositionsModel_checkScript 54 = .ok (.lload_n 1, 1) := by decide +kernel
theorem d_GlyphPositionsModel_checkScript_55 : decode b_GlyphPositionsModel_checkScript 55 = .ok (.ldc2_w 107, 3) := by decide +kernel
theorem d_GlyphPositionsModel_checkScript_58 : decode b_GlyphPositionsModel_checkScript 58 = .ok (.ladd, 1) := by decide +kernel
theorem d_GlyphPositionsModel_checkScript_59 : decode b_GlyphPositionsModel_checkScript 59 = .ok (.ldc2_w 109, 3) := by decide +kernel
theorem d_GlyphPositionsModel_checkScript_62 : decode b_GlyphPositionsModel_checkScript 62 = .ok (.iload 7, 2) := by decide +kernel
theorem d_GlyphPositionsModel_checkScript_64 : decode b_GlyphPositionsModel_checkScript 64 = .ok (.i2l, 1) := by decide +kernel
theorem d_GlyphPositionsModel_checkScript_65 : decode b_GlyphPositionsModel_checkScript 65 = .ok (.lmul, 1) := by decide +kernel
theorem d_GlyphPositionsModel_checkScript_66 : decode b_GlyphPositionsModel_checkScript 66 = .ok (.ladd, 1) := by decide +kernel
theorem d_GlyphPositionsModel_checkScript_67 : decode b_GlyphPositionsModel_checkScript 67 = .ok (.invokevirtual 128, 3) := by decide +kernel
theorem d_GlyphPositionsModel_checkScript_70 : decode b_GlyphPositionsModel_checkScript 70 = .ok (.lstore 8, 2) := by decide +kernel
theorem d_GlyphPositionsModel_checkScript_72 : decode b_GlyphPositionsModel_checkScript 72 = .ok (.aload_n 0, 1) := by decide +kernel
theorem d_GlyphPositionsModel_checkScript_73 : decode b_GlyphPositionsModel_checkScript 73 = .ok (.lload 8, 2) := by decide +kernel
theorem d_GlyphPositionsModel_checkScript_75 : decode b_GlyphPositionsModel_checkScript 75 = .ok (.lload 5, 2) := by decide +kernel
theorem d_GlyphPositionsModel_checkScript_77 : decode b_GlyphPositionsModel_checkScript 77 = .ok (.lcmp, 1) := by decide +kernel
theorem d_GlyphPositionsModel_checkScript_78 : decode b_GlyphPositionsModel_checkScript 78 = .ok (.ifCond .le 7, 3) := by decide +kernel
theorem d_GlyphPositionsModel_checkScript_81 : decode b_GlyphPositionsModel_checkScript 81 = .ok (.iconst 1, 1) := by decide +kernel
theorem d_GlyphPositionsModel_checkScript_82 : decode b_GlyphPositionsModel_checkScript 82 = .ok (.goto 4, 3) := by decide +kernel
theorem d_GlyphPositionsModel_checkScript_85 : decode b_GlyphPositionsModel_checkScript 85 = .ok (.iconst 0, 1) := by decide +kernel
theorem d_GlyphPositionsModel_checkScript_86 : decode b_GlyphPositionsModel_checkScript 86 = .ok (.invokevirtual 95, 3) := by decide +kernel
theorem d_GlyphPositionsModel_checkScript_89 : decode b_GlyphPositionsModel_checkScript 89 = .ok (.lload 8, 2) := by decide +kernel
theorem d_GlyphPositionsModel_checkScript_91 : decode b_GlyphPositionsModel_checkScript 91 = .ok (.lstore 5, 2) := by decide +kernel
theorem d_GlyphPositionsModel_checkScript_93 : decode b_GlyphPositionsModel_checkScript 93 = .ok (.aload_n 0, 1) := by decide +kernel
theorem d_GlyphPositionsModel_checkScript_94 : decode b_GlyphPositionsModel_checkScript 94 = .ok (.lload_n 1, 1) := by decide +kernel
theorem d_GlyphPositionsModel_checkScript_95 : decode b_GlyphPositionsModel_checkScript 95 = .ok (.aload_n 0, 1) := by decide +kernel
theorem d_GlyphPositionsModel_checkScript_96 : decode b_GlyphPositionsModel_checkScript 96 = .ok (.lload_n 1, 1) := by decide +kernel
theorem d_GlyphPositionsModel_checkScript_97 : decode b_GlyphPositionsModel_checkScript 97 = .ok (.ldc2_w 111, 3) := by decide +kernel
theorem d_GlyphPositionsModel_checkScript_100 : decode b_GlyphPositionsModel_checkScript 100 = .ok (.ladd, 1) := by decide +kernel
theorem d_GlyphPositionsModel_checkScript_101 : decode b_GlyphPositionsModel_checkScript 101 = .ok (.ldc2_w 109, 3) := by decide +kernel
theorem d_GlyphPositionsModel_checkScript_104 : decode b_GlyphPositionsModel_checkScript 104 = .ok (.iload 7, 2) := by decide +kernel
theorem d_GlyphPositionsModel_checkScript_106 : decode b_GlyphPositionsModel_checkScript 106 = .ok (.i2l, 1) := by decide +kernel
theorem d_GlyphPositionsModel_checkScript_107 : decode b_GlyphPositionsModel_checkScript 107 = .ok (.lmul, 1) := by decide +kernel
theorem d_GlyphPositionsModel_checkScript_108 : decode b_GlyphPositionsModel_checkScript 108 = .ok (.ladd, 1) := by decide +kernel
theorem d_GlyphPositionsModel_checkScript_109 : decode b_GlyphPositionsModel_checkScript 109 = .ok (.invokevirtual 103, 3) := by decide +kernel
theorem d_GlyphPositionsModel_checkScript_112 : decode b_GlyphPositionsModel_checkScript 112 = .ok (.i2l, 1) := by decide +kernel
theorem d_GlyphPositionsModel_checkScript_113 : decode b_GlyphPositionsModel_checkScript 113 = .ok (.ladd, 1) := by decide +kernel
theorem d_GlyphPositionsModel_checkScript_114 : decode b_GlyphPositionsModel_checkScript 114 = .ok (.invokevirtual 122, 3) := by decide +kernel
theorem d_GlyphPositionsModel_checkScript_117 : decode b_GlyphPositionsModel_checkScript 117 = .ok (.iinc 7 1, 3) := by decide +kernel
theorem d_GlyphPositionsModel_checkScript_120 : decode b_GlyphPositionsModel_checkScript 120 = .ok (.goto (-81), 3) := by decide +kernel
theorem d_GlyphPositionsModel_checkScript_123 : decode b_GlyphPositionsModel_checkScript 123 = .ok (.return_, 1) := by decide +kernel
abbrev b_GlyphPositionsModel_checkScripts : ByteArray := prog_12_method_17_code
def y_GlyphPositionsModel_checkScripts : MethodName := ⟨R_GlyphPositionsModel, "checkScripts", "()V"⟩
theorem d_GlyphPositionsModel_checkScripts_0 : decode b_GlyphPositionsModel_checkScripts 0 = .ok (.aload_n 0, 1) := by decide +kernel
theorem d_GlyphPositionsModel_checkScripts_1 : decode b_GlyphPositionsModel_checkScripts 1 = .ok (.ldc2_w 107, 3) := by decide +kernel
theorem d_GlyphPositionsModel_checkScripts_4 : decode b_GlyphPositionsModel_checkScripts 4 = .ok (.invokevirtual 103, 3) := by decide +kernel
theorem d_GlyphPositionsModel_checkScripts_7 : decode b_GlyphPositionsModel_checkScripts 7 = .ok (.i2l, 1) := by decide +kernel
theorem d_GlyphPositionsModel_checkScripts_8 : decode b_GlyphPositionsModel_checkScripts 8 = .ok (.lstore_n 1, 1) := by decide +kernel
theorem d_GlyphPositionsModel_checkScripts_9 : decode b_GlyphPositionsModel_checkScripts 9 = .ok (.aload_n 0, 1) := by decide +kernel
theorem d_GlyphPositionsModel_checkScripts_10 : decode b_GlyphPositionsModel_checkScripts 10 = .ok (.lload_n 1, 1) := by decide +kernel
theorem d_GlyphPositionsModel_checkScripts_11 : decode b_GlyphPositionsModel_checkScripts 11 = .ok (.bipush 64, 2) := by decide +kernel
theorem d_GlyphPositionsModel_checkScripts_13 : decode b_GlyphPositionsModel_checkScripts 13 = .ok (.invokevirtual 118, 3) := by decide +kernel
theorem d_GlyphPositionsModel_checkScripts_16 : decode b_GlyphPositionsModel_checkScripts 16 = .ok (.istore_n 3, 1) := by decide +kernel
theorem d_GlyphPositionsModel_checkScripts_17 : decode b_GlyphPositionsModel_checkScripts 17 = .ok (.ldc2_w 126, 3) := by decide +kernel
theorem d_GlyphPositionsModel_checkScripts_20 : decode b_GlyphPositionsModel_checkScripts 20 = .ok (.lstore 4, 2) := by decide +kernel
theorem d_GlyphPositionsModel_checkScripts_22 : decode b_GlyphPositionsModel_checkScripts 22 = .ok (.iconst 0, 1) := by decide +kernel
theorem d_GlyphPositionsModel_checkScripts_23 : decode b_GlyphPositionsModel_checkScripts 23 = .ok (.istore 6, 2) := by decide +kernel
theorem d_GlyphPositionsModel_checkScripts_25 : decode b_GlyphPositionsModel_checkScripts 25 = .ok (.iload 6, 2) := by decide +kernel
theorem d_GlyphPositionsModel_checkScripts_27 : decode b_GlyphPositionsModel_checkScripts 27 = .ok (.iload_n 3, 1) := by decide +kernel
theorem d_GlyphPositionsModel_checkScripts_28 : decode b_GlyphPositionsModel_checkScripts 28 = .ok (.if_icmp .ge 80, 3) := by decide +kernel
theorem d_GlyphPositionsModel_checkScripts_31 : decode b_GlyphPositionsModel_checkScripts 31 = .ok (.aload_n 0, 1) := by decide +kernel
theorem d_GlyphPositionsModel_checkScripts_32 : decode b_GlyphPositionsModel_checkScripts 32 = .ok (.getfield 88, 3) := by decide +kernel
theorem d_GlyphPositionsModel_checkScripts_35 : decode b_GlyphPositionsModel_checkScripts 35 = .ok (.ifCond .ne 73, 3) := by decide +kernel
theorem d_GlyphPositionsModel_checkScripts_38 : decode b_GlyphPositionsModel_checkScripts 38 = .ok (.aload_n 0, 1) := by decide +kernel
theorem d_GlyphPositionsModel_checkScripts_39 : decode b_GlyphPositionsModel_checkScripts 39 = .ok (.lload_n 1, 1) := by decide +kernel
theorem d_GlyphPositionsModel_checkScripts_40 : decode b_GlyphPositionsModel_checkScripts 40 = .ok (.ldc2_w 99, 3) := by decide +kernel
theorem d_GlyphPositionsModel_checkScripts_43 : decode b_GlyphPositionsModel_checkScripts 43 = .ok (.ladd, 1) := by decide +kernel
theorem d_GlyphPositionsModel_checkScripts_44 : decode b_GlyphPositionsModel_checkScripts 44 = .ok (.ldc2_w 109, 3) := by decide +kernel
theorem d_GlyphPositionsModel_checkScripts_47 : decode b_GlyphPositionsModel_checkScripts 47 = .ok (.iload 6, 2) := by decide +kernel
theorem d_GlyphPositionsModel_checkScripts_49 : decode b_GlyphPositionsModel_checkScripts 49 = .ok (.i2l, 1) := by decide +kernel
theorem d_GlyphPositionsModel_checkScripts_50 : decode b_GlyphPositionsModel_checkScripts 50 = .ok (.lmul, 1) := by decide +kernel
theorem d_GlyphPositionsModel_checkScripts_51 : decode b_GlyphPositionsModel_checkScripts 51 = .ok (.ladd, 1) := by decide +kernel
theorem d_GlyphPositionsModel_checkScripts_52 : decode b_GlyphPositionsModel_checkScripts 52 = .ok (.invokevirtual 128, 3) := by decide +kernel
theorem d_GlyphPositionsModel_checkScripts_55 : decode b_GlyphPositionsModel_checkScripts 55 = .ok (.lstore 7, 2) := by decide +kernel
theorem d_GlyphPositionsModel_checkScripts_57 : decode b_GlyphPositionsModel_checkScripts 57 = .ok (.aload_n 0, 1) := by decide +kernel
theorem d_GlyphPositionsModel_checkScripts_58 : decode b_GlyphPositionsModel_checkScripts 58 = .ok (.lload 7, 2) := by decide +kernel
theorem d_GlyphPositionsModel_checkScripts_60 : decode b_GlyphPositionsModel_checkScripts 60 = .ok (.lload 4, 2) := by decide +kernel
theorem d_GlyphPositionsModel_checkScripts_62 : decode b_GlyphPositionsModel_checkScripts 62 = .ok (.lcmp, 1) := by decide +kernel
theorem d_GlyphPositionsModel_checkScripts_63 : decode b_GlyphPositionsModel_checkScripts 63 = .ok (.ifCond .le 7, 3) := by decide +kernel
theorem d_GlyphPositionsModel_checkScripts_66 : decode b_GlyphPositionsModel_checkScripts 66 = .ok (.iconst 1, 1) := by decide +kernel
theorem d_GlyphPositionsModel_checkScripts_67 : decode b_GlyphPositionsModel_checkScripts 67 = .ok (.goto 4, 3) := by decide +kernel
theorem d_GlyphPositionsModel_checkScripts_70 : decode b_GlyphPositionsModel_checkScripts 70 = .ok (.iconst 0, 1) := by decide +kernel
theorem d_GlyphPositionsModel_checkScripts_71 : decode b_GlyphPositionsModel_checkScripts 71 = .ok (.invokevirtual 95, 3) := by decide +kernel
theorem d_GlyphPositionsModel_checkScripts_74 : decode b_GlyphPositionsModel_checkScripts 74 = .ok (.lload 7, 2) := by decide +kernel
theorem d_GlyphPositionsModel_checkScripts_76 : decode b_GlyphPositionsModel_checkScripts 76 = .ok (.lstore 4, 2) := by decide +kernel
theorem d_GlyphPositionsModel_checkScripts_78 : decode b_GlyphPositionsModel_checkScripts 78 = .ok (.aload_n 0, 1) := by decide +kernel
theorem d_GlyphPositionsModel_checkScripts_79 : decode b_GlyphPositionsModel_checkScripts 79 = .ok (.lload_n 1, 1) := by decide +kernel
theorem d_GlyphPositionsModel_checkScripts_80 : decode b_GlyphPositionsModel_checkScripts 80 = .ok (.aload_n 0, 1) := by decide +kernel
theorem d_GlyphPositionsModel_checkScripts_81 : decode b_GlyphPositionsModel_checkScripts 81 = .ok (.lload_n 1, 1) := by decide +kernel
theorem d_GlyphPositionsModel_checkScripts_82 : decode b_GlyphPositionsModel_checkScripts 82 = .ok (.ldc2_w 109, 3) := by decide +kernel
theorem d_GlyphPositionsModel_checkScripts_85 : decode b_GlyphPositionsModel_checkScripts 85 = .ok (.ladd, 1) := by decide +kernel
theorem d_GlyphPositionsModel_checkScripts_86 : decode b_GlyphPositionsModel_checkScripts 86 = .ok (.ldc2_w 109, 3) := by decide +kernel
theorem d_GlyphPositionsModel_checkScripts_89 : decode b_GlyphPositionsModel_checkScripts 89 = .ok (.iload 6, 2) := by decide +kernel
theorem d_GlyphPositionsModel_checkScripts_91 : decode b_GlyphPositionsModel_checkScripts 91 = .ok (.i2l, 1) := by decide +kernel
theorem d_GlyphPositionsModel_checkScripts_92 : decode b_GlyphPositionsModel_checkScripts 92 = .ok (.lmul, 1) := by decide +kernel
theorem d_GlyphPositionsModel_checkScripts_93 : decode b_GlyphPositionsModel_checkScripts 93 = .ok (.ladd, 1) := by decide +kernel
theorem d_GlyphPositionsModel_checkScripts_94 : decode b_GlyphPositionsModel_checkScripts 94 = .ok (.invokevirtual 103, 3) := by decide +kernel
theorem d_GlyphPositionsModel_checkScripts_97 : decode b_GlyphPositionsModel_checkScripts 97 = .ok (.i2l, 1) := by decide +kernel
theorem d_GlyphPositionsModel_checkScripts_98 : decode b_GlyphPositionsModel_checkScripts 98 = .ok (.ladd, 1) := by decide +kernel
theorem d_GlyphPositionsModel_checkScripts_99 : decode b_GlyphPositionsModel_checkScripts 99 = .ok (.invokevirtual 132, 3) := by decide +kernel
theorem d_GlyphPositionsModel_checkScripts_102 : decode b_GlyphPositionsModel_checkScripts 102 = .ok (.iinc 6 1, 3) := by decide +kernel
theorem d_GlyphPositionsModel_checkScripts_105 : decode b_GlyphPositionsModel_checkScripts 105 = .ok (.goto (-80), 3) := by decide +kernel
theorem d_GlyphPositionsModel_checkScripts_108 : decode b_GlyphPositionsModel_checkScripts 108 = .ok (.return_, 1) := by decide +kernel
abbrev b_GlyphPositionsModel_lookupCount : ByteArray := prog_12_method_14_code
def y_GlyphPositionsModel_lookupCount : MethodName := ⟨R_GlyphPositionsModel, "lookupCount", "()I"⟩
theorem d_GlyphPositionsModel_lookupCount_0 : decode b_GlyphPositionsModel_lookupCount 0 = .ok (.aload_n 0, 1) := by decide +kernel
theorem d_GlyphPositionsModel_lookupCount_1 : decode b_GlyphPositionsModel_lookupCount 1 = .ok (.aload_n 0, 1) := by decide +kernel
theorem d_GlyphPositionsModel_lookupCount_2 : decode b_GlyphPositionsModel_lookupCount 2 = .ok (.ldc2_w 111, 3) := by decide +kernel
theorem d_GlyphPositionsModel_lookupCount_5 : decode b_GlyphPositionsModel_lookupCount 5 = .ok (.invokevirtual 103, 3) := by decide +kernel
theorem d_GlyphPositionsModel_lookupCount_8 : decode b_GlyphPositionsModel_lookupCount 8 = .ok (.i2l, 1) := by decide +kernel
theorem d_GlyphPositionsModel_lookupCount_9 : decode b_GlyphPositionsModel_lookupCount 9 = .ok (.invokevirtual 103, 3) := by decide +kernel
theorem d_GlyphPositionsModel_lookupCount_12 : decode b_GlyphPositionsModel_lookupCount 12 = .ok (.ireturn, 1) := by decide +kernel
abbrev b_GlyphPositionsModel_checkFeatures : ByteArray := prog_12_method_18_code
def y_GlyphPositionsModel_checkFeatures : MethodName := ⟨R_GlyphPositionsModel, "checkFeatures", "()V"⟩
theorem d_GlyphPositionsModel_checkFeatures_0 : decode b_GlyphPositionsModel_checkFeatures 0 = .ok (.aload_n 0, 1) := by decide +kernel
theorem d_GlyphPositionsModel_checkFeatures_1 : decode b_GlyphPositionsModel_checkFeatures 1 = .ok (.ldc2_w 109, 3) := by decide +kernel
theorem d_GlyphPositionsModel_checkFeatures_4 : decode b_GlyphPositionsModel_checkFeatures 4 = .ok (.invokevirtual 103, 3) := by decide +kernel
theorem d_GlyphPositionsModel_checkFeatures_7 : decode b_GlyphPositionsModel_checkFeatures 7 = .ok (.i2l, 1) := by decide +kernel
theorem d_GlyphPositionsModel_checkFeatures_8 : decode b_GlyphPositionsModel_checkFeatures 8 = .ok (.lstore_n 1, 1) := by decide +kernel
theorem d_GlyphPositionsModel_checkFeatures_9 : decode b_GlyphPositionsModel_checkFeatures 9 = .ok (.aload_n 0, 1) := by decide +kernel
theorem d_GlyphPositionsModel_checkFeatures_10 : decode b_GlyphPositionsModel_checkFeatures 10 = .ok (.lload_n 1, 1) := by decide +kernel
theorem d_GlyphPositionsModel_checkFeatures_11 : decode b_GlyphPositionsModel_checkFeatures 11 = .ok (.bipush 64, 2) := by decide +kernel
theorem d_GlyphPositionsModel_checkFeatures_13 : decode b_GlyphPositionsModel_checkFeatures 13 = .ok (.invokevirtual 118, 3) := by decide +kernel
theorem d_GlyphPositionsModel_checkFeatures_16 : decode b_GlyphPositionsModel_checkFeatures 16 = .ok (.istore_n 3, 1) := by decide +kernel
theorem d_GlyphPositionsModel_checkFeatures_17 : decode b_GlyphPositionsModel_checkFeatures 17 = .ok (.ldc2_w 126, 3) := by decide +kernel
theorem d_GlyphPositionsModel_checkFeatures_20 : decode b_GlyphPositionsModel_checkFeatures 20 = .ok (.lstore 4, 2) := by decide +kernel
theorem d_GlyphPositionsModel_checkFeatures_22 : decode b_GlyphPositionsModel_checkFeatures 22 = .ok (.iconst 0, 1) := by decide +kernel
theorem d_GlyphPositionsModel_checkFeatures_23 : decode b_GlyphPositionsModel_checkFeatures 23 = .ok (.istore 6, 2) := by decide +kernel
theorem d_GlyphPositionsModel_checkFeatures_25 : decode b_GlyphPositionsModel_checkFeatures 25 = .ok (.iload 6, 2) := by decide +kernel
theorem d_GlyphPositionsModel_checkFeatures_27 : decode b_GlyphPositionsModel_checkFeatures 27 = .ok (.iload_n 3, 1) := by decide +kernel
theorem d_GlyphPositionsModel_checkFeatures_28 : decode b_GlyphPositionsModel_checkFeatures 28 = .ok (.if_icmp .ge 156, 3) := by decide +kernel
theorem d_GlyphPositionsModel_checkFeatures_31 : decode b_GlyphPositionsModel_checkFeatures 31 = .ok (.aload_n 0, 1) := by decide +kernel
theorem d_GlyphPositionsModel_checkFeatures_32 : decode b_GlyphPositionsModel_checkFeatures 32 = .ok (.getfield 88, 3) := by decide +kernel
theorem d_GlyphPositionsModel_checkFeatures_35 : decode b_GlyphPositionsModel_checkFeatures 35 = .ok (.ifCond .ne 149, 3) := by decide +kernel
theorem d_GlyphPositionsModel_checkFeatures_38 : decode b_GlyphPositionsModel_checkFeatures 38 = .ok (.aload_n 0, 1) := by decide +kernel
theorem d_GlyphPositionsModel_checkFeatures_39 : decode b_GlyphPositionsModel_checkFeatures 39 = .ok (.lload_n 1, 1) := by decide +kernel
theorem d_GlyphPositionsModel_checkFeatures_40 : decode b_GlyphPositionsModel_checkFeatures 40 = .ok (.ldc2_w 99, 3) := by decide +kernel
theorem d_GlyphPositionsModel_checkFeatures_43 : decode b_GlyphPositionsModel_checkFeatures 43 = .ok (.ladd, 1) := by decide +kernel
theorem d_GlyphPositionsModel_checkFeatures_44 : decode b_GlyphPositionsModel_checkFeatures 44 = .ok (.ldc2_w 109, 3) := by decide +kernel
theorem d_GlyphPositionsModel_checkFeatures_47 : decode b_GlyphPositionsModel_checkFeatures 47 = .ok (.iload 6, 2) := by decide +kernel
theorem d_GlyphPositionsModel_checkFeatures_49 : decode b_GlyphPositionsModel_checkFeatures 49 = .ok (.i2l, 1) := by decide +kernel
theorem d_GlyphPositionsModel_checkFeatures_50 : decode b_GlyphPositionsModel_checkFeatures 50 = .ok (.lmul, 1) := by decide +kernel
theorem d_GlyphPositionsModel_checkFeatures_51 : decode b_GlyphPositionsModel_checkFeatures 51 = .ok (.ladd, 1) := by decide +kernel
theorem d_GlyphPositionsModel_checkFeatures_52 : decode b_GlyphPositionsModel_checkFeatures 52 = .ok (.invokevirtual 128, 3) := by decide +kernel
theorem d_GlyphPositionsModel_checkFeatures_55 : decode b_GlyphPositionsModel_checkFeatures 55 = .ok (.lstore 7, 2) := by decide +kernel
theorem d_GlyphPositionsModel_checkFeatures_57 : decode b_GlyphPositionsModel_checkFeatures 57 = .ok (.aload_n 0, 1) := by decide +kernel
theorem d_GlyphPositionsModel_checkFeatures_58 : decode b_GlyphPositionsModel_checkFeatures 58 = .ok (.lload 7, 2) := by decide +kernel
theorem d_GlyphPositionsModel_checkFeatures_60 : decode b_GlyphPositionsModel_checkFeatures 60 = .ok (.lload 4, 2) := by decide +kernel
theorem d_GlyphPositionsModel_checkFeatures_62 : decode b_GlyphPositionsModel_checkFeatures 62 = .ok (.lcmp, 1) := by decide +kernel
theorem d_GlyphPositionsModel_checkFeatures_63 : decode b_GlyphPositionsModel_checkFeatures 63 = .ok (.ifCond .lt 7, 3) := by decide +kernel
theorem d_GlyphPositionsModel_checkFeatures_66 : decode b_GlyphPositionsModel_checkFeatures 66 = .ok (.iconst 1, 1) := by decide +kernel
theorem d_GlyphPositionsModel_checkFeatures_67 : decode b_GlyphPositionsModel_checkFeatures 67 = .ok (.goto 4, 3) := by decide +kernel
theorem d_GlyphPositionsModel_checkFeatures_70 : decode b_GlyphPositionsModel_checkFeatures 70 = .ok (.iconst 0, 1) := by decide +kernel
theorem d_GlyphPositionsModel_checkFeatures_71 : decode b_GlyphPositionsModel_checkFeatures 71 = .ok (.invokevirtual 95, 3) := by decide +kernel
theorem d_GlyphPositionsModel_checkFeatures_74 : decode b_GlyphPositionsModel_checkFeatures 74 = .ok (.lload 7, 2) := by decide +kernel
theorem d_GlyphPositionsModel_checkFeatures_76 : decode b_GlyphPositionsModel_checkFeatures 76 = .ok (.lstore 4, 2) := by decide +kernel
theorem d_GlyphPositionsModel_checkFeatures_78 : decode b_GlyphPositionsModel_checkFeatures 78 = .ok (.lload_n 1, 1) := by decide +kernel
theorem d_GlyphPositionsModel_checkFeatures_79 : decode b_GlyphPositionsModel_checkFeatures 79 = .ok (.aload_n 0, 1) := by decide +kernel
theorem d_GlyphPositionsModel_checkFeatures_80 : decode b_GlyphPositionsModel_checkFeatures 80 = .ok (.lload_n 1, 1) := by decide +kernel
theorem d_GlyphPositionsModel_checkFeatures_81 : decode b_GlyphPositionsModel_checkFeatures 81 = .ok (.ldc2_w 109, 3) := by decide +kernel
theorem d_GlyphPositionsModel_checkFeatures_84 : decode b_GlyphPositionsModel_checkFeatures 84 = .ok (.ladd, 1) := by decide +kernel
theorem d_GlyphPositionsModel_checkFeatures_85 : decode b_GlyphPositionsModel_checkFeatures 85 = .ok (.ldc2_w 109, 3) := by decide +kernel
theorem d_GlyphPositionsModel_checkFeatures_88 : decode b_GlyphPositionsModel_checkFeatures 88 = .ok (.iload 6, 2) := by decide +kernel
theorem d_GlyphPositionsModel_checkFeatures_90 : decode b_GlyphPositionsModel_checkFeatures 90 = .ok (.i2l, 1) := by decide +kernel
theorem d_GlyphPositionsModel_checkFeatures_91 : decode b_GlyphPositionsModel_checkFeatures 91 = .ok (.lmul, 1) := by decide +kernel
theorem d_GlyphPositionsModel_checkFeatures_92 : decode b_GlyphPositionsModel_checkFeatures 92 = .ok (.ladd, 1) := by decide +kernel
theorem d_GlyphPositionsModel_checkFeatures_93 : decode b_GlyphPositionsModel_checkFeatures 93 = .ok (.invokevirtual 103, 3) := by decide +kernel
theorem d_GlyphPositionsModel_checkFeatures_96 : decode b_GlyphPositionsModel_checkFeatures 96 = .ok (.i2l, 1) := by decide +kernel
theorem d_GlyphPositionsModel_checkFeatures_97 : decode b_GlyphPositionsModel_checkFeatures 97 = .ok (.ladd, 1) := by decide +kernel
theorem d_GlyphPositionsModel_checkFeatures_98 : decode b_GlyphPositionsModel_checkFeatures 98 = .ok (.lstore 9, 2) := by decide +kernel
theorem d_GlyphPositionsModel_checkFeatures_100 : decode b_GlyphPositionsModel_checkFeatures 100 = .ok (.aload_n 0, 1) := by decide +kernel
theorem d_GlyphPositionsModel_checkFeatures_101 : decode b_GlyphPositionsModel_checkFeatures 101 = .ok (.lload 9, 2) := by decide +kernel
theorem d_GlyphPositionsModel_checkFeatures_103 : decode b_GlyphPositionsModel_checkFeatures 103 = .ok (.invokevirtual 103, 3) := by decide +kernel
theorem d_GlyphPositionsModel_checkFeatures_106 : decode b_GlyphPositionsModel_checkFeatures 106 = .ok (.pop, 1) := by decide +kernel
theorem d_GlyphPositionsModel_checkFeatures_107 : decode b_GlyphPositionsModel_checkFeatures 107 = .ok (.aload_n 0, 1) := by decide +kernel
theorem d_GlyphPositionsModel_checkFeatures_108 : decode b_GlyphPositionsModel_checkFeatures 108 = .ok (.lload 9, 2) := by decide +kernel
theorem d_GlyphPositionsModel_checkFeatures_110 : decode b_GlyphPositionsModel_checkFeatures 110 = .ok (.ldc2_w 99, 3) := by decide +kernel
theorem d_GlyphPositionsModel_checkFeatures_113 : decode b_GlyphPositionsModel_checkFeatures 113 = .ok (.ladd, 1) := by decide +kernel
theorem d_GlyphPositionsModel_checkFeatures_114 : decode b_GlyphPositionsModel_checkFeatures 114 = .ok (.bipush 64, 2) := by decide +kernel
theorem d_GlyphPositionsModel_checkFeatures_116 : decode b_GlyphPositionsModel_checkFeatures 116 = .ok (.invokevirtual 118, 3) := by decide +kernel
theorem d_GlyphPositionsModel_checkFeatures_119 : decode b_GlyphPositionsModel_checkFeatures 119 = .ok (.istore 11, 2) := by decide +kernel
theorem d_GlyphPositionsModel_checkFeatures_121 : decode b_GlyphPositionsModel_checkFeatures 121 = .ok (.iconst 0, 1) := by decide +kernel
theorem d_GlyphPositionsModel_checkFeatures_122 : decode b_GlyphPositionsModel_checkFeatures 122 = .ok (.istore 12, 2) := by decide +kernel
theorem d_GlyphPositionsModel_checkFeatures_124 : decode b_GlyphPositionsModel_checkFeatures 124 = .ok (.iload 12, 2) := by decide +kernel
theorem d_GlyphPositionsModel_checkFeatures_126 : decode b_GlyphPositionsModel_checkFeatures 126 = .ok (.iload 11, 2) := by decide +kernel
theorem d_GlyphPositionsModel_checkFeatures_128 : decode b_GlyphPositionsModel_checkFeatures 128 = .ok (.if_icmp .ge 50, 3) := by decide +kernel
theorem d_GlyphPositionsModel_checkFeatures_131 : decode b_GlyphPositionsModel_checkFeatures 131 = .ok (.aload_n 0, 1) := by decide +kernel
theorem d_GlyphPositionsModel_checkFeatures_132 : decode b_GlyphPositionsModel_checkFeatures 132 = .ok (.getfield 88, 3) := by decide +kernel
theorem d_GlyphPositionsModel_checkFeatures_135 : decode b_GlyphPositionsModel_checkFeatures 135 = .ok (.ifCond .ne 43, 3) := by decide +kernel
theorem d_GlyphPositionsModel_checkFeatures_138 : decode b_GlyphPositionsModel_checkFeatures 138 = .ok (.aload_n 0, 1) := by decide +kernel
theorem d_GlyphPositionsModel_checkFeatures_139 : decode b_GlyphPositionsModel_checkFeatures 139 = .ok (.aload_n 0, 1) := by decide +kernel
theorem d_GlyphPositionsModel_checkFeatures_140 : decode b_GlyphPositionsModel_checkFeatures 140 = .ok (.lload 9, 2) := by decide +kernel
theorem d_GlyphPositionsModel_checkFeatures_142 : decode b_GlyphPositionsModel_checkFeatures 142 = .ok (.ldc2_w 107, 3) := by decide +kernel
theorem d_GlyphPositionsModel_checkFeatures_145 : decode b_GlyphPositionsModel_checkFeatures 145 = .ok (.ladd, 1) := by decide +kernel
theorem d_GlyphPositionsModel_checkFeatures_146 : decode b_GlyphPositionsModel_checkFeatures 146 = .ok (.ldc2_w 99, 3) := by decide +kernel
theorem d_GlyphPositionsModel_checkFeatures_149 : decode b_GlyphPositionsModel_checkFeatures 149 = .ok (.iload 12, 2) := by decide +kernel
theorem d_GlyphPositionsModel_checkFeatures_151 : decode b_GlyphPositionsModel_checkFeatures 151 = .ok (.i2l, 1) := by decide +kernel
theorem d_GlyphPositionsModel_checkFeatures_152 : decode b_GlyphPositionsModel_checkFeatures 152 = .ok (.lmul, 1) := by decide +kernel
theorem d_GlyphPositionsModel_checkFeatures_153 : decode b_GlyphPositionsModel_checkFeatures 153 = .ok (.ladd, 1) := by decide +kernel
theorem d_GlyphPositionsModel_checkFeatures_154 : decode b_GlyphPositionsModel_checkFeatures 154 = .ok (.invokevirtual 103, 3) := by decide +kernel
theorem d_GlyphPositionsModel_checkFeatures_157 : decode b_GlyphPositionsModel_checkFeatures 157 = .ok (.aload_n 0, 1) := by decide +kernel
theorem d_GlyphPositionsModel_checkFeatures_158 : decode b_GlyphPositionsModel_checkFeatures 158 = .ok (.invokevirtual 135, 3) := by decide +kernel
theorem d_GlyphPositionsModel_checkFeatures_161 : decode b_GlyphPositionsModel_checkFeatures 161 = .ok (.if_icmp .ge 7, 3) := by decide +kernel
theorem d_GlyphPositionsModel_checkFeatures_164 : decode b_GlyphPositionsModel_checkFeatures 164 = .ok (.iconst 1, 1) := by decide +kernel
theorem d_GlyphPositionsModel_checkFeatures_165 : decode b_GlyphPositionsModel_checkFeatures 165 = .ok (.goto 4, 3) := by decide +kernel
theorem d_GlyphPositionsModel_checkFeatures_168 : decode b_GlyphPositionsModel_checkFeatures 168 = .ok (.iconst 0, 1) := by decide +kernel
theorem d_GlyphPositionsModel_checkFeatures_169 : decode b_GlyphPositionsModel_checkFeatures 169 = .ok (.invokevirtual 95, 3) := by decide +kernel
theorem d_GlyphPositionsModel_checkFeatures_172 : decode b_GlyphPositionsModel_checkFeatures 172 = .ok (.iinc 12 1, 3) := by decide +kernel
theorem d_GlyphPositionsModel_checkFeatures_175 : decode b_GlyphPositionsModel_checkFeatures 175 = .ok (.goto (-51), 3) := by decide +kernel
theorem d_GlyphPositionsModel_checkFeatures_178 : decode b_GlyphPositionsModel_checkFeatures 178 = .ok (.iinc 6 1, 3) := by decide +kernel
theorem d_GlyphPositionsModel_checkFeatures_181 : decode b_GlyphPositionsModel_checkFeatures 181 = .ok (.goto (-156), 3) := by decide +kernel
theorem d_GlyphPositionsModel_checkFeatures_184 : decode b_GlyphPositionsModel_checkFeatures 184 = .ok (.return_, 1) := by decide +kernel
abbrev b_GlyphPositionsModel_look : ByteArray := prog_12_method_8_code
def y_GlyphPositionsModel_look : MethodName := ⟨R_GlyphPositionsModel, "look", "()V"⟩
theorem d_GlyphPositionsModel_look_0 : decode b_GlyphPositionsModel_look 0 = .ok (.aload_n 0, 1) := by decide +kernel
theorem d_GlyphPositionsModel_look_1 : decode b_GlyphPositionsModel_look 1 = .ok (.dup, 1) := by decide +kernel
theorem d_GlyphPositionsModel_look_2 : decode b_GlyphPositionsModel_look 2 = .ok (.getfield 92, 3) := by decide +kernel
theorem d_GlyphPositionsModel_look_5 : decode b_GlyphPositionsModel_look 5 = .ok (.iconst 1, 1) := by decide +kernel
theorem d_GlyphPositionsModel_look_6 : decode b_GlyphPositionsModel_look 6 = .ok (.iadd, 1) := by decide +kernel
theorem d_GlyphPositionsModel_look_7 : decode b_GlyphPositionsModel_look 7 = .ok (.putfield 92, 3) := by decide +kernel
theorem d_GlyphPositionsModel_look_10 : decode b_GlyphPositionsModel_look 10 = .ok (.aload_n 0, 1) := by decide +kernel
theorem d_GlyphPositionsModel_look_11 : decode b_GlyphPositionsModel_look 11 = .ok (.aload_n 0, 1) := by decide +kernel
theorem d_GlyphPositionsModel_look_12 : decode b_GlyphPositionsModel_look 12 = .ok (.getfield 92, 3) := by decide +kernel
theorem d_GlyphPositionsModel_look_15 : decode b_GlyphPositionsModel_look 15 = .ok (.sipush 20000, 3) := by decide +kernel
theorem d_GlyphPositionsModel_look_18 : decode b_GlyphPositionsModel_look 18 = .ok (.if_icmp .gt 7, 3) := by decide +kernel
theorem d_GlyphPositionsModel_look_21 : decode b_GlyphPositionsModel_look 21 = .ok (.iconst 1, 1) := by decide +kernel
theorem d_GlyphPositionsModel_look_22 : decode b_GlyphPositionsModel_look 22 = .ok (.goto 4, 3) := by decide +kernel
theorem d_GlyphPositionsModel_look_25 : decode b_GlyphPositionsModel_look 25 = .ok (.iconst 0, 1) := by decide +kernel
theorem d_GlyphPositionsModel_look_26 : decode b_GlyphPositionsModel_look 26 = .ok (.invokevirtual 95, 3) := by decide +kernel
theorem d_GlyphPositionsModel_look_29 : decode b_GlyphPositionsModel_look 29 = .ok (.return_, 1) := by decide +kernel
abbrev b_GlyphPositionsModel_checkCoverage : ByteArray := prog_12_method_19_code
def y_GlyphPositionsModel_checkCoverage : MethodName := ⟨R_GlyphPositionsModel, "checkCoverage", "(J)I"⟩
theorem d_GlyphPositionsModel_checkCoverage_0 : decode b_GlyphPositionsModel_checkCoverage 0 = .ok (.aload_n 0, 1) := by decide +kernel
theorem d_GlyphPositionsModel_checkCoverage_1 : decode b_GlyphPositionsModel_checkCoverage 1 = .ok (.invokevirtual 138, 3) := by decide +kernel
theorem d_GlyphPositionsModel_checkCoverage_4 : decode b_GlyphPositionsModel_checkCoverage 4 = .ok (.aload_n 0, 1) := by decide +kernel
theorem d_GlyphPositionsModel_checkCoverage_5 : decode b_GlyphPositionsModel_checkCoverage 5 = .ok (.lload_n 1, 1) := by decide +kernel
theorem d_GlyphPositionsModel_checkCoverage_6 : decode b_GlyphPositionsModel_checkCoverage 6 = .ok (.invokevirtual 103, 3) := by decide +kernel
theorem d_GlyphPositionsModel_checkCoverage_9 : decode b_GlyphPositionsModel_checkCoverage 9 = .ok (.istore_n 3, 1) := by decide +kernel
theorem d_GlyphPositionsModel_checkCoverage_10 : decode b_GlyphPositionsModel_checkCoverage 10 = .ok (.aload_n 0, 1) := by decide +kernel
theorem d_GlyphPositionsModel_checkCoverage_11 : decode b_GlyphPositionsModel_checkCoverage 11 = .ok (.lload_n 1, 1) := by decide +kernel
theorem d_GlyphPositionsModel_checkCoverage_12 : decode b_GlyphPositionsModel_checkCoverage 12 = .ok (.ldc2_w 99, 3) := by decide +kernel
theorem d_GlyphPositionsModel_checkCoverage_15 : decode b_GlyphPositionsModel_checkCoverage 15 = .ok (.ladd, 1) := by decide +kernel
theorem d_GlyphPositionsModel_checkCoverage_16 : decode b_GlyphPositionsModel_checkCoverage 16 = .ok (.invokevirtual 103, 3) := by decide +kernel
theorem d_GlyphPositionsModel_checkCoverage_19 : decode b_GlyphPositionsModel_checkCoverage 19 = .ok (.istore 4, 2) := by decide +kernel
theorem d_GlyphPositionsModel_checkCoverage_21 : decode b_GlyphPositionsModel_checkCoverage 21 = .ok (.aload_n 0, 1) := by decide +kernel
theorem d_GlyphPositionsModel_checkCoverage_22 : decode b_GlyphPositionsModel_checkCoverage 22 = .ok (.iload_n 3, 1) := by decide +kernel
theorem d_GlyphPositionsModel_checkCoverage_23 : decode b_GlyphPositionsModel_checkCoverage 23 = .ok (.iconst 1, 1) := by decide +kernel
theorem d_GlyphPositionsModel_checkCoverage_24 : decode b_GlyphPositionsModel_checkCoverage 24 = .ok (.if_icmp .eq 8, 3) := by decide +kernel
theorem d_GlyphPositionsModel_checkCoverage_27 : decode b_GlyphPositionsModel_checkCoverage 27 = .ok (.iload_n 3, 1) := by decide +kernel
theorem d_GlyphPositionsModel_checkCoverage_28 : decode b_GlyphPositionsModel_checkCoverage 28 = .ok (.iconst 2, 1) := by decide +kernel
theorem d_GlyphPositionsModel_checkCoverage_29 : decode b_GlyphPositionsModel_checkCoverage 29 = .ok (.if_icmp .ne 7, 3) := by decide +kernel
theorem d_GlyphPositionsModel_checkCoverage_32 : decode b_GlyphPositionsModel_checkCoverage 32 = .ok (.iconst 1, 1) := by decide +kernel
theorem d_GlyphPositionsModel_checkCoverage_33 : decode b_GlyphPositionsModel_checkCoverage 33 = .ok (.goto 4, 3) := by decide +kernel
theorem d_GlyphPositionsModel_checkCoverage_36 : decode b_GlyphPositionsModel_checkCoverage 36 = .ok (.iconst 0, 1) := by decide +kernel
theorem d_GlyphPositionsModel_checkCoverage_37 : decode b_GlyphPositionsModel_checkCoverage 37 = .ok (.invokevirtual 95, 3) := by decide +kernel
theorem d_GlyphPositionsModel_checkCoverage_40 : decode b_GlyphPositionsModel_checkCoverage 40 = .ok (.iconst (-1), 1) := by decide +kernel
theorem d_GlyphPositionsModel_checkCoverage_41 : decode b_GlyphPositionsModel_checkCoverage 41 = .ok (.istore 5, 2) := by decide +kernel
theorem d_GlyphPositionsModel_checkCoverage_43 : decode b_GlyphPositionsModel_checkCoverage 43 = .ok (.iconst 0, 1) := by decide +kernel
theorem d_GlyphPositionsModel_checkCoverage_44 : decode b_GlyphPositionsModel_checkCoverage 44 = .ok (.istore 6, 2) := by decide +kernel
theorem d_GlyphPositionsModel_checkCoverage_46 : decode b_GlyphPositionsModel_checkCoverage 46 = .ok (.iconst 0, 1) := by decide +kernel
theorem d_GlyphPositionsModel_checkCoverage_47 : decode b_GlyphPositionsModel_checkCoverage 47 = .ok (.istore 7, 2) := by decide +kernel
theorem d_GlyphPositionsModel_checkCoverage_49 : decode b_GlyphPositionsModel_checkCoverage 49 = .ok (.iload 7, 2) := by decide +kernel
theorem d_GlyphPositionsModel_checkCoverage_51 : decode b_GlyphPositionsModel_checkCoverage 51 = .ok (.iload 4, 2) := by decide +kernel
theorem d_GlyphPositionsModel_checkCoverage_53 : decode b_GlyphPositionsModel_checkCoverage 53 = .ok (.if_icmp .ge 140, 3) := by decide +kernel
theorem d_GlyphPositionsModel_checkCoverage_56 : decode b_GlyphPositionsModel_checkCoverage 56 = .ok (.aload_n 0, 1) := by decide +kernel
theorem d_GlyphPositionsModel_checkCoverage_57 : decode b_GlyphPositionsModel_checkCoverage 57 = .ok (.getfield 88, 3) := by decide +kernel
theorem d_GlyphPositionsModel_checkCoverage_60 : decode b_GlyphPositionsModel_checkCoverage 60 = .ok (.ifCond .ne 133, 3) := by decide +kernel
theorem d_GlyphPositionsModel_checkCoverage_63 : decode b_GlyphPositionsModel_checkCoverage 63 = .ok (.lload_n 1, 1) := by decide +kernel
theorem d_GlyphPositionsModel_checkCoverage_64 : decode b_GlyphPositionsModel_checkCoverage 64 = .ok (.ldc2_w 107, 3) := by decide +kernel
theorem d_GlyphPositionsModel_checkCoverage_67 : decode b_GlyphPositionsModel_checkCoverage 67 = .ok (.ladd, 1) := by decide +kernel
theorem d_GlyphPositionsModel_checkCoverage_68 : decode b_GlyphPositionsModel_checkCoverage 68 = .ok (.iload_n 3, 1) := by decide +kernel
theorem d_GlyphPositionsModel_checkCoverage_69 : decode b_GlyphPositionsModel_checkCoverage 69 = .ok (.iconst 1, 1) := by decide +kernel
theorem d_GlyphPositionsModel_checkCoverage_70 : decode b_GlyphPositionsModel_checkCoverage 70 = .ok (.if_icmp .ne 9, 3) := by decide +kernel
theorem d_GlyphPositionsModel_checkCoverage_73 : decode b_GlyphPositionsModel_checkCoverage 73 = .ok (.ldc2_w 99, 3) := by decide +kernel
theorem d_GlyphPositionsModel_checkCoverage_76 : decode b_GlyphPositionsModel_checkCoverage 76 = .ok (.goto 6, 3) := by decide +kernel
theorem d_GlyphPositionsModel_checkCoverage_79 : decode b_GlyphPositionsModel_checkCoverage 79 = .ok (.ldc2_w 109, 3) := by decide +kernel
theorem d_GlyphPositionsModel_checkCoverage_82 : decode b_GlyphPositionsModel_checkCoverage 82 = .ok (.iload 7, 2) := by decide +kernel
theorem d_GlyphPositionsModel_checkCoverage_84 : decode b_GlyphPositionsModel_checkCoverage 84 = .ok (.i2l, 1) := by decide +kernel
theorem d_GlyphPositionsModel_checkCoverage_85 : decode b_GlyphPositionsModel_checkCoverage 85 = .ok (.lmul, 1) := by decide +kernel
theorem d_GlyphPositionsModel_checkCoverage_86 : decode b_GlyphPositionsModel_checkCoverage 86 = .ok (.ladd, 1) := by decide +kernel
theorem d_GlyphPositionsModel_checkCoverage_87 : decode b_GlyphPositionsModel_checkCoverage 87 = .ok (.lstore 8, 2) := by decide +kernel
theorem d_GlyphPositionsModel_checkCoverage_89 : decode b_GlyphPositionsModel_checkCoverage 89 = .ok (.aload_n 0, 1) := by decide +kernel
theorem d_GlyphPositionsModel_checkCoverage_90 : decode b_GlyphPositionsModel_checkCoverage 90 = .ok (.lload 8, 2) := by decide +kernel
theorem d_GlyphPositionsModel_checkCoverage_92 : decode b_GlyphPositionsModel_checkCoverage 92 = .ok (.invokevirtual 103, 3) := by decide +kernel
theorem d_GlyphPositionsModel_checkCoverage_95 : decode b_GlyphPositionsModel_checkCoverage 95 = .ok (.istore 10, 2) := by decide +kernel
theorem d_GlyphPositionsModel_checkCoverage_97 : decode b_GlyphPositionsModel_checkCoverage 97 = .ok (.iload_n 3, 1) := by decide +kernel
theorem d_GlyphPositionsModel_checkCoverage_98 : decode b_GlyphPositionsModel_checkCoverage 98 = .ok (.iconst 1, 1) := by decide +kernel
theorem d_GlyphPositionsModel_checkCoverage_99 : decode b_GlyphPositionsModel_checkCoverage 99 = .ok (.if_icmp .ne 8, 3) := by decide +kernel
theorem d_GlyphPositionsModel_checkCoverage_102 : decode b_GlyphPositionsModel_checkCoverage 102 = .ok (.iload 10, 2) := by decide +kernel
theorem d_GlyphPositionsModel_checkCoverage_104 : decode b_GlyphPositionsModel_checkCoverage 104 = .ok (.goto 13, 3) := by decide +kernel
theorem d_GlyphPositionsModel_checkCoverage_107 : decode b_GlyphPositionsModel_checkCoverage 107 = .ok (.aload_n 0, 1) := by decide +kernel
theorem d_GlyphPositionsModel_checkCoverage_108 : decode b_GlyphPositionsModel_checkCoverage 108 = .ok (.lload 8, 2) := by decide +kernel
theorem d_GlyphPositionsModel_checkCoverage_110 : decode b_GlyphPositionsModel_checkCoverage 110 = .ok (.ldc2_w 99, 3) := by decide +kernel
theorem d_GlyphPositionsModel_checkCoverage_113 : decode b_GlyphPositionsModel_checkCoverage 113 = .ok (.ladd, 1) := by decide +kernel
theorem d_GlyphPositionsModel_checkCoverage_114 : decode b_GlyphPositionsModel_checkCoverage 114 = .ok (.invokevirtual 103, 3) := by decide +kernel
theorem d_GlyphPositionsModel_checkCoverage_117 : decode b_GlyphPositionsModel_checkCoverage 117 = .ok (.istore 11, 2) := by decide +kernel
theorem d_GlyphPositionsModel_checkCoverage_119 : decode b_GlyphPositionsModel_checkCoverage 119 = .ok (.aload_n 0, 1) := by decide +kernel
theorem d_GlyphPositionsModel_checkCoverage_120 : decode b_GlyphPositionsModel_checkCoverage 120 = .ok (.iload 10, 2) := by decide +kernel
theorem d_GlyphPositionsModel_checkCoverage_122 : decode b_GlyphPositionsModel_checkCoverage 122 = .ok (.iload 5, 2) := by decide +kernel
theorem d_GlyphPositionsModel_checkCoverage_124 : decode b_GlyphPositionsModel_checkCoverage 124 = .ok (.if_icmp .le 14, 3) := by decide +kernel
theorem d_GlyphPositionsModel_checkCoverage_127 : decode b_GlyphPositionsModel_checkCoverage 127 = .ok (.iload 10, 2) := by decide +kernel
theorem d_GlyphPositionsModel_checkCoverage_129 : decode b_GlyphPositionsModel_checkCoverage 129 = .ok (.iload 11, 2) := by decide +kernel
theorem d_GlyphPositionsModel_checkCoverage_131 : decode b_GlyphPositionsModel_checkCoverage 131 = .ok (.if_icmp .gt 7, 3) := by decide +kernel
theorem d_GlyphPositionsModel_checkCoverage_134 : decode b_GlyphPositionsModel_checkCoverage 134 = .ok (.iconst 1, 1) := by decide +kernel
theorem d_GlyphPositionsModel_checkCoverage_135 : decode b_GlyphPositionsModel_checkCoverage 135 = .ok (.goto 4, 3) := by decide +kernel
theorem d_GlyphPositionsModel_checkCoverage_138 : decode b_GlyphPositionsModel_checkCoverage 138 = .ok (.iconst 0, 1) := by decide +kernel
theorem d_GlyphPositionsModel_checkCoverage_139 : decode b_GlyphPositionsModel_checkCoverage 139 = .ok (.invokevirtual 95, 3) := by decide +kernel
theorem d_GlyphPositionsModel_checkCoverage_142 : decode b_GlyphPositionsModel_checkCoverage 142 = .ok (.iload_n 3, 1) := by decide +kernel
theorem d_GlyphPositionsModel_checkCoverage_143 : decode b_GlyphPositionsModel_checkCoverage 143 = .ok (.iconst 2, 1) := by decide +kernel
theorem d_GlyphPositionsModel_checkCoverage_144 : decode b_GlyphPositionsModel_checkCoverage 144 = .ok (.if_icmp .ne 27, 3) := by decide +kernel
theorem d_GlyphPositionsModel_checkCoverage_147 : decode b_GlyphPositionsModel_checkCoverage 147 = .ok (.aload_n 0, 1) := by decide +kernel
theorem d_GlyphPositionsModel_checkCoverage_148 : decode b_GlyphPositionsModel_checkCoverage 148 = .ok (.aload_n 0, 1) := by decide +kernel
theorem d_GlyphPositionsModel_checkCoverage_149 : decode b_GlyphPositionsModel_checkCoverage 149 = .ok (.lload 8, 2) := by decide +kernel
theorem d_GlyphPositionsModel_checkCoverage_151 : decode b_GlyphPositionsModel_checkCoverage 151 = .ok (.ldc2_w 107, 3) := by decide +kernel
theorem d_GlyphPositionsModel_checkCoverage_154 : decode b_GlyphPositionsModel_checkCoverage 154 = .ok (.ladd, 1) := by decide +kernel
theorem d_GlyphPositionsModel_checkCoverage_155 : decode b_GlyphPositionsModel_checkCoverage 155 = .ok (.invokevirtual 103, 3) := by decide +kernel
theorem d_GlyphPositionsModel_checkCoverage_158 : decode b_GlyphPositionsModel_checkCoverage 158 = .ok (.iload 6, 2) := by decide +kernel
theorem d_GlyphPositionsModel_checkCoverage_160 : decode b_GlyphPositionsModel_checkCoverage 160 = .ok (.if_icmp .ne 7, 3) := by decide +kernel
theorem d_GlyphPositionsModel_checkCoverage_163 : decode b_GlyphPositionsModel_checkCoverage 163 = .ok (.iconst 1, 1) := by decide +kernel
theorem d_GlyphPositionsModel_checkCoverage_164 : decode b_GlyphPositionsModel_checkCoverage 164 = .ok (.goto 4, 3) := by decide +kernel
theorem d_GlyphPositionsModel_checkCoverage_167 : decode b_GlyphPositionsModel_checkCoverage 167 = .ok (.iconst 0, 1) := by decide +kernel
theorem d_GlyphPositionsModel_checkCoverage_168 : decode b_GlyphPositionsModel_checkCoverage 168 = .ok (.invokevirtual 95, 3) := by decide +kernel
theorem d_GlyphPositionsModel_checkCoverage_171 : decode b_GlyphPositionsModel_checkCoverage 171 = .ok (.iload 11, 2) := by decide +kernel
theorem d_GlyphPositionsModel_checkCoverage_173 : decode b_GlyphPositionsModel_checkCoverage 173 = .ok (.istore 5, 2) := by decide +kernel
theorem d_GlyphPositionsModel_checkCoverage_175 : decode b_GlyphPositionsModel_checkCoverage 175 = .ok (.iload 6, 2) := by decide +kernel
theorem d_GlyphPositionsModel_checkCoverage_177 : decode b_GlyphPositionsModel_checkCoverage 177 = .ok (.iload 11, 2) := by decide +kernel
theorem d_GlyphPositionsModel_checkCoverage_179 : decode b_GlyphPositionsModel_checkCoverage 179 = .ok (.iadd, 1) := by decide +kernel
theorem d_GlyphPositionsModel_checkCoverage_180 : decode b_GlyphPositionsModel_checkCoverage 180 = .ok (.iload 10, 2) := by decide +kernel
theorem d_GlyphPositionsModel_checkCoverage_182 : decode b_GlyphPositionsModel_checkCoverage 182 = .ok (.isub, 1) := by decide +kernel
theorem d_GlyphPositionsModel_checkCoverage_183 : decode b_GlyphPositionsModel_checkCoverage 183 = .ok (.iconst 1, 1) := by decide +kernel
theorem d_GlyphPositionsModel_checkCoverage_184 : decode b_GlyphPositionsModel_checkCoverage 184 = .ok (.iadd, 1) := by decide +kernel
theorem d_GlyphPositionsModel_checkCoverage_185 : decode b_GlyphPositionsModel_checkCoverage 185 = .ok (.istore 6, 2) := by decide +kernel
theorem d_GlyphPositionsModel_checkCoverage_187 : decode b_GlyphPositionsModel_checkCoverage 187 = .ok (.iinc 7 1, 3) := by decide +kernel
theorem d_GlyphPositionsModel_checkCoverage_190 : decode b_GlyphPositionsModel_checkCoverage 190 = .ok (.goto (-141), 3) := by decide +kernel
theorem d_GlyphPositionsModel_checkCoverage_193 : decode b_GlyphPositionsModel_checkCoverage 193 = .ok (.aload_n 0, 1) := by decide +kernel
theorem d_GlyphPositionsModel_checkCoverage_194 : decode b_GlyphPositionsModel_checkCoverage 194 = .ok (.getfield 88, 3) := by decide +kernel
theorem d_GlyphPositionsModel_checkCoverage_197 : decode b_GlyphPositionsModel_checkCoverage 197 = .ok (.ifCond .eq 7, 3) := by decide +kernel
theorem d_GlyphPositionsModel_checkCoverage_200 : decode b_GlyphPositionsModel_checkCoverage 200 = .ok (.iconst 0, 1) := by decide +kernel
theorem d_GlyphPositionsModel_checkCoverage_201 : decode b_GlyphPositionsModel_checkCoverage 201 = .ok (.goto 5, 3) := by decide +kernel
theorem d_GlyphPositionsModel_checkCoverage_204 : decode b_GlyphPositionsModel_checkCoverage 204 = .ok (.iload 6, 2) := by decide +kernel
theorem d_GlyphPositionsModel_checkCoverage_206 : decode b_GlyphPositionsModel_checkCoverage 206 = .ok (.ireturn, 1) := by decide +kernel
abbrev b_GlyphPositionsModel_checkAnchor : ByteArray := prog_12_method_25_code
def y_GlyphPositionsModel_checkAnchor : MethodName := ⟨R_GlyphPositionsModel, "checkAnchor", "(J)V"⟩
theorem d_GlyphPositionsModel_checkAnchor_0 : decode b_GlyphPositionsModel_checkAnchor 0 = .ok (.aload_n 0, 1) := by decide +kernel
theorem d_GlyphPositionsModel_checkAnchor_1 : decode b_GlyphPositionsModel_checkAnchor 1 = .ok (.invokevirtual 138, 3) := by decide +kernel
theorem d_GlyphPositionsModel_checkAnchor_4 : decode b_GlyphPositionsModel_checkAnchor 4 = .ok (.aload_n 0, 1) := by decide +kernel
theorem d_GlyphPositionsModel_checkAnchor_5 : decode b_GlyphPositionsModel_checkAnchor 5 = .ok (.lload_n 1, 1) := by decide +kernel
theorem d_GlyphPositionsModel_checkAnchor_6 : decode b_GlyphPositionsModel_checkAnchor 6 = .ok (.invokevirtual 103, 3) := by decide +kernel
theorem d_GlyphPositionsModel_checkAnchor_9 : decode b_GlyphPositionsModel_checkAnchor 9 = .ok (.istore_n 3, 1) := by decide +kernel
theorem d_GlyphPositionsModel_checkAnchor_10 : decode b_GlyphPositionsModel_checkAnchor 10 = .ok (.aload_n 0, 1) := by decide +kernel
theorem d_GlyphPositionsModel_checkAnchor_11 : decode b_GlyphPositionsModel_checkAnchor 11 = .ok (.iload_n 3, 1) := by decide +kernel
theorem d_GlyphPositionsModel_checkAnchor_12 : decode b_GlyphPositionsModel_checkAnchor 12 = .ok (.iconst 1, 1) := by decide +kernel
theorem d_GlyphPositionsModel_checkAnchor_13 : decode b_GlyphPositionsModel_checkAnchor 13 = .ok (.if_icmp .lt 12, 3) := by decide +kernel
theorem d_GlyphPositionsModel_checkAnchor_16 : decode b_GlyphPositionsModel_checkAnchor 16 = .ok (.iload_n 3, 1) := by decide +kernel
theorem d_GlyphPositionsModel_checkAnchor_17 : decode b_GlyphPositionsModel_checkAnchor 17 = .ok (.iconst 3, 1) := by decide +kernel
theorem d_GlyphPositionsModel_checkAnchor_18 : decode b_GlyphPositionsModel_checkAnchor 18 = .ok (.if_icmp .gt 7, 3) := by decide +kernel
theorem d_GlyphPositionsModel_checkAnchor_21 : decode b_GlyphPositionsModel_checkAnchor 21 = .ok (.iconst 1, 1) := by decide +kernel
theorem d_GlyphPositionsModel_checkAnchor_22 : decode b_GlyphPositionsModel_checkAnchor 22 = .ok (.goto 4, 3) := by decide +kernel
theorem d_GlyphPositionsModel_checkAnchor_25 : decode b_GlyphPositionsModel_checkAnchor 25 = .ok (.iconst 0, 1) := by decide +kernel
theorem d_GlyphPositionsModel_checkAnchor_26 : decode b_GlyphPositionsModel_checkAnchor 26 = .ok (.invokevirtual 95, 3) := by decide +kernel
theorem d_GlyphPositionsModel_checkAnchor_29 : decode b_GlyphPositionsModel_checkAnchor 29 = .ok (.aload_n 0, 1) := by decide +kernel
theorem d_GlyphPositionsModel_checkAnchor_30 : decode b_GlyphPositionsModel_checkAnchor 30 = .ok (.lload_n 1, 1) := by decide +kernel
theorem d_GlyphPositionsModel_checkAnchor_31 : decode b_GlyphPositionsModel_checkAnchor 31 = .ok (.ldc2_w 99, 3) := by decide +kernel
theorem d_GlyphPositionsModel_checkAnchor_34 : decode b_GlyphPositionsModel_checkAnchor 34 = .ok (.ladd, 1) := by decide +kernel
theorem d_GlyphPositionsModel_checkAnchor_35 : decode b_GlyphPositionsModel_checkAnchor 35 = .ok (.invokevirtual 103, 3) := by decide +kernel
theorem d_GlyphPositionsModel_checkAnchor_38 : decode b_GlyphPositionsModel_checkAnchor 38 = .ok (.pop, 1) := by decide +kernel
theorem d_GlyphPositionsModel_checkAnchor_39 : decode b_GlyphPositionsModel_checkAnchor 39 = .ok (.aload_n 0, 1) := by decide +kernel
theorem d_GlyphPositionsModel_checkAnchor_40 : decode b_GlyphPositionsModel_checkAnchor 40 = .ok (.lload_n 1, 1) := by decide +kernel
theorem d_GlyphPositionsModel_checkAnchor_41 : decode b_GlyphPositionsModel_checkAnchor 41 = .ok (.ldc2_w 107, 3) := by decide +kernel
theorem d_GlyphPositionsModel_checkAnchor_44 : decode b_GlyphPositionsModel_checkAnchor 44 = .ok (.ladd, 1) := by decide +kernel
theorem d_GlyphPositionsModel_checkAnchor_45 : decode b_GlyphPositionsModel_checkAnchor 45 = .ok (.invokevirtual 103, 3) := by decide +kernel
theorem d_GlyphPositionsModel_checkAnchor_48 : decode b_GlyphPositionsModel_checkAnchor 48 = .ok (.pop, 1) := by decide +kernel
theorem d_GlyphPositionsModel_checkAnchor_49 : decode b_GlyphPositionsModel_checkAnchor 49 = .ok (.return_, 1) := by decide +kernel
abbrev b_GlyphPositionsModel_checkMarks : ByteArray := prog_12_method_31_code
def y_GlyphPositionsModel_checkMarks : MethodName := ⟨R_GlyphPositionsModel, "checkMarks", "(JI)V"⟩
theorem d_GlyphPositionsModel_checkMarks_0 : decode b_GlyphPositionsModel_checkMarks 0 = .ok (.lload_n 1, 1) := by decide +kernel
theorem d_GlyphPositionsModel_checkMarks_1 : decode b_GlyphPositionsModel_checkMarks 1 = .ok (.aload_n 0, 1) := by decide +kernel
theorem d_GlyphPositionsModel_checkMarks_2 : decode b_GlyphPositionsModel_checkMarks 2 = .ok (.lload_n 1, 1) := by decide +kernel
theorem d_GlyphPositionsModel_checkMarks_3 : decode b_GlyphPositionsModel_checkMarks 3 = .ok (.ldc2_w 111, 3) := by decide +kernel
theorem d_GlyphPositionsModel_checkMarks_6 : decode b_GlyphPositionsModel_checkMarks 6 = .ok (.ladd, 1) := by decide +kernel
theorem d_GlyphPositionsModel_checkMarks_7 : decode b_GlyphPositionsModel_checkMarks 7 = .ok (.invokevirtual 103, 3) := by decide +kernel
theorem d_GlyphPositionsModel_checkMarks_10 : decode b_GlyphPositionsModel_checkMarks 10 = .ok (.i2l, 1) := by decide +kernel
theorem d_GlyphPositionsModel_checkMarks_11 : decode b_GlyphPositionsModel_checkMarks 11 = .ok (.ladd, 1) := by decide +kernel
theorem d_GlyphPositionsModel_checkMarks_12 : decode b_GlyphPositionsModel_checkMarks 12 = .ok (.lstore 4, 2) := by decide +kernel
theorem d_GlyphPositionsModel_checkMarks_14 : decode b_GlyphPositionsModel_checkMarks 14 = .ok (.aload_n 0, 1) := by decide +kernel
theorem d_GlyphPositionsModel_checkMarks_15 : decode b_GlyphPositionsModel_checkMarks 15 = .ok (.lload 4, 2) := by decide +kernel
theorem d_GlyphPositionsModel_checkMarks_17 : decode b_GlyphPositionsModel_checkMarks 17 = .ok (.sipush 256, 3) := by decide +kernel
theorem d_GlyphPositionsModel_checkMarks_20 : decode b_GlyphPositionsModel_checkMarks 20 = .ok (.invokevirtual 118, 3) := by decide +kernel
theorem d_GlyphPositionsModel_checkMarks_23 : decode b_GlyphPositionsModel_checkMarks 23 = .ok (.istore 6, 2) := by decide +kernel
theorem d_GlyphPositionsModel_checkMarks_25 : decode b_GlyphPositionsModel_checkMarks 25 = .ok (.aload_n 0, 1) := by decide +kernel
theorem d_GlyphPositionsModel_checkMarks_26 : decode b_GlyphPositionsModel_checkMarks 26 = .ok (.aload_n 0, 1) := by decide +kernel
theorem d_GlyphPositionsModel_checkMarks_27 : decode b_GlyphPositionsModel_checkMarks 27 = .ok (.lload_n 1, 1) := by decide +kernel
theorem d_GlyphPositionsModel_checkMarks_28 : decode b_GlyphPositionsModel_checkMarks 28 = .ok (.aload_n 0, 1) := by decide +kernel
theorem d_GlyphPositionsModel_checkMarks_29 : decode b_GlyphPositionsModel_checkMarks 29 = .ok (.lload_n 1, 1) := by decide +kernel
theorem d_GlyphPositionsModel_checkMarks_30 : decode b_GlyphPositionsModel_checkMarks 30 = .ok (.ldc2_w 99, 3) := by decide +kernel
theorem d_GlyphPositionsModel_checkMarks_33 : decode b_GlyphPositionsModel_checkMarks 33 = .ok (.ladd, 1) := by decide +kernel
theorem d_GlyphPositionsModel_checkMarks_34 : decode b_GlyphPositionsModel_checkMarks 34 = .ok (.invokevirtual 103, 3) := by decide +kernel
theorem d_GlyphPositionsModel_checkMarks_37 : decode b_GlyphPositionsModel_checkMarks 37 = .ok (.i2l, 1) := by decide +kernel
theorem d_GlyphPositionsModel_checkMarks_38 : decode b_GlyphPositionsModel_checkMarks 38 = .ok (.ladd, 1) := by decide +kernel
theorem d_GlyphPositionsModel_checkMarks_39 : decode b_GlyphPositionsModel_checkMarks 39 = .ok (.invokevirtual 142, 3) := by decide +kernel
theorem d_GlyphPositionsModel_checkMarks_42 : decode b_GlyphPositionsModel_checkMarks 42 = .ok (.iload 6, 2) := by decide +kernel
theorem d_GlyphPositionsModel_checkMarks_44 : decode b_GlyphPositionsModel_checkMarks 44 = .ok (.if_icmp .ne 7, 3) := by decide +kernel
theorem d_GlyphPositionsModel_checkMarks_47 : decode b_GlyphPositionsModel_checkMarks 47 = .ok (.iconst 1, 1) := by decide +kernel
theorem d_GlyphPositionsModel_checkMarks_48 : decode b_GlyphPositionsModel_checkMarks 48 = .ok (.goto 4, 3) := by decide +kernel
theorem d_GlyphPositionsModel_checkMarks_51 : decode b_GlyphPositionsModel_checkMarks 51 = .ok (.iconst 0, 1) := by decide +kernel
theorem d_GlyphPositionsModel_checkMarks_52 : decode b_GlyphPositionsModel_checkMarks 52 = .ok (.invokevirtual 95, 3) := by decide +kernel
theorem d_GlyphPositionsModel_checkMarks_55 : decode b_GlyphPositionsModel_checkMarks 55 = .ok (.iconst 0, 1) := by decide +kernel
theorem d_GlyphPositionsModel_checkMarks_56 : decode b_GlyphPositionsModel_checkMarks 56 = .ok (.istore 7, 2) := by decide +kernel
theorem d_GlyphPositionsModel_checkMarks_58 : decode b_GlyphPositionsModel_checkMarks 58 = .ok (.iload 7, 2) := by decide +kernel
theorem d_GlyphPositionsModel_checkMarks_60 : decode b_GlyphPositionsModel_checkMarks 60 = .ok (.iload 6, 2) := by decide +kernel
theorem d_GlyphPositionsModel_checkMarks_62 : decode b_GlyphPositionsModel_checkMarks 62 = .ok (.if_icmp .ge 73, 3) := by decide +kernel
theorem d_GlyphPositionsModel_checkMarks_65 : decode b_GlyphPositionsModel_checkMarks 65 = .ok (.aload_n 0, 1) := by decide +kernel
theorem d_GlyphPositionsModel_checkMarks_66 : decode b_GlyphPositionsModel_checkMarks 66 = .ok (.getfield 88, 3) := by decide +kernel
theorem d_GlyphPositionsModel_checkMarks_69 : decode b_GlyphPositionsModel_checkMarks 69 = .ok (.ifCond .ne 66, 3) := by decide +kernel
theorem d_GlyphPositionsModel_checkMarks_72 : decode b_GlyphPositionsModel_checkMarks 72 = .ok (.aload_n 0, 1) := by decide +kernel
theorem d_GlyphPositionsModel_checkMarks_73 : decode b_GlyphPositionsModel_checkMarks 73 = .ok (.aload_n 0, 1) := by decide +kernel
theorem d_GlyphPositionsModel_checkMarks_74 : decode b_GlyphPositionsModel_checkMarks 74 = .ok (.lload 4, 2) := by decide +kernel
theorem d_GlyphPositionsModel_checkMarks_76 : decode b_GlyphPositionsModel_checkMarks 76 = .ok (.ldc2_w 99, 3) := by decide +kernel
theorem d_GlyphPositionsModel_checkMarks_79 : decode b_GlyphPositionsModel_checkMarks 79 = .ok (.ladd, 1) := by decide +kernel
theorem d_GlyphPositionsModel_checkMarks_80 : decode b_GlyphPositionsModel_checkMarks 80 = .ok (.ldc2_w 107, 3) := by decide +kernel
theorem d_GlyphPositionsModel_checkMarks_83 : decode b_GlyphPositionsModel_checkMarks 83 = .ok (.iload 7, 2) := by decide +kernel
theorem d_GlyphPositionsModel_checkMarks_85 : decode b_GlyphPositionsModel_checkMarks 85 = .ok (.i2l, 1) := by decide +kernel
theorem d_GlyphPositionsModel_checkMarks_86 : decode b_GlyphPositionsModel_checkMarks 86 = .ok (.lmul, 1) := by decide +kernel
theorem d_GlyphPositionsModel_checkMarks_87 : decode b_GlyphPositionsModel_checkMarks 87 = .ok (.ladd, 1) := by decide +kernel
theorem d_GlyphPositionsModel_checkMarks_88 : decode b_GlyphPositionsModel_checkMarks 88 = .ok (.invokevirtual 103, 3) := by decide +kernel
theorem d_GlyphPositionsModel_checkMarks_91 : decode b_GlyphPositionsModel_checkMarks 91 = .ok (.iload_n 3, 1) := by decide +kernel
theorem d_GlyphPositionsModel_checkMarks_92 : decode b_GlyphPositionsModel_checkMarks 92 = .ok (.if_icmp .ge 7, 3) := by decide +kernel
theorem d_GlyphPositionsModel_checkMarks_95 : decode b_GlyphPositionsModel_checkMarks 95 = .ok (.iconst 1, 1) := by decide +kernel
theorem d_GlyphPositionsModel_checkMarks_96 : decode b_GlyphPositionsModel_checkMarks 96 = .ok (.goto 4, 3) := by decide +kernel
theorem d_GlyphPositionsModel_checkMarks_99 : decode b_GlyphPositionsModel_checkMarks 99 = .ok (.iconst 0, 1) := by decide +kernel
theorem d_GlyphPositionsModel_checkMarks_100 : decode b_GlyphPositionsModel_checkMarks 100 = .ok (.invokevirtual 95, 3) := by decide +kernel
theorem d_GlyphPositionsModel_checkMarks_103 : decode b_GlyphPositionsModel_checkMarks 103 = .ok (.aload_n 0, 1) := by decide +kernel
theorem d_GlyphPositionsModel_checkMarks_104 : decode b_GlyphPositionsModel_checkMarks 104 = .ok (.lload 4, 2) := by decide +kernel
theorem d_GlyphPositionsModel_checkMarks_106 : decode b_GlyphPositionsModel_checkMarks 106 = .ok (.aload_n 0, 1) := by decide +kernel
theorem d_GlyphPositionsModel_checkMarks_107 : decode b_GlyphPositionsModel_checkMarks 107 = .ok (.lload 4, 2) := by decide +kernel
theorem d_GlyphPositionsModel_checkMarks_109 : decode b_GlyphPositionsModel_checkMarks 109 = .ok (.ldc2_w 107, 3) := by decide +kernel
theorem d_GlyphPositionsModel_checkMarks_112 : decode b_GlyphPositionsModel_checkMarks 112 = .ok (.ladd, 1) := by decide +kernel
theorem d_GlyphPositionsModel_checkMarks_113 : decode b_GlyphPositionsModel_checkMarks 113 = .ok (.ldc2_w 107, 3) := by decide +kernel
theorem d_GlyphPositionsModel_checkMarks_116 : decode b_GlyphPositionsModel_checkMarks 116 = .ok (.iload 7, 2) := by decide +kernel
theorem d_GlyphPositionsModel_checkMarks_118 : decode b_GlyphPositionsModel_checkMarks 118 = .ok (.i2l, 1) := by decide +kernel
theorem d_GlyphPositionsModel_checkMarks_119 : decode b_GlyphPositionsModel_checkMarks 119 = .ok (.lmul, 1) := by decide +kernel
theorem d_GlyphPositionsModel_checkMarks_120 : decode b_GlyphPositionsModel_checkMarks 120 = .ok (.ladd, 1) := by decide +kernel
theorem d_GlyphPositionsModel_checkMarks_121 : decode b_GlyphPositionsModel_checkMarks 121 = .ok (.invokevirtual 103, 3) := by decide +kernel
theorem d_GlyphPositionsModel_checkMarks_124 : decode b_GlyphPositionsModel_checkMarks 124 = .ok (.i2l, 1) := by decide +kernel
theorem d_GlyphPositionsModel_checkMarks_125 : decode b_GlyphPositionsModel_checkMarks 125 = .ok (.ladd, 1) := by decide +kernel
theorem d_GlyphPositionsModel_checkMarks_126 : decode b_GlyphPositionsModel_checkMarks 126 = .ok (.invokevirtual 175, 3) := by decide +kernel
theorem d_GlyphPositionsModel_checkMarks_129 : decode b_GlyphPositionsModel_checkMarks 129 = .ok (.iinc 7 1, 3) := by decide +kernel
theorem d_GlyphPositionsModel_checkMarks_132 : decode b_GlyphPositionsModel_checkMarks 132 = .ok (.goto (-74), 3) := by decide +kernel
theorem d_GlyphPositionsModel_checkMarks_135 : decode b_GlyphPositionsModel_checkMarks 135 = .ok (.return_, 1) := by decide +kernel
abbrev b_GlyphPositionsModel_checkPlace : ByteArray := prog_12_method_29_code
def y_GlyphPositionsModel_checkPlace : MethodName := ⟨R_GlyphPositionsModel, "checkPlace", "(JJ)V"⟩
theorem d_GlyphPositionsModel_checkPlace_0 : decode b_GlyphPositionsModel_checkPlace 0 = .ok (.aload_n 0, 1) := by decide +kernel
theorem d_GlyphPositionsModel_checkPlace_1 : decode b_GlyphPositionsModel_checkPlace 1 = .ok (.lload_n 3, 1) := by decide +kernel
theorem d_GlyphPositionsModel_checkPlace_2 : decode b_GlyphPositionsModel_checkPlace 2 = .ok (.invokevirtual 103, 3) := by decide +kernel
theorem d_GlyphPositionsModel_checkPlace_5 : decode b_GlyphPositionsModel_checkPlace 5 = .ok (.istore 5, 2) := by decide +kernel
theorem d_GlyphPositionsModel_checkPlace_7 : decode b_GlyphPositionsModel_checkPlace 7 = .ok (.iload 5, 2) := by decide +kernel
theorem d_GlyphPositionsModel_checkPlace_9 : decode b_GlyphPositionsModel_checkPlace 9 = .ok (.ifCond .le 12, 3) := by decide +kernel
theorem d_GlyphPositionsModel_checkPlace_12 : decode b_GlyphPositionsModel_checkPlace 12 = .ok (.aload_n 0, 1) := by decide +kernel
theorem d_GlyphPositionsModel_checkPlace_13 : decode b_GlyphPositionsModel_checkPlace 13 = .ok (.lload_n 1, 1) := by decide +kernel
theorem d_GlyphPositionsModel_checkPlace_14 : decode b_GlyphPositionsModel_checkPlace 14 = .ok (.iload 5, 2) := by decide +kernel
theorem d_GlyphPositionsModel_checkPlace_16 : decode b_GlyphPositionsModel_checkPlace 16 = .ok (.i2l, 1) := by decide +kernel
theorem d_GlyphPositionsModel_checkPlace_17 : decode b_GlyphPositionsModel_checkPlace 17 = .ok (.ladd, 1) := by decide +kernel
theorem d_GlyphPositionsModel_checkPlace_18 : decode b_GlyphPositionsModel_checkPlace 18 = .ok (.invokevirtual 175, 3) := by decide +kernel
theorem d_GlyphPositionsModel_checkPlace_21 : decode b_GlyphPositionsModel_checkPlace 21 = .ok (.return_, 1) := by decide +kernel
abbrev b_GlyphPositionsModel_checkRow : ByteArray := prog_12_method_33_code
def y_GlyphPositionsModel_checkRow : MethodName := ⟨R_GlyphPositionsModel, "checkRow", "(JJI)V"⟩
theorem d_GlyphPositionsModel_checkRow_0 : decode b_GlyphPositionsModel_checkRow 0 = .ok (.iconst 0, 1) := by decide +kernel
theorem d_GlyphPositionsModel_checkRow_1 : decode b_GlyphPositionsModel_checkRow 1 = .ok (.istore 6, 2) := by decide +kernel
theorem d_GlyphPositionsModel_checkRow_3 : decode b_GlyphPositionsModel_checkRow 3 = .ok (.iload 6, 2) := by decide +kernel
theorem d_GlyphPositionsModel_checkRow_5 : decode b_GlyphPositionsModel_checkRow 5 = .ok (.iload 5, 2) := by decide +kernel
theorem d_GlyphPositionsModel_checkRow_7 : decode b_GlyphPositionsModel_checkRow 7 = .ok (.if_icmp .ge 30, 3) := by decide +kernel
theorem d_GlyphPositionsModel_checkRow_10 : decode b_GlyphPositionsModel_checkRow 10 = .ok (.aload_n 0, 1) := by decide +kernel
theorem d_GlyphPositionsModel_checkRow_11 : decode b_GlyphPositionsModel_checkRow 11 = .ok (.getfield 88, 3) := by decide +kernel
theorem d_GlyphPositionsModel_checkRow_14 : decode b_GlyphPositionsModel_checkRow 14 = .ok (.ifCond .ne 23, 3) := by decide +kernel
theorem d_GlyphPositionsModel_checkRow_17 : decode b_GlyphPositionsModel_checkRow 17 = .ok (.aload_n 0, 1) := by decide +kernel
theorem d_GlyphPositionsModel_checkRow_18 : decode b_GlyphPositionsModel_checkRow 18 = .ok (.lload_n 1, 1) := by decide +kernel
theorem d_GlyphPositionsModel_checkRow_19 : decode b_GlyphPositionsModel_checkRow 19 = .ok (.lload_n 3, 1) := by decide +kernel
theorem d_GlyphPositionsModel_checkRow_20 : decode b_GlyphPositionsModel_checkRow 20 = .ok (.ldc2_w 99, 3) := by decide +kernel
theorem d_GlyphPositionsModel_checkRow_23 : decode b_GlyphPositionsModel_checkRow 23 = .ok (.iload 6, 2) := by decide +kernel
theorem d_GlyphPositionsModel_checkRow_25 : decode b_GlyphPositionsModel_checkRow 25 = .ok (.i2l, 1) := by decide +kernel
theorem d_GlyphPositionsModel_checkRow_26 : decode b_GlyphPositionsModel_checkRow 26 = .ok (.lmul, 1) := by decide +kernel
theorem d_GlyphPositionsModel_checkRow_27 : decode b_GlyphPositionsModel_checkRow 27 = .ok (.ladd, 1) := by decide +kernel
theorem d_GlyphPositionsModel_checkRow_28 : decode b_GlyphPositionsModel_checkRow 28 = .ok (.invokevirtual 178, 3) := by decide +kernel
theorem d_GlyphPositionsModel_checkRow_31 : decode b_GlyphPositionsModel_checkRow 31 = .ok (.iinc 6 1, 3) := by decide +kernel
theorem d_GlyphPositionsModel_checkRow_34 : decode b_GlyphPositionsModel_checkRow 34 = .ok (.goto (-31), 3) := by decide +kernel
theorem d_GlyphPositionsModel_checkRow_37 : decode b_GlyphPositionsModel_checkRow 37 = .ok (.return_, 1) := by decide +kernel
abbrev b_GlyphPositionsModel_checkParts : ByteArray := prog_12_method_34_code
def y_GlyphPositionsModel_checkParts : MethodName := ⟨R_GlyphPositionsModel, "checkParts", "(JI)V"⟩
theorem d_GlyphPositionsModel_checkParts_0 : decode b_GlyphPositionsModel_checkParts 0 = .ok (.aload_n 0, 1) := by decide +kernel
theorem d_GlyphPositionsModel_checkParts_1 : decode b_GlyphPositionsModel_checkParts 1 = .ok (.invokevirtual 138, 3) := by decide +kernel
theorem d_GlyphPositionsModel_checkParts_4 : decode b_GlyphPositionsModel_checkParts 4 = .ok (.aload_n 0, 1) := by decide +kernel
theorem d_GlyphPositionsModel_checkParts_5 : decode b_GlyphPositionsModel_checkParts 5 = .ok (.lload_n 1, 1) := by decide +kernel
theorem d_GlyphPositionsModel_checkParts_6 : decode b_GlyphPositionsModel_checkParts 6 = .ok (.bipush 16, 2) := by decide +kernel
theorem d_GlyphPositionsModel_checkParts_8 : decode b_GlyphPositionsModel_checkParts 8 = .ok (.invokevirtual 118, 3) := by decide +kernel
theorem d_GlyphPositionsModel_checkParts_11 : decode b_GlyphPositionsModel_checkParts 11 = .ok (.istore 4, 2) := by decide +kernel
theorem d_GlyphPositionsModel_checkParts_13 : decode b_GlyphPositionsModel_checkParts 13 = .ok (.aload_n 0, 1) := by decide +kernel
theorem d_GlyphPositionsModel_checkParts_14 : decode b_GlyphPositionsModel_checkParts 14 = .ok (.iload 4, 2) := by decide +kernel
theorem d_GlyphPositionsModel_checkParts_16 : decode b_GlyphPositionsModel_checkParts 16 = .ok (.ifCond .le 7, 3) := by decide +kernel
theorem d_GlyphPositionsModel_checkParts_19 : decode b_GlyphPositionsModel_checkParts 19 = .ok (.iconst 1, 1) := by decide +kernel
theorem d_GlyphPositionsModel_checkParts_20 : decode b_GlyphPositionsModel_checkParts 20 = .ok (.goto 4, 3) := by decide +kernel
theorem d_GlyphPositionsModel_checkParts_23 : decode b_GlyphPositionsModel_checkParts 23 = .ok (.iconst 0, 1) := by decide +kernel
theorem d_GlyphPositionsModel_checkParts_24 : decode b_GlyphPositionsModel_checkParts 24 = .ok (.invokevirtual 95, 3) := by decide +kernel
theorem d_GlyphPositionsModel_checkParts_27 : decode b_GlyphPositionsModel_checkParts 27 = .ok (.aload_n 0, 1) := by decide +kernel
theorem d_GlyphPositionsModel_checkParts_28 : decode b_GlyphPositionsModel_checkParts 28 = .ok (.lload_n 1, 1) := by decide +kernel
theorem d_GlyphPositionsModel_checkParts_29 : decode b_GlyphPositionsModel_checkParts 29 = .ok (.lload_n 1, 1) := by decide +kernel
theorem d_GlyphPositionsModel_checkParts_30 : decode b_GlyphPositionsModel_checkParts 30 = .ok (.ldc2_w 99, 3) := by decide +kernel
theorem d_GlyphPositionsModel_checkParts_33 : decode b_GlyphPositionsModel_checkParts 33 = .ok (.ladd, 1) := by decide +kernel
theorem d_GlyphPositionsModel_checkParts_34 : decode b_GlyphPositionsModel_checkParts 34 = .ok (.iload 4, 2) := by decide +kernel
theorem d_GlyphPositionsModel_checkParts_36 : decode b_GlyphPositionsModel_checkParts 36 = .ok (.iload_n 3, 1) := by decide +kernel
theorem d_GlyphPositionsModel_checkParts_37 : decode b_GlyphPositionsModel_checkParts 37 = .ok (.imul, 1) := by decide +kernel
theorem d_GlyphPositionsModel_checkParts_38 : decode b_GlyphPositionsModel_checkParts 38 = .ok (.invokevirtual 187, 3) := by decide +kernel
theorem d_GlyphPositionsModel_checkParts_41 : decode b_GlyphPositionsModel_checkParts 41 = .ok (.return_, 1) := by decide +kernel
abbrev b_GlyphPositionsModel_checkHanging : ByteArray := prog_12_method_32_code
def y_GlyphPositionsModel_checkHanging : MethodName := ⟨R_GlyphPositionsModel, "checkHanging", "(JZ)V"⟩
theorem d_GlyphPositionsModel_checkHanging_0 : decode b_GlyphPositionsModel_checkHanging 0 = .ok (.aload_n 0, 1) := by decide +kernel
theorem d_GlyphPositionsModel_checkHanging_1 : decode b_GlyphPositionsModel_checkHanging 1 = .ok (.aload_n 0, 1) := by decide +kernel
theorem d_GlyphPositionsModel_checkHanging_2 : decode b_GlyphPositionsModel_checkHanging 2 = .ok (.lload_n 1, 1) := by decide +kernel
theorem d_GlyphPositionsModel_checkHanging_3 : decode b_GlyphPositionsModel_checkHanging 3 = .ok (.invokevirtual 103, 3) := by decide +kernel
theorem d_GlyphPositionsModel_checkHanging_6 : decode b_GlyphPositionsModel_checkHanging 6 = .ok (.iconst 1, 1) := by decide +kernel
theorem d_GlyphPositionsModel_checkHanging_7 : decode b_GlyphPositionsModel_checkHanging 7 = .ok (.if_icmp .ne 7, 3) := by decide +kernel
theorem d_GlyphPositionsModel_checkHanging_10 : decode b_GlyphPositionsModel_checkHanging 10 = .ok (.iconst 1, 1) := by decide +kernel
theorem d_GlyphPositionsModel_checkHanging_11 : decode b_GlyphPositionsModel_checkHanging 11 = .ok (.goto 4, 3) := by decide +kernel
theorem d_GlyphPositionsModel_checkHanging_14 : decode b_GlyphPositionsModel_checkHanging 14 = .ok (.iconst 0, 1) := by decide +kernel
theorem d_GlyphPositionsModel_checkHanging_15 : decode b_GlyphPositionsModel_checkHanging 15 = .ok (.invokevirtual 95, 3) := by decide +kernel
theorem d_GlyphPositionsModel_checkHanging_18 : decode b_GlyphPositionsModel_checkHanging 18 = .ok (.aload_n 0, 1) := by decide +kernel
theorem d_GlyphPositionsModel_checkHanging_19 : decode b_GlyphPositionsModel_checkHanging 19 = .ok (.lload_n 1, 1) := by decide +kernel
theorem d_GlyphPositionsModel_checkHanging_20 : decode b_GlyphPositionsModel_checkHanging 20 = .ok (.ldc2_w 109, 3) := by decide +kernel
theorem d_GlyphPositionsModel_checkHanging_23 : decode b_GlyphPositionsModel_checkHanging 23 = .ok (.ladd, 1) := by decide +kernel
theorem d_GlyphPositionsModel_checkHanging_24 : decode b_GlyphPositionsModel_checkHanging 24 = .ok (.bipush 16, 2) := by decide +kernel
theorem d_GlyphPositionsModel_checkHanging_26 : decode b_GlyphPositionsModel_checkHanging 26 = .ok (.invokevirtual 118, 3) := by decide +kernel
theorem d_GlyphPositionsModel_checkHanging_29 : decode b_GlyphPositionsModel_checkHanging 29 = .ok (.istore 4, 2) := by decide +kernel
theorem d_GlyphPositionsModel_checkHanging_31 : decode b_GlyphPositionsModel_checkHanging 31 = .ok (.aload_n 0, 1) := by decide +kernel
theorem d_GlyphPositionsModel_checkHanging_32 : decode b_GlyphPositionsModel_checkHanging 32 = .ok (.lload_n 1, 1) := by decide +kernel
theorem d_GlyphPositionsModel_checkHanging_33 : decode b_GlyphPositionsModel_checkHanging 33 = .ok (.iload 4, 2) := by decide +kernel
theorem d_GlyphPositionsModel_checkHanging_35 : decode b_GlyphPositionsModel_checkHanging 35 = .ok (.invokevirtual 181, 3) := by decide +kernel
theorem d_GlyphPositionsModel_checkHanging_38 : decode b_GlyphPositionsModel_checkHanging 38 = .ok (.lload_n 1, 1) := by decide +kernel
theorem d_GlyphPositionsModel_checkHanging_39 : decode b_GlyphPositionsModel_checkHanging 39 = .ok (.aload_n 0, 1) := by decide +kernel
theorem d_GlyphPositionsModel_checkHanging_40 : decode b_GlyphPositionsModel_checkHanging 40 = .ok (.lload_n 1, 1) := by decide +kernel
theorem d_GlyphPositionsModel_checkHanging_41 : decode b_GlyphPositionsModel_checkHanging 41 = .ok (.ldc2_w 160, 3) := by decide +kernel
theorem d_GlyphPositionsModel_checkHanging_44 : decode b_GlyphPositionsModel_checkHanging 44 = .ok (.ladd, 1) := by decide +kernel
theorem d_GlyphPositionsModel_checkHanging_45 : decode b_GlyphPositionsModel_checkHanging 45 = .ok (.invokevirtual 103, 3) := by decide +kernel
theorem d_GlyphPositionsModel_checkHanging_48 : decode b_GlyphPositionsModel_checkHanging 48 = .ok (.i2l, 1) := by decide +kernel
theorem d_GlyphPositionsModel_checkHanging_49 : decode b_GlyphPositionsModel_checkHanging 49 = .ok (.ladd, 1) := by decide +kernel
theorem d_GlyphPositionsModel_checkHanging_50 : decode b_GlyphPositionsModel_checkHanging 50 = .ok (.lstore 5, 2) := by decide +kernel
theorem d_GlyphPositionsModel_checkHanging_52 : decode b_GlyphPositionsModel_checkHanging 52 = .ok (.aload_n 0, 1) := by decide +kernel
theorem d_GlyphPositionsModel_checkHanging_53 : decode b_GlyphPositionsModel_checkHanging 53 = .ok (.lload 5, 2) := by decide +kernel
theorem d_GlyphPositionsModel_checkHanging_55 : decode b_GlyphPositionsModel_checkHanging 55 = .ok (.sipush 256, 3) := by decide +kernel
theorem d_GlyphPositionsModel_checkHanging_58 : decode b_GlyphPositionsModel_checkHanging 58 = .ok (.invokevirtual 118, 3) := by decide +kernel
theorem d_GlyphPositionsModel_checkHanging_61 : decode b_GlyphPositionsModel_checkHanging 61 = .ok (.istore 7, 2) := by decide +kernel
theorem d_GlyphPositionsModel_checkHanging_63 : decode b_GlyphPositionsModel_checkHanging 63 = .ok (.aload_n 0, 1) := by decide +kernel
theorem d_GlyphPositionsModel_checkHanging_64 : decode b_GlyphPositionsModel_checkHanging 64 = .ok (.aload_n 0, 1) := by decide +kernel
theorem d_GlyphPositionsModel_checkHanging_65 : decode b_GlyphPositionsModel_checkHanging 65 = .ok (.lload_n 1, 1) := by decide +kernel
theorem d_GlyphPositionsModel_checkHanging_66 : decode b_GlyphPositionsModel_checkHanging 66 = .ok (.aload_n 0, 1) := by decide +kernel
theorem d_GlyphPositionsModel_checkHanging_67 : decode b_GlyphPositionsModel_checkHanging 67 = .ok (.lload_n 1, 1) := by decide +kernel
theorem d_GlyphPositionsModel_checkHanging_68 : decode b_GlyphPositionsModel_checkHanging 68 = .ok (.ldc2_w 107, 3) := by decide +kernel
theorem d_GlyphPositionsModel_checkHanging_71 : decode b_GlyphPositionsModel_checkHanging 71 = .ok (.ladd, 1) := by decide +kernel
theorem d_GlyphPositionsModel_checkHanging_72 : decode b_GlyphPositionsModel_checkHanging 72 = .ok (.invokevirtual 103, 3) := by decide +kernel
theorem d_GlyphPositionsModel_checkHanging_75 : decode b_GlyphPositionsModel_checkHanging 75 = .ok (.i2l, 1) := by decide +kernel
theorem d_GlyphPositionsModel_checkHanging_76 : decode b_GlyphPositionsModel_checkHanging 76 = .ok (.ladd, 1) := by decide +kernel
theorem d_GlyphPositionsModel_checkHanging_77 : decode b_GlyphPositionsModel_checkHanging 77 = .ok (.invokevirtual 142, 3) := by decide +kernel
theorem d_GlyphPositionsModel_checkHanging_80 : decode b_GlyphPositionsModel_checkHanging 80 = .ok (.iload 7, 2) := by decide +kernel
theorem d_GlyphPositionsModel_checkHanging_82 : decode b_GlyphPositionsModel_checkHanging 82 = .ok (.if_icmp .ne 7, 3) := by decide +kernel
theorem d_GlyphPositionsModel_checkHanging_85 : decode b_GlyphPositionsModel_checkHanging 85 = .ok (.iconst 1, 1) := by decide +kernel
theorem d_GlyphPositionsModel_checkHanging_86 : decode b_GlyphPositionsModel_checkHanging 86 = .ok (.goto 4, 3) := by decide +kernel
theorem d_GlyphPositionsModel_checkHanging_89 : decode b_GlyphPositionsModel_checkHanging 89 = .ok (.iconst 0, 1) := by decide +kernel
theorem d_GlyphPositionsModel_checkHanging_90 : decode b_GlyphPositionsModel_checkHanging 90 = .ok (.invokevirtual 95, 3) := by decide +kernel
theorem d_GlyphPositionsModel_checkHanging_93 : decode b_GlyphPositionsModel_checkHanging 93 = .ok (.iconst 0, 1) := by decide +kernel
theorem d_GlyphPositionsModel_checkHanging_94 : decode b_GlyphPositionsModel_checkHanging 94 = .ok (.istore 8, 2) := by decide +kernel
theorem d_GlyphPositionsModel_checkHanging_96 : decode b_GlyphPositionsModel_checkHanging 96 = .ok (.iload 8, 2) := by decide +kernel
theorem d_GlyphPositionsModel_checkHanging_98 : decode b_GlyphPositionsModel_checkHanging 98 = .ok (.iload 7, 2) := by decide +kernel
theorem d_GlyphPositionsModel_checkHanging_100 : decode b_GlyphPositionsModel_checkHanging 100 = .ok (.if_icmp .ge 77, 3) := by decide +kernel
theorem d_GlyphPositionsModel_checkHanging_103 : decode b_GlyphPositionsModel_checkHanging 103 = .ok (.aload_n 0, 1) := by decide +kernel
theorem d_GlyphPositionsModel_checkHanging_104 : decode b_GlyphPositionsModel_checkHanging 104 = .ok (.getfield 88, 3) := by decide +kernel
theorem d_GlyphPositionsModel_checkHanging_107 : decode b_GlyphPositionsModel_checkHanging 107 = .ok (.ifCond .ne 70, 3) := by decide +kernel
theorem d_GlyphPositionsModel_checkHanging_110 : decode b_GlyphPositionsModel_checkHanging 110 = .ok (.iload_n 3, 1) := by decide +kernel
theorem d_GlyphPositionsModel_checkHanging_111 : decode b_GlyphPositionsModel_checkHanging 111 = .ok (.ifCond .eq 34, 3) := by decide +kernel
theorem d_GlyphPositionsModel_checkHanging_114 : decode b_GlyphPositionsModel_checkHanging 114 = .ok (.aload_n 0, 1) := by decide +kernel
theorem d_GlyphPositionsModel_checkHanging_115 : decode b_GlyphPositionsModel_checkHanging 115 = .ok (.lload 5, 2) := by decide +kernel
theorem d_GlyphPositionsModel_checkHanging_117 : decode b_GlyphPositionsModel_checkHanging 117 = .ok (.aload_n 0, 1) := by decide +kernel
theorem d_GlyphPositionsModel_checkHanging_118 : decode b_GlyphPositionsModel_checkHanging 118 = .ok (.lload 5, 2) := by decide +kernel
theorem d_GlyphPositionsModel_checkHanging_120 : decode b_GlyphPositionsModel_checkHanging 120 = .ok (.ldc2_w 99, 3) := by decide +kernel
theorem d_GlyphPositionsModel_checkHanging_123 : decode b_GlyphPositionsModel_checkHanging 123 = .ok (.ladd, 1) := by decide +kernel
theorem d_GlyphPositionsModel_checkHanging_124 : decode b_GlyphPositionsModel_checkHanging 124 = .ok (.ldc2_w 99, 3) := by decide +kernel
theorem d_GlyphPositionsModel_checkHanging_127 : decode b_GlyphPositionsModel_checkHanging 127 = .ok (.iload 8, 2) := by decide +kernel
theorem d_GlyphPositionsModel_checkHanging_129 : decode b_GlyphPositionsModel_checkHanging 129 = .ok (.i2l, 1) := by decide +kernel
theorem d_GlyphPositionsModel_checkHanging_130 : decode b_GlyphPositionsModel_checkHanging 130 = .ok (.lmul, 1) := by decide +kernel
theorem d_GlyphPositionsModel_checkHanging_131 : decode b_GlyphPositionsModel_checkHanging 131 = .ok (.ladd, 1) := by decide +kernel
theorem d_GlyphPositionsModel_checkHanging_132 : decode b_GlyphPositionsModel_checkHanging 132 = .ok (.invokevirtual 103, 3) := by decide +kernel
theorem d_GlyphPositionsModel_checkHanging_135 : decode b_GlyphPositionsModel_checkHanging 135 = .ok (.i2l, 1) := by decide +kernel
theorem d_GlyphPositionsModel_checkHanging_136 : decode b_GlyphPositionsModel_checkHanging 136 = .ok (.ladd, 1) := by decide +kernel
theorem d_GlyphPositionsModel_checkHanging_137 : decode b_GlyphPositionsModel_checkHanging 137 = .ok (.iload 4, 2) := by decide +kernel
theorem d_GlyphPositionsModel_checkHanging_139 : decode b_GlyphPositionsModel_checkHanging 139 = .ok (.invokevirtual 184, 3) := by decide +kernel
theorem d_GlyphPositionsModel_checkHanging_142 : decode b_GlyphPositionsModel_checkHanging 142 = .ok (.goto 29, 3) := by decide +kernel
theorem d_GlyphPositionsModel_checkHanging_145 : decode b_GlyphPositionsModel_checkHanging 145 = .ok (.aload_n 0, 1) := by decide +kernel
theorem d_GlyphPositionsModel_checkHanging_146 : decode b_GlyphPositionsModel_checkHanging 146 = .ok (.lload 5, 2) := by decide +kernel
theorem d_GlyphPositionsModel_checkHanging_148 : decode b_GlyphPositionsModel_checkHanging 148 = .ok (.lload 5, 2) := by decide +kernel
theorem d_GlyphPositionsModel_checkHanging_150 : decode b_GlyphPositionsModel_checkHanging 150 = .ok (.ldc2_w 99, 3) := by decide +kernel
theorem d_GlyphPositionsModel_checkHanging_153 : decode b_GlyphPositionsModel_checkHanging 153 = .ok (.ladd, 1) := by decide +kernel
theorem d_GlyphPositionsModel_checkHanging_154 : decode b_GlyphPositionsModel_checkHanging 154 = .ok (.ldc2_w 99, 3) := by decide +kernel
theorem d_GlyphPositionsModel_checkHanging_157 : decode b_GlyphPositionsModel_checkHanging 157 = .ok (.iload 4, 2) := by decide +kernel
theorem d_GlyphPositionsModel_checkHanging_159 : decode b_GlyphPositionsModel_checkHanging 159 = .ok (.i2l, 1) := by decide +kernel
theorem d_GlyphPositionsModel_checkHanging_160 : decode b_GlyphPositionsModel_checkHanging 160 = .ok (.lmul, 1) := by decide +kernel
theorem d_GlyphPositionsModel_checkHanging_161 : decode b_GlyphPositionsModel_checkHanging 161 = .ok (.iload 8, 2) := by decide +kernel
theorem d_GlyphPositionsModel_checkHanging_163 : decode b_GlyphPositionsModel_checkHanging 163 = .ok (.i2l, 1) := by decide +kernel
theorem d_GlyphPositionsModel_checkHanging_164 : decode b_GlyphPositionsModel_checkHanging 164 = .ok (.lmul, 1) := by decide +kernel
theorem d_GlyphPositionsModel_checkHanging_165 : decode b_GlyphPositionsModel_checkHanging 165 = .ok (.ladd, 1) := by decide +kernel
theorem d_GlyphPositionsModel_checkHanging_166 : decode b_GlyphPositionsModel_checkHanging 166 = .ok (.iload 4, 2) := by decide +kernel
theorem d_GlyphPositionsModel_checkHanging_168 : decode b_GlyphPositionsModel_checkHanging 168 = .ok (.invokevirtual 187, 3) := by decide +kernel
theorem d_GlyphPositionsModel_checkHanging_171 : decode b_GlyphPositionsModel_checkHanging 171 = .ok (.iinc 8 1, 3) := by decide +kernel
theorem d_GlyphPositionsModel_checkHanging_174 : decode b_GlyphPositionsModel_checkHanging 174 = .ok (.goto (-78), 3) := by decide +kernel
theorem d_GlyphPositionsModel_checkHanging_177 : decode b_GlyphPositionsModel_checkHanging 177 = .ok (.return_, 1) := by decide +kernel
abbrev b_GlyphPositionsModel_byIndex : ByteArray := prog_12_method_21_code
def y_GlyphPositionsModel_byIndex : MethodName := ⟨R_GlyphPositionsModel, "byIndex", "(JJ)I"⟩
theorem d_GlyphPositionsModel_byIndex_0 : decode b_GlyphPositionsModel_byIndex 0 = .ok (.aload_n 0, 1) := by decide +kernel
theorem d_GlyphPositionsModel_byIndex_1 : decode b_GlyphPositionsModel_byIndex 1 = .ok (.lload_n 3, 1) := by decide +kernel
theorem d_GlyphPositionsModel_byIndex_2 : decode b_GlyphPositionsModel_byIndex 2 = .ok (.sipush 256, 3) := by decide +kernel
theorem d_GlyphPositionsModel_byIndex_5 : decode b_GlyphPositionsModel_byIndex 5 = .ok (.invokevirtual 118, 3) := by decide +kernel
theorem d_GlyphPositionsModel_byIndex_8 : decode b_GlyphPositionsModel_byIndex 8 = .ok (.istore 5, 2) := by decide +kernel
theorem d_GlyphPositionsModel_byIndex_10 : decode b_GlyphPositionsModel_byIndex 10 = .ok (.aload_n 0, 1) := by decide +kernel
theorem d_GlyphPositionsModel_byIndex_11 : decode b_GlyphPositionsModel_byIndex 11 = .ok (.aload_n 0, 1) := by decide +kernel
theorem d_GlyphPositionsModel_byIndex_12 : decode b_GlyphPositionsModel_byIndex 12 = .ok (.lload_n 1, 1) := by decide +kernel
theorem d_GlyphPositionsModel_byIndex_13 : decode b_GlyphPositionsModel_byIndex 13 = .ok (.aload_n 0, 1) := by decide +kernel
theorem d_GlyphPositionsModel_byIndex_14 : decode b_GlyphPositionsModel_byIndex 14 = .ok (.lload_n 1, 1) := by decide +kernel
theorem d_GlyphPositionsModel_byIndex_15 : decode b_GlyphPositionsModel_byIndex 15 = .ok (.ldc2_w 99, 3) := by decide +kernel
theorem d_GlyphPositionsModel_byIndex_18 : decode b_GlyphPositionsModel_byIndex 18 = .ok (.ladd, 1) := by decide +kernel
theorem d_GlyphPositionsModel_byIndex_19 : decode b_GlyphPositionsModel_byIndex 19 = .ok (.invokevirtual 103, 3) := by decide +kernel
theorem d_GlyphPositionsModel_byIndex_22 : decode b_GlyphPositionsModel_byIndex 22 = .ok (.i2l, 1) := by decide +kernel
theorem d_GlyphPositionsModel_byIndex_23 : decode b_GlyphPositionsModel_byIndex 23 = .ok (.ladd, 1) := by decide +kernel
theorem d_GlyphPositionsModel_byIndex_24 : decode b_GlyphPositionsModel_byIndex 24 = .ok (.invokevirtual 142, 3) := by decide +kernel
theorem d_GlyphPositionsModel_byIndex_27 : decode b_GlyphPositionsModel_byIndex 27 = .ok (.iload 5, 2) := by decide +kernel
theorem d_GlyphPositionsModel_byIndex_29 : decode b_GlyphPositionsModel_byIndex 29 = .ok (.if_icmp .ne 7, 3) := by decide +kernel
theorem d_GlyphPositionsModel_byIndex_32 : decode b_GlyphPositionsModel_byIndex 32 = .ok (.iconst 1, 1) := by decide +kernel
theorem d_GlyphPositionsModel_byIndex_33 : decode b_GlyphPositionsModel_byIndex 33 = .ok (.goto 4, 3) := by decide +kernel
theorem d_GlyphPositionsModel_byIndex_36 : decode b_GlyphPositionsModel_byIndex 36 = .ok (.iconst 0, 1) := by decide +kernel
theorem d_GlyphPositionsModel_byIndex_37 : decode b_GlyphPositionsModel_byIndex 37 = .ok (.invokevirtual 95, 3) := by decide +kernel
theorem d_GlyphPositionsModel_byIndex_40 : decode b_GlyphPositionsModel_byIndex 40 = .ok (.aload_n 0, 1) := by decide +kernel
theorem d_GlyphPositionsModel_byIndex_41 : decode b_GlyphPositionsModel_byIndex 41 = .ok (.getfield 88, 3) := by decide +kernel
theorem d_GlyphPositionsModel_byIndex_44 : decode b_GlyphPositionsModel_byIndex 44 = .ok (.ifCond .eq 7, 3) := by decide +kernel
theorem d_GlyphPositionsModel_byIndex_47 : decode b_GlyphPositionsModel_byIndex 47 = .ok (.iconst 0, 1) := by decide +kernel
theorem d_GlyphPositionsModel_byIndex_48 : decode b_GlyphPositionsModel_byIndex 48 = .ok (.goto 5, 3) := by decide +kernel
theorem d_GlyphPositionsModel_byIndex_51 : decode b_GlyphPositionsModel_byIndex 51 = .ok (.iload 5, 2) := by decide +kernel
theorem d_GlyphPositionsModel_byIndex_53 : decode b_GlyphPositionsModel_byIndex 53 = .ok (.ireturn, 1) := by decide +kernel
abbrev b_GlyphPositionsModel_checkJoins : ByteArray := prog_12_method_30_code
def y_GlyphPositionsModel_checkJoins : MethodName := ⟨R_GlyphPositionsModel, "checkJoins", "(J)V"⟩
theorem d_GlyphPositionsModel_checkJoins_0 : decode b_GlyphPositionsModel_checkJoins 0 = .ok (.aload_n 0, 1) := by decide +kernel
theorem d_GlyphPositionsModel_checkJoins_1 : decode b_GlyphPositionsModel_checkJoins 1 = .ok (.aload_n 0, 1) := by decide +kernel
theorem d_GlyphPositionsModel_checkJoins_2 : decode b_GlyphPositionsModel_checkJoins 2 = .ok (.lload_n 1, 1) := by decide +kernel
theorem d_GlyphPositionsModel_checkJoins_3 : decode b_GlyphPositionsModel_checkJoins 3 = .ok (.invokevirtual 103, 3) := by decide +kernel
theorem d_GlyphPositionsModel_checkJoins_6 : decode b_GlyphPositionsModel_checkJoins 6 = .ok (.iconst 1, 1) := by decide +kernel
theorem d_GlyphPositionsModel_checkJoins_7 : decode b_GlyphPositionsModel_checkJoins 7 = .ok (.if_icmp .ne 7, 3) := by decide +kernel
theorem d_GlyphPositionsModel_checkJoins_10 : decode b_GlyphPositionsModel_checkJoins 10 = .ok (.iconst 1, 1) := by decide +kernel
theorem d_GlyphPositionsModel_checkJoins_11 : decode b_GlyphPositionsModel_checkJoins 11 = .ok (.goto 4, 3) := by decide +kernel
theorem d_GlyphPositionsModel_checkJoins_14 : decode b_GlyphPositionsModel_checkJoins 14 = .ok (.iconst 0, 1) := by decide +kernel
theorem d_GlyphPositionsModel_checkJoins_15 : decode b_GlyphPositionsModel_checkJoins 15 = .ok (.invokevirtual 95, 3) := by decide +kernel
theorem d_GlyphPositionsModel_checkJoins_18 : decode b_GlyphPositionsModel_checkJoins 18 = .ok (.aload_n 0, 1) := by decide +kernel
theorem d_GlyphPositionsModel_checkJoins_19 : decode b_GlyphPositionsModel_checkJoins 19 = .ok (.lload_n 1, 1) := by decide +kernel
theorem d_GlyphPositionsModel_checkJoins_20 : decode b_GlyphPositionsModel_checkJoins 20 = .ok (.lload_n 1, 1) := by decide +kernel
theorem d_GlyphPositionsModel_checkJoins_21 : decode b_GlyphPositionsModel_checkJoins 21 = .ok (.ldc2_w 107, 3) := by decide +kernel
theorem d_GlyphPositionsModel_checkJoins_24 : decode b_GlyphPositionsModel_checkJoins 24 = .ok (.ladd, 1) := by decide +kernel
theorem d_GlyphPositionsModel_checkJoins_25 : decode b_GlyphPositionsModel_checkJoins 25 = .ok (.invokevirtual 156, 3) := by decide +kernel
theorem d_GlyphPositionsModel_checkJoins_28 : decode b_GlyphPositionsModel_checkJoins 28 = .ok (.istore_n 3, 1) := by decide +kernel
theorem d_GlyphPositionsModel_checkJoins_29 : decode b_GlyphPositionsModel_checkJoins 29 = .ok (.iconst 0, 1) := by decide +kernel
theorem d_GlyphPositionsModel_checkJoins_30 : decode b_GlyphPositionsModel_checkJoins 30 = .ok (.istore 4, 2) := by decide +kernel
theorem d_GlyphPositionsModel_checkJoins_32 : decode b_GlyphPositionsModel_checkJoins 32 = .ok (.iload 4, 2) := by decide +kernel
theorem d_GlyphPositionsModel_checkJoins_34 : decode b_GlyphPositionsModel_checkJoins 34 = .ok (.iconst 2, 1) := by decide +kernel
theorem d_GlyphPositionsModel_checkJoins_35 : decode b_GlyphPositionsModel_checkJoins 35 = .ok (.iload_n 3, 1) := by decide +kernel
theorem d_GlyphPositionsModel_checkJoins_36 : decode b_GlyphPositionsModel_checkJoins 36 = .ok (.imul, 1) := by decide +kernel
theorem d_GlyphPositionsModel_checkJoins_37 : decode b_GlyphPositionsModel_checkJoins 37 = .ok (.if_icmp .ge 34, 3) := by decide +kernel
theorem d_GlyphPositionsModel_checkJoins_40 : decode b_GlyphPositionsModel_checkJoins 40 = .ok (.aload_n 0, 1) := by decide +kernel
theorem d_GlyphPositionsModel_checkJoins_41 : decode b_GlyphPositionsModel_checkJoins 41 = .ok (.getfield 88, 3) := by decide +kernel
theorem d_GlyphPositionsModel_checkJoins_44 : decode b_GlyphPositionsModel_checkJoins 44 = .ok (.ifCond .ne 27, 3) := by decide +kernel
theorem d_GlyphPositionsModel_checkJoins_47 : decode b_GlyphPositionsModel_checkJoins 47 = .ok (.aload_n 0, 1) := by decide +kernel
theorem d_GlyphPositionsModel_checkJoins_48 : decode b_GlyphPositionsModel_checkJoins 48 = .ok (.lload_n 1, 1) := by decide +kernel
theorem d_GlyphPositionsModel_checkJoins_49 : decode b_GlyphPositionsModel_checkJoins 49 = .ok (.lload_n 1, 1) := by decide +kernel
theorem d_GlyphPositionsModel_checkJoins_50 : decode b_GlyphPositionsModel_checkJoins 50 = .ok (.ldc2_w 109, 3) := by decide +kernel
theorem d_GlyphPositionsModel_checkJoins_53 : decode b_GlyphPositionsModel_checkJoins 53 = .ok (.ladd, 1) := by decide +kernel
theorem d_GlyphPositionsModel_checkJoins_54 : decode b_GlyphPositionsModel_checkJoins 54 = .ok (.ldc2_w 99, 3) := by decide +kernel
theorem d_GlyphPositionsModel_checkJoins_57 : decode b_GlyphPositionsModel_checkJoins 57 = .ok (.iload 4, 2) := by decide +kernel
theorem d_GlyphPositionsModel_checkJoins_59 : decode b_GlyphPositionsModel_checkJoins 59 = .ok (.i2l, 1) := by decide +kernel
theorem d_GlyphPositionsModel_checkJoins_60 : decode b_GlyphPositionsModel_checkJoins 60 = .ok (.lmul, 1) := by decide +kernel
theorem d_GlyphPositionsModel_checkJoins_61 : decode b_GlyphPositionsModel_checkJoins 61 = .ok (.ladd, 1) := by decide +kernel
theorem d_GlyphPositionsModel_checkJoins_62 : decode b_GlyphPositionsModel_checkJoins 62 = .ok (.invokevirtual 178, 3) := by decide +kernel
theorem d_GlyphPositionsModel_checkJoins_65 : decode b_GlyphPositionsModel_checkJoins 65 = .ok (.iinc 4 1, 3) := by decide +kernel
theorem d_GlyphPositionsModel_checkJoins_68 : decode b_GlyphPositionsModel_checkJoins 68 = .ok (.goto (-36), 3) := by decide +kernel
theorem d_GlyphPositionsModel_checkJoins_71 : decode b_GlyphPositionsModel_checkJoins 71 = .ok (.return_, 1) := by decide +kernel
abbrev b_GlyphPositionsModel_bitsAt : ByteArray := prog_12_method_23_code
def y_GlyphPositionsModel_bitsAt : MethodName := ⟨R_GlyphPositionsModel, "bitsAt", "(J)I"⟩
theorem d_GlyphPositionsModel_bitsAt_0 : decode b_GlyphPositionsModel_bitsAt 0 = .ok (.aload_n 0, 1) := by decide +kernel
theorem d_GlyphPositionsModel_bitsAt_1 : decode b_GlyphPositionsModel_bitsAt 1 = .ok (.lload_n 1, 1) := by decide +kernel
theorem d_GlyphPositionsModel_bitsAt_2 : decode b_GlyphPositionsModel_bitsAt 2 = .ok (.invokevirtual 103, 3) := by decide +kernel
theorem d_GlyphPositionsModel_bitsAt_5 : decode b_GlyphPositionsModel_bitsAt 5 = .ok (.istore_n 3, 1) := by decide +kernel
theorem d_GlyphPositionsModel_bitsAt_6 : decode b_GlyphPositionsModel_bitsAt 6 = .ok (.aload_n 0, 1) := by decide +kernel
theorem d_GlyphPositionsModel_bitsAt_7 : decode b_GlyphPositionsModel_bitsAt 7 = .ok (.iload_n 3, 1) := by decide +kernel
theorem d_GlyphPositionsModel_bitsAt_8 : decode b_GlyphPositionsModel_bitsAt 8 = .ok (.sipush 256, 3) := by decide +kernel
theorem d_GlyphPositionsModel_bitsAt_11 : decode b_GlyphPositionsModel_bitsAt 11 = .ok (.if_icmp .ge 7, 3) := by decide +kernel
theorem d_GlyphPositionsModel_bitsAt_14 : decode b_GlyphPositionsModel_bitsAt 14 = .ok (.iconst 1, 1) := by decide +kernel
theorem d_GlyphPositionsModel_bitsAt_15 : decode b_GlyphPositionsModel_bitsAt 15 = .ok (.goto 4, 3) := by decide +kernel
theorem d_GlyphPositionsModel_bitsAt_18 : decode b_GlyphPositionsModel_bitsAt 18 = .ok (.iconst 0, 1) := by decide +kernel
theorem d_GlyphPositionsModel_bitsAt_19 : decode b_GlyphPositionsModel_bitsAt 19 = .ok (.invokevirtual 95, 3) := by decide +kernel
theorem d_GlyphPositionsModel_bitsAt_22 : decode b_GlyphPositionsModel_bitsAt 22 = .ok (.iload_n 3, 1) := by decide +kernel
theorem d_GlyphPositionsModel_bitsAt_23 : decode b_GlyphPositionsModel_bitsAt 23 = .ok (.sipush 255, 3) := by decide +kernel
theorem d_GlyphPositionsModel_bitsAt_26 : decode b_GlyphPositionsModel_bitsAt 26 = .ok (.iand, 1) := by decide +kernel
theorem d_GlyphPositionsModel_bitsAt_27 : decode b_GlyphPositionsModel_bitsAt 27 = .ok (.ireturn, 1) := by decide +kernel
abbrev b_GlyphPositionsModel_sizeOf : ByteArray := prog_12_method_22_code
def y_GlyphPositionsModel_sizeOf : MethodName := ⟨R_GlyphPositionsModel, "sizeOf", "(I)I"⟩
theorem d_GlyphPositionsModel_sizeOf_0 : decode b_GlyphPositionsModel_sizeOf 0 = .ok (.iconst 0, 1) := by decide +kernel
theorem d_GlyphPositionsModel_sizeOf_1 : decode b_GlyphPositionsModel_sizeOf 1 = .ok (.istore_n 1, 1) := by decide +kernel
theorem d_GlyphPositionsModel_sizeOf_2 : decode b_GlyphPositionsModel_sizeOf 2 = .ok (.iconst 0, 1) := by decide +kernel
theorem d_GlyphPositionsModel_sizeOf_3 : decode b_GlyphPositionsModel_sizeOf 3 = .ok (.istore_n 2, 1) := by decide +kernel
theorem d_GlyphPositionsModel_sizeOf_4 : decode b_GlyphPositionsModel_sizeOf 4 = .ok (.iload_n 2, 1) := by decide +kernel
theorem d_GlyphPositionsModel_sizeOf_5 : decode b_GlyphPositionsModel_sizeOf 5 = .ok (.bipush 8, 2) := by decide +kernel
theorem d_GlyphPositionsModel_sizeOf_7 : decode b_GlyphPositionsModel_sizeOf 7 = .ok (.if_icmp .ge 19, 3) := by decide +kernel
theorem d_GlyphPositionsModel_sizeOf_10 : decode b_GlyphPositionsModel_sizeOf 10 = .ok (.iload_n 1, 1) := by decide +kernel
theorem d_GlyphPositionsModel_sizeOf_11 : decode b_GlyphPositionsModel_sizeOf 11 = .ok (.iconst 2, 1) := by decide +kernel
theorem d_GlyphPositionsModel_sizeOf_12 : decode b_GlyphPositionsModel_sizeOf 12 = .ok (.iload_n 0, 1) := by decide +kernel
theorem d_GlyphPositionsModel_sizeOf_13 : decode b_GlyphPositionsModel_sizeOf 13 = .ok (.iload_n 2, 1) := by decide +kernel
theorem d_GlyphPositionsModel_sizeOf_14 : decode b_GlyphPositionsModel_sizeOf 14 = .ok (.ishr, 1) := by decide +kernel
theorem d_GlyphPositionsModel_sizeOf_15 : decode b_GlyphPositionsModel_sizeOf 15 = .ok (.iconst 1, 1) := by decide +kernel
theorem d_GlyphPositionsModel_sizeOf_16 : decode b_GlyphPositionsModel_sizeOf 16 = .ok (.iand, 1) := by decide +kernel
theorem d_GlyphPositionsModel_sizeOf_17 : decode b_GlyphPositionsModel_sizeOf 17 = .ok (.imul, 1) := by decide +kernel
theorem d_GlyphPositionsModel_sizeOf_18 : decode b_GlyphPositionsModel_sizeOf 18 = .ok (.iadd, 1) := by decide +kernel
theorem d_GlyphPositionsModel_sizeOf_19 : decode b_GlyphPositionsModel_sizeOf 19 = .ok (.istore_n 1, 1) := by decide +kernel
theorem d_GlyphPositionsModel_sizeOf_20 : decode b_GlyphPositionsModel_sizeOf 20 = .ok (.iinc 2 1, 3) := by decide +kernel
theorem d_GlyphPositionsModel_sizeOf_23 : decode b_GlyphPositionsModel_sizeOf 23 = .ok (.goto (-19), 3) := by decide +kernel
theorem d_GlyphPositionsModel_sizeOf_26 : decode b_GlyphPositionsModel_sizeOf 26 = .ok (.iload_n 1, 1) := by decide +kernel
theorem d_GlyphPositionsModel_sizeOf_27 : decode b_GlyphPositionsModel_sizeOf 27 = .ok (.ireturn, 1) := by decide +kernel
abbrev b_GlyphPositionsModel_checkClasses : ByteArray := prog_12_method_20_code
def y_GlyphPositionsModel_checkClasses : MethodName := ⟨R_GlyphPositionsModel, "checkClasses", "(J)V"⟩
theorem d_GlyphPositionsModel_checkClasses_0 : decode b_GlyphPositionsModel_checkClasses 0 = .ok (.aload_n 0, 1) := by decide +kernel
theorem d_GlyphPositionsModel_checkClasses_1 : decode b_GlyphPositionsModel_checkClasses 1 = .ok (.invokevirtual 138, 3) := by decide +kernel
theorem d_GlyphPositionsModel_checkClasses_4 : decode b_GlyphPositionsModel_checkClasses 4 = .ok (.aload_n 0, 1) := by decide +kernel
theorem d_GlyphPositionsModel_checkClasses_5 : decode b_GlyphPositionsModel_checkClasses 5 = .ok (.lload_n 1, 1) := by decide +kernel
theorem d_GlyphPositionsModel_checkClasses_6 : decode b_GlyphPositionsModel_checkClasses 6 = .ok (.invokevirtual 103, 3) := by decide +kernel
theorem d_GlyphPositionsModel_checkClasses_9 : decode b_GlyphPositionsModel_checkClasses 9 = .ok (.istore_n 3, 1) := by decide +kernel
theorem d_GlyphPositionsModel_checkClasses_10 : decode b_GlyphPositionsModel_checkClasses 10 = .ok (.aload_n 0, 1) := by decide +kernel
theorem d_GlyphPositionsModel_checkClasses_11 : decode b_GlyphPositionsModel_checkClasses 11 = .ok (.iload_n 3, 1) := by decide +kernel
theorem d_GlyphPositionsModel_checkClasses_12 : decode b_GlyphPositionsModel_checkClasses 12 = .ok (.iconst 1, 1) := by decide +kernel
theorem d_GlyphPositionsModel_checkClasses_13 : decode b_GlyphPositionsModel_checkClasses 13 = .ok (.if_icmp .eq 8, 3) := by decide +kernel
theorem d_GlyphPositionsModel_checkClasses_16 : decode b_GlyphPositionsModel_checkClasses 16 = .ok (.iload_n 3, 1) := by decide +kernel
theorem d_GlyphPositionsModel_checkClasses_17 : decode b_GlyphPositionsModel_checkClasses 17 = .ok (.iconst 2, 1) := by decide +kernel
theorem d_GlyphPositionsModel_checkClasses_18 : decode b_GlyphPositionsModel_checkClasses 18 = .ok (.if_icmp .ne 7, 3) := by decide +kernel
theorem d_GlyphPositionsModel_checkClasses_21 : decode b_GlyphPositionsModel_checkClasses 21 = .ok (.iconst 1, 1) := by decide +kernel
theorem d_GlyphPositionsModel_checkClasses_22 : decode b_GlyphPositionsModel_checkClasses 22 = .ok (.goto 4, 3) := by decide +kernel
theorem d_GlyphPositionsModel_checkClasses_25 : decode b_GlyphPositionsModel_checkClasses 25 = .ok (.iconst 0, 1) := by decide +kernel
theorem d_GlyphPositionsModel_checkClasses_26 : decode b_GlyphPositionsModel_checkClasses 26 = .ok (.invokevirtual 95, 3) := by decide +kernel
theorem d_GlyphPositionsModel_checkClasses_29 : decode b_GlyphPositionsModel_checkClasses 29 = .ok (.iload_n 3, 1) := by decide +kernel
theorem d_GlyphPositionsModel_checkClasses_30 : decode b_GlyphPositionsModel_checkClasses 30 = .ok (.iconst 1, 1) := by decide +kernel
theorem d_GlyphPositionsModel_checkClasses_31 : decode b_GlyphPositionsModel_checkClasses 31 = .ok (.if_icmp .ne 64, 3) := by decide +kernel
theorem d_GlyphPositionsModel_checkClasses_34 : decode b_GlyphPositionsModel_checkClasses 34 = .ok (.aload_n 0, 1) := by decide +kernel
theorem d_GlyphPositionsModel_checkClasses_35 : decode b_GlyphPositionsModel_checkClasses 35 = .ok (.lload_n 1, 1) := by decide +kernel
theorem d_GlyphPositionsModel_checkClasses_36 : decode b_GlyphPositionsModel_checkClasses 36 = .ok (.ldc2_w 107, 3) := by decide +kernel
theorem d_GlyphPositionsModel_checkClasses_39 : decode b_GlyphPositionsModel_checkClasses 39 = .ok (.ladd, 1) := by decide +kernel
theorem d_GlyphPositionsModel_checkClasses_40 : decode b_GlyphPositionsModel_checkClasses 40 = .ok (.invokevirtual 103, 3) := by decide +kernel
theorem d_GlyphPositionsModel_checkClasses_43 : decode b_GlyphPositionsModel_checkClasses 43 = .ok (.istore 4, 2) := by decide +kernel
theorem d_GlyphPositionsModel_checkClasses_45 : decode b_GlyphPositionsModel_checkClasses 45 = .ok (.aload_n 0, 1) := by decide +kernel
theorem d_GlyphPositionsModel_checkClasses_46 : decode b_GlyphPositionsModel_checkClasses 46 = .ok (.aload_n 0, 1) := by decide +kernel
theorem d_GlyphPositionsModel_checkClasses_47 : decode b_GlyphPositionsModel_checkClasses 47 = .ok (.lload_n 1, 1) := by decide +kernel
theorem d_GlyphPositionsModel_checkClasses_48 : decode b_GlyphPositionsModel_checkClasses 48 = .ok (.ldc2_w 99, 3) := by decide +kernel
theorem d_GlyphPositionsModel_checkClasses_51 : decode b_GlyphPositionsModel_checkClasses 51 = .ok (.ladd, 1) := by decide +kernel
theorem d_GlyphPositionsModel_checkClasses_52 : decode b_GlyphPositionsModel_checkClasses 52 = .ok (.invokevirtual 103, 3) := by decide +kernel
theorem d_GlyphPositionsModel_checkClasses_55 : decode b_GlyphPositionsModel_checkClasses 55 = .ok (.iload 4, 2) := by decide +kernel
theorem d_GlyphPositionsModel_checkClasses_57 : decode b_GlyphPositionsModel_checkClasses 57 = .ok (.iadd, 1) := by decide +kernel
theorem d_GlyphPositionsModel_checkClasses_58 : decode b_GlyphPositionsModel_checkClasses 58 = .ok (.ldc 141, 2) := by decide +kernel
theorem d_GlyphPositionsModel_checkClasses_60 : decode b_GlyphPositionsModel_checkClasses 60 = .ok (.if_icmp .gt 7, 3) := by decide +kernel
theorem d_GlyphPositionsModel_checkClasses_63 : decode b_GlyphPositionsModel_checkClasses 63 = .ok (.iconst 1, 1) := by decide +kernel
theorem d_GlyphPositionsModel_checkClasses_64 : decode b_GlyphPositionsModel_checkClasses 64 = .ok (.goto 4, 3) := by decide +kernel
theorem d_GlyphPositionsModel_checkClasses_67 : decode b_GlyphPositionsModel_checkClasses 67 = .ok (.iconst 0, 1) := by decide +kernel
theorem d_GlyphPositionsModel_checkClasses_68 : decode b_GlyphPositionsModel_checkClasses 68 = .ok (.invokevirtual 95, 3) := by decide +kernel
theorem d_GlyphPositionsModel_checkClasses_71 : decode b_GlyphPositionsModel_checkClasses 71 = .ok (.iload 4, 2) := by decide +kernel
theorem d_GlyphPositionsModel_checkClasses_73 : decode b_GlyphPositionsModel_checkClasses 73 = .ok (.ifCond .le 21, 3) := by decide +kernel
theorem d_GlyphPositionsModel_checkClasses_76 : decode b_GlyphPositionsModel_checkClasses 76 = .ok (.aload_n 0, 1) := by decide +kernel
theorem d_GlyphPositionsModel_checkClasses_77 : decode b_GlyphPositionsModel_checkClasses 77 = .ok (.lload_n 1, 1) := by decide +kernel
theorem d_GlyphPositionsModel_checkClasses_78 : decode b_GlyphPositionsModel_checkClasses 78 = .ok (.ldc2_w 107, 3) := by decide +kernel
theorem d_GlyphPositionsModel_checkClasses_81 : decode b_GlyphPositionsModel_checkClasses 81 = .ok (.ladd, 1) := by decide +kernel
theorem d_GlyphPositionsModel_checkClasses_82 : decode b_GlyphPositionsModel_checkClasses 82 = .ok (.ldc2_w 99, 3) := by decide +kernel
theorem d_GlyphPositionsModel_checkClasses_85 : decode b_GlyphPositionsModel_checkClasses 85 = .ok (.iload 4, 2) := by decide +kernel
theorem d_GlyphPositionsModel_checkClasses_87 : decode b_GlyphPositionsModel_checkClasses 87 = .ok (.i2l, 1) := by decide +kernel
theorem d_GlyphPositionsModel_checkClasses_88 : decode b_GlyphPositionsModel_checkClasses 88 = .ok (.lmul, 1) := by decide +kernel
theorem d_GlyphPositionsModel_checkClasses_89 : decode b_GlyphPositionsModel_checkClasses 89 = .ok (.ladd, 1) := by decide +kernel
theorem d_GlyphPositionsModel_checkClasses_90 : decode b_GlyphPositionsModel_checkClasses 90 = .ok (.invokevirtual 103, 3) := by decide +kernel
theorem d_GlyphPositionsModel_checkClasses_93 : decode b_GlyphPositionsModel_checkClasses 93 = .ok (.pop, 1) := by decide +kernel
theorem d_GlyphPositionsModel_checkClasses_94 : decode b_GlyphPositionsModel_checkClasses 94 = .ok (.return_, 1) := by decide +kernel
theorem d_GlyphPositionsModel_checkClasses_95 : decode b_GlyphPositionsModel_checkClasses 95 = .ok (.aload_n 0, 1) := by decide +kernel
theorem d_GlyphPositionsModel_checkClasses_96 : decode b_GlyphPositionsModel_checkClasses 96 = .ok (.lload_n 1, 1) := by decide +kernel
theorem d_GlyphPositionsModel_checkClasses_97 : decode b_GlyphPositionsModel_checkClasses 97 = .ok (.ldc2_w 99, 3) := by decide +kernel
theorem d_GlyphPositionsModel_checkClasses_100 : decode b_GlyphPositionsModel_checkClasses 100 = .ok (.ladd, 1) := by decide +kernel
theorem d_GlyphPositionsModel_checkClasses_101 : decode b_GlyphPositionsModel_checkClasses 101 = .ok (.invokevirtual 103, 3) := by decide +kernel
theorem d_GlyphPositionsModel_checkClasses_104 : decode b_GlyphPositionsModel_checkClasses 104 = .ok (.istore 4, 2) := by decide +kernel
theorem d_GlyphPositionsModel_checkClasses_106 : decode b_GlyphPositionsModel_checkClasses 106 = .ok (.iconst (-1), 1) := by decide +kernel
theorem d_GlyphPositionsModel_checkClasses_107 : decode b_GlyphPositionsModel_checkClasses 107 = .ok (.istore 5, 2) := by decide +kernel
theorem d_GlyphPositionsModel_checkClasses_109 : decode b_GlyphPositionsModel_checkClasses 109 = .ok (.iconst 0, 1) := by decide +kernel
theorem d_GlyphPositionsModel_checkClasses_110 : decode b_GlyphPositionsModel_checkClasses 110 = .ok (.istore 6, 2) := by decide +kernel
theorem d_GlyphPositionsModel_checkClasses_112 : decode b_GlyphPositionsModel_checkClasses 112 = .ok (.iload 6, 2) := by decide +kernel
theorem d_GlyphPositionsModel_checkClasses_114 : decode b_GlyphPositionsModel_checkClasses 114 = .ok (.iload 4, 2) := by decide +kernel
theorem d_GlyphPositionsModel_checkClasses_116 : decode b_GlyphPositionsModel_checkClasses 116 = .ok (.if_icmp .ge 99, 3) := by decide +kernel
theorem d_GlyphPositionsModel_checkClasses_119 : decode b_GlyphPositionsModel_checkClasses 119 = .ok (.aload_n 0, 1) := by decide +kernel
theorem d_GlyphPositionsModel_checkClasses_120 : decode b_GlyphPositionsModel_checkClasses 120 = .ok (.getfield 88, 3) := by decide +kernel
theorem d_GlyphPositionsModel_checkClasses_123 : decode b_GlyphPositionsModel_checkClasses 123 = .ok (.ifCond .ne 92, 3) := by decide +kernel
theorem d_GlyphPositionsModel_checkClasses_126 : decode b_GlyphPositionsModel_checkClasses 126 = .ok (.aload_n 0, 1) := by decide +kernel
theorem d_GlyphPositionsModel_checkClasses_127 : decode b_GlyphPositionsModel_checkClasses 127 = .ok (.lload_n 1, 1) := by decide +kernel
theorem d_GlyphPositionsModel_checkClasses_128 : decode b_GlyphPositionsModel_checkClasses 128 = .ok (.ldc2_w 107, 3) := by decide +kernel
theorem d_GlyphPositionsModel_checkClasses_131 : decode b_GlyphPositionsModel_checkClasses 131 = .ok (.ladd, 1) := by decide +kernel
theorem d_GlyphPositionsModel_checkClasses_132 : decode b_GlyphPositionsModel_checkClasses 132 = .ok (.ldc2_w 109, 3) := by decide +kernel
theorem d_GlyphPositionsModel_checkClasses_135 : decode b_GlyphPositionsModel_checkClasses 135 = .ok (.iload 6, 2) := by decide +kernel
theorem d_GlyphPositionsModel_checkClasses_137 : decode b_GlyphPositionsModel_checkClasses 137 = .ok (.i2l, 1) := by decide +kernel
theorem d_GlyphPositionsModel_checkClasses_138 : decode b_GlyphPositionsModel_checkClasses 138 = .ok (.lmul, 1) := by decide +kernel
theorem d_GlyphPositionsModel_checkClasses_139 : decode b_GlyphPositionsModel_checkClasses 139 = .ok (.ladd, 1) := by decide +kernel
theorem d_GlyphPositionsModel_checkClasses_140 : decode b_GlyphPositionsModel_checkClasses 140 = .ok (.invokevirtual 103, 3) := by decide +kernel
theorem d_GlyphPositionsModel_checkClasses_143 : decode b_GlyphPositionsModel_checkClasses 143 = .ok (.istore 7, 2) := by decide +kernel
theorem d_GlyphPositionsModel_checkClasses_145 : decode b_GlyphPositionsModel_checkClasses 145 = .ok (.aload_n 0, 1) := by decide +kernel
theorem d_GlyphPositionsModel_checkClasses_146 : decode b_GlyphPositionsModel_checkClasses 146 = .ok (.lload_n 1, 1) := by decide +kernel
theorem d_GlyphPositionsModel_checkClasses_147 : decode b_GlyphPositionsModel_checkClasses 147 = .ok (.ldc2_w 109, 3) := by decide +kernel
theorem d_GlyphPositionsModel_checkClasses_150 : decode b_GlyphPositionsModel_checkClasses 150 = .ok (.ladd, 1) := by decide +kernel
theorem d_GlyphPositionsModel_checkClasses_151 : decode b_GlyphPositionsModel_checkClasses 151 = .ok (.ldc2_w 109, 3) := by decide +kernel
theorem d_GlyphPositionsModel_checkClasses_154 : decode b_GlyphPositionsModel_checkClasses 154 = .ok (.iload 6, 2) := by decide +kernel
theorem d_GlyphPositionsModel_checkClasses_156 : decode b_GlyphPositionsModel_checkClasses 156 = .ok (.i2l, 1) := by decide +kernel
theorem d_GlyphPositionsModel_checkClasses_157 : decode b_GlyphPositionsModel_checkClasses 157 = .ok (.lmul, 1) := by decide +kernel
theorem d_GlyphPositionsModel_checkClasses_158 : decode b_GlyphPositionsModel_checkClasses 158 = .ok (.ladd, 1) := by decide +kernel
theorem d_GlyphPositionsModel_checkClasses_159 : decode b_GlyphPositionsModel_checkClasses 159 = .ok (.invokevirtual 103, 3) := by decide +kernel
theorem d_GlyphPositionsModel_checkClasses_162 : decode b_GlyphPositionsModel_checkClasses 162 = .ok (.istore 8, 2) := by decide +kernel
theorem d_GlyphPositionsModel_checkClasses_164 : decode b_GlyphPositionsModel_checkClasses 164 = .ok (.aload_n 0, 1) := by decide +kernel
theorem d_GlyphPositionsModel_checkClasses_165 : decode b_GlyphPositionsModel_checkClasses 165 = .ok (.lload_n 1, 1) := by decide +kernel
theorem d_GlyphPositionsModel_checkClasses_166 : decode b_GlyphPositionsModel_checkClasses 166 = .ok (.ldc2_w 111, 3) := by decide +kernel
theorem d_GlyphPositionsModel_checkClasses_169 : decode b_GlyphPositionsModel_checkClasses 169 = .ok (.ladd, 1) := by decide +kernel
theorem d_GlyphPositionsModel_checkClasses_170 : decode b_GlyphPositionsModel_checkClasses 170 = .ok (.ldc2_w 109, 3) := by decide +kernel
theorem d_GlyphPositionsModel_checkClasses_173 : decode b_GlyphPositionsModel_checkClasses 173 = .ok (.iload 6, 2) := by decide +kernel
theorem d_GlyphPositionsModel_checkClasses_175 : decode b_GlyphPositionsModel_checkClasses 175 = .ok (.i2l, 1) := by decide +kernel
theorem d_GlyphPositionsModel_checkClasses_176 : decode b_GlyphPositionsModel_checkClasses 176 = .ok (.lmul, 1) := by decide +kernel
theorem d_GlyphPositionsModel_checkClasses_177 : decode b_GlyphPositionsModel_checkClasses 177 = .ok (.ladd, 1) := by decide +kernel
theorem d_GlyphPositionsModel_checkClasses_178 : decode b_GlyphPositionsModel_checkClasses 178 = .ok (.invokevirtual 103, 3) := by decide +kernel
theorem d_GlyphPositionsModel_checkClasses_181 : decode b_GlyphPositionsModel_checkClasses 181 = .ok (.pop, 1) := by decide +kernel
theorem d_GlyphPositionsModel_checkClasses_182 : decode b_GlyphPositionsModel_checkClasses 182 = .ok (.aload_n 0, 1) := by decide +kernel
theorem d_GlyphPositionsModel_checkClasses_183 : decode b_GlyphPositionsModel_checkClasses 183 = .ok (.iload 7, 2) := by decide +kernel
theorem d_GlyphPositionsModel_checkClasses_185 : decode b_GlyphPositionsModel_checkClasses 185 = .ok (.iload 5, 2) := by decide +kernel
theorem d_GlyphPositionsModel_checkClasses_187 : decode b_GlyphPositionsModel_checkClasses 187 = .ok (.if_icmp .le 14, 3) := by decide +kernel
theorem d_GlyphPositionsModel_checkClasses_190 : decode b_GlyphPositionsModel_checkClasses 190 = .ok (.iload 7, 2) := by decide +kernel
theorem d_GlyphPositionsModel_checkClasses_192 : decode b_GlyphPositionsModel_checkClasses 192 = .ok (.iload 8, 2) := by decide +kernel
theorem d_GlyphPositionsModel_checkClasses_194 : decode b_GlyphPositionsModel_checkClasses 194 = .ok (.if_icmp .gt 7, 3) := by decide +kernel
theorem d_GlyphPositionsModel_checkClasses_197 : decode b_GlyphPositionsModel_checkClasses 197 = .ok (.iconst 1, 1) := by decide +kernel
theorem d_GlyphPositionsModel_checkClasses_198 : decode b_GlyphPositionsModel_checkClasses 198 = .ok (.goto 4, 3) := by decide +kernel
theorem d_GlyphPositionsModel_checkClasses_201 : decode b_GlyphPositionsModel_checkClasses 201 = .ok (.iconst 0, 1) := by decide +kernel
theorem d_GlyphPositionsModel_checkClasses_202 : decode b_GlyphPositionsModel_checkClasses 202 = .ok (.invokevirtual 95, 3) := by decide +kernel
theorem d_GlyphPositionsModel_checkClasses_205 : decode b_GlyphPositionsModel_checkClasses 205 = .ok (.iload 8, 2) := by decide +kernel
theorem d_GlyphPositionsModel_checkClasses_207 : decode b_GlyphPositionsModel_checkClasses 207 = .ok (.istore 5, 2) := by decide +kernel
theorem d_GlyphPositionsModel_checkClasses_209 : decode b_GlyphPositionsModel_checkClasses 209 = .ok (.iinc 6 1, 3) := by decide +kernel
theorem d_GlyphPositionsModel_checkClasses_212 : decode b_GlyphPositionsModel_checkClasses 212 = .ok (.goto (-100), 3) := by decide +kernel
theorem d_GlyphPositionsModel_checkClasses_215 : decode b_GlyphPositionsModel_checkClasses 215 = .ok (.return_, 1) := by decide +kernel
abbrev b_GlyphPositionsModel_reach : ByteArray := prog_12_method_24_code
def y_GlyphPositionsModel_reach : MethodName := ⟨R_GlyphPositionsModel, "reach", "(JJ)V"⟩
theorem d_GlyphPositionsModel_reach_0 : decode b_GlyphPositionsModel_reach 0 = .ok (.aload_n 0, 1) := by decide +kernel
theorem d_GlyphPositionsModel_reach_1 : decode b_GlyphPositionsModel_reach 1 = .ok (.lload_n 3, 1) := by decide +kernel
theorem d_GlyphPositionsModel_reach_2 : decode b_GlyphPositionsModel_reach 2 = .ok (.lconst 0, 1) := by decide +kernel
theorem d_GlyphPositionsModel_reach_3 : decode b_GlyphPositionsModel_reach 3 = .ok (.lcmp, 1) := by decide +kernel
theorem d_GlyphPositionsModel_reach_4 : decode b_GlyphPositionsModel_reach 4 = .ok (.ifCond .eq 15, 3) := by decide +kernel
theorem d_GlyphPositionsModel_reach_7 : decode b_GlyphPositionsModel_reach 7 = .ok (.lload_n 1, 1) := by decide +kernel
theorem d_GlyphPositionsModel_reach_8 : decode b_GlyphPositionsModel_reach 8 = .ok (.lload_n 3, 1) := by decide +kernel
theorem d_GlyphPositionsModel_reach_9 : decode b_GlyphPositionsModel_reach 9 = .ok (.ladd, 1) := by decide +kernel
theorem d_GlyphPositionsModel_reach_10 : decode b_GlyphPositionsModel_reach 10 = .ok (.aload_n 0, 1) := by decide +kernel
theorem d_GlyphPositionsModel_reach_11 : decode b_GlyphPositionsModel_reach 11 = .ok (.getfield 81, 3) := by decide +kernel
theorem d_GlyphPositionsModel_reach_14 : decode b_GlyphPositionsModel_reach 14 = .ok (.i2l, 1) := by decide +kernel
theorem d_GlyphPositionsModel_reach_15 : decode b_GlyphPositionsModel_reach 15 = .ok (.lcmp, 1) := by decide +kernel
theorem d_GlyphPositionsModel_reach_16 : decode b_GlyphPositionsModel_reach 16 = .ok (.ifCond .gt 7, 3) := by decide +kernel
theorem d_GlyphPositionsModel_reach_19 : decode b_GlyphPositionsModel_reach 19 = .ok (.iconst 1, 1) := by decide +kernel
theorem d_GlyphPositionsModel_reach_20 : decode b_GlyphPositionsModel_reach 20 = .ok (.goto 4, 3) := by decide +kernel
theorem d_GlyphPositionsModel_reach_23 : decode b_GlyphPositionsModel_reach 23 = .ok (.iconst 0, 1) := by decide +kernel
theorem d_GlyphPositionsModel_reach_24 : decode b_GlyphPositionsModel_reach 24 = .ok (.invokevirtual 95, 3) := by decide +kernel
theorem d_GlyphPositionsModel_reach_27 : decode b_GlyphPositionsModel_reach 27 = .ok (.return_, 1) := by decide +kernel
abbrev b_GlyphPositionsModel_checkPairSet : ByteArray := prog_12_method_28_code
def y_GlyphPositionsModel_checkPairSet : MethodName := ⟨R_GlyphPositionsModel, "checkPairSet", "(JI)V"⟩
theorem d_GlyphPositionsModel_checkPairSet_0 : decode b_GlyphPositionsModel_checkPairSet 0 = .ok (.aload_n 0, 1) := by decide +kernel
theorem d_GlyphPositionsModel_checkPairSet_1 : decode b_GlyphPositionsModel_checkPairSet 1 = .ok (.invokevirtual 138, 3) := by decide +kernel
theorem d_GlyphPositionsModel_checkPairSet_4 : decode b_GlyphPositionsModel_checkPairSet 4 = .ok (.aload_n 0, 1) := by decide +kernel
theorem d_GlyphPositionsModel_checkPairSet_5 : decode b_GlyphPositionsModel_checkPairSet 5 = .ok (.lload_n 1, 1) := by decide +kernel
theorem d_GlyphPositionsModel_checkPairSet_6 : decode b_GlyphPositionsModel_checkPairSet 6 = .ok (.sipush 256, 3) := by decide +kernel
theorem d_GlyphPositionsModel_checkPairSet_9 : decode b_GlyphPositionsModel_checkPairSet 9 = .ok (.invokevirtual 118, 3) := by decide +kernel
theorem d_GlyphPositionsModel_checkPairSet_12 : decode b_GlyphPositionsModel_checkPairSet 12 = .ok (.istore 4, 2) := by decide +kernel
theorem d_GlyphPositionsModel_checkPairSet_14 : decode b_GlyphPositionsModel_checkPairSet 14 = .ok (.iconst (-1), 1) := by decide +kernel
theorem d_GlyphPositionsModel_checkPairSet_15 : decode b_GlyphPositionsModel_checkPairSet 15 = .ok (.istore 5, 2) := by decide +kernel
theorem d_GlyphPositionsModel_checkPairSet_17 : decode b_GlyphPositionsModel_checkPairSet 17 = .ok (.iconst 0, 1) := by decide +kernel
theorem d_GlyphPositionsModel_checkPairSet_18 : decode b_GlyphPositionsModel_checkPairSet 18 = .ok (.istore 6, 2) := by decide +kernel
theorem d_GlyphPositionsModel_checkPairSet_20 : decode b_GlyphPositionsModel_checkPairSet 20 = .ok (.iload 6, 2) := by decide +kernel
theorem d_GlyphPositionsModel_checkPairSet_22 : decode b_GlyphPositionsModel_checkPairSet 22 = .ok (.iload 4, 2) := by decide +kernel
theorem d_GlyphPositionsModel_checkPairSet_24 : decode b_GlyphPositionsModel_checkPairSet 24 = .ok (.if_icmp .ge 74, 3) := by decide +kernel
theorem d_GlyphPositionsModel_checkPairSet_27 : decode b_GlyphPositionsModel_checkPairSet 27 = .ok (.aload_n 0, 1) := by decide +kernel
theorem d_GlyphPositionsModel_checkPairSet_28 : decode b_GlyphPositionsModel_checkPairSet 28 = .ok (.getfield 88, 3) := by decide +kernel
theorem d_GlyphPositionsModel_checkPairSet_31 : decode b_GlyphPositionsModel_checkPairSet 31 = .ok (.ifCond .ne 67, 3) := by decide +kernel
theorem d_GlyphPositionsModel_checkPairSet_34 : decode b_GlyphPositionsModel_checkPairSet 34 = .ok (.lload_n 1, 1) := by decide +kernel
theorem d_GlyphPositionsModel_checkPairSet_35 : decode b_GlyphPositionsModel_checkPairSet 35 = .ok (.ldc2_w 99, 3) := by decide +kernel
theorem d_GlyphPositionsModel_checkPairSet_38 : decode b_GlyphPositionsModel_checkPairSet 38 = .ok (.ladd, 1) := by decide +kernel
theorem d_GlyphPositionsModel_checkPairSet_39 : decode b_GlyphPositionsModel_checkPairSet 39 = .ok (.ldc2_w 99, 3) := by decide +kernel
theorem d_GlyphPositionsModel_checkPairSet_42 : decode b_GlyphPositionsModel_checkPairSet 42 = .ok (.iload_n 3, 1) := by decide +kernel
theorem d_GlyphPositionsModel_checkPairSet_43 : decode b_GlyphPositionsModel_checkPairSet 43 = .ok (.i2l, 1) := by decide +kernel
theorem d_GlyphPositionsModel_checkPairSet_44 : decode b_GlyphPositionsModel_checkPairSet 44 = .ok (.ladd, 1) := by decide +kernel
theorem d_GlyphPositionsModel_checkPairSet_45 : decode b_GlyphPositionsModel_checkPairSet 45 = .ok (.iload 6, 2) := by decide +kernel
theorem d_GlyphPositionsModel_checkPairSet_47 : decode b_GlyphPositionsModel_checkPairSet 47 = .ok (.i2l, 1) := by decide +kernel
theorem d_GlyphPositionsModel_checkPairSet_48 : decode b_GlyphPositionsModel_checkPairSet 48 = .ok (.lmul, 1) := by decide +kernel
theorem d_GlyphPositionsModel_checkPairSet_49 : decode b_GlyphPositionsModel_checkPairSet 49 = .ok (.ladd, 1) := by decide +kernel
theorem d_GlyphPositionsModel_checkPairSet_50 : decode b_GlyphPositionsModel_checkPairSet 50 = .ok (.lstore 7, 2) := by decide +kernel
theorem d_GlyphPositionsModel_checkPairSet_52 : decode b_GlyphPositionsModel_checkPairSet 52 = .ok (.aload_n 0, 1) := by decide +kernel
theorem d_GlyphPositionsModel_checkPairSet_53 : decode b_GlyphPositionsModel_checkPairSet 53 = .ok (.lload 7, 2) := by decide +kernel
theorem d_GlyphPositionsModel_checkPairSet_55 : decode b_GlyphPositionsModel_checkPairSet 55 = .ok (.invokevirtual 103, 3) := by decide +kernel
theorem d_GlyphPositionsModel_checkPairSet_58 : decode b_GlyphPositionsModel_checkPairSet 58 = .ok (.istore 9, 2) := by decide +kernel
theorem d_GlyphPositionsModel_checkPairSet_60 : decode b_GlyphPositionsModel_checkPairSet 60 = .ok (.aload_n 0, 1) := by decide +kernel
theorem d_GlyphPositionsModel_checkPairSet_61 : decode b_GlyphPositionsModel_checkPairSet 61 = .ok (.iload 9, 2) := by decide +kernel
theorem d_GlyphPositionsModel_checkPairSet_63 : decode b_GlyphPositionsModel_checkPairSet 63 = .ok (.iload 5, 2) := by decide +kernel
theorem d_GlyphPositionsModel_checkPairSet_65 : decode b_GlyphPositionsModel_checkPairSet 65 = .ok (.if_icmp .le 7, 3) := by decide +kernel
theorem d_GlyphPositionsModel_checkPairSet_68 : decode b_GlyphPositionsModel_checkPairSet 68 = .ok (.iconst 1, 1) := by decide +kernel
theorem d_GlyphPositionsModel_checkPairSet_69 : decode b_GlyphPositionsModel_checkPairSet 69 = .ok (.goto 4, 3) := by decide +kernel
theorem d_GlyphPositionsModel_checkPairSet_72 : decode b_GlyphPositionsModel_checkPairSet 72 = .ok (.iconst 0, 1) := by decide +kernel
theorem d_GlyphPositionsModel_checkPairSet_73 : decode b_GlyphPositionsModel_checkPairSet 73 = .ok (.invokevirtual 95, 3) := by decide +kernel
theorem d_GlyphPositionsModel_checkPairSet_76 : decode b_GlyphPositionsModel_checkPairSet 76 = .ok (.iload 9, 2) := by decide +kernel
theorem d_GlyphPositionsModel_checkPairSet_78 : decode b_GlyphPositionsModel_checkPairSet 78 = .ok (.istore 5, 2) := by decide +kernel
theorem d_GlyphPositionsModel_checkPairSet_80 : decode b_GlyphPositionsModel_checkPairSet 80 = .ok (.aload_n 0, 1) := by decide +kernel
theorem d_GlyphPositionsModel_checkPairSet_81 : decode b_GlyphPositionsModel_checkPairSet 81 = .ok (.lload 7, 2) := by decide +kernel
theorem d_GlyphPositionsModel_checkPairSet_83 : decode b_GlyphPositionsModel_checkPairSet 83 = .ok (.ldc2_w 99, 3) := by decide +kernel
theorem d_GlyphPositionsModel_checkPairSet_86 : decode b_GlyphPositionsModel_checkPairSet 86 = .ok (.ladd, 1) := by decide +kernel
theorem d_GlyphPositionsModel_checkPairSet_87 : decode b_GlyphPositionsModel_checkPairSet 87 = .ok (.iload_n 3, 1) := by decide +kernel
theorem d_GlyphPositionsModel_checkPairSet_88 : decode b_GlyphPositionsModel_checkPairSet 88 = .ok (.i2l, 1) := by decide +kernel
theorem d_GlyphPositionsModel_checkPairSet_89 : decode b_GlyphPositionsModel_checkPairSet 89 = .ok (.invokevirtual 152, 3) := by decide +kernel
theorem d_GlyphPositionsModel_checkPairSet_92 : decode b_GlyphPositionsModel_checkPairSet 92 = .ok (.iinc 6 1, 3) := by decide +kernel
theorem d_GlyphPositionsModel_checkPairSet_95 : decode b_GlyphPositionsModel_checkPairSet 95 = .ok (.goto (-75), 3) := by decide +kernel
theorem d_GlyphPositionsModel_checkPairSet_98 : decode b_GlyphPositionsModel_checkPairSet 98 = .ok (.return_, 1) := by decide +kernel
abbrev b_GlyphPositionsModel_checkPairs : ByteArray := prog_12_method_27_code
def y_GlyphPositionsModel_checkPairs : MethodName := ⟨R_GlyphPositionsModel, "checkPairs", "(J)V"⟩
theorem d_GlyphPositionsModel_checkPairs_0 : decode b_GlyphPositionsModel_checkPairs 0 = .ok (.aload_n 0, 1) := by decide +kernel
theorem d_GlyphPositionsModel_checkPairs_1 : decode b_GlyphPositionsModel_checkPairs 1 = .ok (.lload_n 1, 1) := by decide +kernel
theorem d_GlyphPositionsModel_checkPairs_2 : decode b_GlyphPositionsModel_checkPairs 2 = .ok (.invokevirtual 103, 3) := by decide +kernel
theorem d_GlyphPositionsModel_checkPairs_5 : decode b_GlyphPositionsModel_checkPairs 5 = .ok (.istore_n 3, 1) := by decide +kernel
theorem d_GlyphPositionsModel_checkPairs_6 : decode b_GlyphPositionsModel_checkPairs 6 = .ok (.aload_n 0, 1) := by decide +kernel
theorem d_GlyphPositionsModel_checkPairs_7 : decode b_GlyphPositionsModel_checkPairs 7 = .ok (.iload_n 3, 1) := by decide +kernel
theorem d_GlyphPositionsModel_checkPairs_8 : decode b_GlyphPositionsModel_checkPairs 8 = .ok (.iconst 1, 1) := by decide +kernel
theorem d_GlyphPositionsModel_checkPairs_9 : decode b_GlyphPositionsModel_checkPairs 9 = .ok (.if_icmp .eq 8, 3) := by decide +kernel
theorem d_GlyphPositionsModel_checkPairs_12 : decode b_GlyphPositionsModel_checkPairs 12 = .ok (.iload_n 3, 1) := by decide +kernel
theorem d_GlyphPositionsModel_checkPairs_13 : decode b_GlyphPositionsModel_checkPairs 13 = .ok (.iconst 2, 1) := by decide +kernel
theorem d_GlyphPositionsModel_checkPairs_14 : decode b_GlyphPositionsModel_checkPairs 14 = .ok (.if_icmp .ne 7, 3) := by decide +kernel
theorem d_GlyphPositionsModel_checkPairs_17 : decode b_GlyphPositionsModel_checkPairs 17 = .ok (.iconst 1, 1) := by decide +kernel
theorem d_GlyphPositionsModel_checkPairs_18 : decode b_GlyphPositionsModel_checkPairs 18 = .ok (.goto 4, 3) := by decide +kernel
theorem d_GlyphPositionsModel_checkPairs_21 : decode b_GlyphPositionsModel_checkPairs 21 = .ok (.iconst 0, 1) := by decide +kernel
theorem d_GlyphPositionsModel_checkPairs_22 : decode b_GlyphPositionsModel_checkPairs 22 = .ok (.invokevirtual 95, 3) := by decide +kernel
theorem d_GlyphPositionsModel_checkPairs_25 : decode b_GlyphPositionsModel_checkPairs 25 = .ok (.aload_n 0, 1) := by decide +kernel
theorem d_GlyphPositionsModel_checkPairs_26 : decode b_GlyphPositionsModel_checkPairs 26 = .ok (.lload_n 1, 1) := by decide +kernel
theorem d_GlyphPositionsModel_checkPairs_27 : decode b_GlyphPositionsModel_checkPairs 27 = .ok (.ldc2_w 107, 3) := by decide +kernel
theorem d_GlyphPositionsModel_checkPairs_30 : decode b_GlyphPositionsModel_checkPairs 30 = .ok (.ladd, 1) := by decide +kernel
theorem d_GlyphPositionsModel_checkPairs_31 : decode b_GlyphPositionsModel_checkPairs 31 = .ok (.invokevirtual 145, 3) := by decide +kernel
theorem d_GlyphPositionsModel_checkPairs_34 : decode b_GlyphPositionsModel_checkPairs 34 = .ok (.invokestatic 148, 3) := by decide +kernel
theorem d_GlyphPositionsModel_checkPairs_37 : decode b_GlyphPositionsModel_checkPairs 37 = .ok (.aload_n 0, 1) := by decide +kernel
theorem d_GlyphPositionsModel_checkPairs_38 : decode b_GlyphPositionsModel_checkPairs 38 = .ok (.lload_n 1, 1) := by decide +kernel
theorem d_GlyphPositionsModel_checkPairs_39 : decode b_GlyphPositionsModel_checkPairs 39 = .ok (.ldc2_w 109, 3) := by decide +kernel
theorem d_GlyphPositionsModel_checkPairs_42 : decode b_GlyphPositionsModel_checkPairs 42 = .ok (.ladd, 1) := by decide +kernel
theorem d_GlyphPositionsModel_checkPairs_43 : decode b_GlyphPositionsModel_checkPairs 43 = .ok (.invokevirtual 145, 3) := by decide +kernel
theorem d_GlyphPositionsModel_checkPairs_46 : decode b_GlyphPositionsModel_checkPairs 46 = .ok (.invokestatic 148, 3) := by decide +kernel
theorem d_GlyphPositionsModel_checkPairs_49 : decode b_GlyphPositionsModel_checkPairs 49 = .ok (.iadd, 1) := by decide +kernel
theorem d_GlyphPositionsModel_checkPairs_50 : decode b_GlyphPositionsModel_checkPairs 50 = .ok (.istore 4, 2) := by decide +kernel
theorem d_GlyphPositionsModel_checkPairs_52 : decode b_GlyphPositionsModel_checkPairs 52 = .ok (.iload_n 3, 1) := by decide +kernel
theorem d_GlyphPositionsModel_checkPairs_53 : decode b_GlyphPositionsModel_checkPairs 53 = .ok (.iconst 1, 1) := by decide +kernel
theorem d_GlyphPositionsModel_checkPairs_54 : decode b_GlyphPositionsModel_checkPairs 54 = .ok (.if_icmp .ne 67, 3) := by decide +kernel
theorem d_GlyphPositionsModel_checkPairs_57 : decode b_GlyphPositionsModel_checkPairs 57 = .ok (.aload_n 0, 1) := by decide +kernel
theorem d_GlyphPositionsModel_checkPairs_58 : decode b_GlyphPositionsModel_checkPairs 58 = .ok (.lload_n 1, 1) := by decide +kernel
theorem d_GlyphPositionsModel_checkPairs_59 : decode b_GlyphPositionsModel_checkPairs 59 = .ok (.lload_n 1, 1) := by decide +kernel
theorem d_GlyphPositionsModel_checkPairs_60 : decode b_GlyphPositionsModel_checkPairs 60 = .ok (.ldc2_w 111, 3) := by decide +kernel
theorem d_GlyphPositionsModel_checkPairs_63 : decode b_GlyphPositionsModel_checkPairs 63 = .ok (.ladd, 1) := by decide +kernel
theorem d_GlyphPositionsModel_checkPairs_64 : decode b_GlyphPositionsModel_checkPairs 64 = .ok (.invokevirtual 156, 3) := by decide +kernel
theorem d_GlyphPositionsModel_checkPairs_67 : decode b_GlyphPositionsModel_checkPairs 67 = .ok (.istore 5, 2) := by decide +kernel
theorem d_GlyphPositionsModel_checkPairs_69 : decode b_GlyphPositionsModel_checkPairs 69 = .ok (.iconst 0, 1) := by decide +kernel
theorem d_GlyphPositionsModel_checkPairs_70 : decode b_GlyphPositionsModel_checkPairs 70 = .ok (.istore 6, 2) := by decide +kernel
theorem d_GlyphPositionsModel_checkPairs_72 : decode b_GlyphPositionsModel_checkPairs 72 = .ok (.iload 6, 2) := by decide +kernel
theorem d_GlyphPositionsModel_checkPairs_74 : decode b_GlyphPositionsModel_checkPairs 74 = .ok (.iload 5, 2) := by decide +kernel
theorem d_GlyphPositionsModel_checkPairs_76 : decode b_GlyphPositionsModel_checkPairs 76 = .ok (.if_icmp .ge 42, 3) := by decide +kernel
theorem d_GlyphPositionsModel_checkPairs_79 : decode b_GlyphPositionsModel_checkPairs 79 = .ok (.aload_n 0, 1) := by decide +kernel
theorem d_GlyphPositionsModel_checkPairs_80 : decode b_GlyphPositionsModel_checkPairs 80 = .ok (.getfield 88, 3) := by decide +kernel
theorem d_GlyphPositionsModel_checkPairs_83 : decode b_GlyphPositionsModel_checkPairs 83 = .ok (.ifCond .ne 35, 3) := by decide +kernel
theorem d_GlyphPositionsModel_checkPairs_86 : decode b_GlyphPositionsModel_checkPairs 86 = .ok (.aload_n 0, 1) := by decide +kernel
theorem d_GlyphPositionsModel_checkPairs_87 : decode b_GlyphPositionsModel_checkPairs 87 = .ok (.lload_n 1, 1) := by decide +kernel
theorem d_GlyphPositionsModel_checkPairs_88 : decode b_GlyphPositionsModel_checkPairs 88 = .ok (.aload_n 0, 1) := by decide +kernel
theorem d_GlyphPositionsModel_checkPairs_89 : decode b_GlyphPositionsModel_checkPairs 89 = .ok (.lload_n 1, 1) := by decide +kernel
theorem d_GlyphPositionsModel_checkPairs_90 : decode b_GlyphPositionsModel_checkPairs 90 = .ok (.ldc2_w 160, 3) := by decide +kernel
theorem d_GlyphPositionsModel_checkPairs_93 : decode b_GlyphPositionsModel_checkPairs 93 = .ok (.ladd, 1) := by decide +kernel
theorem d_GlyphPositionsModel_checkPairs_94 : decode b_GlyphPositionsModel_checkPairs 94 = .ok (.ldc2_w 99, 3) := by decide +kernel
theorem d_GlyphPositionsModel_checkPairs_97 : decode b_GlyphPositionsModel_checkPairs 97 = .ok (.iload 6, 2) := by decide +kernel
theorem d_GlyphPositionsModel_checkPairs_99 : decode b_GlyphPositionsModel_checkPairs 99 = .ok (.i2l, 1) := by decide +kernel
theorem d_GlyphPositionsModel_checkPairs_100 : decode b_GlyphPositionsModel_checkPairs 100 = .ok (.lmul, 1) := by decide +kernel
theorem d_GlyphPositionsModel_checkPairs_101 : decode b_GlyphPositionsModel_checkPairs 101 = .ok (.ladd, 1) := by decide +kernel
theorem d_GlyphPositionsModel_checkPairs_102 : decode b_GlyphPositionsModel_checkPairs 102 = .ok (.invokevirtual 103, 3) := by decide +kernel
theorem d_GlyphPositionsModel_checkPairs_105 : decode b_GlyphPositionsModel_checkPairs 105 = .ok (.i2l, 1) := by decide +kernel
theorem d_GlyphPositionsModel_checkPairs_106 : decode b_GlyphPositionsModel_checkPairs 106 = .ok (.ladd, 1) := by decide +kernel
theorem d_GlyphPositionsModel_checkPairs_107 : decode b_GlyphPositionsModel_checkPairs 107 = .ok (.iload 4, 2) := by decide +kernel
theorem d_GlyphPositionsModel_checkPairs_109 : decode b_GlyphPositionsModel_checkPairs 109 = .ok (.invokevirtual 162, 3) := by decide +kernel
theorem d_GlyphPositionsModel_checkPairs_112 : decode b_GlyphPositionsModel_checkPairs 112 = .ok (.iinc 6 1, 3) := by decide +kernel
theorem d_GlyphPositionsModel_checkPairs_115 : decode b_GlyphPositionsModel_checkPairs 115 = .ok (.goto (-43), 3) := by decide +kernel
theorem d_GlyphPositionsModel_checkPairs_118 : decode b_GlyphPositionsModel_checkPairs 118 = .ok (.goto 105, 3) := by decide +kernel
theorem d_GlyphPositionsModel_checkPairs_121 : decode b_GlyphPositionsModel_checkPairs 121 = .ok (.iload_n 3, 1) := by decide +kernel
theorem d_GlyphPositionsModel_checkPairs_122 : decode b_GlyphPositionsModel_checkPairs 122 = .ok (.iconst 2, 1) := by decide +kernel
theorem d_GlyphPositionsModel_checkPairs_123 : decode b_GlyphPositionsModel_checkPairs 123 = .ok (.if_icmp .ne 100, 3) := by decide +kernel
theorem d_GlyphPositionsModel_checkPairs_126 : decode b_GlyphPositionsModel_checkPairs 126 = .ok (.aload_n 0, 1) := by decide +kernel
theorem d_GlyphPositionsModel_checkPairs_127 : decode b_GlyphPositionsModel_checkPairs 127 = .ok (.lload_n 1, 1) := by decide +kernel
theorem d_GlyphPositionsModel_checkPairs_128 : decode b_GlyphPositionsModel_checkPairs 128 = .ok (.aload_n 0, 1) := by decide +kernel
theorem d_GlyphPositionsModel_checkPairs_129 : decode b_GlyphPositionsModel_checkPairs 129 = .ok (.lload_n 1, 1) := by decide +kernel
theorem d_GlyphPositionsModel_checkPairs_130 : decode b_GlyphPositionsModel_checkPairs 130 = .ok (.ldc2_w 99, 3) := by decide +kernel
theorem d_GlyphPositionsModel_checkPairs_133 : decode b_GlyphPositionsModel_checkPairs 133 = .ok (.ladd, 1) := by decide +kernel
theorem d_GlyphPositionsModel_checkPairs_134 : decode b_GlyphPositionsModel_checkPairs 134 = .ok (.invokevirtual 103, 3) := by decide +kernel
theorem d_GlyphPositionsModel_checkPairs_137 : decode b_GlyphPositionsModel_checkPairs 137 = .ok (.i2l, 1) := by decide +kernel
theorem d_GlyphPositionsModel_checkPairs_138 : decode b_GlyphPositionsModel_checkPairs 138 = .ok (.ladd, 1) := by decide +kernel
theorem d_GlyphPositionsModel_checkPairs_139 : decode b_GlyphPositionsModel_checkPairs 139 = .ok (.invokevirtual 142, 3) := by decide +kernel
theorem d_GlyphPositionsModel_checkPairs_142 : decode b_GlyphPositionsModel_checkPairs 142 = .ok (.pop, 1) := by decide +kernel
theorem d_GlyphPositionsModel_checkPairs_143 : decode b_GlyphPositionsModel_checkPairs 143 = .ok (.aload_n 0, 1) := by decide +kernel
theorem d_GlyphPositionsModel_checkPairs_144 : decode b_GlyphPositionsModel_checkPairs 144 = .ok (.lload_n 1, 1) := by decide +kernel
theorem d_GlyphPositionsModel_checkPairs_145 : decode b_GlyphPositionsModel_checkPairs 145 = .ok (.aload_n 0, 1) := by decide +kernel
theorem d_GlyphPositionsModel_checkPairs_146 : decode b_GlyphPositionsModel_checkPairs 146 = .ok (.lload_n 1, 1) := by decide +kernel
theorem d_GlyphPositionsModel_checkPairs_147 : decode b_GlyphPositionsModel_checkPairs 147 = .ok (.ldc2_w 111, 3) := by decide +kernel
theorem d_GlyphPositionsModel_checkPairs_150 : decode b_GlyphPositionsModel_checkPairs 150 = .ok (.ladd, 1) := by decide +kernel
theorem d_GlyphPositionsModel_checkPairs_151 : decode b_GlyphPositionsModel_checkPairs 151 = .ok (.invokevirtual 103, 3) := by decide +kernel
theorem d_GlyphPositionsModel_checkPairs_154 : decode b_GlyphPositionsModel_checkPairs 154 = .ok (.i2l, 1) := by decide +kernel
theorem d_GlyphPositionsModel_checkPairs_155 : decode b_GlyphPositionsModel_checkPairs 155 = .ok (.ladd, 1) := by decide +kernel
theorem d_GlyphPositionsModel_checkPairs_156 : decode b_GlyphPositionsModel_checkPairs 156 = .ok (.invokevirtual 166, 3) := by decide +kernel
theorem d_GlyphPositionsModel_checkPairs_159 : decode b_GlyphPositionsModel_checkPairs 159 = .ok (.aload_n 0, 1) := by decide +kernel
theorem d_GlyphPositionsModel_checkPairs_160 : decode b_GlyphPositionsModel_checkPairs 160 = .ok (.lload_n 1, 1) := by decide +kernel
theorem d_GlyphPositionsModel_checkPairs_161 : decode b_GlyphPositionsModel_checkPairs 161 = .ok (.aload_n 0, 1) := by decide +kernel
theorem d_GlyphPositionsModel_checkPairs_162 : decode b_GlyphPositionsModel_checkPairs 162 = .ok (.lload_n 1, 1) := by decide +kernel
theorem d_GlyphPositionsModel_checkPairs_163 : decode b_GlyphPositionsModel_checkPairs 163 = .ok (.ldc2_w 160, 3) := by decide +kernel
theorem d_GlyphPositionsModel_checkPairs_166 : decode b_GlyphPositionsModel_checkPairs 166 = .ok (.ladd, 1) := by decide +kernel
theorem d_GlyphPositionsModel_checkPairs_167 : decode b_GlyphPositionsModel_checkPairs 167 = .ok (.invokevirtual 103, 3) := by decide +kernel
theorem d_GlyphPositionsModel_checkPairs_170 : decode b_GlyphPositionsModel_checkPairs 170 = .ok (.i2l, 1) := by decide +kernel
theorem d_GlyphPositionsModel_checkPairs_171 : decode b_GlyphPositionsModel_checkPairs 171 = .ok (.ladd, 1) := by decide +kernel
theorem d_GlyphPositionsModel_checkPairs_172 : decode b_GlyphPositionsModel_checkPairs 172 = .ok (.invokevirtual 166, 3) := by decide +kernel
theorem d_GlyphPositionsModel_checkPairs_175 : decode b_GlyphPositionsModel_checkPairs 175 = .ok (.aload_n 0, 1) := by decide +kernel
theorem d_GlyphPositionsModel_checkPairs_176 : decode b_GlyphPositionsModel_checkPairs 176 = .ok (.lload_n 1, 1) := by decide +kernel
theorem d_GlyphPositionsModel_checkPairs_177 : decode b_GlyphPositionsModel_checkPairs 177 = .ok (.ldc2_w 169, 3) := by decide +kernel
theorem d_GlyphPositionsModel_checkPairs_180 : decode b_GlyphPositionsModel_checkPairs 180 = .ok (.ladd, 1) := by decide +kernel
theorem d_GlyphPositionsModel_checkPairs_181 : decode b_GlyphPositionsModel_checkPairs 181 = .ok (.sipush 256, 3) := by decide +kernel
theorem d_GlyphPositionsModel_checkPairs_184 : decode b_GlyphPositionsModel_checkPairs 184 = .ok (.invokevirtual 118, 3) := by decide +kernel
theorem d_GlyphPositionsModel_checkPairs_187 : decode b_GlyphPositionsModel_checkPairs 187 = .ok (.i2l, 1) := by decide +kernel
theorem d_GlyphPositionsModel_checkPairs_188 : decode b_GlyphPositionsModel_checkPairs 188 = .ok (.lstore 5, 2) := by decide +kernel
theorem d_GlyphPositionsModel_checkPairs_190 : decode b_GlyphPositionsModel_checkPairs 190 = .ok (.aload_n 0, 1) := by decide +kernel
theorem d_GlyphPositionsModel_checkPairs_191 : decode b_GlyphPositionsModel_checkPairs 191 = .ok (.lload_n 1, 1) := by decide +kernel
theorem d_GlyphPositionsModel_checkPairs_192 : decode b_GlyphPositionsModel_checkPairs 192 = .ok (.ldc2_w 171, 3) := by decide +kernel
theorem d_GlyphPositionsModel_checkPairs_195 : decode b_GlyphPositionsModel_checkPairs 195 = .ok (.ladd, 1) := by decide +kernel
theorem d_GlyphPositionsModel_checkPairs_196 : decode b_GlyphPositionsModel_checkPairs 196 = .ok (.sipush 256, 3) := by decide +kernel
theorem d_GlyphPositionsModel_checkPairs_199 : decode b_GlyphPositionsModel_checkPairs 199 = .ok (.invokevirtual 118, 3) := by decide +kernel
theorem d_GlyphPositionsModel_checkPairs_202 : decode b_GlyphPositionsModel_checkPairs 202 = .ok (.i2l, 1) := by decide +kernel
theorem d_GlyphPositionsModel_checkPairs_203 : decode b_GlyphPositionsModel_checkPairs 203 = .ok (.lstore 7, 2) := by decide +kernel
theorem d_GlyphPositionsModel_checkPairs_205 : decode b_GlyphPositionsModel_checkPairs 205 = .ok (.aload_n 0, 1) := by decide +kernel
theorem d_GlyphPositionsModel_checkPairs_206 : decode b_GlyphPositionsModel_checkPairs 206 = .ok (.lload_n 1, 1) := by decide +kernel
theorem d_GlyphPositionsModel_checkPairs_207 : decode b_GlyphPositionsModel_checkPairs 207 = .ok (.ldc2_w 173, 3) := by decide +kernel
theorem d_GlyphPositionsModel_checkPairs_210 : decode b_GlyphPositionsModel_checkPairs 210 = .ok (.ladd, 1) := by decide +kernel
theorem d_GlyphPositionsModel_checkPairs_211 : decode b_GlyphPositionsModel_checkPairs 211 = .ok (.lload 5, 2) := by decide +kernel
theorem d_GlyphPositionsModel_checkPairs_213 : decode b_GlyphPositionsModel_checkPairs 213 = .ok (.lload 7, 2) := by decide +kernel
theorem d_GlyphPositionsModel_checkPairs_215 : decode b_GlyphPositionsModel_checkPairs 215 = .ok (.lmul, 1) := by decide +kernel
theorem d_GlyphPositionsModel_checkPairs_216 : decode b_GlyphPositionsModel_checkPairs 216 = .ok (.iload 4, 2) := by decide +kernel
theorem d_GlyphPositionsModel_checkPairs_218 : decode b_GlyphPositionsModel_checkPairs 218 = .ok (.i2l, 1) := by decide +kernel
theorem d_GlyphPositionsModel_checkPairs_219 : decode b_GlyphPositionsModel_checkPairs 219 = .ok (.lmul, 1) := by decide +kernel
theorem d_GlyphPositionsModel_checkPairs_220 : decode b_GlyphPositionsModel_checkPairs 220 = .ok (.invokevirtual 152, 3) := by decide +kernel
theorem d_GlyphPositionsModel_checkPairs_223 : decode b_GlyphPositionsModel_checkPairs 223 = .ok (.return_, 1) := by decide +kernel
abbrev b_GlyphPositionsModel_checkSingle : ByteArray := prog_12_method_26_code
def y_GlyphPositionsModel_checkSingle : MethodName := ⟨R_GlyphPositionsModel, "checkSingle", "(J)V"⟩
theorem d_GlyphPositionsModel_checkSingle_0 : decode b_GlyphPositionsModel_checkSingle 0 = .ok (.aload_n 0, 1) := by decide +kernel
theorem d_GlyphPositionsModel_checkSingle_1 : decode b_GlyphPositionsModel_checkSingle 1 = .ok (.lload_n 1, 1) := by decide +kernel
theorem d_GlyphPositionsModel_checkSingle_2 : decode b_GlyphPositionsModel_checkSingle 2 = .ok (.invokevirtual 103, 3) := by decide +kernel
theorem d_GlyphPositionsModel_checkSingle_5 : decode b_GlyphPositionsModel_checkSingle 5 = .ok (.istore_n 3, 1) := by decide +kernel
theorem d_GlyphPositionsModel_checkSingle_6 : decode b_GlyphPositionsModel_checkSingle 6 = .ok (.aload_n 0, 1) := by decide +kernel
theorem d_GlyphPositionsModel_checkSingle_7 : decode b_GlyphPositionsModel_checkSingle 7 = .ok (.iload_n 3, 1) := by decide +kernel
theorem d_GlyphPositionsModel_checkSingle_8 : decode b_GlyphPositionsModel_checkSingle 8 = .ok (.iconst 1, 1) := by decide +kernel
theorem d_GlyphPositionsModel_checkSingle_9 : decode b_GlyphPositionsModel_checkSingle 9 = .ok (.if_icmp .eq 8, 3) := by decide +kernel
theorem d_GlyphPositionsModel_checkSingle_12 : decode b_GlyphPositionsModel_checkSingle 12 = .ok (.iload_n 3, 1) := by decide +kernel
theorem d_GlyphPositionsModel_checkSingle_13 : decode b_GlyphPositionsModel_checkSingle 13 = .ok (.iconst 2, 1) := by decide +kernel
theorem d_GlyphPositionsModel_checkSingle_14 : decode b_GlyphPositionsModel_checkSingle 14 = .ok (.if_icmp .ne 7, 3) := by decide +kernel
theorem d_GlyphPositionsModel_checkSingle_17 : decode b_GlyphPositionsModel_checkSingle 17 = .ok (.iconst 1, 1) := by decide +kernel
theorem d_GlyphPositionsModel_checkSingle_18 : decode b_GlyphPositionsModel_checkSingle 18 = .ok (.goto 4, 3) := by decide +kernel
theorem d_GlyphPositionsModel_checkSingle_21 : decode b_GlyphPositionsModel_checkSingle 21 = .ok (.iconst 0, 1) := by decide +kernel
theorem d_GlyphPositionsModel_checkSingle_22 : decode b_GlyphPositionsModel_checkSingle 22 = .ok (.invokevirtual 95, 3) := by decide +kernel
theorem d_GlyphPositionsModel_checkSingle_25 : decode b_GlyphPositionsModel_checkSingle 25 = .ok (.aload_n 0, 1) := by decide +kernel
theorem d_GlyphPositionsModel_checkSingle_26 : decode b_GlyphPositionsModel_checkSingle 26 = .ok (.lload_n 1, 1) := by decide +kernel
theorem d_GlyphPositionsModel_checkSingle_27 : decode b_GlyphPositionsModel_checkSingle 27 = .ok (.ldc2_w 107, 3) := by decide +kernel
theorem d_GlyphPositionsModel_checkSingle_30 : decode b_GlyphPositionsModel_checkSingle 30 = .ok (.ladd, 1) := by decide +kernel
theorem d_GlyphPositionsModel_checkSingle_31 : decode b_GlyphPositionsModel_checkSingle 31 = .ok (.invokevirtual 145, 3) := by decide +kernel
theorem d_GlyphPositionsModel_checkSingle_34 : decode b_GlyphPositionsModel_checkSingle 34 = .ok (.istore 4, 2) := by decide +kernel
theorem d_GlyphPositionsModel_checkSingle_36 : decode b_GlyphPositionsModel_checkSingle 36 = .ok (.iload_n 3, 1) := by decide +kernel
theorem d_GlyphPositionsModel_checkSingle_37 : decode b_GlyphPositionsModel_checkSingle 37 = .ok (.iconst 1, 1) := by decide +kernel
theorem d_GlyphPositionsModel_checkSingle_38 : decode b_GlyphPositionsModel_checkSingle 38 = .ok (.if_icmp .ne 38, 3) := by decide +kernel
theorem d_GlyphPositionsModel_checkSingle_41 : decode b_GlyphPositionsModel_checkSingle 41 = .ok (.aload_n 0, 1) := by decide +kernel
theorem d_GlyphPositionsModel_checkSingle_42 : decode b_GlyphPositionsModel_checkSingle 42 = .ok (.lload_n 1, 1) := by decide +kernel
theorem d_GlyphPositionsModel_checkSingle_43 : decode b_GlyphPositionsModel_checkSingle 43 = .ok (.aload_n 0, 1) := by decide +kernel
theorem d_GlyphPositionsModel_checkSingle_44 : decode b_GlyphPositionsModel_checkSingle 44 = .ok (.lload_n 1, 1) := by decide +kernel
theorem d_GlyphPositionsModel_checkSingle_45 : decode b_GlyphPositionsModel_checkSingle 45 = .ok (.ldc2_w 99, 3) := by decide +kernel
theorem d_GlyphPositionsModel_checkSingle_48 : decode b_GlyphPositionsModel_checkSingle 48 = .ok (.ladd, 1) := by decide +kernel
theorem d_GlyphPositionsModel_checkSingle_49 : decode b_GlyphPositionsModel_checkSingle 49 = .ok (.invokevirtual 103, 3) := by decide +kernel
theorem d_GlyphPositionsModel_checkSingle_52 : decode b_GlyphPositionsModel_checkSingle 52 = .ok (.i2l, 1) := by decide +kernel
theorem d_GlyphPositionsModel_checkSingle_53 : decode b_GlyphPositionsModel_checkSingle 53 = .ok (.ladd, 1) := by decide +kernel
theorem d_GlyphPositionsModel_checkSingle_54 : decode b_GlyphPositionsModel_checkSingle 54 = .ok (.invokevirtual 142, 3) := by decide +kernel
theorem d_GlyphPositionsModel_checkSingle_57 : decode b_GlyphPositionsModel_checkSingle 57 = .ok (.pop, 1) := by decide +kernel
theorem d_GlyphPositionsModel_checkSingle_58 : decode b_GlyphPositionsModel_checkSingle 58 = .ok (.aload_n 0, 1) := by decide +kernel
theorem d_GlyphPositionsModel_checkSingle_59 : decode b_GlyphPositionsModel_checkSingle 59 = .ok (.lload_n 1, 1) := by decide +kernel
theorem d_GlyphPositionsModel_checkSingle_60 : decode b_GlyphPositionsModel_checkSingle 60 = .ok (.ldc2_w 109, 3) := by decide +kernel
theorem d_GlyphPositionsModel_checkSingle_63 : decode b_GlyphPositionsModel_checkSingle 63 = .ok (.ladd, 1) := by decide +kernel
theorem d_GlyphPositionsModel_checkSingle_64 : decode b_GlyphPositionsModel_checkSingle 64 = .ok (.iload 4, 2) := by decide +kernel
theorem d_GlyphPositionsModel_checkSingle_66 : decode b_GlyphPositionsModel_checkSingle 66 = .ok (.invokestatic 148, 3) := by decide +kernel
theorem d_GlyphPositionsModel_checkSingle_69 : decode b_GlyphPositionsModel_checkSingle 69 = .ok (.i2l, 1) := by decide +kernel
theorem d_GlyphPositionsModel_checkSingle_70 : decode b_GlyphPositionsModel_checkSingle 70 = .ok (.invokevirtual 152, 3) := by decide +kernel
theorem d_GlyphPositionsModel_checkSingle_73 : decode b_GlyphPositionsModel_checkSingle 73 = .ok (.goto 39, 3) := by decide +kernel
theorem d_GlyphPositionsModel_checkSingle_76 : decode b_GlyphPositionsModel_checkSingle 76 = .ok (.iload_n 3, 1) := by decide +kernel
theorem d_GlyphPositionsModel_checkSingle_77 : decode b_GlyphPositionsModel_checkSingle 77 = .ok (.iconst 2, 1) := by decide +kernel
theorem d_GlyphPositionsModel_checkSingle_78 : decode b_GlyphPositionsModel_checkSingle 78 = .ok (.if_icmp .ne 34, 3) := by decide +kernel
theorem d_GlyphPositionsModel_checkSingle_81 : decode b_GlyphPositionsModel_checkSingle 81 = .ok (.aload_n 0, 1) := by decide +kernel
theorem d_GlyphPositionsModel_checkSingle_82 : decode b_GlyphPositionsModel_checkSingle 82 = .ok (.lload_n 1, 1) := by decide +kernel
theorem d_GlyphPositionsModel_checkSingle_83 : decode b_GlyphPositionsModel_checkSingle 83 = .ok (.lload_n 1, 1) := by decide +kernel
theorem d_GlyphPositionsModel_checkSingle_84 : decode b_GlyphPositionsModel_checkSingle 84 = .ok (.ldc2_w 109, 3) := by decide +kernel
theorem d_GlyphPositionsModel_checkSingle_87 : decode b_GlyphPositionsModel_checkSingle 87 = .ok (.ladd, 1) := by decide +kernel
theorem d_GlyphPositionsModel_checkSingle_88 : decode b_GlyphPositionsModel_checkSingle 88 = .ok (.invokevirtual 156, 3) := by decide +kernel
theorem d_GlyphPositionsModel_checkSingle_91 : decode b_GlyphPositionsModel_checkSingle 91 = .ok (.istore 5, 2) := by decide +kernel
theorem d_GlyphPositionsModel_checkSingle_93 : decode b_GlyphPositionsModel_checkSingle 93 = .ok (.aload_n 0, 1) := by decide +kernel
theorem d_GlyphPositionsModel_checkSingle_94 : decode b_GlyphPositionsModel_checkSingle 94 = .ok (.lload_n 1, 1) := by decide +kernel
theorem d_GlyphPositionsModel_checkSingle_95 : decode b_GlyphPositionsModel_checkSingle 95 = .ok (.ldc2_w 111, 3) := by decide +kernel
theorem d_GlyphPositionsModel_checkSingle_98 : decode b_GlyphPositionsModel_checkSingle 98 = .ok (.ladd, 1) := by decide +kernel
theorem d_GlyphPositionsModel_checkSingle_99 : decode b_GlyphPositionsModel_checkSingle 99 = .ok (.iload 5, 2) := by decide +kernel
theorem d_GlyphPositionsModel_checkSingle_101 : decode b_GlyphPositionsModel_checkSingle 101 = .ok (.i2l, 1) := by decide +kernel
theorem d_GlyphPositionsModel_checkSingle_102 : decode b_GlyphPositionsModel_checkSingle 102 = .ok (.iload 4, 2) := by decide +kernel
theorem d_GlyphPositionsModel_checkSingle_104 : decode b_GlyphPositionsModel_checkSingle 104 = .ok (.invokestatic 148, 3) := by decide +kernel
theorem d_GlyphPositionsModel_checkSingle_107 : decode b_GlyphPositionsModel_checkSingle 107 = .ok (.i2l, 1) := by decide +kernel
theorem d_GlyphPositionsModel_checkSingle_108 : decode b_GlyphPositionsModel_checkSingle 108 = .ok (.lmul, 1) := by decide +kernel
theorem d_GlyphPositionsModel_checkSingle_109 : decode b_GlyphPositionsModel_checkSingle 109 = .ok (.invokevirtual 152, 3) := by decide +kernel
theorem d_GlyphPositionsModel_checkSingle_112 : decode b_GlyphPositionsModel_checkSingle 112 = .ok (.return_, 1) := by decide +kernel
abbrev b_GlyphPositionsModel_checkSubtable : ByteArray := prog_12_method_35_code
def y_GlyphPositionsModel_checkSubtable : MethodName := ⟨R_GlyphPositionsModel, "checkSubtable", "(IJ)V"⟩
theorem d_GlyphPositionsModel_checkSubtable_0 : decode b_GlyphPositionsModel_checkSubtable 0 = .ok (.iload_n 1, 1) := by decide +kernel
theorem d_GlyphPositionsModel_checkSubtable_1 : decode b_GlyphPositionsModel_checkSubtable 1 = .ok (.tableswitch 81 1 6 #[39, 47, 55, 63, 72, 63], 39) := by decide +kernel
theorem d_GlyphPositionsModel_checkSubtable_40 : decode b_GlyphPositionsModel_checkSubtable 40 = .ok (.aload_n 0, 1) := by decide +kernel
theorem d_GlyphPositionsModel_checkSubtable_41 : decode b_GlyphPositionsModel_checkSubtable 41 = .ok (.lload_n 2, 1) := by decide +kernel
theorem d_GlyphPositionsModel_checkSubtable_42 : decode b_GlyphPositionsModel_checkSubtable 42 = .ok (.invokevirtual 191, 3) := by decide +kernel
theorem d_GlyphPositionsModel_checkSubtable_45 : decode b_GlyphPositionsModel_checkSubtable 45 = .ok (.goto 42, 3) := by decide +kernel
theorem d_GlyphPositionsModel_checkSubtable_48 : decode b_GlyphPositionsModel_checkSubtable 48 = .ok (.aload_n 0, 1) := by decide +kernel
theorem d_GlyphPositionsModel_checkSubtable_49 : decode b_GlyphPositionsModel_checkSubtable 49 = .ok (.lload_n 2, 1) := by decide +kernel
theorem d_GlyphPositionsModel_checkSubtable_50 : decode b_GlyphPositionsModel_checkSubtable 50 = .ok (.invokevirtual 194, 3) := by decide +kernel
theorem d_GlyphPositionsModel_checkSubtable_53 : decode b_GlyphPositionsModel_checkSubtable 53 = .ok (.goto 34, 3) := by decide +kernel
theorem d_GlyphPositionsModel_checkSubtable_56 : decode b_GlyphPositionsModel_checkSubtable 56 = .ok (.aload_n 0, 1) := by decide +kernel
theorem d_GlyphPositionsModel_checkSubtable_57 : decode b_GlyphPositionsModel_checkSubtable 57 = .ok (.lload_n 2, 1) := by decide +kernel
theorem d_GlyphPositionsModel_checkSubtable_58 : decode b_GlyphPositionsModel_checkSubtable 58 = .ok (.invokevirtual 197, 3) := by decide +kernel
theorem d_GlyphPositionsModel_checkSubtable_61 : decode b_GlyphPositionsModel_checkSubtable 61 = .ok (.goto 26, 3) := by decide +kernel
theorem d_GlyphPositionsModel_checkSubtable_64 : decode b_GlyphPositionsModel_checkSubtable 64 = .ok (.aload_n 0, 1) := by decide +kernel
theorem d_GlyphPositionsModel_checkSubtable_65 : decode b_GlyphPositionsModel_checkSubtable 65 = .ok (.lload_n 2, 1) := by decide +kernel
theorem d_GlyphPositionsModel_checkSubtable_66 : decode b_GlyphPositionsModel_checkSubtable 66 = .ok (.iconst 0, 1) := by decide +kernel
theorem d_GlyphPositionsModel_checkSubtable_67 : decode b_GlyphPositionsModel_checkSubtable 67 = .ok (.invokevirtual 200, 3) := by decide +kernel
theorem d_GlyphPositionsModel_checkSubtable_70 : decode b_GlyphPositionsModel_checkSubtable 70 = .ok (.goto 17, 3) := by decide +kernel
theorem d_GlyphPositionsModel_checkSubtable_73 : decode b_GlyphPositionsModel_checkSubtable 73 = .ok (.aload_n 0, 1) := by decide +kernel
theorem d_GlyphPositionsModel_checkSubtable_74 : decode b_GlyphPositionsModel_checkSubtable 74 = .ok (.lload_n 2, 1) := by decide +kernel
theorem d_GlyphPositionsModel_checkSubtable_75 : decode b_GlyphPositionsModel_checkSubtable 75 = .ok (.iconst 1, 1) := by decide +kernel
theorem d_GlyphPositionsModel_checkSubtable_76 : decode b_GlyphPositionsModel_checkSubtable 76 = .ok (.invokevirtual 200, 3) := by decide +kernel
theorem d_GlyphPositionsModel_checkSubtable_79 : decode b_GlyphPositionsModel_checkSubtable 79 = .ok (.goto 8, 3) := by decide +kernel
theorem d_GlyphPositionsModel_checkSubtable_82 : decode b_GlyphPositionsModel_checkSubtable 82 = .ok (.aload_n 0, 1) := by decide +kernel
theorem d_GlyphPositionsModel_checkSubtable_83 : decode b_GlyphPositionsModel_checkSubtable 83 = .ok (.iconst 0, 1) := by decide +kernel
theorem d_GlyphPositionsModel_checkSubtable_84 : decode b_GlyphPositionsModel_checkSubtable 84 = .ok (.invokevirtual 95, 3) := by decide +kernel
theorem d_GlyphPositionsModel_checkSubtable_87 : decode b_GlyphPositionsModel_checkSubtable 87 = .ok (.return_, 1) := by decide +kernel
abbrev b_GlyphPositionsModel_checkLookup : ByteArray := prog_12_method_36_code
def y_GlyphPositionsModel_checkLookup : MethodName := ⟨R_GlyphPositionsModel, "checkLookup", "(J)V"⟩
theorem d_GlyphPositionsModel_checkLookup_0 : decode b_GlyphPositionsModel_checkLookup 0 = .ok (.aload_n 0, 1) := by decide +kernel
theorem d_GlyphPositionsModel_checkLookup_1 : decode b_GlyphPositionsModel_checkLookup 1 = .ok (.lload_n 1, 1) := by decide +kernel
theorem d_GlyphPositionsModel_checkLookup_2 : decode b_GlyphPositionsModel_checkLookup 2 = .ok (.invokevirtual 103, 3) := by decide +kernel
theorem d_GlyphPositionsModel_checkLookup_5 : decode b_GlyphPositionsModel_checkLookup 5 = .ok (.istore_n 3, 1) := by decide +kernel
theorem d_GlyphPositionsModel_checkLookup_6 : decode b_GlyphPositionsModel_checkLookup 6 = .ok (.aload_n 0, 1) := by decide +kernel
theorem d_GlyphPositionsModel_checkLookup_7 : decode b_GlyphPositionsModel_checkLookup 7 = .ok (.iload_n 3, 1) := by decide +kernel
theorem d_GlyphPositionsModel_checkLookup_8 : decode b_GlyphPositionsModel_checkLookup 8 = .ok (.iconst 1, 1) := by decide +kernel
theorem d_GlyphPositionsModel_checkLookup_9 : decode b_GlyphPositionsModel_checkLookup 9 = .ok (.if_icmp .lt 9, 3) := by decide +kernel
theorem d_GlyphPositionsModel_checkLookup_12 : decode b_GlyphPositionsModel_checkLookup 12 = .ok (.iload_n 3, 1) := by decide +kernel
theorem d_GlyphPositionsModel_checkLookup_13 : decode b_GlyphPositionsModel_checkLookup 13 = .ok (.bipush 6, 2) := by decide +kernel
theorem d_GlyphPositionsModel_checkLookup_15 : decode b_GlyphPositionsModel_checkLookup 15 = .ok (.if_icmp .le 9, 3) := by decide +kernel
theorem d_GlyphPositionsModel_checkLookup_18 : decode b_GlyphPositionsModel_checkLookup 18 = .ok (.iload_n 3, 1) := by decide +kernel
theorem d_GlyphPositionsModel_checkLookup_19 : decode b_GlyphPositionsModel_checkLookup 19 = .ok (.bipush 9, 2) := by decide +kernel
theorem d_GlyphPositionsModel_checkLookup_21 : decode b_GlyphPositionsModel_checkLookup 21 = .ok (.if_icmp .ne 7, 3) := by decide +kernel
theorem d_GlyphPositionsModel_checkLookup_24 : decode b_GlyphPositionsModel_checkLookup 24 = .ok (.iconst 1, 1) := by decide +kernel
theorem d_GlyphPositionsModel_checkLookup_25 : decode b_GlyphPositionsModel_checkLookup 25 = .ok (.goto 4, 3) := by decide +kernel
theorem d_GlyphPositionsModel_checkLookup_28 : decode b_GlyphPositionsModel_checkLookup 28 = .ok (.iconst 0, 1) := by decide +kernel
theorem d_GlyphPositionsModel_checkLookup_29 : decode b_GlyphPositionsModel_checkLookup 29 = .ok (.invokevirtual 95, 3) := by decide +kernel
theorem d_GlyphPositionsModel_checkLookup_32 : decode b_GlyphPositionsModel_checkLookup 32 = .ok (.aload_n 0, 1) := by decide +kernel
theorem d_GlyphPositionsModel_checkLookup_33 : decode b_GlyphPositionsModel_checkLookup 33 = .ok (.aload_n 0, 1) := by decide +kernel
theorem d_GlyphPositionsModel_checkLookup_34 : decode b_GlyphPositionsModel_checkLookup 34 = .ok (.lload_n 1, 1) := by decide +kernel
theorem d_GlyphPositionsModel_checkLookup_35 : decode b_GlyphPositionsModel_checkLookup 35 = .ok (.ldc2_w 99, 3) := by decide +kernel
theorem d_GlyphPositionsModel_checkLookup_38 : decode b_GlyphPositionsModel_checkLookup 38 = .ok (.ladd, 1) := by decide +kernel
theorem d_GlyphPositionsModel_checkLookup_39 : decode b_GlyphPositionsModel_checkLookup 39 = .ok (.invokevirtual 103, 3) := by decide +kernel
theorem d_GlyphPositionsModel_checkLookup_42 : decode b_GlyphPositionsModel_checkLookup 42 = .ok (.iconst 4, 1) := by decide +kernel
theorem d_GlyphPositionsModel_checkLookup_43 : decode b_GlyphPositionsModel_checkLookup 43 = .ok (.ishr, 1) := by decide +kernel
theorem d_GlyphPositionsModel_checkLookup_44 : decode b_GlyphPositionsModel_checkLookup 44 = .ok (.iconst 1, 1) := by decide +kernel
theorem d_GlyphPositionsModel_checkLookup_45 : decode b_GlyphPositionsModel_checkLookup 45 = .ok (.iand, 1) := by decide +kernel
theorem d_GlyphPositionsModel_checkLookup_46 : decode b_GlyphPositionsModel_checkLookup 46 = .ok (.ifCond .ne 7, 3) := by decide +kernel
theorem d_GlyphPositionsModel_checkLookup_49 : decode b_GlyphPositionsModel_checkLookup 49 = .ok (.iconst 1, 1) := by decide +kernel
theorem d_GlyphPositionsModel_checkLookup_50 : decode b_GlyphPositionsModel_checkLookup 50 = .ok (.goto 4, 3) := by decide +kernel
theorem d_GlyphPositionsModel_checkLookup_53 : decode b_GlyphPositionsModel_checkLookup 53 = .ok (.iconst 0, 1) := by decide +kernel
theorem d_GlyphPositionsModel_checkLookup_54 : decode b_GlyphPositionsModel_checkLookup 54 = .ok (.invokevirtual 95, 3) := by decide +kernel
theorem d_GlyphPositionsModel_checkLookup_57 : decode b_GlyphPositionsModel_checkLookup 57 = .ok (.aload_n 0, 1) := by decide +kernel
theorem d_GlyphPositionsModel_checkLookup_58 : decode b_GlyphPositionsModel_checkLookup 58 = .ok (.lload_n 1, 1) := by decide +kernel
theorem d_GlyphPositionsModel_checkLookup_59 : decode b_GlyphPositionsModel_checkLookup 59 = .ok (.ldc2_w 107, 3) := by decide +kernel
theorem d_GlyphPositionsModel_checkLookup_62 : decode b_GlyphPositionsModel_checkLookup 62 = .ok (.ladd, 1) := by decide +kernel
theorem d_GlyphPositionsModel_checkLookup_63 : decode b_GlyphPositionsModel_checkLookup 63 = .ok (.bipush 16, 2) := by decide +kernel
theorem d_GlyphPositionsModel_checkLookup_65 : decode b_GlyphPositionsModel_checkLookup 65 = .ok (.invokevirtual 118, 3) := by decide +kernel
theorem d_GlyphPositionsModel_checkLookup_68 : decode b_GlyphPositionsModel_checkLookup 68 = .ok (.istore 4, 2) := by decide +kernel
theorem d_GlyphPositionsModel_checkLookup_70 : decode b_GlyphPositionsModel_checkLookup 70 = .ok (.iconst 0, 1) := by decide +kernel
theorem d_GlyphPositionsModel_checkLookup_71 : decode b_GlyphPositionsModel_checkLookup 71 = .ok (.istore 5, 2) := by decide +kernel
theorem d_GlyphPositionsModel_checkLookup_73 : decode b_GlyphPositionsModel_checkLookup 73 = .ok (.iconst 0, 1) := by decide +kernel
theorem d_GlyphPositionsModel_checkLookup_74 : decode b_GlyphPositionsModel_checkLookup 74 = .ok (.istore 6, 2) := by decide +kernel
theorem d_GlyphPositionsModel_checkLookup_76 : decode b_GlyphPositionsModel_checkLookup 76 = .ok (.iload 6, 2) := by decide +kernel
theorem d_GlyphPositionsModel_checkLookup_78 : decode b_GlyphPositionsModel_checkLookup 78 = .ok (.iload 4, 2) := by decide +kernel
theorem d_GlyphPositionsModel_checkLookup_80 : decode b_GlyphPositionsModel_checkLookup 80 = .ok (.if_icmp .ge 120, 3) := by decide +kernel
theorem d_GlyphPositionsModel_checkLookup_83 : decode b_GlyphPositionsModel_checkLookup 83 = .ok (.aload_n 0, 1) := by decide +kernel
theorem d_GlyphPositionsModel_checkLookup_84 : decode b_GlyphPositionsModel_checkLookup 84 = .ok (.getfield 88, 3) := by decide +kernel
theorem d_GlyphPositionsModel_checkLookup_87 : decode b_GlyphPositionsModel_checkLookup 87 = .ok (.ifCond .ne 113, 3) := by decide +kernel
theorem d_GlyphPositionsModel_checkLookup_90 : decode b_GlyphPositionsModel_checkLookup 90 = .ok (.lload_n 1, 1) := by decide +kernel
theorem d_GlyphPositionsModel_checkLookup_91 : decode b_GlyphPositionsModel_checkLookup 91 = .ok (.aload_n 0, 1) := by decide +kernel
theorem d_GlyphPositionsModel_checkLookup_92 : decode b_GlyphPositionsModel_checkLookup 92 = .ok (.lload_n 1, 1) := by decide +kernel
theorem d_GlyphPositionsModel_checkLookup_93 : decode b_GlyphPositionsModel_checkLookup 93 = .ok (.ldc2_w 109, 3) := by decide +kernel
theorem d_GlyphPositionsModel_checkLookup_96 : decode b_GlyphPositionsModel_checkLookup 96 = .ok (.ladd, 1) := by decide +kernel
theorem d_GlyphPositionsModel_checkLookup_97 : decode b_GlyphPositionsModel_checkLookup 97 = .ok (.ldc2_w 99, 3) := by decide +kernel
theorem d_GlyphPositionsModel_checkLookup_100 : decode b_GlyphPositionsModel_checkLookup 100 = .ok (.iload 6, 2) := by decide +kernel
theorem d_GlyphPositionsModel_checkLookup_102 : decode b_GlyphPositionsModel_checkLookup 102 = .ok (.i2l, 1) := by decide +kernel
theorem d_GlyphPositionsModel_checkLookup_103 : decode b_GlyphPositionsModel_checkLookup 103 = .ok (.lmul, 1) := by decide +kernel
theorem d_GlyphPositionsModel_checkLookup_104 : decode b_GlyphPositionsModel_checkLookup 104 = .ok (.ladd, 1) := by decide +kernel
theorem d_GlyphPositionsModel_checkLookup_105 : decode b_GlyphPositionsModel_checkLookup 105 = .ok (.invokevirtual 103, 3) := by decide +kernel
theorem d_GlyphPositionsModel_checkLookup_108 : decode b_GlyphPositionsModel_checkLookup 108 = .ok (.i2l, 1) := by decide +kernel
theorem d_GlyphPositionsModel_checkLookup_109 : decode b_GlyphPositionsModel_checkLookup 109 = .ok (.ladd, 1) := by decide +kernel
theorem d_GlyphPositionsModel_checkLookup_110 : decode b_GlyphPositionsModel_checkLookup 110 = .ok (.lstore 7, 2) := by decide +kernel
theorem d_GlyphPositionsModel_checkLookup_112 : decode b_GlyphPositionsModel_checkLookup 112 = .ok (.iload_n 3, 1) := by decide +kernel
theorem d_GlyphPositionsModel_checkLookup_113 : decode b_GlyphPositionsModel_checkLookup 113 = .ok (.bipush 9, 2) := by decide +kernel
theorem d_GlyphPositionsModel_checkLookup_115 : decode b_GlyphPositionsModel_checkLookup 115 = .ok (.if_icmp .ne 72, 3) := by decide +kernel
theorem d_GlyphPositionsModel_checkLookup_118 : decode b_GlyphPositionsModel_checkLookup 118 = .ok (.aload_n 0, 1) := by decide +kernel
theorem d_GlyphPositionsModel_checkLookup_119 : decode b_GlyphPositionsModel_checkLookup 119 = .ok (.lload 7, 2) := by decide +kernel
theorem d_GlyphPositionsModel_checkLookup_121 : decode b_GlyphPositionsModel_checkLookup 121 = .ok (.ldc2_w 99, 3) := by decide +kernel
theorem d_GlyphPositionsModel_checkLookup_124 : decode b_GlyphPositionsModel_checkLookup 124 = .ok (.ladd, 1) := by decide +kernel
theorem d_GlyphPositionsModel_checkLookup_125 : decode b_GlyphPositionsModel_checkLookup 125 = .ok (.invokevirtual 103, 3) := by decide +kernel
theorem d_GlyphPositionsModel_checkLookup_128 : decode b_GlyphPositionsModel_checkLookup 128 = .ok (.istore 9, 2) := by decide +kernel
theorem d_GlyphPositionsModel_checkLookup_130 : decode b_GlyphPositionsModel_checkLookup 130 = .ok (.aload_n 0, 1) := by decide +kernel
theorem d_GlyphPositionsModel_checkLookup_131 : decode b_GlyphPositionsModel_checkLookup 131 = .ok (.aload_n 0, 1) := by decide +kernel
theorem d_GlyphPositionsModel_checkLookup_132 : decode b_GlyphPositionsModel_checkLookup 132 = .ok (.lload 7, 2) := by decide +kernel
theorem d_GlyphPositionsModel_checkLookup_134 : decode b_GlyphPositionsModel_checkLookup 134 = .ok (.invokevirtual 103, 3) := by decide +kernel
theorem d_GlyphPositionsModel_checkLookup_137 : decode b_GlyphPositionsModel_checkLookup 137 = .ok (.iconst 1, 1) := by decide +kernel
theorem d_GlyphPositionsModel_checkLookup_138 : decode b_GlyphPositionsModel_checkLookup 138 = .ok (.if_icmp .ne 19, 3) := by decide +kernel
theorem d_GlyphPositionsModel_checkLookup_141 : decode b_GlyphPositionsModel_checkLookup 141 = .ok (.iload 6, 2) := by decide +kernel
theorem d_GlyphPositionsModel_checkLookup_143 : decode b_GlyphPositionsModel_checkLookup 143 = .ok (.ifCond .eq 10, 3) := by decide +kernel
theorem d_GlyphPositionsModel_checkLookup_146 : decode b_GlyphPositionsModel_checkLookup 146 = .ok (.iload 9, 2) := by decide +kernel
theorem d_GlyphPositionsModel_checkLookup_148 : decode b_GlyphPositionsModel_checkLookup 148 = .ok (.iload 5, 2) := by decide +kernel
theorem d_GlyphPositionsModel_checkLookup_150 : decode b_GlyphPositionsModel_checkLookup 150 = .ok (.if_icmp .ne 7, 3) := by decide +kernel
theorem d_GlyphPositionsModel_checkLookup_153 : decode b_GlyphPositionsModel_checkLookup 153 = .ok (.iconst 1, 1) := by decide +kernel
theorem d_GlyphPositionsModel_checkLookup_154 : decode b_GlyphPositionsModel_checkLookup 154 = .ok (.goto 4, 3) := by decide +kernel
theorem d_GlyphPositionsModel_checkLookup_157 : decode b_GlyphPositionsModel_checkLookup 157 = .ok (.iconst 0, 1) := by decide +kernel
theorem d_GlyphPositionsModel_checkLookup_158 : decode b_GlyphPositionsModel_checkLookup 158 = .ok (.invokevirtual 95, 3) := by decide +kernel
theorem d_GlyphPositionsModel_checkLookup_161 : decode b_GlyphPositionsModel_checkLookup 161 = .ok (.iload 9, 2) := by decide +kernel
theorem d_GlyphPositionsModel_checkLookup_163 : decode b_GlyphPositionsModel_checkLookup 163 = .ok (.istore 5, 2) := by decide +kernel
theorem d_GlyphPositionsModel_checkLookup_165 : decode b_GlyphPositionsModel_checkLookup 165 = .ok (.aload_n 0, 1) := by decide +kernel
theorem d_GlyphPositionsModel_checkLookup_166 : decode b_GlyphPositionsModel_checkLookup 166 = .ok (.iload 9, 2) := by decide +kernel
theorem d_GlyphPositionsModel_checkLookup_168 : decode b_GlyphPositionsModel_checkLookup 168 = .ok (.lload 7, 2) := by decide +kernel
theorem d_GlyphPositionsModel_checkLookup_170 : decode b_GlyphPositionsModel_checkLookup 170 = .ok (.aload_n 0, 1) := by decide +kernel
theorem d_GlyphPositionsModel_checkLookup_171 : decode b_GlyphPositionsModel_checkLookup 171 = .ok (.lload 7, 2) := by decide +kernel
theorem d_GlyphPositionsModel_checkLookup_173 : decode b_GlyphPositionsModel_checkLookup 173 = .ok (.ldc2_w 107, 3) := by decide +kernel
theorem d_GlyphPositionsModel_checkLookup_176 : decode b_GlyphPositionsModel_checkLookup 176 = .ok (.ladd, 1) := by decide +kernel
theorem d_GlyphPositionsModel_checkLookup_177 : decode b_GlyphPositionsModel_checkLookup 177 = .ok (.invokevirtual 128, 3) := by decide +kernel
theorem d_GlyphPositionsModel_checkLookup_180 : decode b_GlyphPositionsModel_checkLookup 180 = .ok (.ladd, 1) := by decide +kernel
theorem d_GlyphPositionsModel_checkLookup_181 : decode b_GlyphPositionsModel_checkLookup 181 = .ok (.invokevirtual 204, 3) := by decide +kernel
theorem d_GlyphPositionsModel_checkLookup_184 : decode b_GlyphPositionsModel_checkLookup 184 = .ok (.goto 10, 3) := by decide +kernel
theorem d_GlyphPositionsModel_checkLookup_187 : decode b_GlyphPositionsModel_checkLookup 187 = .ok (.aload_n 0, 1) := by decide +kernel
theorem d_GlyphPositionsModel_checkLookup_188 : decode b_GlyphPositionsModel_checkLookup 188 = .ok (.iload_n 3, 1) := by decide +kernel
theorem d_GlyphPositionsModel_checkLookup_189 : decode b_GlyphPositionsModel_checkLookup 189 = .ok (.lload 7, 2) := by decide +kernel
theorem d_GlyphPositionsModel_checkLookup_191 : decode b_GlyphPositionsModel_checkLookup 191 = .ok (.invokevirtual 204, 3) := by decide +kernel
theorem d_GlyphPositionsModel_checkLookup_194 : decode b_GlyphPositionsModel_checkLookup 194 = .ok (.iinc 6 1, 3) := by decide +kernel
theorem d_GlyphPositionsModel_checkLookup_197 : decode b_GlyphPositionsModel_checkLookup 197 = .ok (.goto (-121), 3) := by decide +kernel
theorem d_GlyphPositionsModel_checkLookup_200 : decode b_GlyphPositionsModel_checkLookup 200 = .ok (.return_, 1) := by decide +kernel
abbrev b_GlyphPositionsModel_checkLookups : ByteArray := prog_12_method_37_code
def y_GlyphPositionsModel_checkLookups : MethodName := ⟨R_GlyphPositionsModel, "checkLookups", "()V"⟩
theorem d_GlyphPositionsModel_checkLookups_0 : decode b_GlyphPositionsModel_checkLookups 0 = .ok (.aload_n 0, 1) := by decide +kernel
theorem d_GlyphPositionsModel_checkLookups_1 : decode b_GlyphPositionsModel_checkLookups 1 = .ok (.ldc2_w 111, 3) := by decide +kernel
theorem d_GlyphPositionsModel_checkLookups_4 : decode b_GlyphPositionsModel_checkLookups 4 = .ok (.invokevirtual 103, 3) := by decide +kernel
theorem d_GlyphPositionsModel_checkLookups_7 : decode b_GlyphPositionsModel_checkLookups 7 = .ok (.i2l, 1) := by decide +kernel
theorem d_GlyphPositionsModel_checkLookups_8 : decode b_GlyphPositionsModel_checkLookups 8 = .ok (.lstore_n 1, 1) := by decide +kernel
theorem d_GlyphPositionsModel_checkLookups_9 : decode b_GlyphPositionsModel_checkLookups 9 = .ok (.aload_n 0, 1) := by decide +kernel
theorem d_GlyphPositionsModel_checkLookups_10 : decode b_GlyphPositionsModel_checkLookups 10 = .ok (.lload_n 1, 1) := by decide +kernel
theorem d_GlyphPositionsModel_checkLookups_11 : decode b_GlyphPositionsModel_checkLookups 11 = .ok (.bipush 64, 2) := by decide +kernel
theorem d_GlyphPositionsModel_checkLookups_13 : decode b_GlyphPositionsModel_checkLookups 13 = .ok (.invokevirtual 118, 3) := by decide +kernel
theorem d_GlyphPositionsModel_checkLookups_16 : decode b_GlyphPositionsModel_checkLookups 16 = .ok (.istore_n 3, 1) := by decide +kernel
theorem d_GlyphPositionsModel_checkLookups_17 : decode b_GlyphPositionsModel_checkLookups 17 = .ok (.iconst 0, 1) := by decide +kernel
theorem d_GlyphPositionsModel_checkLookups_18 : decode b_GlyphPositionsModel_checkLookups 18 = .ok (.istore 4, 2) := by decide +kernel
theorem d_GlyphPositionsModel_checkLookups_20 : decode b_GlyphPositionsModel_checkLookups 20 = .ok (.iload 4, 2) := by decide +kernel
theorem d_GlyphPositionsModel_checkLookups_22 : decode b_GlyphPositionsModel_checkLookups 22 = .ok (.iload_n 3, 1) := by decide +kernel
theorem d_GlyphPositionsModel_checkLookups_23 : decode b_GlyphPositionsModel_checkLookups 23 = .ok (.if_icmp .ge 40, 3) := by decide +kernel
theorem d_GlyphPositionsModel_checkLookups_26 : decode b_GlyphPositionsModel_checkLookups 26 = .ok (.aload_n 0, 1) := by decide +kernel
theorem d_GlyphPositionsModel_checkLookups_27 : decode b_GlyphPositionsModel_checkLookups 27 = .ok (.getfield 88, 3) := by decide +kernel
theorem d_GlyphPositionsModel_checkLookups_30 : decode b_GlyphPositionsModel_checkLookups 30 = .ok (.ifCond .ne 33, 3) := by decide +kernel
theorem d_GlyphPositionsModel_checkLookups_33 : decode b_GlyphPositionsModel_checkLookups 33 = .ok (.aload_n 0, 1) := by decide +kernel
theorem d_GlyphPositionsModel_checkLookups_34 : decode b_GlyphPositionsModel_checkLookups 34 = .ok (.lload_n 1, 1) := by decide +kernel
theorem d_GlyphPositionsModel_checkLookups_35 : decode b_GlyphPositionsModel_checkLookups 35 = .ok (.aload_n 0, 1) := by decide +kernel
theorem d_GlyphPositionsModel_checkLookups_36 : decode b_GlyphPositionsModel_checkLookups 36 = .ok (.lload_n 1, 1) := by decide +kernel
theorem d_GlyphPositionsModel_checkLookups_37 : decode b_GlyphPositionsModel_checkLookups 37 = .ok (.ldc2_w 99, 3) := by decide +kernel
theorem d_GlyphPositionsModel_checkLookups_40 : decode b_GlyphPositionsModel_checkLookups 40 = .ok (.ladd, 1) := by decide +kernel
theorem d_GlyphPositionsModel_checkLookups_41 : decode b_GlyphPositionsModel_checkLookups 41 = .ok (.ldc2_w 99, 3) := by decide +kernel
theorem d_GlyphPositionsModel_checkLookups_44 : decode b_GlyphPositionsModel_checkLookups 44 = .ok (.iload 4, 2) := by decide +kernel
theorem d_GlyphPositionsModel_checkLookups_46 : decode b_GlyphPositionsModel_checkLookups 46 = .ok (.i2l, 1) := by decide +kernel
theorem d_GlyphPositionsModel_checkLookups_47 : decode b_GlyphPositionsModel_checkLookups 47 = .ok (.lmul, 1) := by decide +kernel
theorem d_GlyphPositionsModel_checkLookups_48 : decode b_GlyphPositionsModel_checkLookups 48 = .ok (.ladd, 1) := by decide +kernel
theorem d_GlyphPositionsModel_checkLookups_49 : decode b_GlyphPositionsModel_checkLookups 49 = .ok (.invokevirtual 103, 3) := by decide +kernel
theorem d_GlyphPositionsModel_checkLookups_52 : decode b_GlyphPositionsModel_checkLookups 52 = .ok (.i2l, 1) := by decide +kernel
theorem d_GlyphPositionsModel_checkLookups_53 : decode b_GlyphPositionsModel_checkLookups 53 = .ok (.ladd, 1) := by decide +kernel
theorem d_GlyphPositionsModel_checkLookups_54 : decode b_GlyphPositionsModel_checkLookups 54 = .ok (.invokevirtual 208, 3) := by decide +kernel
theorem d_GlyphPositionsModel_checkLookups_57 : decode b_GlyphPositionsModel_checkLookups 57 = .ok (.iinc 4 1, 3) := by decide +kernel
theorem d_GlyphPositionsModel_checkLookups_60 : decode b_GlyphPositionsModel_checkLookups 60 = .ok (.goto (-40), 3) := by decide +kernel
theorem d_GlyphPositionsModel_checkLookups_63 : decode b_GlyphPositionsModel_checkLookups 63 = .ok (.return_, 1) := by decide +kernel
abbrev b_GlyphPositionsModel_load : ByteArray := prog_12_method_38_code
def y_GlyphPositionsModel_load : MethodName := ⟨R_GlyphPositionsModel, "load", "()I"⟩
theorem d_GlyphPositionsModel_load_0 : decode b_GlyphPositionsModel_load 0 = .ok (.aload_n 0, 1) := by decide +kernel
theorem d_GlyphPositionsModel_load_1 : decode b_GlyphPositionsModel_load 1 = .ok (.iconst 0, 1) := by decide +kernel
theorem d_GlyphPositionsModel_load_2 : decode b_GlyphPositionsModel_load 2 = .ok (.putfield 77, 3) := by decide +kernel
theorem d_GlyphPositionsModel_load_5 : decode b_GlyphPositionsModel_load 5 = .ok (.aload_n 0, 1) := by decide +kernel
theorem d_GlyphPositionsModel_load_6 : decode b_GlyphPositionsModel_load 6 = .ok (.iconst 0, 1) := by decide +kernel
theorem d_GlyphPositionsModel_load_7 : decode b_GlyphPositionsModel_load 7 = .ok (.putfield 88, 3) := by decide +kernel
theorem d_GlyphPositionsModel_load_10 : decode b_GlyphPositionsModel_load 10 = .ok (.aload_n 0, 1) := by decide +kernel
theorem d_GlyphPositionsModel_load_11 : decode b_GlyphPositionsModel_load 11 = .ok (.iconst 0, 1) := by decide +kernel
theorem d_GlyphPositionsModel_load_12 : decode b_GlyphPositionsModel_load 12 = .ok (.putfield 92, 3) := by decide +kernel
theorem d_GlyphPositionsModel_load_15 : decode b_GlyphPositionsModel_load 15 = .ok (.aload_n 0, 1) := by decide +kernel
theorem d_GlyphPositionsModel_load_16 : decode b_GlyphPositionsModel_load 16 = .ok (.invokevirtual 211, 3) := by decide +kernel
theorem d_GlyphPositionsModel_load_19 : decode b_GlyphPositionsModel_load 19 = .ok (.aload_n 0, 1) := by decide +kernel
theorem d_GlyphPositionsModel_load_20 : decode b_GlyphPositionsModel_load 20 = .ok (.getfield 88, 3) := by decide +kernel
theorem d_GlyphPositionsModel_load_23 : decode b_GlyphPositionsModel_load 23 = .ok (.ifCond .eq 5, 3) := by decide +kernel
theorem d_GlyphPositionsModel_load_26 : decode b_GlyphPositionsModel_load 26 = .ok (.iconst (-1), 1) := by decide +kernel
theorem d_GlyphPositionsModel_load_27 : decode b_GlyphPositionsModel_load 27 = .ok (.ireturn, 1) := by decide +kernel
theorem d_GlyphPositionsModel_load_28 : decode b_GlyphPositionsModel_load 28 = .ok (.aload_n 0, 1) := by decide +kernel
theorem d_GlyphPositionsModel_load_29 : decode b_GlyphPositionsModel_load 29 = .ok (.invokevirtual 214, 3) := by decide +kernel
theorem d_GlyphPositionsModel_load_32 : decode b_GlyphPositionsModel_load 32 = .ok (.aload_n 0, 1) := by decide +kernel
theorem d_GlyphPositionsModel_load_33 : decode b_GlyphPositionsModel_load 33 = .ok (.getfield 88, 3) := by decide +kernel
theorem d_GlyphPositionsModel_load_36 : decode b_GlyphPositionsModel_load 36 = .ok (.ifCond .eq 6, 3) := by decide +kernel
theorem d_GlyphPositionsModel_load_39 : decode b_GlyphPositionsModel_load 39 = .ok (.bipush (-2), 2) := by decide +kernel
theorem d_GlyphPositionsModel_load_41 : decode b_GlyphPositionsModel_load 41 = .ok (.ireturn, 1) := by decide +kernel
theorem d_GlyphPositionsModel_load_42 : decode b_GlyphPositionsModel_load 42 = .ok (.aload_n 0, 1) := by decide +kernel
theorem d_GlyphPositionsModel_load_43 : decode b_GlyphPositionsModel_load 43 = .ok (.invokevirtual 217, 3) := by decide +kernel
theorem d_GlyphPositionsModel_load_46 : decode b_GlyphPositionsModel_load 46 = .ok (.aload_n 0, 1) := by decide +kernel
theorem d_GlyphPositionsModel_load_47 : decode b_GlyphPositionsModel_load 47 = .ok (.getfield 88, 3) := by decide +kernel
theorem d_GlyphPositionsModel_load_50 : decode b_GlyphPositionsModel_load 50 = .ok (.ifCond .eq 6, 3) := by decide +kernel
theorem d_GlyphPositionsModel_load_53 : decode b_GlyphPositionsModel_load 53 = .ok (.bipush (-3), 2) := by decide +kernel
theorem d_GlyphPositionsModel_load_55 : decode b_GlyphPositionsModel_load 55 = .ok (.ireturn, 1) := by decide +kernel
theorem d_GlyphPositionsModel_load_56 : decode b_GlyphPositionsModel_load 56 = .ok (.aload_n 0, 1) := by decide +kernel
theorem d_GlyphPositionsModel_load_57 : decode b_GlyphPositionsModel_load 57 = .ok (.invokevirtual 220, 3) := by decide +kernel
theorem d_GlyphPositionsModel_load_60 : decode b_GlyphPositionsModel_load 60 = .ok (.aload_n 0, 1) := by decide +kernel
theorem d_GlyphPositionsModel_load_61 : decode b_GlyphPositionsModel_load 61 = .ok (.getfield 88, 3) := by decide +kernel
theorem d_GlyphPositionsModel_load_64 : decode b_GlyphPositionsModel_load 64 = .ok (.ifCond .eq 6, 3) := by decide +kernel
theorem d_GlyphPositionsModel_load_67 : decode b_GlyphPositionsModel_load 67 = .ok (.bipush (-4), 2) := by decide +kernel
theorem d_GlyphPositionsModel_load_69 : decode b_GlyphPositionsModel_load 69 = .ok (.ireturn, 1) := by decide +kernel
theorem d_GlyphPositionsModel_load_70 : decode b_GlyphPositionsModel_load 70 = .ok (.iconst 0, 1) := by decide +kernel
theorem d_GlyphPositionsModel_load_71 : decode b_GlyphPositionsModel_load 71 = .ok (.istore_n 1, 1) := by decide +kernel
theorem d_GlyphPositionsModel_load_72 : decode b_GlyphPositionsModel_load 72 = .ok (.iload_n 1, 1) := by decide +kernel
theorem d_GlyphPositionsModel_load_73 : decode b_GlyphPositionsModel_load 73 = .ok (.sipush 8192, 3) := by decide +kernel
theorem d_GlyphPositionsModel_load_76 : decode b_GlyphPositionsModel_load 76 = .ok (.if_icmp .ge 21, 3) := by decide +kernel
theorem d_GlyphPositionsModel_load_79 : decode b_GlyphPositionsModel_load 79 = .ok (.aload_n 0, 1) := by decide +kernel
theorem d_GlyphPositionsModel_load_80 : decode b_GlyphPositionsModel_load 80 = .ok (.getfield 13, 3) := by decide +kernel
theorem d_GlyphPositionsModel_load_83 : decode b_GlyphPositionsModel_load 83 = .ok (.iload_n 1, 1) := by decide +kernel
theorem d_GlyphPositionsModel_load_84 : decode b_GlyphPositionsModel_load 84 = .ok (.aload_n 0, 1) := by decide +kernel
theorem d_GlyphPositionsModel_load_85 : decode b_GlyphPositionsModel_load 85 = .ok (.getfield 7, 3) := by decide +kernel
theorem d_GlyphPositionsModel_load_88 : decode b_GlyphPositionsModel_load 88 = .ok (.iload_n 1, 1) := by decide +kernel
theorem d_GlyphPositionsModel_load_89 : decode b_GlyphPositionsModel_load 89 = .ok (.iaload, 1) := by decide +kernel
theorem d_GlyphPositionsModel_load_90 : decode b_GlyphPositionsModel_load 90 = .ok (.iastore, 1) := by decide +kernel
theorem d_GlyphPositionsModel_load_91 : decode b_GlyphPositionsModel_load 91 = .ok (.iinc 1 1, 3) := by decide +kernel
theorem d_GlyphPositionsModel_load_94 : decode b_GlyphPositionsModel_load 94 = .ok (.goto (-22), 3) := by decide +kernel
theorem d_GlyphPositionsModel_load_97 : decode b_GlyphPositionsModel_load 97 = .ok (.aload_n 0, 1) := by decide +kernel
theorem d_GlyphPositionsModel_load_98 : decode b_GlyphPositionsModel_load 98 = .ok (.iconst 1, 1) := by decide +kernel
theorem d_GlyphPositionsModel_load_99 : decode b_GlyphPositionsModel_load 99 = .ok (.putfield 223, 3) := by decide +kernel
theorem d_GlyphPositionsModel_load_102 : decode b_GlyphPositionsModel_load 102 = .ok (.aload_n 0, 1) := by decide +kernel
theorem d_GlyphPositionsModel_load_103 : decode b_GlyphPositionsModel_load 103 = .ok (.invokevirtual 135, 3) := by decide +kernel
theorem d_GlyphPositionsModel_load_106 : decode b_GlyphPositionsModel_load 106 = .ok (.ireturn, 1) := by decide +kernel
abbrev b_GlyphPositionsModel_f16 : ByteArray := prog_12_method_46_code
def y_GlyphPositionsModel_f16 : MethodName := ⟨R_GlyphPositionsModel, "f16", "(I)I"⟩
theorem d_GlyphPositionsModel_f16_0 : decode b_GlyphPositionsModel_f16 0 = .ok (.sipush 256, 3) := by decide +kernel
theorem d_GlyphPositionsModel_f16_3 : decode b_GlyphPositionsModel_f16 3 = .ok (.aload_n 0, 1) := by decide +kernel
theorem d_GlyphPositionsModel_f16_4 : decode b_GlyphPositionsModel_f16 4 = .ok (.getfield 13, 3) := by decide +kernel
theorem d_GlyphPositionsModel_f16_7 : decode b_GlyphPositionsModel_f16 7 = .ok (.iload_n 1, 1) := by decide +kernel
theorem d_GlyphPositionsModel_f16_8 : decode b_GlyphPositionsModel_f16 8 = .ok (.iaload, 1) := by decide +kernel
theorem d_GlyphPositionsModel_f16_9 : decode b_GlyphPositionsModel_f16 9 = .ok (.imul, 1) := by decide +kernel
theorem d_GlyphPositionsModel_f16_10 : decode b_GlyphPositionsModel_f16 10 = .ok (.aload_n 0, 1) := by decide +kernel
theorem d_GlyphPositionsModel_f16_11 : decode b_GlyphPositionsModel_f16 11 = .ok (.getfield 13, 3) := by decide +kernel
theorem d_GlyphPositionsModel_f16_14 : decode b_GlyphPositionsModel_f16 14 = .ok (.iload_n 1, 1) := by decide +kernel
theorem d_GlyphPositionsModel_f16_15 : decode b_GlyphPositionsModel_f16 15 = .ok (.iconst 1, 1) := by decide +kernel
theorem d_GlyphPositionsModel_f16_16 : decode b_GlyphPositionsModel_f16 16 = .ok (.iadd, 1) := by decide +kernel
theorem d_GlyphPositionsModel_f16_17 : decode b_GlyphPositionsModel_f16 17 = .ok (.iaload, 1) := by decide +kernel
theorem d_GlyphPositionsModel_f16_18 : decode b_GlyphPositionsModel_f16 18 = .ok (.iadd, 1) := by decide +kernel
theorem d_GlyphPositionsModel_f16_19 : decode b_GlyphPositionsModel_f16 19 = .ok (.ireturn, 1) := by decide +kernel
abbrev b_GlyphPositionsModel_f32 : ByteArray := prog_12_method_47_code
def y_GlyphPositionsModel_f32 : MethodName := ⟨R_GlyphPositionsModel, "f32", "(I)I"⟩
theorem d_GlyphPositionsModel_f32_0 : decode b_GlyphPositionsModel_f32 0 = .ok (.aload_n 0, 1) := by decide +kernel
theorem d_GlyphPositionsModel_f32_1 : decode b_GlyphPositionsModel_f32 1 = .ok (.iload_n 1, 1) := by decide +kernel
theorem d_GlyphPositionsModel_f32_2 : decode b_GlyphPositionsModel_f32 2 = .ok (.invokevirtual 244, 3) := by decide +kernel
theorem d_GlyphPositionsModel_f32_5 : decode b_GlyphPositionsModel_f32 5 = .ok (.bipush 16, 2) := by decide +kernel
theorem d_GlyphPositionsModel_f32_7 : decode b_GlyphPositionsModel_f32 7 = .ok (.ishl, 1) := by decide +kernel
theorem d_GlyphPositionsModel_f32_8 : decode b_GlyphPositionsModel_f32 8 = .ok (.aload_n 0, 1) := by decide +kernel
theorem d_GlyphPositionsModel_f32_9 : decode b_GlyphPositionsModel_f32 9 = .ok (.iload_n 1, 1) := by decide +kernel
theorem d_GlyphPositionsModel_f32_10 : decode b_GlyphPositionsModel_f32 10 = .ok (.iconst 2, 1) := by decide +kernel
theorem d_GlyphPositionsModel_f32_11 : decode b_GlyphPositionsModel_f32 11 = .ok (.iadd, 1) := by decide +kernel
theorem d_GlyphPositionsModel_f32_12 : decode b_GlyphPositionsModel_f32 12 = .ok (.invokevirtual 244, 3) := by decide +kernel
theorem d_GlyphPositionsModel_f32_15 : decode b_GlyphPositionsModel_f32 15 = .ok (.ior, 1) := by decide +kernel
theorem d_GlyphPositionsModel_f32_16 : decode b_GlyphPositionsModel_f32 16 = .ok (.ireturn, 1) := by decide +kernel
abbrev b_GlyphPositionsModel_hasScript : ByteArray := prog_12_method_49_code
def y_GlyphPositionsModel_hasScript : MethodName := ⟨R_GlyphPositionsModel, "hasScript", "(I)Z"⟩
theorem d_GlyphPositionsModel_hasScript_0 : decode b_GlyphPositionsModel_hasScript 0 = .ok (.aload_n 0, 1) := by decide +kernel
theorem d_GlyphPositionsModel_hasScript_1 : decode b_GlyphPositionsModel_hasScript 1 = .ok (.iconst 4, 1) := by decide +kernel
theorem d_GlyphPositionsModel_hasScript_2 : decode b_GlyphPositionsModel_hasScript 2 = .ok (.invokevirtual 244, 3) := by decide +kernel
theorem d_GlyphPositionsModel_hasScript_5 : decode b_GlyphPositionsModel_hasScript 5 = .ok (.istore_n 2, 1) := by decide +kernel
theorem d_GlyphPositionsModel_hasScript_6 : decode b_GlyphPositionsModel_hasScript 6 = .ok (.iconst 0, 1) := by decide +kernel
theorem d_GlyphPositionsModel_hasScript_7 : decode b_GlyphPositionsModel_hasScript 7 = .ok (.istore_n 3, 1) := by decide +kernel
theorem d_GlyphPositionsModel_hasScript_8 : decode b_GlyphPositionsModel_hasScript 8 = .ok (.iconst 0, 1) := by decide +kernel
theorem d_GlyphPositionsModel_hasScript_9 : decode b_GlyphPositionsModel_hasScript 9 = .ok (.istore 4, 2) := by decide +kernel
theorem d_GlyphPositionsModel_hasScript_11 : decode b_GlyphPositionsModel_hasScript 11 = .ok (.iload 4, 2) := by decide +kernel
theorem d_GlyphPositionsModel_hasScript_13 : decode b_GlyphPositionsModel_hasScript 13 = .ok (.aload_n 0, 1) := by decide +kernel
theorem d_GlyphPositionsModel_hasScript_14 : decode b_GlyphPositionsModel_hasScript 14 = .ok (.iload_n 2, 1) := by decide +kernel
theorem d_GlyphPositionsModel_hasScript_15 : decode b_GlyphPositionsModel_hasScript 15 = .ok (.invokevirtual 244, 3) := by decide +kernel
theorem d_GlyphPositionsModel_hasScript_18 : decode b_GlyphPositionsModel_hasScript 18 = .ok (.if_icmp .ge 36, 3) := by decide +kernel
theorem d_GlyphPositionsModel_hasScript_21 : decode b_GlyphPositionsModel_hasScript 21 = .ok (.iload_n 3, 1) := by decide +kernel
theorem d_GlyphPositionsModel_hasScript_22 : decode b_GlyphPositionsModel_hasScript 22 = .ok (.ifCond .ne 20, 3) := by decide +kernel
theorem d_GlyphPositionsModel_hasScript_25 : decode b_GlyphPositionsModel_hasScript 25 = .ok (.aload_n 0, 1) := by decide +kernel
theorem d_GlyphPositionsModel_hasScript_26 : decode b_GlyphPositionsModel_hasScript 26 = .ok (.iload_n 2, 1) := by decide +kernel
theorem d_GlyphPositionsModel_hasScript_27 : decode b_GlyphPositionsModel_hasScript 27 = .ok (.iconst 2, 1) := by decide +kernel
theorem d_GlyphPositionsModel_hasScript_28 : decode b_GlyphPositionsModel_hasScript 28 = .ok (.iadd, 1) := by decide +kernel
theorem d_GlyphPositionsModel_hasScript_29 : decode b_GlyphPositionsModel_hasScript 29 = .ok (.bipush 6, 2) := by decide +kernel
theorem d_GlyphPositionsModel_hasScript_31 : decode b_GlyphPositionsModel_hasScript 31 = .ok (.iload 4, 2) := by decide +kernel
theorem d_GlyphPositionsModel_hasScript_33 : decode b_GlyphPositionsModel_hasScript 33 = .ok (.imul, 1) := by decide +kernel
theorem d_GlyphPositionsModel_hasScript_34 : decode b_GlyphPositionsModel_hasScript 34 = .ok (.iadd, 1) := by decide +kernel
theorem d_GlyphPositionsModel_hasScript_35 : decode b_GlyphPositionsModel_hasScript 35 = .ok (.invokevirtual 247, 3) := by decide +kernel
theorem d_GlyphPositionsModel_hasScript_38 : decode b_GlyphPositionsModel_hasScript 38 = .ok (.iload_n 1, 1) := by decide +kernel
theorem d_GlyphPositionsModel_hasScript_39 : decode b_GlyphPositionsModel_hasScript 39 = .ok (.if_icmp .ne 7, 3) := by decide +kernel
theorem d_GlyphPositionsModel_hasScript_42 : decode b_GlyphPositionsModel_hasScript 42 = .ok (.iconst 1, 1) := by decide +kernel
theorem d_GlyphPositionsModel_hasScript_43 : decode b_GlyphPositionsModel_hasScript 43 = .ok (.goto 4, 3) := by decide +kernel
theorem d_GlyphPositionsModel_hasScript_46 : decode b_GlyphPositionsModel_hasScript 46 = .ok (.iconst 0, 1) := by decide +kernel
theorem d_GlyphPositionsModel_hasScript_47 : decode b_GlyphPositionsModel_hasScript 47 = .ok (.istore_n 3, 1) := by decide +kernel
theorem d_GlyphPositionsModel_hasScript_48 : decode b_GlyphPositionsModel_hasScript 48 = .ok (.iinc 4 1, 3) := by decide +kernel
theorem d_GlyphPositionsModel_hasScript_51 : decode b_GlyphPositionsModel_hasScript 51 = .ok (.goto (-40), 3) := by decide +kernel
theorem d_GlyphPositionsModel_hasScript_54 : decode b_GlyphPositionsModel_hasScript 54 = .ok (.iload_n 3, 1) := by decide +kernel
theorem d_GlyphPositionsModel_hasScript_55 : decode b_GlyphPositionsModel_hasScript 55 = .ok (.ireturn, 1) := by decide +kernel
abbrev b_GlyphPositionsModel_scriptAt : ByteArray := prog_12_method_48_code
def y_GlyphPositionsModel_scriptAt : MethodName := ⟨R_GlyphPositionsModel, "scriptAt", "(I)I"⟩
theorem d_GlyphPositionsModel_scriptAt_0 : decode b_GlyphPositionsModel_scriptAt 0 = .ok (.aload_n 0, 1) := by decide +kernel
theorem d_GlyphPositionsModel_scriptAt_1 : decode b_GlyphPositionsModel_scriptAt 1 = .ok (.iconst 4, 1) := by decide +kernel
theorem d_GlyphPositionsModel_scriptAt_2 : decode b_GlyphPositionsModel_scriptAt 2 = .ok (.invokevirtual 244, 3) := by decide +kernel
theorem d_GlyphPositionsModel_scriptAt_5 : decode b_GlyphPositionsModel_scriptAt 5 = .ok (.istore_n 2, 1) := by decide +kernel
theorem d_GlyphPositionsModel_scriptAt_6 : decode b_GlyphPositionsModel_scriptAt 6 = .ok (.iconst 0, 1) := by decide +kernel
theorem d_GlyphPositionsModel_scriptAt_7 : decode b_GlyphPositionsModel_scriptAt 7 = .ok (.istore_n 3, 1) := by decide +kernel
theorem d_GlyphPositionsModel_scriptAt_8 : decode b_GlyphPositionsModel_scriptAt 8 = .ok (.iconst 0, 1) := by decide +kernel
theorem d_GlyphPositionsModel_scriptAt_9 : decode b_GlyphPositionsModel_scriptAt 9 = .ok (.istore 4, 2) := by decide +kernel
theorem d_GlyphPositionsModel_scriptAt_11 : decode b_GlyphPositionsModel_scriptAt 11 = .ok (.iload 4, 2) := by decide +kernel
theorem d_GlyphPositionsModel_scriptAt_13 : decode b_GlyphPositionsModel_scriptAt 13 = .ok (.aload_n 0, 1) := by decide +kernel
theorem d_GlyphPositionsModel_scriptAt_14 : decode b_GlyphPositionsModel_scriptAt 14 = .ok (.iload_n 2, 1) := by decide +kernel
theorem d_GlyphPositionsModel_scriptAt_15 : decode b_GlyphPositionsModel_scriptAt 15 = .ok (.invokevirtual 244, 3) := by decide +kernel
theorem d_GlyphPositionsModel_scriptAt_18 : decode b_GlyphPositionsModel_scriptAt 18 = .ok (.if_icmp .ge 47, 3) := by decide +kernel
theorem d_GlyphPositionsModel_scriptAt_21 : decode b_GlyphPositionsModel_scriptAt 21 = .ok (.aload_n 0, 1) := by decide +kernel
theorem d_GlyphPositionsModel_scriptAt_22 : decode b_GlyphPositionsModel_scriptAt 22 = .ok (.iload_n 2, 1) := by decide +kernel
theorem d_GlyphPositionsModel_scriptAt_23 : decode b_GlyphPositionsModel_scriptAt 23 = .ok (.iconst 2, 1) := by decide +kernel
theorem d_GlyphPositionsModel_scriptAt_24 : decode b_GlyphPositionsModel_scriptAt 24 = .ok (.iadd, 1) := by decide +kernel
theorem d_GlyphPositionsModel_scriptAt_25 : decode b_GlyphPositionsModel_scriptAt 25 = .ok (.bipush 6, 2) := by decide +kernel
theorem d_GlyphPositionsModel_scriptAt_27 : decode b_GlyphPositionsModel_scriptAt 27 = .ok (.iload 4, 2) := by decide +kernel
theorem d_GlyphPositionsModel_scriptAt_29 : decode b_GlyphPositionsModel_scriptAt 29 = .ok (.imul, 1) := by decide +kernel
theorem d_GlyphPositionsModel_scriptAt_30 : decode b_GlyphPositionsModel_scriptAt 30 = .ok (.iadd, 1) := by decide +kernel
theorem d_GlyphPositionsModel_scriptAt_31 : decode b_GlyphPositionsModel_scriptAt 31 = .ok (.invokevirtual 247, 3) := by decide +kernel
theorem d_GlyphPositionsModel_scriptAt_34 : decode b_GlyphPositionsModel_scriptAt 34 = .ok (.iload_n 1, 1) := by decide +kernel
theorem d_GlyphPositionsModel_scriptAt_35 : decode b_GlyphPositionsModel_scriptAt 35 = .ok (.if_icmp .ne 22, 3) := by decide +kernel
theorem d_GlyphPositionsModel_scriptAt_38 : decode b_GlyphPositionsModel_scriptAt 38 = .ok (.iload_n 2, 1) := by decide +kernel
theorem d_GlyphPositionsModel_scriptAt_39 : decode b_GlyphPositionsModel_scriptAt 39 = .ok (.aload_n 0, 1) := by decide +kernel
theorem d_GlyphPositionsModel_scriptAt_40 : decode b_GlyphPositionsModel_scriptAt 40 = .ok (.iload_n 2, 1) := by decide +kernel
theorem d_GlyphPositionsModel_scriptAt_41 : decode b_GlyphPositionsModel_scriptAt 41 = .ok (.bipush 6, 2) := by decide +kernel
theorem d_GlyphPositionsModel_scriptAt_43 : decode b_GlyphPositionsModel_scriptAt 43 = .ok (.iadd, 1) := by decide +kernel
theorem d_GlyphPositionsModel_scriptAt_44 : decode b_GlyphPositionsModel_scriptAt 44 = .ok (.bipush 6, 2) := by decide +kernel
theorem d_GlyphPositionsModel_scriptAt_46 : decode b_GlyphPositionsModel_scriptAt 46 = .ok (.iload 4, 2) := by decide +kernel
theorem d_GlyphPositionsModel_scriptAt_48 : decode b_GlyphPositionsModel_scriptAt 48 = .ok (.imul, 1) := by decide +kernel
theorem d_GlyphPositionsModel_scriptAt_49 : decode b_GlyphPositionsModel_scriptAt 49 = .ok (.iadd, 1) := by decide +kernel
theorem d_GlyphPositionsModel_scriptAt_50 : decode b_GlyphPositionsModel_scriptAt 50 = .ok (.invokevirtual 244, 3) := by decide +kernel
theorem d_GlyphPositionsModel_scriptAt_53 : decode b_GlyphPositionsModel_scriptAt 53 = .ok (.iadd, 1) := by decide +kernel
theorem d_GlyphPositionsModel_scriptAt_54 : decode b_GlyphPositionsModel_scriptAt 54 = .ok (.goto 4, 3) := by decide +kernel
theorem d_GlyphPositionsModel_scriptAt_57 : decode b_GlyphPositionsModel_scriptAt 57 = .ok (.iload_n 3, 1) := by decide +kernel
theorem d_GlyphPositionsModel_scriptAt_58 : decode b_GlyphPositionsModel_scriptAt 58 = .ok (.istore_n 3, 1) := by decide +kernel
theorem d_GlyphPositionsModel_scriptAt_59 : decode b_GlyphPositionsModel_scriptAt 59 = .ok (.iinc 4 1, 3) := by decide +kernel
theorem d_GlyphPositionsModel_scriptAt_62 : decode b_GlyphPositionsModel_scriptAt 62 = .ok (.goto (-51), 3) := by decide +kernel
theorem d_GlyphPositionsModel_scriptAt_65 : decode b_GlyphPositionsModel_scriptAt 65 = .ok (.iload_n 3, 1) := by decide +kernel
theorem d_GlyphPositionsModel_scriptAt_66 : decode b_GlyphPositionsModel_scriptAt 66 = .ok (.ireturn, 1) := by decide +kernel
abbrev b_GlyphPositionsModel_languageAt : ByteArray := prog_12_method_50_code
def y_GlyphPositionsModel_languageAt : MethodName := ⟨R_GlyphPositionsModel, "languageAt", "()I"⟩
theorem d_GlyphPositionsModel_languageAt_0 : decode b_GlyphPositionsModel_languageAt 0 = .ok (.aload_n 0, 1) := by decide +kernel
theorem d_GlyphPositionsModel_languageAt_1 : decode b_GlyphPositionsModel_languageAt 1 = .ok (.aload_n 0, 1) := by decide +kernel
theorem d_GlyphPositionsModel_languageAt_2 : decode b_GlyphPositionsModel_languageAt 2 = .ok (.getfield 229, 3) := by decide +kernel
theorem d_GlyphPositionsModel_languageAt_5 : decode b_GlyphPositionsModel_languageAt 5 = .ok (.invokevirtual 250, 3) := by decide +kernel
theorem d_GlyphPositionsModel_languageAt_8 : decode b_GlyphPositionsModel_languageAt 8 = .ok (.ifCond .eq 10, 3) := by decide +kernel
theorem d_GlyphPositionsModel_languageAt_11 : decode b_GlyphPositionsModel_languageAt 11 = .ok (.aload_n 0, 1) := by decide +kernel
theorem d_GlyphPositionsModel_languageAt_12 : decode b_GlyphPositionsModel_languageAt 12 = .ok (.getfield 229, 3) := by decide +kernel
theorem d_GlyphPositionsModel_languageAt_15 : decode b_GlyphPositionsModel_languageAt 15 = .ok (.goto 5, 3) := by decide +kernel
theorem d_GlyphPositionsModel_languageAt_18 : decode b_GlyphPositionsModel_languageAt 18 = .ok (.ldc 253, 2) := by decide +kernel
theorem d_GlyphPositionsModel_languageAt_20 : decode b_GlyphPositionsModel_languageAt 20 = .ok (.istore_n 1, 1) := by decide +kernel
theorem d_GlyphPositionsModel_languageAt_21 : decode b_GlyphPositionsModel_languageAt 21 = .ok (.aload_n 0, 1) := by decide +kernel
theorem d_GlyphPositionsModel_languageAt_22 : decode b_GlyphPositionsModel_languageAt 22 = .ok (.iload_n 1, 1) := by decide +kernel
theorem d_GlyphPositionsModel_languageAt_23 : decode b_GlyphPositionsModel_languageAt 23 = .ok (.invokevirtual 250, 3) := by decide +kernel
theorem d_GlyphPositionsModel_languageAt_26 : decode b_GlyphPositionsModel_languageAt 26 = .ok (.ifCond .ne 5, 3) := by decide +kernel
theorem d_GlyphPositionsModel_languageAt_29 : decode b_GlyphPositionsModel_languageAt 29 = .ok (.iconst 0, 1) := by decide +kernel
theorem d_GlyphPositionsModel_languageAt_30 : decode b_GlyphPositionsModel_languageAt 30 = .ok (.ireturn, 1) := by decide +kernel
theorem d_GlyphPositionsModel_languageAt_31 : decode b_GlyphPositionsModel_languageAt 31 = .ok (.aload_n 0, 1) := by decide +kernel
theorem d_GlyphPositionsModel_languageAt_32 : decode b_GlyphPositionsModel_languageAt 32 = .ok (.iload_n 1, 1) := by decide +kernel
theorem d_GlyphPositionsModel_languageAt_33 : decode b_GlyphPositionsModel_languageAt 33 = .ok (.invokevirtual 254, 3) := by decide +kernel
theorem d_GlyphPositionsModel_languageAt_36 : decode b_GlyphPositionsModel_languageAt 36 = .ok (.istore_n 2, 1) := by decide +kernel
theorem d_GlyphPositionsModel_languageAt_37 : decode b_GlyphPositionsModel_languageAt 37 = .ok (.aload_n 0, 1) := by decide +kernel
theorem d_GlyphPositionsModel_languageAt_38 : decode b_GlyphPositionsModel_languageAt 38 = .ok (.iload_n 2, 1) := by decide +kernel
theorem d_GlyphPositionsModel_languageAt_39 : decode b_GlyphPositionsModel_languageAt 39 = .ok (.invokevirtual 244, 3) := by decide +kernel
theorem d_GlyphPositionsModel_languageAt_42 : decode b_GlyphPositionsModel_languageAt 42 = .ok (.ifCond .le 13, 3) := by decide +kernel
theorem d_GlyphPositionsModel_languageAt_45 : decode b_GlyphPositionsModel_languageAt 45 = .ok (.iload_n 2, 1) := by decide +kernel
theorem d_GlyphPositionsModel_languageAt_46 : decode b_GlyphPositionsModel_languageAt 46 = .ok (.aload_n 0, 1) := by decide +kernel
theorem d_GlyphPositionsModel_languageAt_47 : decode b_GlyphPositionsModel_languageAt 47 = .ok (.iload_n 2, 1) := by decide +kernel
theorem d_GlyphPositionsModel_languageAt_48 : decode b_GlyphPositionsModel_languageAt 48 = .ok (.invokevirtual 244, 3) := by decide +kernel
theorem d_GlyphPositionsModel_languageAt_51 : decode b_GlyphPositionsModel_languageAt 51 = .ok (.iadd, 1) := by decide +kernel
theorem d_GlyphPositionsModel_languageAt_52 : decode b_GlyphPositionsModel_languageAt 52 = .ok (.goto 4, 3) := by decide +kernel
theorem d_GlyphPositionsModel_languageAt_55 : decode b_GlyphPositionsModel_languageAt 55 = .ok (.iconst 0, 1) := by decide +kernel
theorem d_GlyphPositionsModel_languageAt_56 : decode b_GlyphPositionsModel_languageAt 56 = .ok (.istore_n 3, 1) := by decide +kernel
theorem d_GlyphPositionsModel_languageAt_57 : decode b_GlyphPositionsModel_languageAt 57 = .ok (.iconst 0, 1) := by decide +kernel
theorem d_GlyphPositionsModel_languageAt_58 : decode b_GlyphPositionsModel_languageAt 58 = .ok (.istore 4, 2) := by decide +kernel
theorem d_GlyphPositionsModel_languageAt_60 : decode b_GlyphPositionsModel_languageAt 60 = .ok (.iload 4, 2) := by decide +kernel
theorem d_GlyphPositionsModel_languageAt_62 : decode b_GlyphPositionsModel_languageAt 62 = .ok (.aload_n 0, 1) := by decide +kernel
theorem d_GlyphPositionsModel_languageAt_63 : decode b_GlyphPositionsModel_languageAt 63 = .ok (.iload_n 2, 1) := by decide +kernel
theorem d_GlyphPositionsModel_languageAt_64 : decode b_GlyphPositionsModel_languageAt 64 = .ok (.iconst 2, 1) := by decide +kernel
theorem d_GlyphPositionsModel_languageAt_65 : decode b_GlyphPositionsModel_languageAt 65 = .ok (.iadd, 1) := by decide +kernel
theorem d_GlyphPositionsModel_languageAt_66 : decode b_GlyphPositionsModel_languageAt 66 = .ok (.invokevirtual 244, 3) := by decide +kernel
theorem d_GlyphPositionsModel_languageAt_69 : decode b_GlyphPositionsModel_languageAt 69 = .ok (.if_icmp .ge 50, 3) := by decide +kernel
theorem d_GlyphPositionsModel_languageAt_72 : decode b_GlyphPositionsModel_languageAt 72 = .ok (.aload_n 0, 1) := by decide +kernel
theorem d_GlyphPositionsModel_languageAt_73 : decode b_GlyphPositionsModel_languageAt 73 = .ok (.iload_n 2, 1) := by decide +kernel
theorem d_GlyphPositionsModel_languageAt_74 : decode b_GlyphPositionsModel_languageAt 74 = .ok (.iconst 4, 1) := by decide +kernel
theorem d_GlyphPositionsModel_languageAt_75 : decode b_GlyphPositionsModel_languageAt 75 = .ok (.iadd, 1) := by decide +kernel
theorem d_GlyphPositionsModel_languageAt_76 : decode b_GlyphPositionsModel_languageAt 76 = .ok (.bipush 6, 2) := by decide +kernel
theorem d_GlyphPositionsModel_languageAt_78 : decode b_GlyphPositionsModel_languageAt 78 = .ok (.iload 4, 2) := by decide +kernel
theorem d_GlyphPositionsModel_languageAt_80 : decode b_GlyphPositionsModel_languageAt 80 = .ok (.imul, 1) := by decide +kernel
theorem d_GlyphPositionsModel_languageAt_81 : decode b_GlyphPositionsModel_languageAt 81 = .ok (.iadd, 1) := by decide +kernel
theorem d_GlyphPositionsModel_languageAt_82 : decode b_GlyphPositionsModel_languageAt 82 = .ok (.invokevirtual 247, 3) := by decide +kernel
theorem d_GlyphPositionsModel_languageAt_85 : decode b_GlyphPositionsModel_languageAt 85 = .ok (.aload_n 0, 1) := by decide +kernel
theorem d_GlyphPositionsModel_languageAt_86 : decode b_GlyphPositionsModel_languageAt 86 = .ok (.getfield 232, 3) := by decide +kernel
theorem d_GlyphPositionsModel_languageAt_89 : decode b_GlyphPositionsModel_languageAt 89 = .ok (.if_icmp .ne 22, 3) := by decide +kernel
theorem d_GlyphPositionsModel_languageAt_92 : decode b_GlyphPositionsModel_languageAt 92 = .ok (.iload_n 2, 1) := by decide +kernel
theorem d_GlyphPositionsModel_languageAt_93 : decode b_GlyphPositionsModel_languageAt 93 = .ok (.aload_n 0, 1) := by decide +kernel
theorem d_GlyphPositionsModel_languageAt_94 : decode b_GlyphPositionsModel_languageAt 94 = .ok (.iload_n 2, 1) := by decide +kernel
theorem d_GlyphPositionsModel_languageAt_95 : decode b_GlyphPositionsModel_languageAt 95 = .ok (.bipush 8, 2) := by decide +kernel
theorem d_GlyphPositionsModel_languageAt_97 : decode b_GlyphPositionsModel_languageAt 97 = .ok (.iadd, 1) := by decide +kernel
theorem d_GlyphPositionsModel_languageAt_98 : decode b_GlyphPositionsModel_languageAt 98 = .ok (.bipush 6, 2) := by decide +kernel
theorem d_GlyphPositionsModel_languageAt_100 : decode b_GlyphPositionsModel_languageAt 100 = .ok (.iload 4, 2) := by decide +kernel
theorem d_GlyphPositionsModel_languageAt_102 : decode b_GlyphPositionsModel_languageAt 102 = .ok (.imul, 1) := by decide +kernel
theorem d_GlyphPositionsModel_languageAt_103 : decode b_GlyphPositionsModel_languageAt 103 = .ok (.iadd, 1) := by decide +kernel
theorem d_GlyphPositionsModel_languageAt_104 : decode b_GlyphPositionsModel_languageAt 104 = .ok (.invokevirtual 244, 3) := by decide +kernel
theorem d_GlyphPositionsModel_languageAt_107 : decode b_GlyphPositionsModel_languageAt 107 = .ok (.iadd, 1) := by decide +kernel
theorem d_GlyphPositionsModel_languageAt_108 : decode b_GlyphPositionsModel_languageAt 108 = .ok (.goto 4, 3) := by decide +kernel
theorem d_GlyphPositionsModel_languageAt_111 : decode b_GlyphPositionsModel_languageAt 111 = .ok (.iload_n 3, 1) := by decide +kernel
theorem d_GlyphPositionsModel_languageAt_112 : decode b_GlyphPositionsModel_languageAt 112 = .ok (.istore_n 3, 1) := by decide +kernel
theorem d_GlyphPositionsModel_languageAt_113 : decode b_GlyphPositionsModel_languageAt 113 = .ok (.iinc 4 1, 3) := by decide +kernel
theorem d_GlyphPositionsModel_languageAt_116 : decode b_GlyphPositionsModel_languageAt 116 = .ok (.goto (-56), 3) := by decide +kernel
theorem d_GlyphPositionsModel_languageAt_119 : decode b_GlyphPositionsModel_languageAt 119 = .ok (.iload_n 3, 1) := by decide +kernel
theorem d_GlyphPositionsModel_languageAt_120 : decode b_GlyphPositionsModel_languageAt 120 = .ok (.ireturn, 1) := by decide +kernel
abbrev b_GlyphPositionsModel_isOn : ByteArray := prog_12_method_51_code
def y_GlyphPositionsModel_isOn : MethodName := ⟨R_GlyphPositionsModel, "isOn", "(I)Z"⟩
theorem d_GlyphPositionsModel_isOn_0 : decode b_GlyphPositionsModel_isOn 0 = .ok (.aload_n 0, 1) := by decide +kernel
theorem d_GlyphPositionsModel_isOn_1 : decode b_GlyphPositionsModel_isOn 1 = .ok (.iload_n 1, 1) := by decide +kernel
theorem d_GlyphPositionsModel_isOn_2 : decode b_GlyphPositionsModel_isOn 2 = .ok (.invokevirtual 238, 3) := by decide +kernel
theorem d_GlyphPositionsModel_isOn_5 : decode b_GlyphPositionsModel_isOn 5 = .ok (.istore_n 2, 1) := by decide +kernel
theorem d_GlyphPositionsModel_isOn_6 : decode b_GlyphPositionsModel_isOn 6 = .ok (.iload_n 2, 1) := by decide +kernel
theorem d_GlyphPositionsModel_isOn_7 : decode b_GlyphPositionsModel_isOn 7 = .ok (.ifCond .lt 16, 3) := by decide +kernel
theorem d_GlyphPositionsModel_isOn_10 : decode b_GlyphPositionsModel_isOn 10 = .ok (.aload_n 0, 1) := by decide +kernel
theorem d_GlyphPositionsModel_isOn_11 : decode b_GlyphPositionsModel_isOn 11 = .ok (.getfield 31, 3) := by decide +kernel
theorem d_GlyphPositionsModel_isOn_14 : decode b_GlyphPositionsModel_isOn 14 = .ok (.iload_n 2, 1) := by decide +kernel
theorem d_GlyphPositionsModel_isOn_15 : decode b_GlyphPositionsModel_isOn 15 = .ok (.baload, 1) := by decide +kernel
theorem d_GlyphPositionsModel_isOn_16 : decode b_GlyphPositionsModel_isOn 16 = .ok (.ifCond .eq 7, 3) := by decide +kernel
theorem d_GlyphPositionsModel_isOn_19 : decode b_GlyphPositionsModel_isOn 19 = .ok (.iconst 1, 1) := by decide +kernel
theorem d_GlyphPositionsModel_isOn_20 : decode b_GlyphPositionsModel_isOn 20 = .ok (.goto 4, 3) := by decide +kernel
theorem d_GlyphPositionsModel_isOn_23 : decode b_GlyphPositionsModel_isOn 23 = .ok (.iconst 0, 1) := by decide +kernel
theorem d_GlyphPositionsModel_isOn_24 : decode b_GlyphPositionsModel_isOn 24 = .ok (.ireturn, 1) := by decide +kernel
abbrev b_GlyphPositionsModel_choosing : ByteArray := prog_12_method_52_code
def y_GlyphPositionsModel_choosing : MethodName := ⟨R_GlyphPositionsModel, "choosing", "(IZ)V"⟩
theorem d_GlyphPositionsModel_choosing_0 : decode b_GlyphPositionsModel_choosing 0 = .ok (.aload_n 0, 1) := by decide +kernel
theorem d_GlyphPositionsModel_choosing_1 : decode b_GlyphPositionsModel_choosing 1 = .ok (.bipush 6, 2) := by decide +kernel
theorem d_GlyphPositionsModel_choosing_3 : decode b_GlyphPositionsModel_choosing 3 = .ok (.invokevirtual 244, 3) := by decide +kernel
theorem d_GlyphPositionsModel_choosing_6 : decode b_GlyphPositionsModel_choosing 6 = .ok (.istore_n 3, 1) := by decide +kernel
theorem d_GlyphPositionsModel_choosing_7 : decode b_GlyphPositionsModel_choosing 7 = .ok (.iload_n 2, 1) := by decide +kernel
theorem d_GlyphPositionsModel_choosing_8 : decode b_GlyphPositionsModel_choosing 8 = .ok (.ifCond .ne 22, 3) := by decide +kernel
theorem d_GlyphPositionsModel_choosing_11 : decode b_GlyphPositionsModel_choosing 11 = .ok (.aload_n 0, 1) := by decide +kernel
theorem d_GlyphPositionsModel_choosing_12 : decode b_GlyphPositionsModel_choosing 12 = .ok (.aload_n 0, 1) := by decide +kernel
theorem d_GlyphPositionsModel_choosing_13 : decode b_GlyphPositionsModel_choosing 13 = .ok (.iload_n 3, 1) := by decide +kernel
theorem d_GlyphPositionsModel_choosing_14 : decode b_GlyphPositionsModel_choosing 14 = .ok (.iconst 2, 1) := by decide +kernel
theorem d_GlyphPositionsModel_choosing_15 : decode b_GlyphPositionsModel_choosing 15 = .ok (.iadd, 1) := by decide +kernel
theorem d_GlyphPositionsModel_choosing_16 : decode b_GlyphPositionsModel_choosing 16 = .ok (.bipush 6, 2) := by decide +kernel
theorem d_GlyphPositionsModel_choosing_18 : decode b_GlyphPositionsModel_choosing 18 = .ok (.iload_n 1, 1) := by decide +kernel
theorem d_GlyphPositionsModel_choosing_19 : decode b_GlyphPositionsModel_choosing 19 = .ok (.imul, 1) := by decide +kernel
theorem d_GlyphPositionsModel_choosing_20 : decode b_GlyphPositionsModel_choosing 20 = .ok (.iadd, 1) := by decide +kernel
theorem d_GlyphPositionsModel_choosing_21 : decode b_GlyphPositionsModel_choosing 21 = .ok (.invokevirtual 247, 3) := by decide +kernel
theorem d_GlyphPositionsModel_choosing_24 : decode b_GlyphPositionsModel_choosing 24 = .ok (.invokevirtual 257, 3) := by decide +kernel
theorem d_GlyphPositionsModel_choosing_27 : decode b_GlyphPositionsModel_choosing 27 = .ok (.ifCond .eq 7, 3) := by decide +kernel
theorem d_GlyphPositionsModel_choosing_30 : decode b_GlyphPositionsModel_choosing 30 = .ok (.iconst 1, 1) := by decide +kernel
theorem d_GlyphPositionsModel_choosing_31 : decode b_GlyphPositionsModel_choosing 31 = .ok (.goto 4, 3) := by decide +kernel
theorem d_GlyphPositionsModel_choosing_34 : decode b_GlyphPositionsModel_choosing 34 = .ok (.iconst 0, 1) := by decide +kernel
theorem d_GlyphPositionsModel_choosing_35 : decode b_GlyphPositionsModel_choosing 35 = .ok (.istore 4, 2) := by decide +kernel
theorem d_GlyphPositionsModel_choosing_37 : decode b_GlyphPositionsModel_choosing 37 = .ok (.iload_n 3, 1) := by decide +kernel
theorem d_GlyphPositionsModel_choosing_38 : decode b_GlyphPositionsModel_choosing 38 = .ok (.aload_n 0, 1) := by decide +kernel
theorem d_GlyphPositionsModel_choosing_39 : decode b_GlyphPositionsModel_choosing 39 = .ok (.iload_n 3, 1) := by decide +kernel
theorem d_GlyphPositionsModel_choosing_40 : decode b_GlyphPositionsModel_choosing 40 = .ok (.bipush 6, 2) := by decide +kernel
theorem d_GlyphPositionsModel_choosing_42 : decode b_GlyphPositionsModel_choosing 42 = .ok (.iadd, 1) := by decide +kernel
theorem d_GlyphPositionsModel_choosing_43 : decode b_GlyphPositionsModel_choosing 43 = .ok (.bipush 6, 2) := by decide +kernel
theorem d_GlyphPositionsModel_choosing_45 : decode b_GlyphPositionsModel_choosing 45 = .ok (.iload_n 1, 1) := by decide +kernel
theorem d_GlyphPositionsModel_choosing_46 : decode b_GlyphPositionsModel_choosing 46 = .ok (.imul, 1) := by decide +kernel
theorem d_GlyphPositionsModel_choosing_47 : decode b_GlyphPositionsModel_choosing 47 = .ok (.iadd, 1) := by decide +kernel
theorem d_GlyphPositionsModel_choosing_48 : decode b_GlyphPositionsModel_choosing 48 = .ok (.invokevirtual 244, 3) := by decide +kernel
theorem d_GlyphPositionsModel_choosing_51 : decode b_GlyphPositionsModel_choosing 51 = .ok (.iadd, 1) := by decide +kernel
theorem d_GlyphPositionsModel_choosing_52 : decode b_GlyphPositionsModel_choosing 52 = .ok (.istore 5, 2) := by decide +kernel
theorem d_GlyphPositionsModel_choosing_54 : decode b_GlyphPositionsModel_choosing 54 = .ok (.iconst 0, 1) := by decide +kernel
theorem d_GlyphPositionsModel_choosing_55 : decode b_GlyphPositionsModel_choosing 55 = .ok (.istore 6, 2) := by decide +kernel
theorem d_GlyphPositionsModel_choosing_57 : decode b_GlyphPositionsModel_choosing 57 = .ok (.iload 6, 2) := by decide +kernel
theorem d_GlyphPositionsModel_choosing_59 : decode b_GlyphPositionsModel_choosing 59 = .ok (.aload_n 0, 1) := by decide +kernel
theorem d_GlyphPositionsModel_choosing_60 : decode b_GlyphPositionsModel_choosing 60 = .ok (.iload 5, 2) := by decide +kernel
theorem d_GlyphPositionsModel_choosing_62 : decode b_GlyphPositionsModel_choosing 62 = .ok (.iconst 2, 1) := by decide +kernel
theorem d_GlyphPositionsModel_choosing_63 : decode b_GlyphPositionsModel_choosing 63 = .ok (.iadd, 1) := by decide +kernel
theorem d_GlyphPositionsModel_choosing_64 : decode b_GlyphPositionsModel_choosing 64 = .ok (.invokevirtual 244, 3) := by decide +kernel
theorem d_GlyphPositionsModel_choosing_67 : decode b_GlyphPositionsModel_choosing 67 = .ok (.if_icmp .ge 51, 3) := by decide +kernel
theorem d_GlyphPositionsModel_choosing_70 : decode b_GlyphPositionsModel_choosing 70 = .ok (.aload_n 0, 1) := by decide +kernel
theorem d_GlyphPositionsModel_choosing_71 : decode b_GlyphPositionsModel_choosing 71 = .ok (.iload 5, 2) := by decide +kernel
theorem d_GlyphPositionsModel_choosing_73 : decode b_GlyphPositionsModel_choosing 73 = .ok (.iconst 4, 1) := by decide +kernel
theorem d_GlyphPositionsModel_choosing_74 : decode b_GlyphPositionsModel_choosing 74 = .ok (.iadd, 1) := by decide +kernel
theorem d_GlyphPositionsModel_choosing_75 : decode b_GlyphPositionsModel_choosing 75 = .ok (.iconst 2, 1) := by decide +kernel
theorem d_GlyphPositionsModel_choosing_76 : decode b_GlyphPositionsModel_choosing 76 = .ok (.iload 6, 2) := by decide +kernel
theorem d_GlyphPositionsModel_choosing_78 : decode b_GlyphPositionsModel_choosing 78 = .ok (.imul, 1) := by decide +kernel
theorem d_GlyphPositionsModel_choosing_79 : decode b_GlyphPositionsModel_choosing 79 = .ok (.iadd, 1) := by decide +kernel
theorem d_GlyphPositionsModel_choosing_80 : decode b_GlyphPositionsModel_choosing 80 = .ok (.invokevirtual 244, 3) := by decide +kernel
theorem d_GlyphPositionsModel_choosing_83 : decode b_GlyphPositionsModel_choosing 83 = .ok (.istore 7, 2) := by decide +kernel
theorem d_GlyphPositionsModel_choosing_85 : decode b_GlyphPositionsModel_choosing 85 = .ok (.aload_n 0, 1) := by decide +kernel
theorem d_GlyphPositionsModel_choosing_86 : decode b_GlyphPositionsModel_choosing 86 = .ok (.getfield 44, 3) := by decide +kernel
theorem d_GlyphPositionsModel_choosing_89 : decode b_GlyphPositionsModel_choosing 89 = .ok (.iload 7, 2) := by decide +kernel
theorem d_GlyphPositionsModel_choosing_91 : decode b_GlyphPositionsModel_choosing 91 = .ok (.aload_n 0, 1) := by decide +kernel
theorem d_GlyphPositionsModel_choosing_92 : decode b_GlyphPositionsModel_choosing 92 = .ok (.getfield 44, 3) := by decide +kernel
theorem d_GlyphPositionsModel_choosing_95 : decode b_GlyphPositionsModel_choosing 95 = .ok (.iload 7, 2) := by decide +kernel
theorem d_GlyphPositionsModel_choosing_97 : decode b_GlyphPositionsModel_choosing 97 = .ok (.baload, 1) := by decide +kernel
theorem d_GlyphPositionsModel_choosing_98 : decode b_GlyphPositionsModel_choosing 98 = .ok (.ifCond .ne 8, 3) := by decide +kernel
theorem d_GlyphPositionsModel_choosing_101 : decode b_GlyphPositionsModel_choosing 101 = .ok (.iload 4, 2) := by decide +kernel
theorem d_GlyphPositionsModel_choosing_103 : decode b_GlyphPositionsModel_choosing 103 = .ok (.ifCond .eq 7, 3) := by decide +kernel
theorem d_GlyphPositionsModel_choosing_106 : decode b_GlyphPositionsModel_choosing 106 = .ok (.iconst 1, 1) := by decide +kernel
theorem d_GlyphPositionsModel_choosing_107 : decode b_GlyphPositionsModel_choosing 107 = .ok (.goto 4, 3) := by decide +kernel
theorem d_GlyphPositionsModel_choosing_110 : decode b_GlyphPositionsModel_choosing 110 = .ok (.iconst 0, 1) := by decide +kernel
theorem d_GlyphPositionsModel_choosing_111 : decode b_GlyphPositionsModel_choosing 111 = .ok (.bastore, 1) := by decide +kernel
theorem d_GlyphPositionsModel_choosing_112 : decode b_GlyphPositionsModel_choosing 112 = .ok (.iinc 6 1, 3) := by decide +kernel
theorem d_GlyphPositionsModel_choosing_115 : decode b_GlyphPositionsModel_choosing 115 = .ok (.goto (-58), 3) := by decide +kernel
theorem d_GlyphPositionsModel_choosing_118 : decode b_GlyphPositionsModel_choosing 118 = .ok (.return_, 1) := by decide +kernel
abbrev b_GlyphPositionsModel_chooseAll : ByteArray := prog_12_method_53_code
def y_GlyphPositionsModel_chooseAll : MethodName := ⟨R_GlyphPositionsModel, "chooseAll", "()V"⟩
theorem d_GlyphPositionsModel_chooseAll_0 : decode b_GlyphPositionsModel_chooseAll 0 = .ok (.iconst 0, 1) := by decide +kernel
theorem d_GlyphPositionsModel_chooseAll_1 : decode b_GlyphPositionsModel_chooseAll 1 = .ok (.istore_n 1, 1) := by decide +kernel
theorem d_GlyphPositionsModel_chooseAll_2 : decode b_GlyphPositionsModel_chooseAll 2 = .ok (.iload_n 1, 1) := by decide +kernel
theorem d_GlyphPositionsModel_chooseAll_3 : decode b_GlyphPositionsModel_chooseAll 3 = .ok (.bipush 64, 2) := by decide +kernel
theorem d_GlyphPositionsModel_chooseAll_5 : decode b_GlyphPositionsModel_chooseAll 5 = .ok (.if_icmp .ge 16, 3) := by decide +kernel
theorem d_GlyphPositionsModel_chooseAll_8 : decode b_GlyphPositionsModel_chooseAll 8 = .ok (.aload_n 0, 1) := by decide +kernel
theorem d_GlyphPositionsModel_chooseAll_9 : decode b_GlyphPositionsModel_chooseAll 9 = .ok (.getfield 44, 3) := by decide +kernel
theorem d_GlyphPositionsModel_chooseAll_12 : decode b_GlyphPositionsModel_chooseAll 12 = .ok (.iload_n 1, 1) := by decide +kernel
theorem d_GlyphPositionsModel_chooseAll_13 : decode b_GlyphPositionsModel_chooseAll 13 = .ok (.iconst 0, 1) := by decide +kernel
theorem d_GlyphPositionsModel_chooseAll_14 : decode b_GlyphPositionsModel_chooseAll 14 = .ok (.bastore, 1) := by decide +kernel
theorem d_GlyphPositionsModel_chooseAll_15 : decode b_GlyphPositionsModel_chooseAll 15 = .ok (.iinc 1 1, 3) := by decide +kernel
theorem d_GlyphPositionsModel_chooseAll_18 : decode b_GlyphPositionsModel_chooseAll 18 = .ok (.goto (-16), 3) := by decide +kernel
theorem d_GlyphPositionsModel_chooseAll_21 : decode b_GlyphPositionsModel_chooseAll 21 = .ok (.aload_n 0, 1) := by decide +kernel
theorem d_GlyphPositionsModel_chooseAll_22 : decode b_GlyphPositionsModel_chooseAll 22 = .ok (.invokevirtual 259, 3) := by decide +kernel
theorem d_GlyphPositionsModel_chooseAll_25 : decode b_GlyphPositionsModel_chooseAll 25 = .ok (.istore_n 1, 1) := by decide +kernel
theorem d_GlyphPositionsModel_chooseAll_26 : decode b_GlyphPositionsModel_chooseAll 26 = .ok (.iload_n 1, 1) := by decide +kernel
theorem d_GlyphPositionsModel_chooseAll_27 : decode b_GlyphPositionsModel_chooseAll 27 = .ok (.ifCond .ne 4, 3) := by decide +kernel
theorem d_GlyphPositionsModel_chooseAll_30 : decode b_GlyphPositionsModel_chooseAll 30 = .ok (.return_, 1) := by decide +kernel
theorem d_GlyphPositionsModel_chooseAll_31 : decode b_GlyphPositionsModel_chooseAll 31 = .ok (.aload_n 0, 1) := by decide +kernel
theorem d_GlyphPositionsModel_chooseAll_32 : decode b_GlyphPositionsModel_chooseAll 32 = .ok (.iload_n 1, 1) := by decide +kernel
theorem d_GlyphPositionsModel_chooseAll_33 : decode b_GlyphPositionsModel_chooseAll 33 = .ok (.iconst 2, 1) := by decide +kernel
theorem d_GlyphPositionsModel_chooseAll_34 : decode b_GlyphPositionsModel_chooseAll 34 = .ok (.iadd, 1) := by decide +kernel
theorem d_GlyphPositionsModel_chooseAll_35 : decode b_GlyphPositionsModel_chooseAll 35 = .ok (.invokevirtual 244, 3) := by decide +kernel
theorem d_GlyphPositionsModel_chooseAll_38 : decode b_GlyphPositionsModel_chooseAll 38 = .ok (.ldc 113, 2) := by decide +kernel
theorem d_GlyphPositionsModel_chooseAll_40 : decode b_GlyphPositionsModel_chooseAll 40 = .ok (.if_icmp .eq 15, 3) := by decide +kernel
theorem d_GlyphPositionsModel_chooseAll_43 : decode b_GlyphPositionsModel_chooseAll 43 = .ok (.aload_n 0, 1) := by decide +kernel
theorem d_GlyphPositionsModel_chooseAll_44 : decode b_GlyphPositionsModel_chooseAll 44 = .ok (.aload_n 0, 1) := by decide +kernel
theorem d_GlyphPositionsModel_chooseAll_45 : decode b_GlyphPositionsModel_chooseAll 45 = .ok (.iload_n 1, 1) := by decide +kernel
theorem d_GlyphPositionsModel_chooseAll_46 : decode b_GlyphPositionsModel_chooseAll 46 = .ok (.iconst 2, 1) := by decide +kernel
theorem d_GlyphPositionsModel_chooseAll_47 : decode b_GlyphPositionsModel_chooseAll 47 = .ok (.iadd, 1) := by decide +kernel
theorem d_GlyphPositionsModel_chooseAll_48 : decode b_GlyphPositionsModel_chooseAll 48 = .ok (.invokevirtual 244, 3) := by decide +kernel
theorem d_GlyphPositionsModel_chooseAll_51 : decode b_GlyphPositionsModel_chooseAll 51 = .ok (.iconst 1, 1) := by decide +kernel
theorem d_GlyphPositionsModel_chooseAll_52 : decode b_GlyphPositionsModel_chooseAll 52 = .ok (.invokevirtual 262, 3) := by decide +kernel
theorem d_GlyphPositionsModel_chooseAll_55 : decode b_GlyphPositionsModel_chooseAll 55 = .ok (.iconst 0, 1) := by decide +kernel
theorem d_GlyphPositionsModel_chooseAll_56 : decode b_GlyphPositionsModel_chooseAll 56 = .ok (.istore_n 2, 1) := by decide +kernel
theorem d_GlyphPositionsModel_chooseAll_57 : decode b_GlyphPositionsModel_chooseAll 57 = .ok (.iload_n 2, 1) := by decide +kernel
theorem d_GlyphPositionsModel_chooseAll_58 : decode b_GlyphPositionsModel_chooseAll 58 = .ok (.aload_n 0, 1) := by decide +kernel
theorem d_GlyphPositionsModel_chooseAll_59 : decode b_GlyphPositionsModel_chooseAll 59 = .ok (.iload_n 1, 1) := by decide +kernel
theorem d_GlyphPositionsModel_chooseAll_60 : decode b_GlyphPositionsModel_chooseAll 60 = .ok (.iconst 4, 1) := by decide +kernel
theorem d_GlyphPositionsModel_chooseAll_61 : decode b_GlyphPositionsModel_chooseAll 61 = .ok (.iadd, 1) := by decide +kernel
theorem d_GlyphPositionsModel_chooseAll_62 : decode b_GlyphPositionsModel_chooseAll 62 = .ok (.invokevirtual 244, 3) := by decide +kernel
theorem d_GlyphPositionsModel_chooseAll_65 : decode b_GlyphPositionsModel_chooseAll 65 = .ok (.if_icmp .ge 26, 3) := by decide +kernel
theorem d_GlyphPositionsModel_chooseAll_68 : decode b_GlyphPositionsModel_chooseAll 68 = .ok (.aload_n 0, 1) := by decide +kernel
theorem d_GlyphPositionsModel_chooseAll_69 : decode b_GlyphPositionsModel_chooseAll 69 = .ok (.aload_n 0, 1) := by decide +kernel
theorem d_GlyphPositionsModel_chooseAll_70 : decode b_GlyphPositionsModel_chooseAll 70 = .ok (.iload_n 1, 1) := by decide +kernel
theorem d_GlyphPositionsModel_chooseAll_71 : decode b_GlyphPositionsModel_chooseAll 71 = .ok (.bipush 6, 2) := by decide +kernel
theorem d_GlyphPositionsModel_chooseAll_73 : decode b_GlyphPositionsModel_chooseAll 73 = .ok (.iadd, 1) := by decide +kernel
theorem d_GlyphPositionsModel_chooseAll_74 : decode b_GlyphPositionsModel_chooseAll 74 = .ok (.iconst 2, 1) := by decide +kernel
theorem d_GlyphPositionsModel_chooseAll_75 : decode b_GlyphPositionsModel_chooseAll 75 = .ok (.iload_n 2, 1) := by decide +kernel
theorem d_GlyphPositionsModel_chooseAll_76 : decode b_GlyphPositionsModel_chooseAll 76 = .ok (.imul, 1) := by decide +kernel
theorem d_GlyphPositionsModel_chooseAll_77 : decode b_GlyphPositionsModel_chooseAll 77 = .ok (.iadd, 1) := by decide +kernel
theorem d_GlyphPositionsModel_chooseAll_78 : decode b_GlyphPositionsModel_chooseAll 78 = .ok (.invokevirtual 244, 3) := by decide +kernel
theorem d_GlyphPositionsModel_chooseAll_81 : decode b_GlyphPositionsModel_chooseAll 81 = .ok (.iconst 0, 1) := by decide +kernel
theorem d_GlyphPositionsModel_chooseAll_82 : decode b_GlyphPositionsModel_chooseAll 82 = .ok (.invokevirtual 262, 3) := by decide +kernel
theorem d_GlyphPositionsModel_chooseAll_85 : decode b_GlyphPositionsModel_chooseAll 85 = .ok (.iinc 2 1, 3) := by decide +kernel
theorem d_GlyphPositionsModel_chooseAll_88 : decode b_GlyphPositionsModel_chooseAll 88 = .ok (.goto (-31), 3) := by decide +kernel
theorem d_GlyphPositionsModel_chooseAll_91 : decode b_GlyphPositionsModel_chooseAll 91 = .ok (.return_, 1) := by decide +kernel
abbrev b_GlyphPositionsModel_settle : ByteArray := prog_12_method_75_code
def y_GlyphPositionsModel_settle : MethodName := ⟨R_GlyphPositionsModel, "settle", "(I)V"⟩
theorem d_GlyphPositionsModel_settle_0 : decode b_GlyphPositionsModel_settle 0 = .ok (.aload_n 0, 1) := by decide +kernel
theorem d_GlyphPositionsModel_settle_1 : decode b_GlyphPositionsModel_settle 1 = .ok (.getfield 65, 3) := by decide +kernel
theorem d_GlyphPositionsModel_settle_4 : decode b_GlyphPositionsModel_settle 4 = .ok (.iload_n 1, 1) := by decide +kernel
theorem d_GlyphPositionsModel_settle_5 : decode b_GlyphPositionsModel_settle 5 = .ok (.iaload, 1) := by decide +kernel
theorem d_GlyphPositionsModel_settle_6 : decode b_GlyphPositionsModel_settle 6 = .ok (.istore_n 2, 1) := by decide +kernel
theorem d_GlyphPositionsModel_settle_7 : decode b_GlyphPositionsModel_settle 7 = .ok (.iload_n 2, 1) := by decide +kernel
theorem d_GlyphPositionsModel_settle_8 : decode b_GlyphPositionsModel_settle 8 = .ok (.ifCond .ge 4, 3) := by decide +kernel
theorem d_GlyphPositionsModel_settle_11 : decode b_GlyphPositionsModel_settle 11 = .ok (.return_, 1) := by decide +kernel
theorem d_GlyphPositionsModel_settle_12 : decode b_GlyphPositionsModel_settle 12 = .ok (.aload_n 0, 1) := by decide +kernel
theorem d_GlyphPositionsModel_settle_13 : decode b_GlyphPositionsModel_settle 13 = .ok (.getfield 62, 3) := by decide +kernel
theorem d_GlyphPositionsModel_settle_16 : decode b_GlyphPositionsModel_settle 16 = .ok (.iload_n 1, 1) := by decide +kernel
theorem d_GlyphPositionsModel_settle_17 : decode b_GlyphPositionsModel_settle 17 = .ok (.aload_n 0, 1) := by decide +kernel
theorem d_GlyphPositionsModel_settle_18 : decode b_GlyphPositionsModel_settle 18 = .ok (.getfield 62, 3) := by decide +kernel
theorem d_GlyphPositionsModel_settle_21 : decode b_GlyphPositionsModel_settle 21 = .ok (.iload_n 1, 1) := by decide +kernel
theorem d_GlyphPositionsModel_settle_22 : decode b_GlyphPositionsModel_settle 22 = .ok (.iaload, 1) := by decide +kernel
theorem d_GlyphPositionsModel_settle_23 : decode b_GlyphPositionsModel_settle 23 = .ok (.aload_n 0, 1) := by decide +kernel
theorem d_GlyphPositionsModel_settle_24 : decode b_GlyphPositionsModel_settle 24 = .ok (.getfield 74, 3) := by decide +kernel
theorem d_GlyphPositionsModel_settle_27 : decode b_GlyphPositionsModel_settle 27 = .ok (.iload_n 1, 1) := by decide +kernel
theorem d_GlyphPositionsModel_settle_28 : decode b_GlyphPositionsModel_settle 28 = .ok (.iaload, 1) := by decide +kernel
theorem d_GlyphPositionsModel_settle_29 : decode b_GlyphPositionsModel_settle 29 = .ok (.iadd, 1) := by decide +kernel
theorem d_GlyphPositionsModel_settle_30 : decode b_GlyphPositionsModel_settle 30 = .ok (.aload_n 0, 1) := by decide +kernel
theorem d_GlyphPositionsModel_settle_31 : decode b_GlyphPositionsModel_settle 31 = .ok (.getfield 62, 3) := by decide +kernel
theorem d_GlyphPositionsModel_settle_34 : decode b_GlyphPositionsModel_settle 34 = .ok (.iload_n 2, 1) := by decide +kernel
theorem d_GlyphPositionsModel_settle_35 : decode b_GlyphPositionsModel_settle 35 = .ok (.iaload, 1) := by decide +kernel
theorem d_GlyphPositionsModel_settle_36 : decode b_GlyphPositionsModel_settle 36 = .ok (.iadd, 1) := by decide +kernel
theorem d_GlyphPositionsModel_settle_37 : decode b_GlyphPositionsModel_settle 37 = .ok (.iastore, 1) := by decide +kernel
theorem d_GlyphPositionsModel_settle_38 : decode b_GlyphPositionsModel_settle 38 = .ok (.aload_n 0, 1) := by decide +kernel
theorem d_GlyphPositionsModel_settle_39 : decode b_GlyphPositionsModel_settle 39 = .ok (.getfield 68, 3) := by decide +kernel
theorem d_GlyphPositionsModel_settle_42 : decode b_GlyphPositionsModel_settle 42 = .ok (.iload_n 1, 1) := by decide +kernel
theorem d_GlyphPositionsModel_settle_43 : decode b_GlyphPositionsModel_settle 43 = .ok (.baload, 1) := by decide +kernel
theorem d_GlyphPositionsModel_settle_44 : decode b_GlyphPositionsModel_settle 44 = .ok (.ifCond .ne 118, 3) := by decide +kernel
theorem d_GlyphPositionsModel_settle_47 : decode b_GlyphPositionsModel_settle 47 = .ok (.aload_n 0, 1) := by decide +kernel
theorem d_GlyphPositionsModel_settle_48 : decode b_GlyphPositionsModel_settle 48 = .ok (.getfield 59, 3) := by decide +kernel
theorem d_GlyphPositionsModel_settle_51 : decode b_GlyphPositionsModel_settle 51 = .ok (.iload_n 1, 1) := by decide +kernel
theorem d_GlyphPositionsModel_settle_52 : decode b_GlyphPositionsModel_settle 52 = .ok (.aload_n 0, 1) := by decide +kernel
theorem d_GlyphPositionsModel_settle_53 : decode b_GlyphPositionsModel_settle 53 = .ok (.getfield 59, 3) := by decide +kernel
theorem d_GlyphPositionsModel_settle_56 : decode b_GlyphPositionsModel_settle 56 = .ok (.iload_n 1, 1) := by decide +kernel
theorem d_GlyphPositionsModel_settle_57 : decode b_GlyphPositionsModel_settle 57 = .ok (.iaload, 1) := by decide +kernel
theorem d_GlyphPositionsModel_settle_58 : decode b_GlyphPositionsModel_settle 58 = .ok (.aload_n 0, 1) := by decide +kernel
theorem d_GlyphPositionsModel_settle_59 : decode b_GlyphPositionsModel_settle 59 = .ok (.getfield 71, 3) := by decide +kernel
theorem d_GlyphPositionsModel_settle_62 : decode b_GlyphPositionsModel_settle 62 = .ok (.iload_n 1, 1) := by decide +kernel
theorem d_GlyphPositionsModel_settle_63 : decode b_GlyphPositionsModel_settle 63 = .ok (.iaload, 1) := by decide +kernel
theorem d_GlyphPositionsModel_settle_64 : decode b_GlyphPositionsModel_settle 64 = .ok (.iadd, 1) := by decide +kernel
theorem d_GlyphPositionsModel_settle_65 : decode b_GlyphPositionsModel_settle 65 = .ok (.aload_n 0, 1) := by decide +kernel
theorem d_GlyphPositionsModel_settle_66 : decode b_GlyphPositionsModel_settle 66 = .ok (.getfield 59, 3) := by decide +kernel
theorem d_GlyphPositionsModel_settle_69 : decode b_GlyphPositionsModel_settle 69 = .ok (.iload_n 2, 1) := by decide +kernel
theorem d_GlyphPositionsModel_settle_70 : decode b_GlyphPositionsModel_settle 70 = .ok (.iaload, 1) := by decide +kernel
theorem d_GlyphPositionsModel_settle_71 : decode b_GlyphPositionsModel_settle 71 = .ok (.iadd, 1) := by decide +kernel
theorem d_GlyphPositionsModel_settle_72 : decode b_GlyphPositionsModel_settle 72 = .ok (.iastore, 1) := by decide +kernel
theorem d_GlyphPositionsModel_settle_73 : decode b_GlyphPositionsModel_settle 73 = .ok (.iload_n 2, 1) := by decide +kernel
theorem d_GlyphPositionsModel_settle_74 : decode b_GlyphPositionsModel_settle 74 = .ok (.istore_n 3, 1) := by decide +kernel
theorem d_GlyphPositionsModel_settle_75 : decode b_GlyphPositionsModel_settle 75 = .ok (.iload_n 3, 1) := by decide +kernel
theorem d_GlyphPositionsModel_settle_76 : decode b_GlyphPositionsModel_settle 76 = .ok (.iload_n 1, 1) := by decide +kernel
theorem d_GlyphPositionsModel_settle_77 : decode b_GlyphPositionsModel_settle 77 = .ok (.if_icmp .gt 85, 3) := by decide +kernel
theorem d_GlyphPositionsModel_settle_80 : decode b_GlyphPositionsModel_settle 80 = .ok (.aload_n 0, 1) := by decide +kernel
theorem d_GlyphPositionsModel_settle_81 : decode b_GlyphPositionsModel_settle 81 = .ok (.getfield 323, 3) := by decide +kernel
theorem d_GlyphPositionsModel_settle_84 : decode b_GlyphPositionsModel_settle 84 = .ok (.ifCond .eq 16, 3) := by decide +kernel
theorem d_GlyphPositionsModel_settle_87 : decode b_GlyphPositionsModel_settle 87 = .ok (.iload_n 3, 1) := by decide +kernel
theorem d_GlyphPositionsModel_settle_88 : decode b_GlyphPositionsModel_settle 88 = .ok (.iload_n 2, 1) := by decide +kernel
theorem d_GlyphPositionsModel_settle_89 : decode b_GlyphPositionsModel_settle 89 = .ok (.if_icmp .le 7, 3) := by decide +kernel
theorem d_GlyphPositionsModel_settle_92 : decode b_GlyphPositionsModel_settle 92 = .ok (.iconst 1, 1) := by decide +kernel
theorem d_GlyphPositionsModel_settle_93 : decode b_GlyphPositionsModel_settle 93 = .ok (.goto 17, 3) := by decide +kernel
theorem d_GlyphPositionsModel_settle_96 : decode b_GlyphPositionsModel_settle 96 = .ok (.iconst 0, 1) := by decide +kernel
theorem d_GlyphPositionsModel_settle_97 : decode b_GlyphPositionsModel_settle 97 = .ok (.goto 13, 3) := by decide +kernel
theorem d_GlyphPositionsModel_settle_100 : decode b_GlyphPositionsModel_settle 100 = .ok (.iload_n 3, 1) := by decide +kernel
theorem d_GlyphPositionsModel_settle_101 : decode b_GlyphPositionsModel_settle 101 = .ok (.iload_n 1, 1) := by decide +kernel
theorem d_GlyphPositionsModel_settle_102 : decode b_GlyphPositionsModel_settle 102 = .ok (.if_icmp .ge 7, 3) := by decide +kernel
theorem d_GlyphPositionsModel_settle_105 : decode b_GlyphPositionsModel_settle 105 = .ok (.iconst (-1), 1) := by decide +kernel
theorem d_GlyphPositionsModel_settle_106 : decode b_GlyphPositionsModel_settle 106 = .ok (.goto 4, 3) := by decide +kernel
theorem d_GlyphPositionsModel_settle_109 : decode b_GlyphPositionsModel_settle 109 = .ok (.iconst 0, 1) := by decide +kernel
theorem d_GlyphPositionsModel_settle_110 : decode b_GlyphPositionsModel_settle 110 = .ok (.istore 4, 2) := by decide +kernel
theorem d_GlyphPositionsModel_settle_112 : decode b_GlyphPositionsModel_settle 112 = .ok (.aload_n 0, 1) := by decide +kernel
theorem d_GlyphPositionsModel_settle_113 : decode b_GlyphPositionsModel_settle 113 = .ok (.getfield 59, 3) := by decide +kernel
theorem d_GlyphPositionsModel_settle_116 : decode b_GlyphPositionsModel_settle 116 = .ok (.iload_n 1, 1) := by decide +kernel
theorem d_GlyphPositionsModel_settle_117 : decode b_GlyphPositionsModel_settle 117 = .ok (.aload_n 0, 1) := by decide +kernel
theorem d_GlyphPositionsModel_settle_118 : decode b_GlyphPositionsModel_settle 118 = .ok (.getfield 59, 3) := by decide +kernel
theorem d_GlyphPositionsModel_settle_121 : decode b_GlyphPositionsModel_settle 121 = .ok (.iload_n 1, 1) := by decide +kernel
theorem d_GlyphPositionsModel_settle_122 : decode b_GlyphPositionsModel_settle 122 = .ok (.iaload, 1) := by decide +kernel
theorem d_GlyphPositionsModel_settle_123 : decode b_GlyphPositionsModel_settle 123 = .ok (.iload 4, 2) := by decide +kernel
theorem d_GlyphPositionsModel_settle_125 : decode b_GlyphPositionsModel_settle 125 = .ok (.aload_n 0, 1) := by decide +kernel
theorem d_GlyphPositionsModel_settle_126 : decode b_GlyphPositionsModel_settle 126 = .ok (.getfield 53, 3) := by decide +kernel
theorem d_GlyphPositionsModel_settle_129 : decode b_GlyphPositionsModel_settle 129 = .ok (.iload_n 3, 1) := by decide +kernel
theorem d_GlyphPositionsModel_settle_130 : decode b_GlyphPositionsModel_settle 130 = .ok (.iaload, 1) := by decide +kernel
theorem d_GlyphPositionsModel_settle_131 : decode b_GlyphPositionsModel_settle 131 = .ok (.imul, 1) := by decide +kernel
theorem d_GlyphPositionsModel_settle_132 : decode b_GlyphPositionsModel_settle 132 = .ok (.iadd, 1) := by decide +kernel
theorem d_GlyphPositionsModel_settle_133 : decode b_GlyphPositionsModel_settle 133 = .ok (.iastore, 1) := by decide +kernel
theorem d_GlyphPositionsModel_settle_134 : decode b_GlyphPositionsModel_settle 134 = .ok (.aload_n 0, 1) := by decide +kernel
theorem d_GlyphPositionsModel_settle_135 : decode b_GlyphPositionsModel_settle 135 = .ok (.getfield 62, 3) := by decide +kernel
theorem d_GlyphPositionsModel_settle_138 : decode b_GlyphPositionsModel_settle 138 = .ok (.iload_n 1, 1) := by decide +kernel
theorem d_GlyphPositionsModel_settle_139 : decode b_GlyphPositionsModel_settle 139 = .ok (.aload_n 0, 1) := by decide +kernel
theorem d_GlyphPositionsModel_settle_140 : decode b_GlyphPositionsModel_settle 140 = .ok (.getfield 62, 3) := by decide +kernel
theorem d_GlyphPositionsModel_settle_143 : decode b_GlyphPositionsModel_settle 143 = .ok (.iload_n 1, 1) := by decide +kernel
theorem d_GlyphPositionsModel_settle_144 : decode b_GlyphPositionsModel_settle 144 = .ok (.iaload, 1) := by decide +kernel
theorem d_GlyphPositionsModel_settle_145 : decode b_GlyphPositionsModel_settle 145 = .ok (.iload 4, 2) := by decide +kernel
theorem d_GlyphPositionsModel_settle_147 : decode b_GlyphPositionsModel_settle 147 = .ok (.aload_n 0, 1) := by decide +kernel
theorem d_GlyphPositionsModel_settle_148 : decode b_GlyphPositionsModel_settle 148 = .ok (.getfield 56, 3) := by decide +kernel
theorem d_GlyphPositionsModel_settle_151 : decode b_GlyphPositionsModel_settle 151 = .ok (.iload_n 3, 1) := by decide +kernel
theorem d_GlyphPositionsModel_settle_152 : decode b_GlyphPositionsModel_settle 152 = .ok (.iaload, 1) := by decide +kernel
theorem d_GlyphPositionsModel_settle_153 : decode b_GlyphPositionsModel_settle 153 = .ok (.imul, 1) := by decide +kernel
theorem d_GlyphPositionsModel_settle_154 : decode b_GlyphPositionsModel_settle 154 = .ok (.iadd, 1) := by decide +kernel
theorem d_GlyphPositionsModel_settle_155 : decode b_GlyphPositionsModel_settle 155 = .ok (.iastore, 1) := by decide +kernel
theorem d_GlyphPositionsModel_settle_156 : decode b_GlyphPositionsModel_settle 156 = .ok (.iinc 3 1, 3) := by decide +kernel
theorem d_GlyphPositionsModel_settle_159 : decode b_GlyphPositionsModel_settle 159 = .ok (.goto (-84), 3) := by decide +kernel
theorem d_GlyphPositionsModel_settle_162 : decode b_GlyphPositionsModel_settle 162 = .ok (.return_, 1) := by decide +kernel
abbrev b_GlyphPositionsModel_lookupAt : ByteArray := prog_12_method_62_code
def y_GlyphPositionsModel_lookupAt : MethodName := ⟨R_GlyphPositionsModel, "lookupAt", "(I)I"⟩
theorem d_GlyphPositionsModel_lookupAt_0 : decode b_GlyphPositionsModel_lookupAt 0 = .ok (.aload_n 0, 1) := by decide +kernel
theorem d_GlyphPositionsModel_lookupAt_1 : decode b_GlyphPositionsModel_lookupAt 1 = .ok (.bipush 8, 2) := by decide +kernel
theorem d_GlyphPositionsModel_lookupAt_3 : decode b_GlyphPositionsModel_lookupAt 3 = .ok (.invokevirtual 244, 3) := by decide +kernel
theorem d_GlyphPositionsModel_lookupAt_6 : decode b_GlyphPositionsModel_lookupAt 6 = .ok (.istore_n 2, 1) := by decide +kernel
theorem d_GlyphPositionsModel_lookupAt_7 : decode b_GlyphPositionsModel_lookupAt 7 = .ok (.iload_n 2, 1) := by decide +kernel
theorem d_GlyphPositionsModel_lookupAt_8 : decode b_GlyphPositionsModel_lookupAt 8 = .ok (.aload_n 0, 1) := by decide +kernel
theorem d_GlyphPositionsModel_lookupAt_9 : decode b_GlyphPositionsModel_lookupAt 9 = .ok (.iload_n 2, 1) := by decide +kernel
theorem d_GlyphPositionsModel_lookupAt_10 : decode b_GlyphPositionsModel_lookupAt 10 = .ok (.iconst 2, 1) := by decide +kernel
theorem d_GlyphPositionsModel_lookupAt_11 : decode b_GlyphPositionsModel_lookupAt 11 = .ok (.iadd, 1) := by decide +kernel
theorem d_GlyphPositionsModel_lookupAt_12 : decode b_GlyphPositionsModel_lookupAt 12 = .ok (.iconst 2, 1) := by decide +kernel
theorem d_GlyphPositionsModel_lookupAt_13 : decode b_GlyphPositionsModel_lookupAt 13 = .ok (.iload_n 1, 1) := by decide +kernel
theorem d_GlyphPositionsModel_lookupAt_14 : decode b_GlyphPositionsModel_lookupAt 14 = .ok (.imul, 1) := by decide +kernel
theorem d_GlyphPositionsModel_lookupAt_15 : decode b_GlyphPositionsModel_lookupAt 15 = .ok (.iadd, 1) := by decide +kernel
theorem d_GlyphPositionsModel_lookupAt_16 : decode b_GlyphPositionsModel_lookupAt 16 = .ok (.invokevirtual 244, 3) := by decide +kernel
theorem d_GlyphPositionsModel_lookupAt_19 : decode b_GlyphPositionsModel_lookupAt 19 = .ok (.iadd, 1) := by decide +kernel
theorem d_GlyphPositionsModel_lookupAt_20 : decode b_GlyphPositionsModel_lookupAt 20 = .ok (.ireturn, 1) := by decide +kernel
abbrev b_GlyphPositionsModel_typeOf : ByteArray := prog_12_method_63_code
def y_GlyphPositionsModel_typeOf : MethodName := ⟨R_GlyphPositionsModel, "typeOf", "(I)I"⟩
theorem d_GlyphPositionsModel_typeOf_0 : decode b_GlyphPositionsModel_typeOf 0 = .ok (.aload_n 0, 1) := by decide +kernel
theorem d_GlyphPositionsModel_typeOf_1 : decode b_GlyphPositionsModel_typeOf 1 = .ok (.iload_n 1, 1) := by decide +kernel
theorem d_GlyphPositionsModel_typeOf_2 : decode b_GlyphPositionsModel_typeOf 2 = .ok (.invokevirtual 244, 3) := by decide +kernel
theorem d_GlyphPositionsModel_typeOf_5 : decode b_GlyphPositionsModel_typeOf 5 = .ok (.istore_n 2, 1) := by decide +kernel
theorem d_GlyphPositionsModel_typeOf_6 : decode b_GlyphPositionsModel_typeOf 6 = .ok (.iload_n 2, 1) := by decide +kernel
theorem d_GlyphPositionsModel_typeOf_7 : decode b_GlyphPositionsModel_typeOf 7 = .ok (.bipush 9, 2) := by decide +kernel
theorem d_GlyphPositionsModel_typeOf_9 : decode b_GlyphPositionsModel_typeOf 9 = .ok (.if_icmp .ne 36, 3) := by decide +kernel
theorem d_GlyphPositionsModel_typeOf_12 : decode b_GlyphPositionsModel_typeOf 12 = .ok (.aload_n 0, 1) := by decide +kernel
theorem d_GlyphPositionsModel_typeOf_13 : decode b_GlyphPositionsModel_typeOf 13 = .ok (.iload_n 1, 1) := by decide +kernel
theorem d_GlyphPositionsModel_typeOf_14 : decode b_GlyphPositionsModel_typeOf 14 = .ok (.iconst 4, 1) := by decide +kernel
theorem d_GlyphPositionsModel_typeOf_15 : decode b_GlyphPositionsModel_typeOf 15 = .ok (.iadd, 1) := by decide +kernel
theorem d_GlyphPositionsModel_typeOf_16 : decode b_GlyphPositionsModel_typeOf 16 = .ok (.invokevirtual 244, 3) := by decide +kernel
theorem d_GlyphPositionsModel_typeOf_19 : decode b_GlyphPositionsModel_typeOf 19 = .ok (.ifCond .le 22, 3) := by decide +kernel
theorem d_GlyphPositionsModel_typeOf_22 : decode b_GlyphPositionsModel_typeOf 22 = .ok (.aload_n 0, 1) := by decide +kernel
theorem d_GlyphPositionsModel_typeOf_23 : decode b_GlyphPositionsModel_typeOf 23 = .ok (.iload_n 1, 1) := by decide +kernel
theorem d_GlyphPositionsModel_typeOf_24 : decode b_GlyphPositionsModel_typeOf 24 = .ok (.aload_n 0, 1) := by decide +kernel
theorem d_GlyphPositionsModel_typeOf_25 : decode b_GlyphPositionsModel_typeOf 25 = .ok (.iload_n 1, 1) := by decide +kernel
theorem d_GlyphPositionsModel_typeOf_26 : decode b_GlyphPositionsModel_typeOf 26 = .ok (.bipush 6, 2) := by decide +kernel
theorem d_GlyphPositionsModel_typeOf_28 : decode b_GlyphPositionsModel_typeOf 28 = .ok (.iadd, 1) := by decide +kernel
theorem d_GlyphPositionsModel_typeOf_29 : decode b_GlyphPositionsModel_typeOf 29 = .ok (.invokevirtual 244, 3) := by decide +kernel
theorem d_GlyphPositionsModel_typeOf_32 : decode b_GlyphPositionsModel_typeOf 32 = .ok (.iadd, 1) := by decide +kernel
theorem d_GlyphPositionsModel_typeOf_33 : decode b_GlyphPositionsModel_typeOf 33 = .ok (.iconst 2, 1) := by decide +kernel
theorem d_GlyphPositionsModel_typeOf_34 : decode b_GlyphPositionsModel_typeOf 34 = .ok (.iadd, 1) := by decide +kernel
theorem d_GlyphPositionsModel_typeOf_35 : decode b_GlyphPositionsModel_typeOf 35 = .ok (.invokevirtual 244, 3) := by decide +kernel
theorem d_GlyphPositionsModel_typeOf_38 : decode b_GlyphPositionsModel_typeOf 38 = .ok (.goto 8, 3) := by decide +kernel
theorem d_GlyphPositionsModel_typeOf_41 : decode b_GlyphPositionsModel_typeOf 41 = .ok (.iconst 0, 1) := by decide +kernel
theorem d_GlyphPositionsModel_typeOf_42 : decode b_GlyphPositionsModel_typeOf 42 = .ok (.goto 4, 3) := by decide +kernel
theorem d_GlyphPositionsModel_typeOf_45 : decode b_GlyphPositionsModel_typeOf 45 = .ok (.iload_n 2, 1) := by decide +kernel
theorem d_GlyphPositionsModel_typeOf_46 : decode b_GlyphPositionsModel_typeOf 46 = .ok (.ireturn, 1) := by decide +kernel
abbrev b_GlyphPositionsModel_rangeOf : ByteArray := prog_12_method_56_code
def y_GlyphPositionsModel_rangeOf : MethodName := ⟨R_GlyphPositionsModel, "rangeOf", "(I)I"⟩
theorem d_GlyphPositionsModel_rangeOf_0 : decode b_GlyphPositionsModel_rangeOf 0 = .ok (.iconst (-1), 1) := by decide +kernel
theorem d_GlyphPositionsModel_rangeOf_1 : decode b_GlyphPositionsModel_rangeOf 1 = .ok (.istore_n 2, 1) := by decide +kernel
theorem d_GlyphPositionsModel_rangeOf_2 : decode b_GlyphPositionsModel_rangeOf 2 = .ok (.iconst 0, 1) := by decide +kernel
theorem d_GlyphPositionsModel_rangeOf_3 : decode b_GlyphPositionsModel_rangeOf 3 = .ok (.istore_n 3, 1) := by decide +kernel
theorem d_GlyphPositionsModel_rangeOf_4 : decode b_GlyphPositionsModel_rangeOf 4 = .ok (.iload_n 3, 1) := by decide +kernel
theorem d_GlyphPositionsModel_rangeOf_5 : decode b_GlyphPositionsModel_rangeOf 5 = .ok (.aload_n 0, 1) := by decide +kernel
theorem d_GlyphPositionsModel_rangeOf_6 : decode b_GlyphPositionsModel_rangeOf 6 = .ok (.getfield 226, 3) := by decide +kernel
theorem d_GlyphPositionsModel_rangeOf_9 : decode b_GlyphPositionsModel_rangeOf 9 = .ok (.if_icmp .ge 35, 3) := by decide +kernel
theorem d_GlyphPositionsModel_rangeOf_12 : decode b_GlyphPositionsModel_rangeOf 12 = .ok (.iload_n 1, 1) := by decide +kernel
theorem d_GlyphPositionsModel_rangeOf_13 : decode b_GlyphPositionsModel_rangeOf 13 = .ok (.aload_n 0, 1) := by decide +kernel
theorem d_GlyphPositionsModel_rangeOf_14 : decode b_GlyphPositionsModel_rangeOf 14 = .ok (.getfield 16, 3) := by decide +kernel
theorem d_GlyphPositionsModel_rangeOf_17 : decode b_GlyphPositionsModel_rangeOf 17 = .ok (.iload_n 3, 1) := by decide +kernel
theorem d_GlyphPositionsModel_rangeOf_18 : decode b_GlyphPositionsModel_rangeOf 18 = .ok (.iaload, 1) := by decide +kernel
theorem d_GlyphPositionsModel_rangeOf_19 : decode b_GlyphPositionsModel_rangeOf 19 = .ok (.if_icmp .lt 17, 3) := by decide +kernel
theorem d_GlyphPositionsModel_rangeOf_22 : decode b_GlyphPositionsModel_rangeOf 22 = .ok (.iload_n 1, 1) := by decide +kernel
theorem d_GlyphPositionsModel_rangeOf_23 : decode b_GlyphPositionsModel_rangeOf 23 = .ok (.aload_n 0, 1) := by decide +kernel
theorem d_GlyphPositionsModel_rangeOf_24 : decode b_GlyphPositionsModel_rangeOf 24 = .ok (.getfield 19, 3) := by decide +kernel
theorem d_GlyphPositionsModel_rangeOf_27 : decode b_GlyphPositionsModel_rangeOf 27 = .ok (.iload_n 3, 1) := by decide +kernel
theorem d_GlyphPositionsModel_rangeOf_28 : decode b_GlyphPositionsModel_rangeOf 28 = .ok (.iaload, 1) := by decide +kernel
theorem d_GlyphPositionsModel_rangeOf_29 : decode b_GlyphPositionsModel_rangeOf 29 = .ok (.if_icmp .gt 7, 3) := by decide +kernel
theorem d_GlyphPositionsModel_rangeOf_32 : decode b_GlyphPositionsModel_rangeOf 32 = .ok (.iload_n 3, 1) := by decide +kernel
theorem d_GlyphPositionsModel_rangeOf_33 : decode b_GlyphPositionsModel_rangeOf 33 = .ok (.goto 4, 3) := by decide +kernel
theorem d_GlyphPositionsModel_rangeOf_36 : decode b_GlyphPositionsModel_rangeOf 36 = .ok (.iload_n 2, 1) := by decide +kernel
theorem d_GlyphPositionsModel_rangeOf_37 : decode b_GlyphPositionsModel_rangeOf 37 = .ok (.istore_n 2, 1) := by decide +kernel
theorem d_GlyphPositionsModel_rangeOf_38 : decode b_GlyphPositionsModel_rangeOf 38 = .ok (.iinc 3 1, 3) := by decide +kernel
theorem d_GlyphPositionsModel_rangeOf_41 : decode b_GlyphPositionsModel_rangeOf 41 = .ok (.goto (-37), 3) := by decide +kernel
theorem d_GlyphPositionsModel_rangeOf_44 : decode b_GlyphPositionsModel_rangeOf 44 = .ok (.iload_n 2, 1) := by decide +kernel
theorem d_GlyphPositionsModel_rangeOf_45 : decode b_GlyphPositionsModel_rangeOf 45 = .ok (.ireturn, 1) := by decide +kernel
abbrev b_GlyphPositionsModel_isPassed : ByteArray := prog_12_method_57_code
def y_GlyphPositionsModel_isPassed : MethodName := ⟨R_GlyphPositionsModel, "isPassed", "(II)Z"⟩
theorem d_GlyphPositionsModel_isPassed_0 : decode b_GlyphPositionsModel_isPassed 0 = .ok (.aload_n 0, 1) := by decide +kernel
theorem d_GlyphPositionsModel_isPassed_1 : decode b_GlyphPositionsModel_isPassed 1 = .ok (.iload_n 2, 1) := by decide +kernel
theorem d_GlyphPositionsModel_isPassed_2 : decode b_GlyphPositionsModel_isPassed 2 = .ok (.invokevirtual 266, 3) := by decide +kernel
theorem d_GlyphPositionsModel_isPassed_5 : decode b_GlyphPositionsModel_isPassed 5 = .ok (.istore_n 3, 1) := by decide +kernel
theorem d_GlyphPositionsModel_isPassed_6 : decode b_GlyphPositionsModel_isPassed 6 = .ok (.iload_n 3, 1) := by decide +kernel
theorem d_GlyphPositionsModel_isPassed_7 : decode b_GlyphPositionsModel_isPassed 7 = .ok (.ifCond .ge 7, 3) := by decide +kernel
theorem d_GlyphPositionsModel_isPassed_10 : decode b_GlyphPositionsModel_isPassed 10 = .ok (.iconst 0, 1) := by decide +kernel
theorem d_GlyphPositionsModel_isPassed_11 : decode b_GlyphPositionsModel_isPassed 11 = .ok (.goto 9, 3) := by decide +kernel
theorem d_GlyphPositionsModel_isPassed_14 : decode b_GlyphPositionsModel_isPassed 14 = .ok (.aload_n 0, 1) := by decide +kernel
theorem d_GlyphPositionsModel_isPassed_15 : decode b_GlyphPositionsModel_isPassed 15 = .ok (.getfield 22, 3) := by decide +kernel
theorem d_GlyphPositionsModel_isPassed_18 : decode b_GlyphPositionsModel_isPassed 18 = .ok (.iload_n 3, 1) := by decide +kernel
theorem d_GlyphPositionsModel_isPassed_19 : decode b_GlyphPositionsModel_isPassed 19 = .ok (.iaload, 1) := by decide +kernel
theorem d_GlyphPositionsModel_isPassed_20 : decode b_GlyphPositionsModel_isPassed 20 = .ok (.istore 4, 2) := by decide +kernel
theorem d_GlyphPositionsModel_isPassed_22 : decode b_GlyphPositionsModel_isPassed 22 = .ok (.iload_n 3, 1) := by decide +kernel
theorem d_GlyphPositionsModel_isPassed_23 : decode b_GlyphPositionsModel_isPassed 23 = .ok (.ifCond .ge 7, 3) := by decide +kernel
theorem d_GlyphPositionsModel_isPassed_26 : decode b_GlyphPositionsModel_isPassed 26 = .ok (.iconst 0, 1) := by decide +kernel
theorem d_GlyphPositionsModel_isPassed_27 : decode b_GlyphPositionsModel_isPassed 27 = .ok (.goto 9, 3) := by decide +kernel
theorem d_GlyphPositionsModel_isPassed_30 : decode b_GlyphPositionsModel_isPassed 30 = .ok (.aload_n 0, 1) := by decide +kernel
theorem d_GlyphPositionsModel_isPassed_31 : decode b_GlyphPositionsModel_isPassed 31 = .ok (.getfield 25, 3) := by decide +kernel
theorem d_GlyphPositionsModel_isPassed_34 : decode b_GlyphPositionsModel_isPassed 34 = .ok (.iload_n 3, 1) := by decide +kernel
theorem d_GlyphPositionsModel_isPassed_35 : decode b_GlyphPositionsModel_isPassed 35 = .ok (.iaload, 1) := by decide +kernel
theorem d_GlyphPositionsModel_isPassed_36 : decode b_GlyphPositionsModel_isPassed 36 = .ok (.istore 5, 2) := by decide +kernel
theorem d_GlyphPositionsModel_isPassed_38 : decode b_GlyphPositionsModel_isPassed 38 = .ok (.iload 4, 2) := by decide +kernel
theorem d_GlyphPositionsModel_isPassed_40 : decode b_GlyphPositionsModel_isPassed 40 = .ok (.ifCond .le 17, 3) := by decide +kernel
theorem d_GlyphPositionsModel_isPassed_43 : decode b_GlyphPositionsModel_isPassed 43 = .ok (.iload_n 1, 1) := by decide +kernel
theorem d_GlyphPositionsModel_isPassed_44 : decode b_GlyphPositionsModel_isPassed 44 = .ok (.iload 4, 2) := by decide +kernel
theorem d_GlyphPositionsModel_isPassed_46 : decode b_GlyphPositionsModel_isPassed 46 = .ok (.ishr, 1) := by decide +kernel
theorem d_GlyphPositionsModel_isPassed_47 : decode b_GlyphPositionsModel_isPassed 47 = .ok (.iconst 1, 1) := by decide +kernel
theorem d_GlyphPositionsModel_isPassed_48 : decode b_GlyphPositionsModel_isPassed 48 = .ok (.iand, 1) := by decide +kernel
theorem d_GlyphPositionsModel_isPassed_49 : decode b_GlyphPositionsModel_isPassed 49 = .ok (.iconst 1, 1) := by decide +kernel
theorem d_GlyphPositionsModel_isPassed_50 : decode b_GlyphPositionsModel_isPassed 50 = .ok (.if_icmp .ne 7, 3) := by decide +kernel
theorem d_GlyphPositionsModel_isPassed_53 : decode b_GlyphPositionsModel_isPassed 53 = .ok (.iconst 1, 1) := by decide +kernel
theorem d_GlyphPositionsModel_isPassed_54 : decode b_GlyphPositionsModel_isPassed 54 = .ok (.goto 4, 3) := by decide +kernel
theorem d_GlyphPositionsModel_isPassed_57 : decode b_GlyphPositionsModel_isPassed 57 = .ok (.iconst 0, 1) := by decide +kernel
theorem d_GlyphPositionsModel_isPassed_58 : decode b_GlyphPositionsModel_isPassed 58 = .ok (.istore 6, 2) := by decide +kernel
theorem d_GlyphPositionsModel_isPassed_60 : decode b_GlyphPositionsModel_isPassed 60 = .ok (.iload 6, 2) := by decide +kernel
theorem d_GlyphPositionsModel_isPassed_62 : decode b_GlyphPositionsModel_isPassed 62 = .ok (.ifCond .ne 27, 3) := by decide +kernel
theorem d_GlyphPositionsModel_isPassed_65 : decode b_GlyphPositionsModel_isPassed 65 = .ok (.iload 4, 2) := by decide +kernel
theorem d_GlyphPositionsModel_isPassed_67 : decode b_GlyphPositionsModel_isPassed 67 = .ok (.iconst 3, 1) := by decide +kernel
theorem d_GlyphPositionsModel_isPassed_68 : decode b_GlyphPositionsModel_isPassed 68 = .ok (.if_icmp .ne 25, 3) := by decide +kernel
theorem d_GlyphPositionsModel_isPassed_71 : decode b_GlyphPositionsModel_isPassed 71 = .ok (.iload_n 1, 1) := by decide +kernel
theorem d_GlyphPositionsModel_isPassed_72 : decode b_GlyphPositionsModel_isPassed 72 = .ok (.sipush 256, 3) := by decide +kernel
theorem d_GlyphPositionsModel_isPassed_75 : decode b_GlyphPositionsModel_isPassed 75 = .ok (.idiv, 1) := by decide +kernel
theorem d_GlyphPositionsModel_isPassed_76 : decode b_GlyphPositionsModel_isPassed 76 = .ok (.ifCond .eq 17, 3) := by decide +kernel
theorem d_GlyphPositionsModel_isPassed_79 : decode b_GlyphPositionsModel_isPassed 79 = .ok (.iload 5, 2) := by decide +kernel
theorem d_GlyphPositionsModel_isPassed_81 : decode b_GlyphPositionsModel_isPassed 81 = .ok (.iload_n 1, 1) := by decide +kernel
theorem d_GlyphPositionsModel_isPassed_82 : decode b_GlyphPositionsModel_isPassed 82 = .ok (.sipush 256, 3) := by decide +kernel
theorem d_GlyphPositionsModel_isPassed_85 : decode b_GlyphPositionsModel_isPassed 85 = .ok (.idiv, 1) := by decide +kernel
theorem d_GlyphPositionsModel_isPassed_86 : decode b_GlyphPositionsModel_isPassed 86 = .ok (.if_icmp .eq 7, 3) := by decide +kernel
theorem d_GlyphPositionsModel_isPassed_89 : decode b_GlyphPositionsModel_isPassed 89 = .ok (.iconst 1, 1) := by decide +kernel
theorem d_GlyphPositionsModel_isPassed_90 : decode b_GlyphPositionsModel_isPassed 90 = .ok (.goto 4, 3) := by decide +kernel
theorem d_GlyphPositionsModel_isPassed_93 : decode b_GlyphPositionsModel_isPassed 93 = .ok (.iconst 0, 1) := by decide +kernel
theorem d_GlyphPositionsModel_isPassed_94 : decode b_GlyphPositionsModel_isPassed 94 = .ok (.ireturn, 1) := by decide +kernel
abbrev b_GlyphPositionsModel_subtableAt : ByteArray := prog_12_method_64_code
def y_GlyphPositionsModel_subtableAt : MethodName := ⟨R_GlyphPositionsModel, "subtableAt", "(II)I"⟩
theorem d_GlyphPositionsModel_subtableAt_0 : decode b_GlyphPositionsModel_subtableAt 0 = .ok (.iload_n 1, 1) := by decide +kernel
theorem d_GlyphPositionsModel_subtableAt_1 : decode b_GlyphPositionsModel_subtableAt 1 = .ok (.aload_n 0, 1) := by decide +kernel
theorem d_GlyphPositionsModel_subtableAt_2 : decode b_GlyphPositionsModel_subtableAt 2 = .ok (.iload_n 1, 1) := by decide +kernel
theorem d_GlyphPositionsModel_subtableAt_3 : decode b_GlyphPositionsModel_subtableAt 3 = .ok (.bipush 6, 2) := by decide +kernel
theorem d_GlyphPositionsModel_subtableAt_5 : decode b_GlyphPositionsModel_subtableAt 5 = .ok (.iadd, 1) := by decide +kernel
theorem d_GlyphPositionsModel_subtableAt_6 : decode b_GlyphPositionsModel_subtableAt 6 = .ok (.iconst 2, 1) := by decide +kernel
theorem d_GlyphPositionsModel_subtableAt_7 : decode b_GlyphPositionsModel_subtableAt 7 = .ok (.iload_n 2, 1) := by decide +kernel
theorem d_GlyphPositionsModel_subtableAt_8 : decode b_GlyphPositionsModel_subtableAt 8 = .ok (.imul, 1) := by decide +kernel
theorem d_GlyphPositionsModel_subtableAt_9 : decode b_GlyphPositionsModel_subtableAt 9 = .ok (.iadd, 1) := by decide +kernel
theorem d_GlyphPositionsModel_subtableAt_10 : decode b_GlyphPositionsModel_subtableAt 10 = .ok (.invokevirtual 244, 3) := by decide +kernel
theorem d_GlyphPositionsModel_subtableAt_13 : decode b_GlyphPositionsModel_subtableAt 13 = .ok (.iadd, 1) := by decide +kernel
theorem d_GlyphPositionsModel_subtableAt_14 : decode b_GlyphPositionsModel_subtableAt 14 = .ok (.istore_n 3, 1) := by decide +kernel
theorem d_GlyphPositionsModel_subtableAt_15 : decode b_GlyphPositionsModel_subtableAt 15 = .ok (.aload_n 0, 1) := by decide +kernel
theorem d_GlyphPositionsModel_subtableAt_16 : decode b_GlyphPositionsModel_subtableAt 16 = .ok (.iload_n 1, 1) := by decide +kernel
theorem d_GlyphPositionsModel_subtableAt_17 : decode b_GlyphPositionsModel_subtableAt 17 = .ok (.invokevirtual 244, 3) := by decide +kernel
theorem d_GlyphPositionsModel_subtableAt_20 : decode b_GlyphPositionsModel_subtableAt 20 = .ok (.bipush 9, 2) := by decide +kernel
theorem d_GlyphPositionsModel_subtableAt_22 : decode b_GlyphPositionsModel_subtableAt 22 = .ok (.if_icmp .ne 15, 3) := by decide +kernel
theorem d_GlyphPositionsModel_subtableAt_25 : decode b_GlyphPositionsModel_subtableAt 25 = .ok (.iload_n 3, 1) := by decide +kernel
theorem d_GlyphPositionsModel_subtableAt_26 : decode b_GlyphPositionsModel_subtableAt 26 = .ok (.aload_n 0, 1) := by decide +kernel
theorem d_GlyphPositionsModel_subtableAt_27 : decode b_GlyphPositionsModel_subtableAt 27 = .ok (.iload_n 3, 1) := by decide +kernel
theorem d_GlyphPositionsModel_subtableAt_28 : decode b_GlyphPositionsModel_subtableAt 28 = .ok (.iconst 4, 1) := by decide +kernel
theorem d_GlyphPositionsModel_subtableAt_29 : decode b_GlyphPositionsModel_subtableAt 29 = .ok (.iadd, 1) := by decide +kernel
theorem d_GlyphPositionsModel_subtableAt_30 : decode b_GlyphPositionsModel_subtableAt 30 = .ok (.invokevirtual 247, 3) := by decide +kernel
theorem d_GlyphPositionsModel_subtableAt_33 : decode b_GlyphPositionsModel_subtableAt 33 = .ok (.iadd, 1) := by decide +kernel
theorem d_GlyphPositionsModel_subtableAt_34 : decode b_GlyphPositionsModel_subtableAt 34 = .ok (.goto 4, 3) := by decide +kernel
theorem d_GlyphPositionsModel_subtableAt_37 : decode b_GlyphPositionsModel_subtableAt 37 = .ok (.iload_n 3, 1) := by decide +kernel
theorem d_GlyphPositionsModel_subtableAt_38 : decode b_GlyphPositionsModel_subtableAt 38 = .ok (.ireturn, 1) := by decide +kernel
abbrev b_GlyphPositionsModel_indexIn : ByteArray := prog_12_method_54_code
def y_GlyphPositionsModel_indexIn : MethodName := ⟨R_GlyphPositionsModel, "indexIn", "(II)I"⟩
theorem d_GlyphPositionsModel_indexIn_0 : decode b_GlyphPositionsModel_indexIn 0 = .ok (.aload_n 0, 1) := by decide +kernel
theorem d_GlyphPositionsModel_indexIn_1 : decode b_GlyphPositionsModel_indexIn 1 = .ok (.iload_n 1, 1) := by decide +kernel
theorem d_GlyphPositionsModel_indexIn_2 : decode b_GlyphPositionsModel_indexIn 2 = .ok (.invokevirtual 244, 3) := by decide +kernel
theorem d_GlyphPositionsModel_indexIn_5 : decode b_GlyphPositionsModel_indexIn 5 = .ok (.istore_n 3, 1) := by decide +kernel
theorem d_GlyphPositionsModel_indexIn_6 : decode b_GlyphPositionsModel_indexIn 6 = .ok (.iconst (-1), 1) := by decide +kernel
theorem d_GlyphPositionsModel_indexIn_7 : decode b_GlyphPositionsModel_indexIn 7 = .ok (.istore 4, 2) := by decide +kernel
theorem d_GlyphPositionsModel_indexIn_9 : decode b_GlyphPositionsModel_indexIn 9 = .ok (.iconst 0, 1) := by decide +kernel
theorem d_GlyphPositionsModel_indexIn_10 : decode b_GlyphPositionsModel_indexIn 10 = .ok (.istore 5, 2) := by decide +kernel
theorem d_GlyphPositionsModel_indexIn_12 : decode b_GlyphPositionsModel_indexIn 12 = .ok (.iload 5, 2) := by decide +kernel
theorem d_GlyphPositionsModel_indexIn_14 : decode b_GlyphPositionsModel_indexIn 14 = .ok (.aload_n 0, 1) := by decide +kernel
theorem d_GlyphPositionsModel_indexIn_15 : decode b_GlyphPositionsModel_indexIn 15 = .ok (.iload_n 1, 1) := by decide +kernel
theorem d_GlyphPositionsModel_indexIn_16 : decode b_GlyphPositionsModel_indexIn 16 = .ok (.iconst 2, 1) := by decide +kernel
theorem d_GlyphPositionsModel_indexIn_17 : decode b_GlyphPositionsModel_indexIn 17 = .ok (.iadd, 1) := by decide +kernel
theorem d_GlyphPositionsModel_indexIn_18 : decode b_GlyphPositionsModel_indexIn 18 = .ok (.invokevirtual 244, 3) := by decide +kernel
theorem d_GlyphPositionsModel_indexIn_21 : decode b_GlyphPositionsModel_indexIn 21 = .ok (.if_icmp .ge 103, 3) := by decide +kernel
theorem d_GlyphPositionsModel_indexIn_24 : decode b_GlyphPositionsModel_indexIn 24 = .ok (.iload_n 1, 1) := by decide +kernel
theorem d_GlyphPositionsModel_indexIn_25 : decode b_GlyphPositionsModel_indexIn 25 = .ok (.iconst 4, 1) := by decide +kernel
theorem d_GlyphPositionsModel_indexIn_26 : decode b_GlyphPositionsModel_indexIn 26 = .ok (.iadd, 1) := by decide +kernel
theorem d_GlyphPositionsModel_indexIn_27 : decode b_GlyphPositionsModel_indexIn 27 = .ok (.iload_n 3, 1) := by decide +kernel
theorem d_GlyphPositionsModel_indexIn_28 : decode b_GlyphPositionsModel_indexIn 28 = .ok (.iconst 1, 1) := by decide +kernel
theorem d_GlyphPositionsModel_indexIn_29 : decode b_GlyphPositionsModel_indexIn 29 = .ok (.if_icmp .ne 7, 3) := by decide +kernel
theorem d_GlyphPositionsModel_indexIn_32 : decode b_GlyphPositionsModel_indexIn 32 = .ok (.iconst 2, 1) := by decide +kernel
theorem d_GlyphPositionsModel_indexIn_33 : decode b_GlyphPositionsModel_indexIn 33 = .ok (.goto 5, 3) := by decide +kernel
theorem d_GlyphPositionsModel_indexIn_36 : decode b_GlyphPositionsModel_indexIn 36 = .ok (.bipush 6, 2) := by decide +kernel
theorem d_GlyphPositionsModel_indexIn_38 : decode b_GlyphPositionsModel_indexIn 38 = .ok (.iload 5, 2) := by decide +kernel
theorem d_GlyphPositionsModel_indexIn_40 : decode b_GlyphPositionsModel_indexIn 40 = .ok (.imul, 1) := by decide +kernel
theorem d_GlyphPositionsModel_indexIn_41 : decode b_GlyphPositionsModel_indexIn 41 = .ok (.iadd, 1) := by decide +kernel
theorem d_GlyphPositionsModel_indexIn_42 : decode b_GlyphPositionsModel_indexIn 42 = .ok (.istore 6, 2) := by decide +kernel
theorem d_GlyphPositionsModel_indexIn_44 : decode b_GlyphPositionsModel_indexIn 44 = .ok (.aload_n 0, 1) := by decide +kernel
theorem d_GlyphPositionsModel_indexIn_45 : decode b_GlyphPositionsModel_indexIn 45 = .ok (.iload 6, 2) := by decide +kernel
theorem d_GlyphPositionsModel_indexIn_47 : decode b_GlyphPositionsModel_indexIn 47 = .ok (.invokevirtual 244, 3) := by decide +kernel
theorem d_GlyphPositionsModel_indexIn_50 : decode b_GlyphPositionsModel_indexIn 50 = .ok (.istore 7, 2) := by decide +kernel
theorem d_GlyphPositionsModel_indexIn_52 : decode b_GlyphPositionsModel_indexIn 52 = .ok (.iload_n 3, 1) := by decide +kernel
theorem d_GlyphPositionsModel_indexIn_53 : decode b_GlyphPositionsModel_indexIn 53 = .ok (.iconst 1, 1) := by decide +kernel
theorem d_GlyphPositionsModel_indexIn_54 : decode b_GlyphPositionsModel_indexIn 54 = .ok (.if_icmp .ne 8, 3) := by decide +kernel
theorem d_GlyphPositionsModel_indexIn_57 : decode b_GlyphPositionsModel_indexIn 57 = .ok (.iload 7, 2) := by decide +kernel
theorem d_GlyphPositionsModel_indexIn_59 : decode b_GlyphPositionsModel_indexIn 59 = .ok (.goto 11, 3) := by decide +kernel
theorem d_GlyphPositionsModel_indexIn_62 : decode b_GlyphPositionsModel_indexIn 62 = .ok (.aload_n 0, 1) := by decide +kernel
theorem d_GlyphPositionsModel_indexIn_63 : decode b_GlyphPositionsModel_indexIn 63 = .ok (.iload 6, 2) := by decide +kernel
theorem d_GlyphPositionsModel_indexIn_65 : decode b_GlyphPositionsModel_indexIn 65 = .ok (.iconst 2, 1) := by decide +kernel
theorem d_GlyphPositionsModel_indexIn_66 : decode b_GlyphPositionsModel_indexIn 66 = .ok (.iadd, 1) := by decide +kernel
theorem d_GlyphPositionsModel_indexIn_67 : decode b_GlyphPositionsModel_indexIn 67 = .ok (.invokevirtual 244, 3) := by decide +kernel
theorem d_GlyphPositionsModel_indexIn_70 : decode b_GlyphPositionsModel_indexIn 70 = .ok (.istore 8, 2) := by decide +kernel
theorem d_GlyphPositionsModel_indexIn_72 : decode b_GlyphPositionsModel_indexIn 72 = .ok (.iload_n 3, 1) := by decide +kernel
theorem d_GlyphPositionsModel_indexIn_73 : decode b_GlyphPositionsModel_indexIn 73 = .ok (.iconst 1, 1) := by decide +kernel
theorem d_GlyphPositionsModel_indexIn_74 : decode b_GlyphPositionsModel_indexIn 74 = .ok (.if_icmp .ne 8, 3) := by decide +kernel
theorem d_GlyphPositionsModel_indexIn_77 : decode b_GlyphPositionsModel_indexIn 77 = .ok (.iload 5, 2) := by decide +kernel
theorem d_GlyphPositionsModel_indexIn_79 : decode b_GlyphPositionsModel_indexIn 79 = .ok (.goto 11, 3) := by decide +kernel
theorem d_GlyphPositionsModel_indexIn_82 : decode b_GlyphPositionsModel_indexIn 82 = .ok (.aload_n 0, 1) := by decide +kernel
theorem d_GlyphPositionsModel_indexIn_83 : decode b_GlyphPositionsModel_indexIn 83 = .ok (.iload 6, 2) := by decide +kernel
theorem d_GlyphPositionsModel_indexIn_85 : decode b_GlyphPositionsModel_indexIn 85 = .ok (.iconst 4, 1) := by decide +kernel
theorem d_GlyphPositionsModel_indexIn_86 : decode b_GlyphPositionsModel_indexIn 86 = .ok (.iadd, 1) := by decide +kernel
theorem d_GlyphPositionsModel_indexIn_87 : decode b_GlyphPositionsModel_indexIn 87 = .ok (.invokevirtual 244, 3) := by decide +kernel
theorem d_GlyphPositionsModel_indexIn_90 : decode b_GlyphPositionsModel_indexIn 90 = .ok (.istore 9, 2) := by decide +kernel
theorem d_GlyphPositionsModel_indexIn_92 : decode b_GlyphPositionsModel_indexIn 92 = .ok (.iload_n 2, 1) := by decide +kernel
theorem d_GlyphPositionsModel_indexIn_93 : decode b_GlyphPositionsModel_indexIn 93 = .ok (.iload 7, 2) := by decide +kernel
theorem d_GlyphPositionsModel_indexIn_95 : decode b_GlyphPositionsModel_indexIn 95 = .ok (.if_icmp .lt 19, 3) := by decide +kernel
theorem d_GlyphPositionsModel_indexIn_98 : decode b_GlyphPositionsModel_indexIn 98 = .ok (.iload_n 2, 1) := by decide +kernel
theorem d_GlyphPositionsModel_indexIn_99 : decode b_GlyphPositionsModel_indexIn 99 = .ok (.iload 8, 2) := by decide +kernel
theorem d_GlyphPositionsModel_indexIn_101 : decode b_GlyphPositionsModel_indexIn 101 = .ok (.if_icmp .gt 13, 3) := by decide +kernel
theorem d_GlyphPositionsModel_indexIn_104 : decode b_GlyphPositionsModel_indexIn 104 = .ok (.iload 9, 2) := by decide +kernel
theorem d_GlyphPositionsModel_indexIn_106 : decode b_GlyphPositionsModel_indexIn 106 = .ok (.iload_n 2, 1) := by decide +kernel
theorem d_GlyphPositionsModel_indexIn_107 : decode b_GlyphPositionsModel_indexIn 107 = .ok (.iadd, 1) := by decide +kernel
theorem d_GlyphPositionsModel_indexIn_108 : decode b_GlyphPositionsModel_indexIn 108 = .ok (.iload 7, 2) := by decide +kernel
theorem d_GlyphPositionsModel_indexIn_110 : decode b_GlyphPositionsModel_indexIn 110 = .ok (.isub, 1) := by decide +kernel
theorem d_GlyphPositionsModel_indexIn_111 : decode b_GlyphPositionsModel_indexIn 111 = .ok (.goto 5, 3) := by decide +kernel
theorem d_GlyphPositionsModel_indexIn_114 : decode b_GlyphPositionsModel_indexIn 114 = .ok (.iload 4, 2) := by decide +kernel
theorem d_GlyphPositionsModel_indexIn_116 : decode b_GlyphPositionsModel_indexIn 116 = .ok (.istore 4, 2) := by decide +kernel
theorem d_GlyphPositionsModel_indexIn_118 : decode b_GlyphPositionsModel_indexIn 118 = .ok (.iinc 5 1, 3) := by decide +kernel
theorem d_GlyphPositionsModel_indexIn_121 : decode b_GlyphPositionsModel_indexIn 121 = .ok (.goto (-109), 3) := by decide +kernel
theorem d_GlyphPositionsModel_indexIn_124 : decode b_GlyphPositionsModel_indexIn 124 = .ok (.iload 4, 2) := by decide +kernel
theorem d_GlyphPositionsModel_indexIn_126 : decode b_GlyphPositionsModel_indexIn 126 = .ok (.ireturn, 1) := by decide +kernel
abbrev b_GlyphPositionsModel_covered : ByteArray := prog_12_method_65_code
def y_GlyphPositionsModel_covered : MethodName := ⟨R_GlyphPositionsModel, "covered", "(III)I"⟩
theorem d_GlyphPositionsModel_covered_0 : decode b_GlyphPositionsModel_covered 0 = .ok (.aload_n 0, 1) := by decide +kernel
theorem d_GlyphPositionsModel_covered_1 : decode b_GlyphPositionsModel_covered 1 = .ok (.iload_n 1, 1) := by decide +kernel
theorem d_GlyphPositionsModel_covered_2 : decode b_GlyphPositionsModel_covered 2 = .ok (.aload_n 0, 1) := by decide +kernel
theorem d_GlyphPositionsModel_covered_3 : decode b_GlyphPositionsModel_covered 3 = .ok (.iload_n 1, 1) := by decide +kernel
theorem d_GlyphPositionsModel_covered_4 : decode b_GlyphPositionsModel_covered 4 = .ok (.iload_n 2, 1) := by decide +kernel
theorem d_GlyphPositionsModel_covered_5 : decode b_GlyphPositionsModel_covered 5 = .ok (.iadd, 1) := by decide +kernel
theorem d_GlyphPositionsModel_covered_6 : decode b_GlyphPositionsModel_covered 6 = .ok (.invokevirtual 244, 3) := by decide +kernel
theorem d_GlyphPositionsModel_covered_9 : decode b_GlyphPositionsModel_covered 9 = .ok (.iadd, 1) := by decide +kernel
theorem d_GlyphPositionsModel_covered_10 : decode b_GlyphPositionsModel_covered 10 = .ok (.iload_n 3, 1) := by decide +kernel
theorem d_GlyphPositionsModel_covered_11 : decode b_GlyphPositionsModel_covered 11 = .ok (.invokevirtual 279, 3) := by decide +kernel
theorem d_GlyphPositionsModel_covered_14 : decode b_GlyphPositionsModel_covered 14 = .ok (.ireturn, 1) := by decide +kernel
abbrev b_GlyphPositionsModel_kindOfGlyph : ByteArray := prog_12_method_58_code
def y_GlyphPositionsModel_kindOfGlyph : MethodName := ⟨R_GlyphPositionsModel, "kindOfGlyph", "(I)I"⟩
theorem d_GlyphPositionsModel_kindOfGlyph_0 : decode b_GlyphPositionsModel_kindOfGlyph 0 = .ok (.aload_n 0, 1) := by decide +kernel
theorem d_GlyphPositionsModel_kindOfGlyph_1 : decode b_GlyphPositionsModel_kindOfGlyph 1 = .ok (.iload_n 1, 1) := by decide +kernel
theorem d_GlyphPositionsModel_kindOfGlyph_2 : decode b_GlyphPositionsModel_kindOfGlyph 2 = .ok (.invokevirtual 266, 3) := by decide +kernel
theorem d_GlyphPositionsModel_kindOfGlyph_5 : decode b_GlyphPositionsModel_kindOfGlyph 5 = .ok (.istore_n 2, 1) := by decide +kernel
theorem d_GlyphPositionsModel_kindOfGlyph_6 : decode b_GlyphPositionsModel_kindOfGlyph 6 = .ok (.iload_n 2, 1) := by decide +kernel
theorem d_GlyphPositionsModel_kindOfGlyph_7 : decode b_GlyphPositionsModel_kindOfGlyph 7 = .ok (.ifCond .ge 7, 3) := by decide +kernel
theorem d_GlyphPositionsModel_kindOfGlyph_10 : decode b_GlyphPositionsModel_kindOfGlyph 10 = .ok (.iconst 0, 1) := by decide +kernel
theorem d_GlyphPositionsModel_kindOfGlyph_11 : decode b_GlyphPositionsModel_kindOfGlyph 11 = .ok (.goto 9, 3) := by decide +kernel
theorem d_GlyphPositionsModel_kindOfGlyph_14 : decode b_GlyphPositionsModel_kindOfGlyph 14 = .ok (.aload_n 0, 1) := by decide +kernel
theorem d_GlyphPositionsModel_kindOfGlyph_15 : decode b_GlyphPositionsModel_kindOfGlyph 15 = .ok (.getfield 22, 3) := by decide +kernel
theorem d_GlyphPositionsModel_kindOfGlyph_18 : decode b_GlyphPositionsModel_kindOfGlyph 18 = .ok (.iload_n 2, 1) := by decide +kernel
theorem d_GlyphPositionsModel_kindOfGlyph_19 : decode b_GlyphPositionsModel_kindOfGlyph 19 = .ok (.iaload, 1) := by decide +kernel
theorem d_GlyphPositionsModel_kindOfGlyph_20 : decode b_GlyphPositionsModel_kindOfGlyph 20 = .ok (.ireturn, 1) := by decide +kernel
abbrev b_GlyphPositionsModel_baseOf : ByteArray := prog_12_method_73_code
def y_GlyphPositionsModel_baseOf : MethodName := ⟨R_GlyphPositionsModel, "baseOf", "(III)I"⟩
theorem d_GlyphPositionsModel_baseOf_0 : decode b_GlyphPositionsModel_baseOf 0 = .ok (.iload_n 3, 1) := by decide +kernel
theorem d_GlyphPositionsModel_baseOf_1 : decode b_GlyphPositionsModel_baseOf 1 = .ok (.iconst 1, 1) := by decide +kernel
theorem d_GlyphPositionsModel_baseOf_2 : decode b_GlyphPositionsModel_baseOf 2 = .ok (.isub, 1) := by decide +kernel
theorem d_GlyphPositionsModel_baseOf_3 : decode b_GlyphPositionsModel_baseOf 3 = .ok (.istore 4, 2) := by decide +kernel
theorem d_GlyphPositionsModel_baseOf_5 : decode b_GlyphPositionsModel_baseOf 5 = .ok (.iload_n 1, 1) := by decide +kernel
theorem d_GlyphPositionsModel_baseOf_6 : decode b_GlyphPositionsModel_baseOf 6 = .ok (.bipush 6, 2) := by decide +kernel
theorem d_GlyphPositionsModel_baseOf_8 : decode b_GlyphPositionsModel_baseOf 8 = .ok (.if_icmp .ne 56, 3) := by decide +kernel
theorem d_GlyphPositionsModel_baseOf_11 : decode b_GlyphPositionsModel_baseOf 11 = .ok (.iload 4, 2) := by decide +kernel
theorem d_GlyphPositionsModel_baseOf_13 : decode b_GlyphPositionsModel_baseOf 13 = .ok (.ifCond .lt 24, 3) := by decide +kernel
theorem d_GlyphPositionsModel_baseOf_16 : decode b_GlyphPositionsModel_baseOf 16 = .ok (.aload_n 0, 1) := by decide +kernel
theorem d_GlyphPositionsModel_baseOf_17 : decode b_GlyphPositionsModel_baseOf 17 = .ok (.iload_n 2, 1) := by decide +kernel
theorem d_GlyphPositionsModel_baseOf_18 : decode b_GlyphPositionsModel_baseOf 18 = .ok (.aload_n 0, 1) := by decide +kernel
theorem d_GlyphPositionsModel_baseOf_19 : decode b_GlyphPositionsModel_baseOf 19 = .ok (.getfield 47, 3) := by decide +kernel
theorem d_GlyphPositionsModel_baseOf_22 : decode b_GlyphPositionsModel_baseOf 22 = .ok (.iload 4, 2) := by decide +kernel
theorem d_GlyphPositionsModel_baseOf_24 : decode b_GlyphPositionsModel_baseOf 24 = .ok (.iaload, 1) := by decide +kernel
theorem d_GlyphPositionsModel_baseOf_25 : decode b_GlyphPositionsModel_baseOf 25 = .ok (.invokevirtual 275, 3) := by decide +kernel
theorem d_GlyphPositionsModel_baseOf_28 : decode b_GlyphPositionsModel_baseOf 28 = .ok (.ifCond .eq 9, 3) := by decide +kernel
theorem d_GlyphPositionsModel_baseOf_31 : decode b_GlyphPositionsModel_baseOf 31 = .ok (.iinc 4 (-1), 3) := by decide +kernel
theorem d_GlyphPositionsModel_baseOf_34 : decode b_GlyphPositionsModel_baseOf 34 = .ok (.goto (-23), 3) := by decide +kernel
theorem d_GlyphPositionsModel_baseOf_37 : decode b_GlyphPositionsModel_baseOf 37 = .ok (.iload 4, 2) := by decide +kernel
theorem d_GlyphPositionsModel_baseOf_39 : decode b_GlyphPositionsModel_baseOf 39 = .ok (.ifCond .lt 23, 3) := by decide +kernel
theorem d_GlyphPositionsModel_baseOf_42 : decode b_GlyphPositionsModel_baseOf 42 = .ok (.aload_n 0, 1) := by decide +kernel
theorem d_GlyphPositionsModel_baseOf_43 : decode b_GlyphPositionsModel_baseOf 43 = .ok (.aload_n 0, 1) := by decide +kernel
theorem d_GlyphPositionsModel_baseOf_44 : decode b_GlyphPositionsModel_baseOf 44 = .ok (.getfield 47, 3) := by decide +kernel
theorem d_GlyphPositionsModel_baseOf_47 : decode b_GlyphPositionsModel_baseOf 47 = .ok (.iload 4, 2) := by decide +kernel
theorem d_GlyphPositionsModel_baseOf_49 : decode b_GlyphPositionsModel_baseOf 49 = .ok (.iaload, 1) := by decide +kernel
theorem d_GlyphPositionsModel_baseOf_50 : decode b_GlyphPositionsModel_baseOf 50 = .ok (.invokevirtual 330, 3) := by decide +kernel
theorem d_GlyphPositionsModel_baseOf_53 : decode b_GlyphPositionsModel_baseOf 53 = .ok (.iconst 3, 1) := by decide +kernel
theorem d_GlyphPositionsModel_baseOf_54 : decode b_GlyphPositionsModel_baseOf 54 = .ok (.if_icmp .ne 8, 3) := by decide +kernel
theorem d_GlyphPositionsModel_baseOf_57 : decode b_GlyphPositionsModel_baseOf 57 = .ok (.iload 4, 2) := by decide +kernel
theorem d_GlyphPositionsModel_baseOf_59 : decode b_GlyphPositionsModel_baseOf 59 = .ok (.goto 4, 3) := by decide +kernel
theorem d_GlyphPositionsModel_baseOf_62 : decode b_GlyphPositionsModel_baseOf 62 = .ok (.iconst (-1), 1) := by decide +kernel
theorem d_GlyphPositionsModel_baseOf_63 : decode b_GlyphPositionsModel_baseOf 63 = .ok (.ireturn, 1) := by decide +kernel
theorem d_GlyphPositionsModel_baseOf_64 : decode b_GlyphPositionsModel_baseOf 64 = .ok (.iload 4, 2) := by decide +kernel
theorem d_GlyphPositionsModel_baseOf_66 : decode b_GlyphPositionsModel_baseOf 66 = .ok (.ifCond .lt 24, 3) := by decide +kernel
theorem d_GlyphPositionsModel_baseOf_69 : decode b_GlyphPositionsModel_baseOf 69 = .ok (.aload_n 0, 1) := by decide +kernel
theorem d_GlyphPositionsModel_baseOf_70 : decode b_GlyphPositionsModel_baseOf 70 = .ok (.aload_n 0, 1) := by decide +kernel
theorem d_GlyphPositionsModel_baseOf_71 : decode b_GlyphPositionsModel_baseOf 71 = .ok (.getfield 47, 3) := by decide +kernel
theorem d_GlyphPositionsModel_baseOf_74 : decode b_GlyphPositionsModel_baseOf 74 = .ok (.iload 4, 2) := by decide +kernel
theorem d_GlyphPositionsModel_baseOf_76 : decode b_GlyphPositionsModel_baseOf 76 = .ok (.iaload, 1) := by decide +kernel
theorem d_GlyphPositionsModel_baseOf_77 : decode b_GlyphPositionsModel_baseOf 77 = .ok (.invokevirtual 330, 3) := by decide +kernel
theorem d_GlyphPositionsModel_baseOf_80 : decode b_GlyphPositionsModel_baseOf 80 = .ok (.iconst 3, 1) := by decide +kernel
theorem d_GlyphPositionsModel_baseOf_81 : decode b_GlyphPositionsModel_baseOf 81 = .ok (.if_icmp .ne 9, 3) := by decide +kernel
theorem d_GlyphPositionsModel_baseOf_84 : decode b_GlyphPositionsModel_baseOf 84 = .ok (.iinc 4 (-1), 3) := by decide +kernel
theorem d_GlyphPositionsModel_baseOf_87 : decode b_GlyphPositionsModel_baseOf 87 = .ok (.goto (-23), 3) := by decide +kernel
theorem d_GlyphPositionsModel_baseOf_90 : decode b_GlyphPositionsModel_baseOf 90 = .ok (.iload 4, 2) := by decide +kernel
theorem d_GlyphPositionsModel_baseOf_92 : decode b_GlyphPositionsModel_baseOf 92 = .ok (.ireturn, 1) := by decide +kernel
abbrev b_GlyphPositionsModel_s16 : ByteArray := prog_12_method_59_code
def y_GlyphPositionsModel_s16 : MethodName := ⟨R_GlyphPositionsModel, "s16", "(I)I"⟩
theorem d_GlyphPositionsModel_s16_0 : decode b_GlyphPositionsModel_s16 0 = .ok (.aload_n 0, 1) := by decide +kernel
theorem d_GlyphPositionsModel_s16_1 : decode b_GlyphPositionsModel_s16 1 = .ok (.iload_n 1, 1) := by decide +kernel
theorem d_GlyphPositionsModel_s16_2 : decode b_GlyphPositionsModel_s16 2 = .ok (.invokevirtual 244, 3) := by decide +kernel
theorem d_GlyphPositionsModel_s16_5 : decode b_GlyphPositionsModel_s16 5 = .ok (.i2s, 1) := by decide +kernel
theorem d_GlyphPositionsModel_s16_6 : decode b_GlyphPositionsModel_s16 6 = .ok (.ireturn, 1) := by decide +kernel
abbrev b_GlyphPositionsModel_hang : ByteArray := prog_12_method_72_code
def y_GlyphPositionsModel_hang : MethodName := ⟨R_GlyphPositionsModel, "hang", "(IIZII)V"⟩
theorem d_GlyphPositionsModel_hang_0 : decode b_GlyphPositionsModel_hang 0 = .ok (.aload_n 0, 1) := by decide +kernel
theorem d_GlyphPositionsModel_hang_1 : decode b_GlyphPositionsModel_hang 1 = .ok (.getfield 65, 3) := by decide +kernel
theorem d_GlyphPositionsModel_hang_4 : decode b_GlyphPositionsModel_hang 4 = .ok (.iload_n 1, 1) := by decide +kernel
theorem d_GlyphPositionsModel_hang_5 : decode b_GlyphPositionsModel_hang 5 = .ok (.iload_n 2, 1) := by decide +kernel
theorem d_GlyphPositionsModel_hang_6 : decode b_GlyphPositionsModel_hang 6 = .ok (.iastore, 1) := by decide +kernel
theorem d_GlyphPositionsModel_hang_7 : decode b_GlyphPositionsModel_hang 7 = .ok (.aload_n 0, 1) := by decide +kernel
theorem d_GlyphPositionsModel_hang_8 : decode b_GlyphPositionsModel_hang 8 = .ok (.getfield 68, 3) := by decide +kernel
theorem d_GlyphPositionsModel_hang_11 : decode b_GlyphPositionsModel_hang 11 = .ok (.iload_n 1, 1) := by decide +kernel
theorem d_GlyphPositionsModel_hang_12 : decode b_GlyphPositionsModel_hang 12 = .ok (.iload_n 3, 1) := by decide +kernel
theorem d_GlyphPositionsModel_hang_13 : decode b_GlyphPositionsModel_hang 13 = .ok (.bastore, 1) := by decide +kernel
theorem d_GlyphPositionsModel_hang_14 : decode b_GlyphPositionsModel_hang 14 = .ok (.aload_n 0, 1) := by decide +kernel
theorem d_GlyphPositionsModel_hang_15 : decode b_GlyphPositionsModel_hang 15 = .ok (.getfield 71, 3) := by decide +kernel
theorem d_GlyphPositionsModel_hang_18 : decode b_GlyphPositionsModel_hang 18 = .ok (.iload_n 1, 1) := by decide +kernel
theorem d_GlyphPositionsModel_hang_19 : decode b_GlyphPositionsModel_hang 19 = .ok (.iload 4, 2) := by decide +kernel
theorem d_GlyphPositionsModel_hang_21 : decode b_GlyphPositionsModel_hang 21 = .ok (.iastore, 1) := by decide +kernel
theorem d_GlyphPositionsModel_hang_22 : decode b_GlyphPositionsModel_hang 22 = .ok (.aload_n 0, 1) := by decide +kernel
theorem d_GlyphPositionsModel_hang_23 : decode b_GlyphPositionsModel_hang 23 = .ok (.getfield 74, 3) := by decide +kernel
theorem d_GlyphPositionsModel_hang_26 : decode b_GlyphPositionsModel_hang 26 = .ok (.iload_n 1, 1) := by decide +kernel
theorem d_GlyphPositionsModel_hang_27 : decode b_GlyphPositionsModel_hang 27 = .ok (.iload 5, 2) := by decide +kernel
theorem d_GlyphPositionsModel_hang_29 : decode b_GlyphPositionsModel_hang 29 = .ok (.iastore, 1) := by decide +kernel
theorem d_GlyphPositionsModel_hang_30 : decode b_GlyphPositionsModel_hang 30 = .ok (.return_, 1) := by decide +kernel
abbrev b_GlyphPositionsModel_takeMark : ByteArray := prog_12_method_74_code
def y_GlyphPositionsModel_takeMark : MethodName := ⟨R_GlyphPositionsModel, "takeMark", "(IIII)I"⟩
theorem d_GlyphPositionsModel_takeMark_0 : decode b_GlyphPositionsModel_takeMark 0 = .ok (.aload_n 0, 1) := by decide +kernel
theorem d_GlyphPositionsModel_takeMark_1 : decode b_GlyphPositionsModel_takeMark 1 = .ok (.iload_n 3, 1) := by decide +kernel
theorem d_GlyphPositionsModel_takeMark_2 : decode b_GlyphPositionsModel_takeMark 2 = .ok (.iconst 2, 1) := by decide +kernel
theorem d_GlyphPositionsModel_takeMark_3 : decode b_GlyphPositionsModel_takeMark 3 = .ok (.aload_n 0, 1) := by decide +kernel
theorem d_GlyphPositionsModel_takeMark_4 : decode b_GlyphPositionsModel_takeMark 4 = .ok (.getfield 47, 3) := by decide +kernel
theorem d_GlyphPositionsModel_takeMark_7 : decode b_GlyphPositionsModel_takeMark 7 = .ok (.iload 4, 2) := by decide +kernel
theorem d_GlyphPositionsModel_takeMark_9 : decode b_GlyphPositionsModel_takeMark 9 = .ok (.iaload, 1) := by decide +kernel
theorem d_GlyphPositionsModel_takeMark_10 : decode b_GlyphPositionsModel_takeMark 10 = .ok (.invokevirtual 306, 3) := by decide +kernel
theorem d_GlyphPositionsModel_takeMark_13 : decode b_GlyphPositionsModel_takeMark 13 = .ok (.istore 5, 2) := by decide +kernel
theorem d_GlyphPositionsModel_takeMark_15 : decode b_GlyphPositionsModel_takeMark 15 = .ok (.aload_n 0, 1) := by decide +kernel
theorem d_GlyphPositionsModel_takeMark_16 : decode b_GlyphPositionsModel_takeMark 16 = .ok (.iload_n 1, 1) := by decide +kernel
theorem d_GlyphPositionsModel_takeMark_17 : decode b_GlyphPositionsModel_takeMark 17 = .ok (.iload_n 2, 1) := by decide +kernel
theorem d_GlyphPositionsModel_takeMark_18 : decode b_GlyphPositionsModel_takeMark 18 = .ok (.iload 4, 2) := by decide +kernel
theorem d_GlyphPositionsModel_takeMark_20 : decode b_GlyphPositionsModel_takeMark 20 = .ok (.invokevirtual 333, 3) := by decide +kernel
theorem d_GlyphPositionsModel_takeMark_23 : decode b_GlyphPositionsModel_takeMark 23 = .ok (.istore 6, 2) := by decide +kernel
theorem d_GlyphPositionsModel_takeMark_25 : decode b_GlyphPositionsModel_takeMark 25 = .ok (.iload 6, 2) := by decide +kernel
theorem d_GlyphPositionsModel_takeMark_27 : decode b_GlyphPositionsModel_takeMark 27 = .ok (.ifCond .ge 7, 3) := by decide +kernel
theorem d_GlyphPositionsModel_takeMark_30 : decode b_GlyphPositionsModel_takeMark 30 = .ok (.iconst (-1), 1) := by decide +kernel
theorem d_GlyphPositionsModel_takeMark_31 : decode b_GlyphPositionsModel_takeMark 31 = .ok (.goto 16, 3) := by decide +kernel
theorem d_GlyphPositionsModel_takeMark_34 : decode b_GlyphPositionsModel_takeMark 34 = .ok (.aload_n 0, 1) := by decide +kernel
theorem d_GlyphPositionsModel_takeMark_35 : decode b_GlyphPositionsModel_takeMark 35 = .ok (.iload_n 3, 1) := by decide +kernel
theorem d_GlyphPositionsModel_takeMark_36 : decode b_GlyphPositionsModel_takeMark 36 = .ok (.iconst 4, 1) := by decide +kernel
theorem d_GlyphPositionsModel_takeMark_37 : decode b_GlyphPositionsModel_takeMark 37 = .ok (.aload_n 0, 1) := by decide +kernel
theorem d_GlyphPositionsModel_takeMark_38 : decode b_GlyphPositionsModel_takeMark 38 = .ok (.getfield 47, 3) := by decide +kernel
theorem d_GlyphPositionsModel_takeMark_41 : decode b_GlyphPositionsModel_takeMark 41 = .ok (.iload 6, 2) := by decide +kernel
theorem d_GlyphPositionsModel_takeMark_43 : decode b_GlyphPositionsModel_takeMark 43 = .ok (.iaload, 1) := by decide +kernel
theorem d_GlyphPositionsModel_takeMark_44 : decode b_GlyphPositionsModel_takeMark 44 = .ok (.invokevirtual 306, 3) := by decide +kernel
theorem d_GlyphPositionsModel_takeMark_47 : decode b_GlyphPositionsModel_takeMark 47 = .ok (.istore 7, 2) := by decide +kernel
theorem d_GlyphPositionsModel_takeMark_49 : decode b_GlyphPositionsModel_takeMark 49 = .ok (.iload 5, 2) := by decide +kernel
theorem d_GlyphPositionsModel_takeMark_51 : decode b_GlyphPositionsModel_takeMark 51 = .ok (.ifCond .lt 8, 3) := by decide +kernel
theorem d_GlyphPositionsModel_takeMark_54 : decode b_GlyphPositionsModel_takeMark 54 = .ok (.iload 7, 2) := by decide +kernel
theorem d_GlyphPositionsModel_takeMark_56 : decode b_GlyphPositionsModel_takeMark 56 = .ok (.ifCond .ge 5, 3) := by decide +kernel
theorem d_GlyphPositionsModel_takeMark_59 : decode b_GlyphPositionsModel_takeMark 59 = .ok (.iconst (-1), 1) := by decide +kernel
theorem d_GlyphPositionsModel_takeMark_60 : decode b_GlyphPositionsModel_takeMark 60 = .ok (.ireturn, 1) := by decide +kernel
theorem d_GlyphPositionsModel_takeMark_61 : decode b_GlyphPositionsModel_takeMark 61 = .ok (.aload_n 0, 1) := by decide +kernel
theorem d_GlyphPositionsModel_takeMark_62 : decode b_GlyphPositionsModel_takeMark 62 = .ok (.iload_n 3, 1) := by decide +kernel
theorem d_GlyphPositionsModel_takeMark_63 : decode b_GlyphPositionsModel_takeMark 63 = .ok (.bipush 6, 2) := by decide +kernel
theorem d_GlyphPositionsModel_takeMark_65 : decode b_GlyphPositionsModel_takeMark 65 = .ok (.iadd, 1) := by decide +kernel
theorem d_GlyphPositionsModel_takeMark_66 : decode b_GlyphPositionsModel_takeMark 66 = .ok (.invokevirtual 244, 3) := by decide +kernel
theorem d_GlyphPositionsModel_takeMark_69 : decode b_GlyphPositionsModel_takeMark 69 = .ok (.istore 8, 2) := by decide +kernel
theorem d_GlyphPositionsModel_takeMark_71 : decode b_GlyphPositionsModel_takeMark 71 = .ok (.iload_n 3, 1) := by decide +kernel
theorem d_GlyphPositionsModel_takeMark_72 : decode b_GlyphPositionsModel_takeMark 72 = .ok (.aload_n 0, 1) := by decide +kernel
theorem d_GlyphPositionsModel_takeMark_73 : decode b_GlyphPositionsModel_takeMark 73 = .ok (.iload_n 3, 1) := by decide +kernel
theorem d_GlyphPositionsModel_takeMark_74 : decode b_GlyphPositionsModel_takeMark 74 = .ok (.bipush 8, 2) := by decide +kernel
theorem d_GlyphPositionsModel_takeMark_76 : decode b_GlyphPositionsModel_takeMark 76 = .ok (.iadd, 1) := by decide +kernel
theorem d_GlyphPositionsModel_takeMark_77 : decode b_GlyphPositionsModel_takeMark 77 = .ok (.invokevirtual 244, 3) := by decide +kernel
theorem d_GlyphPositionsModel_takeMark_80 : decode b_GlyphPositionsModel_takeMark 80 = .ok (.iadd, 1) := by decide +kernel
theorem d_GlyphPositionsModel_takeMark_81 : decode b_GlyphPositionsModel_takeMark 81 = .ok (.istore 9, 2) := by decide +kernel
theorem d_GlyphPositionsModel_takeMark_83 : decode b_GlyphPositionsModel_takeMark 83 = .ok (.iload_n 3, 1) := by decide +kernel
theorem d_GlyphPositionsModel_takeMark_84 : decode b_GlyphPositionsModel_takeMark 84 = .ok (.aload_n 0, 1) := by decide +kernel
theorem d_GlyphPositionsModel_takeMark_85 : decode b_GlyphPositionsModel_takeMark 85 = .ok (.iload_n 3, 1) := by decide +kernel
theorem d_GlyphPositionsModel_takeMark_86 : decode b_GlyphPositionsModel_takeMark 86 = .ok (.bipush 10, 2) := by decide +kernel
theorem d_GlyphPositionsModel_takeMark_88 : decode b_GlyphPositionsModel_takeMark 88 = .ok (.iadd, 1) := by decide +kernel
theorem d_GlyphPositionsModel_takeMark_89 : decode b_GlyphPositionsModel_takeMark 89 = .ok (.invokevirtual 244, 3) := by decide +kernel
theorem d_GlyphPositionsModel_takeMark_92 : decode b_GlyphPositionsModel_takeMark 92 = .ok (.iadd, 1) := by decide +kernel
theorem d_GlyphPositionsModel_takeMark_93 : decode b_GlyphPositionsModel_takeMark 93 = .ok (.istore 10, 2) := by decide +kernel
theorem d_GlyphPositionsModel_takeMark_95 : decode b_GlyphPositionsModel_takeMark 95 = .ok (.aload_n 0, 1) := by decide +kernel
theorem d_GlyphPositionsModel_takeMark_96 : decode b_GlyphPositionsModel_takeMark 96 = .ok (.iload 9, 2) := by decide +kernel
theorem d_GlyphPositionsModel_takeMark_98 : decode b_GlyphPositionsModel_takeMark 98 = .ok (.iconst 2, 1) := by decide +kernel
theorem d_GlyphPositionsModel_takeMark_99 : decode b_GlyphPositionsModel_takeMark 99 = .ok (.iadd, 1) := by decide +kernel
theorem d_GlyphPositionsModel_takeMark_100 : decode b_GlyphPositionsModel_takeMark 100 = .ok (.iconst 4, 1) := by decide +kernel
theorem d_GlyphPositionsModel_takeMark_101 : decode b_GlyphPositionsModel_takeMark 101 = .ok (.iload 5, 2) := by decide +kernel
theorem d_GlyphPositionsModel_takeMark_103 : decode b_GlyphPositionsModel_takeMark 103 = .ok (.imul, 1) := by decide +kernel
theorem d_GlyphPositionsModel_takeMark_104 : decode b_GlyphPositionsModel_takeMark 104 = .ok (.iadd, 1) := by decide +kernel
theorem d_GlyphPositionsModel_takeMark_105 : decode b_GlyphPositionsModel_takeMark 105 = .ok (.invokevirtual 244, 3) := by decide +kernel
theorem d_GlyphPositionsModel_takeMark_108 : decode b_GlyphPositionsModel_takeMark 108 = .ok (.istore 11, 2) := by decide +kernel
theorem d_GlyphPositionsModel_takeMark_110 : decode b_GlyphPositionsModel_takeMark 110 = .ok (.iload 9, 2) := by decide +kernel
theorem d_GlyphPositionsModel_takeMark_112 : decode b_GlyphPositionsModel_takeMark 112 = .ok (.aload_n 0, 1) := by decide +kernel
theorem d_GlyphPositionsModel_takeMark_113 : decode b_GlyphPositionsModel_takeMark 113 = .ok (.iload 9, 2) := by decide +kernel
theorem d_GlyphPositionsModel_takeMark_115 : decode b_GlyphPositionsModel_takeMark 115 = .ok (.iconst 4, 1) := by decide +kernel
theorem d_GlyphPositionsModel_takeMark_116 : decode b_GlyphPositionsModel_takeMark 116 = .ok (.iadd, 1) := by decide +kernel
theorem d_GlyphPositionsModel_takeMark_117 : decode b_GlyphPositionsModel_takeMark 117 = .ok (.iconst 4, 1) := by decide +kernel
theorem d_GlyphPositionsModel_takeMark_118 : decode b_GlyphPositionsModel_takeMark 118 = .ok (.iload 5, 2) := by decide +kernel
theorem d_GlyphPositionsModel_takeMark_120 : decode b_GlyphPositionsModel_takeMark 120 = .ok (.imul, 1) := by decide +kernel
theorem d_GlyphPositionsModel_takeMark_121 : decode b_GlyphPositionsModel_takeMark 121 = .ok (.iadd, 1) := by decide +kernel
theorem d_GlyphPositionsModel_takeMark_122 : decode b_GlyphPositionsModel_takeMark 122 = .ok (.invokevirtual 244, 3) := by decide +kernel
theorem d_GlyphPositionsModel_takeMark_125 : decode b_GlyphPositionsModel_takeMark 125 = .ok (.iadd, 1) := by decide +kernel
theorem d_GlyphPositionsModel_takeMark_126 : decode b_GlyphPositionsModel_takeMark 126 = .ok (.istore 12, 2) := by decide +kernel
theorem d_GlyphPositionsModel_takeMark_128 : decode b_GlyphPositionsModel_takeMark 128 = .ok (.iload 10, 2) := by decide +kernel
theorem d_GlyphPositionsModel_takeMark_130 : decode b_GlyphPositionsModel_takeMark 130 = .ok (.istore 13, 2) := by decide +kernel
theorem d_GlyphPositionsModel_takeMark_132 : decode b_GlyphPositionsModel_takeMark 132 = .ok (.iload 10, 2) := by decide +kernel
theorem d_GlyphPositionsModel_takeMark_134 : decode b_GlyphPositionsModel_takeMark 134 = .ok (.iconst 2, 1) := by decide +kernel
theorem d_GlyphPositionsModel_takeMark_135 : decode b_GlyphPositionsModel_takeMark 135 = .ok (.iadd, 1) := by decide +kernel
theorem d_GlyphPositionsModel_takeMark_136 : decode b_GlyphPositionsModel_takeMark 136 = .ok (.iconst 2, 1) := by decide +kernel
theorem d_GlyphPositionsModel_takeMark_137 : decode b_GlyphPositionsModel_takeMark 137 = .ok (.iload 8, 2) := by decide +kernel
theorem d_GlyphPositionsModel_takeMark_139 : decode b_GlyphPositionsModel_takeMark 139 = .ok (.imul, 1) := by decide +kernel
theorem d_GlyphPositionsModel_takeMark_140 : decode b_GlyphPositionsModel_takeMark 140 = .ok (.iload 7, 2) := by decide +kernel
theorem d_GlyphPositionsModel_takeMark_142 : decode b_GlyphPositionsModel_takeMark 142 = .ok (.imul, 1) := by decide +kernel
theorem d_GlyphPositionsModel_takeMark_143 : decode b_GlyphPositionsModel_takeMark 143 = .ok (.iadd, 1) := by decide +kernel
theorem d_GlyphPositionsModel_takeMark_144 : decode b_GlyphPositionsModel_takeMark 144 = .ok (.istore 14, 2) := by decide +kernel
theorem d_GlyphPositionsModel_takeMark_146 : decode b_GlyphPositionsModel_takeMark 146 = .ok (.iload_n 1, 1) := by decide +kernel
theorem d_GlyphPositionsModel_takeMark_147 : decode b_GlyphPositionsModel_takeMark 147 = .ok (.iconst 5, 1) := by decide +kernel
theorem d_GlyphPositionsModel_takeMark_148 : decode b_GlyphPositionsModel_takeMark 148 = .ok (.if_icmp .ne 81, 3) := by decide +kernel
theorem d_GlyphPositionsModel_takeMark_151 : decode b_GlyphPositionsModel_takeMark 151 = .ok (.iload 10, 2) := by decide +kernel
theorem d_GlyphPositionsModel_takeMark_153 : decode b_GlyphPositionsModel_takeMark 153 = .ok (.aload_n 0, 1) := by decide +kernel
theorem d_GlyphPositionsModel_takeMark_154 : decode b_GlyphPositionsModel_takeMark 154 = .ok (.iload 10, 2) := by decide +kernel
theorem d_GlyphPositionsModel_takeMark_156 : decode b_GlyphPositionsModel_takeMark 156 = .ok (.iconst 2, 1) := by decide +kernel
theorem d_GlyphPositionsModel_takeMark_157 : decode b_GlyphPositionsModel_takeMark 157 = .ok (.iadd, 1) := by decide +kernel
theorem d_GlyphPositionsModel_takeMark_158 : decode b_GlyphPositionsModel_takeMark 158 = .ok (.iconst 2, 1) := by decide +kernel
theorem d_GlyphPositionsModel_takeMark_159 : decode b_GlyphPositionsModel_takeMark 159 = .ok (.iload 7, 2) := by decide +kernel
theorem d_GlyphPositionsModel_takeMark_161 : decode b_GlyphPositionsModel_takeMark 161 = .ok (.imul, 1) := by decide +kernel
theorem d_GlyphPositionsModel_takeMark_162 : decode b_GlyphPositionsModel_takeMark 162 = .ok (.iadd, 1) := by decide +kernel
theorem d_GlyphPositionsModel_takeMark_163 : decode b_GlyphPositionsModel_takeMark 163 = .ok (.invokevirtual 244, 3) := by decide +kernel
theorem d_GlyphPositionsModel_takeMark_166 : decode b_GlyphPositionsModel_takeMark 166 = .ok (.iadd, 1) := by decide +kernel
theorem d_GlyphPositionsModel_takeMark_167 : decode b_GlyphPositionsModel_takeMark 167 = .ok (.istore 13, 2) := by decide +kernel
theorem d_GlyphPositionsModel_takeMark_169 : decode b_GlyphPositionsModel_takeMark 169 = .ok (.aload_n 0, 1) := by decide +kernel
theorem d_GlyphPositionsModel_takeMark_170 : decode b_GlyphPositionsModel_takeMark 170 = .ok (.iload 13, 2) := by decide +kernel
theorem d_GlyphPositionsModel_takeMark_172 : decode b_GlyphPositionsModel_takeMark 172 = .ok (.invokevirtual 244, 3) := by decide +kernel
theorem d_GlyphPositionsModel_takeMark_175 : decode b_GlyphPositionsModel_takeMark 175 = .ok (.istore 15, 2) := by decide +kernel
theorem d_GlyphPositionsModel_takeMark_177 : decode b_GlyphPositionsModel_takeMark 177 = .ok (.aload_n 0, 1) := by decide +kernel
theorem d_GlyphPositionsModel_takeMark_178 : decode b_GlyphPositionsModel_takeMark 178 = .ok (.getfield 50, 3) := by decide +kernel
theorem d_GlyphPositionsModel_takeMark_181 : decode b_GlyphPositionsModel_takeMark 181 = .ok (.iload 4, 2) := by decide +kernel
theorem d_GlyphPositionsModel_takeMark_183 : decode b_GlyphPositionsModel_takeMark 183 = .ok (.iaload, 1) := by decide +kernel
theorem d_GlyphPositionsModel_takeMark_184 : decode b_GlyphPositionsModel_takeMark 184 = .ok (.ifCond .eq 15, 3) := by decide +kernel
theorem d_GlyphPositionsModel_takeMark_187 : decode b_GlyphPositionsModel_takeMark 187 = .ok (.aload_n 0, 1) := by decide +kernel
theorem d_GlyphPositionsModel_takeMark_188 : decode b_GlyphPositionsModel_takeMark 188 = .ok (.getfield 50, 3) := by decide +kernel
theorem d_GlyphPositionsModel_takeMark_191 : decode b_GlyphPositionsModel_takeMark 191 = .ok (.iload 4, 2) := by decide +kernel
theorem d_GlyphPositionsModel_takeMark_193 : decode b_GlyphPositionsModel_takeMark 193 = .ok (.iaload, 1) := by decide +kernel
theorem d_GlyphPositionsModel_takeMark_194 : decode b_GlyphPositionsModel_takeMark 194 = .ok (.iload 15, 2) := by decide +kernel
theorem d_GlyphPositionsModel_takeMark_196 : decode b_GlyphPositionsModel_takeMark 196 = .ok (.if_icmp .le 8, 3) := by decide +kernel
theorem d_GlyphPositionsModel_takeMark_199 : decode b_GlyphPositionsModel_takeMark 199 = .ok (.iload 15, 2) := by decide +kernel
theorem d_GlyphPositionsModel_takeMark_201 : decode b_GlyphPositionsModel_takeMark 201 = .ok (.goto 10, 3) := by decide +kernel
theorem d_GlyphPositionsModel_takeMark_204 : decode b_GlyphPositionsModel_takeMark 204 = .ok (.aload_n 0, 1) := by decide +kernel
theorem d_GlyphPositionsModel_takeMark_205 : decode b_GlyphPositionsModel_takeMark 205 = .ok (.getfield 50, 3) := by decide +kernel
theorem d_GlyphPositionsModel_takeMark_208 : decode b_GlyphPositionsModel_takeMark 208 = .ok (.iload 4, 2) := by decide +kernel
theorem d_GlyphPositionsModel_takeMark_210 : decode b_GlyphPositionsModel_takeMark 210 = .ok (.iaload, 1) := by decide +kernel
theorem d_GlyphPositionsModel_takeMark_211 : decode b_GlyphPositionsModel_takeMark 211 = .ok (.istore 16, 2) := by decide +kernel
theorem d_GlyphPositionsModel_takeMark_213 : decode b_GlyphPositionsModel_takeMark 213 = .ok (.iload 13, 2) := by decide +kernel
theorem d_GlyphPositionsModel_takeMark_215 : decode b_GlyphPositionsModel_takeMark 215 = .ok (.iconst 2, 1) := by decide +kernel
theorem d_GlyphPositionsModel_takeMark_216 : decode b_GlyphPositionsModel_takeMark 216 = .ok (.iadd, 1) := by decide +kernel
theorem d_GlyphPositionsModel_takeMark_217 : decode b_GlyphPositionsModel_takeMark 217 = .ok (.iconst 2, 1) := by decide +kernel
theorem d_GlyphPositionsModel_takeMark_218 : decode b_GlyphPositionsModel_takeMark 218 = .ok (.iload 8, 2) := by decide +kernel
theorem d_GlyphPositionsModel_takeMark_220 : decode b_GlyphPositionsModel_takeMark 220 = .ok (.imul, 1) := by decide +kernel
theorem d_GlyphPositionsModel_takeMark_221 : decode b_GlyphPositionsModel_takeMark 221 = .ok (.iload 16, 2) := by decide +kernel
theorem d_GlyphPositionsModel_takeMark_223 : decode b_GlyphPositionsModel_takeMark 223 = .ok (.iconst 1, 1) := by decide +kernel
theorem d_GlyphPositionsModel_takeMark_224 : decode b_GlyphPositionsModel_takeMark 224 = .ok (.isub, 1) := by decide +kernel
theorem d_GlyphPositionsModel_takeMark_225 : decode b_GlyphPositionsModel_takeMark 225 = .ok (.imul, 1) := by decide +kernel
theorem d_GlyphPositionsModel_takeMark_226 : decode b_GlyphPositionsModel_takeMark 226 = .ok (.iadd, 1) := by decide +kernel
theorem d_GlyphPositionsModel_takeMark_227 : decode b_GlyphPositionsModel_takeMark 227 = .ok (.istore 14, 2) := by decide +kernel
theorem d_GlyphPositionsModel_takeMark_229 : decode b_GlyphPositionsModel_takeMark 229 = .ok (.aload_n 0, 1) := by decide +kernel
theorem d_GlyphPositionsModel_takeMark_230 : decode b_GlyphPositionsModel_takeMark 230 = .ok (.iload 14, 2) := by decide +kernel
theorem d_GlyphPositionsModel_takeMark_232 : decode b_GlyphPositionsModel_takeMark 232 = .ok (.iconst 2, 1) := by decide +kernel
theorem d_GlyphPositionsModel_takeMark_233 : decode b_GlyphPositionsModel_takeMark 233 = .ok (.iload 11, 2) := by decide +kernel
theorem d_GlyphPositionsModel_takeMark_235 : decode b_GlyphPositionsModel_takeMark 235 = .ok (.imul, 1) := by decide +kernel
theorem d_GlyphPositionsModel_takeMark_236 : decode b_GlyphPositionsModel_takeMark 236 = .ok (.iadd, 1) := by decide +kernel
theorem d_GlyphPositionsModel_takeMark_237 : decode b_GlyphPositionsModel_takeMark 237 = .ok (.invokevirtual 244, 3) := by decide +kernel
theorem d_GlyphPositionsModel_takeMark_240 : decode b_GlyphPositionsModel_takeMark 240 = .ok (.istore 15, 2) := by decide +kernel
theorem d_GlyphPositionsModel_takeMark_242 : decode b_GlyphPositionsModel_takeMark 242 = .ok (.iload 15, 2) := by decide +kernel
theorem d_GlyphPositionsModel_takeMark_244 : decode b_GlyphPositionsModel_takeMark 244 = .ok (.ifCond .ne 5, 3) := by decide +kernel
theorem d_GlyphPositionsModel_takeMark_247 : decode b_GlyphPositionsModel_takeMark 247 = .ok (.iconst (-1), 1) := by decide +kernel
theorem d_GlyphPositionsModel_takeMark_248 : decode b_GlyphPositionsModel_takeMark 248 = .ok (.ireturn, 1) := by decide +kernel
theorem d_GlyphPositionsModel_takeMark_249 : decode b_GlyphPositionsModel_takeMark 249 = .ok (.aload_n 0, 1) := by decide +kernel
theorem d_GlyphPositionsModel_takeMark_250 : decode b_GlyphPositionsModel_takeMark 250 = .ok (.getfield 59, 3) := by decide +kernel
theorem d_GlyphPositionsModel_takeMark_253 : decode b_GlyphPositionsModel_takeMark 253 = .ok (.iload 4, 2) := by decide +kernel
theorem d_GlyphPositionsModel_takeMark_255 : decode b_GlyphPositionsModel_takeMark 255 = .ok (.iconst 0, 1) := by decide +kernel
theorem d_GlyphPositionsModel_takeMark_256 : decode b_GlyphPositionsModel_takeMark 256 = .ok (.iastore, 1) := by decide +kernel
theorem d_GlyphPositionsModel_takeMark_257 : decode b_GlyphPositionsModel_takeMark 257 = .ok (.aload_n 0, 1) := by decide +kernel
theorem d_GlyphPositionsModel_takeMark_258 : decode b_GlyphPositionsModel_takeMark 258 = .ok (.getfield 62, 3) := by decide +kernel
theorem d_GlyphPositionsModel_takeMark_261 : decode b_GlyphPositionsModel_takeMark 261 = .ok (.iload 4, 2) := by decide +kernel
theorem d_GlyphPositionsModel_takeMark_263 : decode b_GlyphPositionsModel_takeMark 263 = .ok (.iconst 0, 1) := by decide +kernel
theorem d_GlyphPositionsModel_takeMark_264 : decode b_GlyphPositionsModel_takeMark 264 = .ok (.iastore, 1) := by decide +kernel
theorem d_GlyphPositionsModel_takeMark_265 : decode b_GlyphPositionsModel_takeMark 265 = .ok (.aload_n 0, 1) := by decide +kernel
theorem d_GlyphPositionsModel_takeMark_266 : decode b_GlyphPositionsModel_takeMark 266 = .ok (.iload 4, 2) := by decide +kernel
theorem d_GlyphPositionsModel_takeMark_268 : decode b_GlyphPositionsModel_takeMark 268 = .ok (.iload 6, 2) := by decide +kernel
theorem d_GlyphPositionsModel_takeMark_270 : decode b_GlyphPositionsModel_takeMark 270 = .ok (.iconst 0, 1) := by decide +kernel
theorem d_GlyphPositionsModel_takeMark_271 : decode b_GlyphPositionsModel_takeMark 271 = .ok (.aload_n 0, 1) := by decide +kernel
theorem d_GlyphPositionsModel_takeMark_272 : decode b_GlyphPositionsModel_takeMark 272 = .ok (.iload 13, 2) := by decide +kernel
theorem d_GlyphPositionsModel_takeMark_274 : decode b_GlyphPositionsModel_takeMark 274 = .ok (.iload 15, 2) := by decide +kernel
theorem d_GlyphPositionsModel_takeMark_276 : decode b_GlyphPositionsModel_takeMark 276 = .ok (.iadd, 1) := by decide +kernel
theorem d_GlyphPositionsModel_takeMark_277 : decode b_GlyphPositionsModel_takeMark 277 = .ok (.iconst 2, 1) := by decide +kernel
theorem d_GlyphPositionsModel_takeMark_278 : decode b_GlyphPositionsModel_takeMark 278 = .ok (.iadd, 1) := by decide +kernel
theorem d_GlyphPositionsModel_takeMark_279 : decode b_GlyphPositionsModel_takeMark 279 = .ok (.invokevirtual 269, 3) := by decide +kernel
theorem d_GlyphPositionsModel_takeMark_282 : decode b_GlyphPositionsModel_takeMark 282 = .ok (.aload_n 0, 1) := by decide +kernel
theorem d_GlyphPositionsModel_takeMark_283 : decode b_GlyphPositionsModel_takeMark 283 = .ok (.iload 12, 2) := by decide +kernel
theorem d_GlyphPositionsModel_takeMark_285 : decode b_GlyphPositionsModel_takeMark 285 = .ok (.iconst 2, 1) := by decide +kernel
theorem d_GlyphPositionsModel_takeMark_286 : decode b_GlyphPositionsModel_takeMark 286 = .ok (.iadd, 1) := by decide +kernel
theorem d_GlyphPositionsModel_takeMark_287 : decode b_GlyphPositionsModel_takeMark 287 = .ok (.invokevirtual 269, 3) := by decide +kernel
theorem d_GlyphPositionsModel_takeMark_290 : decode b_GlyphPositionsModel_takeMark 290 = .ok (.isub, 1) := by decide +kernel
theorem d_GlyphPositionsModel_takeMark_291 : decode b_GlyphPositionsModel_takeMark 291 = .ok (.aload_n 0, 1) := by decide +kernel
theorem d_GlyphPositionsModel_takeMark_292 : decode b_GlyphPositionsModel_takeMark 292 = .ok (.iload 13, 2) := by decide +kernel
theorem d_GlyphPositionsModel_takeMark_294 : decode b_GlyphPositionsModel_takeMark 294 = .ok (.iload 15, 2) := by decide +kernel
theorem d_GlyphPositionsModel_takeMark_296 : decode b_GlyphPositionsModel_takeMark 296 = .ok (.iadd, 1) := by decide +kernel
theorem d_GlyphPositionsModel_takeMark_297 : decode b_GlyphPositionsModel_takeMark 297 = .ok (.iconst 4, 1) := by decide +kernel
theorem d_GlyphPositionsModel_takeMark_298 : decode b_GlyphPositionsModel_takeMark 298 = .ok (.iadd, 1) := by decide +kernel
theorem d_GlyphPositionsModel_takeMark_299 : decode b_GlyphPositionsModel_takeMark 299 = .ok (.invokevirtual 269, 3) := by decide +kernel
theorem d_GlyphPositionsModel_takeMark_302 : decode b_GlyphPositionsModel_takeMark 302 = .ok (.aload_n 0, 1) := by decide +kernel
theorem d_GlyphPositionsModel_takeMark_303 : decode b_GlyphPositionsModel_takeMark 303 = .ok (.iload 12, 2) := by decide +kernel
theorem d_GlyphPositionsModel_takeMark_305 : decode b_GlyphPositionsModel_takeMark 305 = .ok (.iconst 4, 1) := by decide +kernel
theorem d_GlyphPositionsModel_takeMark_306 : decode b_GlyphPositionsModel_takeMark 306 = .ok (.iadd, 1) := by decide +kernel
theorem d_GlyphPositionsModel_takeMark_307 : decode b_GlyphPositionsModel_takeMark 307 = .ok (.invokevirtual 269, 3) := by decide +kernel
theorem d_GlyphPositionsModel_takeMark_310 : decode b_GlyphPositionsModel_takeMark 310 = .ok (.isub, 1) := by decide +kernel
theorem d_GlyphPositionsModel_takeMark_311 : decode b_GlyphPositionsModel_takeMark 311 = .ok (.invokevirtual 326, 3) := by decide +kernel
theorem d_GlyphPositionsModel_takeMark_314 : decode b_GlyphPositionsModel_takeMark 314 = .ok (.iload 4, 2) := by decide +kernel
theorem d_GlyphPositionsModel_takeMark_316 : decode b_GlyphPositionsModel_takeMark 316 = .ok (.iconst 1, 1) := by decide +kernel
theorem d_GlyphPositionsModel_takeMark_317 : decode b_GlyphPositionsModel_takeMark 317 = .ok (.iadd, 1) := by decide +kernel
theorem d_GlyphPositionsModel_takeMark_318 : decode b_GlyphPositionsModel_takeMark 318 = .ok (.ireturn, 1) := by decide +kernel
abbrev b_GlyphPositionsModel_nextOf : ByteArray := prog_12_method_61_code
def y_GlyphPositionsModel_nextOf : MethodName := ⟨R_GlyphPositionsModel, "nextOf", "(II)I"⟩
theorem d_GlyphPositionsModel_nextOf_0 : decode b_GlyphPositionsModel_nextOf 0 = .ok (.iload_n 2, 1) := by decide +kernel
theorem d_GlyphPositionsModel_nextOf_1 : decode b_GlyphPositionsModel_nextOf 1 = .ok (.iconst 1, 1) := by decide +kernel
theorem d_GlyphPositionsModel_nextOf_2 : decode b_GlyphPositionsModel_nextOf 2 = .ok (.iadd, 1) := by decide +kernel
theorem d_GlyphPositionsModel_nextOf_3 : decode b_GlyphPositionsModel_nextOf 3 = .ok (.istore_n 3, 1) := by decide +kernel
theorem d_GlyphPositionsModel_nextOf_4 : decode b_GlyphPositionsModel_nextOf 4 = .ok (.iload_n 3, 1) := by decide +kernel
theorem d_GlyphPositionsModel_nextOf_5 : decode b_GlyphPositionsModel_nextOf 5 = .ok (.aload_n 0, 1) := by decide +kernel
theorem d_GlyphPositionsModel_nextOf_6 : decode b_GlyphPositionsModel_nextOf 6 = .ok (.getfield 272, 3) := by decide +kernel
theorem d_GlyphPositionsModel_nextOf_9 : decode b_GlyphPositionsModel_nextOf 9 = .ok (.if_icmp .ge 23, 3) := by decide +kernel
theorem d_GlyphPositionsModel_nextOf_12 : decode b_GlyphPositionsModel_nextOf 12 = .ok (.aload_n 0, 1) := by decide +kernel
theorem d_GlyphPositionsModel_nextOf_13 : decode b_GlyphPositionsModel_nextOf 13 = .ok (.iload_n 1, 1) := by decide +kernel
theorem d_GlyphPositionsModel_nextOf_14 : decode b_GlyphPositionsModel_nextOf 14 = .ok (.aload_n 0, 1) := by decide +kernel
theorem d_GlyphPositionsModel_nextOf_15 : decode b_GlyphPositionsModel_nextOf 15 = .ok (.getfield 47, 3) := by decide +kernel
theorem d_GlyphPositionsModel_nextOf_18 : decode b_GlyphPositionsModel_nextOf 18 = .ok (.iload_n 3, 1) := by decide +kernel
theorem d_GlyphPositionsModel_nextOf_19 : decode b_GlyphPositionsModel_nextOf 19 = .ok (.iaload, 1) := by decide +kernel
theorem d_GlyphPositionsModel_nextOf_20 : decode b_GlyphPositionsModel_nextOf 20 = .ok (.invokevirtual 275, 3) := by decide +kernel
theorem d_GlyphPositionsModel_nextOf_23 : decode b_GlyphPositionsModel_nextOf 23 = .ok (.ifCond .eq 9, 3) := by decide +kernel
theorem d_GlyphPositionsModel_nextOf_26 : decode b_GlyphPositionsModel_nextOf 26 = .ok (.iinc 3 1, 3) := by decide +kernel
theorem d_GlyphPositionsModel_nextOf_29 : decode b_GlyphPositionsModel_nextOf 29 = .ok (.goto (-25), 3) := by decide +kernel
theorem d_GlyphPositionsModel_nextOf_32 : decode b_GlyphPositionsModel_nextOf 32 = .ok (.iload_n 3, 1) := by decide +kernel
theorem d_GlyphPositionsModel_nextOf_33 : decode b_GlyphPositionsModel_nextOf 33 = .ok (.aload_n 0, 1) := by decide +kernel
theorem d_GlyphPositionsModel_nextOf_34 : decode b_GlyphPositionsModel_nextOf 34 = .ok (.getfield 272, 3) := by decide +kernel
theorem d_GlyphPositionsModel_nextOf_37 : decode b_GlyphPositionsModel_nextOf 37 = .ok (.if_icmp .ge 7, 3) := by decide +kernel
theorem d_GlyphPositionsModel_nextOf_40 : decode b_GlyphPositionsModel_nextOf 40 = .ok (.iload_n 3, 1) := by decide +kernel
theorem d_GlyphPositionsModel_nextOf_41 : decode b_GlyphPositionsModel_nextOf 41 = .ok (.goto 4, 3) := by decide +kernel
theorem d_GlyphPositionsModel_nextOf_44 : decode b_GlyphPositionsModel_nextOf 44 = .ok (.iconst (-1), 1) := by decide +kernel
theorem d_GlyphPositionsModel_nextOf_45 : decode b_GlyphPositionsModel_nextOf 45 = .ok (.ireturn, 1) := by decide +kernel
abbrev b_GlyphPositionsModel_takeJoin : ByteArray := prog_12_method_71_code
def y_GlyphPositionsModel_takeJoin : MethodName := ⟨R_GlyphPositionsModel, "takeJoin", "(III)I"⟩
theorem d_GlyphPositionsModel_takeJoin_0 : decode b_GlyphPositionsModel_takeJoin 0 = .ok (.aload_n 0, 1) := by decide +kernel
theorem d_GlyphPositionsModel_takeJoin_1 : decode b_GlyphPositionsModel_takeJoin 1 = .ok (.iload_n 2, 1) := by decide +kernel
theorem d_GlyphPositionsModel_takeJoin_2 : decode b_GlyphPositionsModel_takeJoin 2 = .ok (.iconst 2, 1) := by decide +kernel
theorem d_GlyphPositionsModel_takeJoin_3 : decode b_GlyphPositionsModel_takeJoin 3 = .ok (.aload_n 0, 1) := by decide +kernel
theorem d_GlyphPositionsModel_takeJoin_4 : decode b_GlyphPositionsModel_takeJoin 4 = .ok (.getfield 47, 3) := by decide +kernel
theorem d_GlyphPositionsModel_takeJoin_7 : decode b_GlyphPositionsModel_takeJoin 7 = .ok (.iload_n 3, 1) := by decide +kernel
theorem d_GlyphPositionsModel_takeJoin_8 : decode b_GlyphPositionsModel_takeJoin 8 = .ok (.iaload, 1) := by decide +kernel
theorem d_GlyphPositionsModel_takeJoin_9 : decode b_GlyphPositionsModel_takeJoin 9 = .ok (.invokevirtual 306, 3) := by decide +kernel
theorem d_GlyphPositionsModel_takeJoin_12 : decode b_GlyphPositionsModel_takeJoin 12 = .ok (.istore 4, 2) := by decide +kernel
theorem d_GlyphPositionsModel_takeJoin_14 : decode b_GlyphPositionsModel_takeJoin 14 = .ok (.aload_n 0, 1) := by decide +kernel
theorem d_GlyphPositionsModel_takeJoin_15 : decode b_GlyphPositionsModel_takeJoin 15 = .ok (.iload_n 1, 1) := by decide +kernel
theorem d_GlyphPositionsModel_takeJoin_16 : decode b_GlyphPositionsModel_takeJoin 16 = .ok (.iload_n 3, 1) := by decide +kernel
theorem d_GlyphPositionsModel_takeJoin_17 : decode b_GlyphPositionsModel_takeJoin 17 = .ok (.invokevirtual 316, 3) := by decide +kernel
theorem d_GlyphPositionsModel_takeJoin_20 : decode b_GlyphPositionsModel_takeJoin 20 = .ok (.istore 5, 2) := by decide +kernel
theorem d_GlyphPositionsModel_takeJoin_22 : decode b_GlyphPositionsModel_takeJoin 22 = .ok (.iload 5, 2) := by decide +kernel
theorem d_GlyphPositionsModel_takeJoin_24 : decode b_GlyphPositionsModel_takeJoin 24 = .ok (.ifCond .ge 7, 3) := by decide +kernel
theorem d_GlyphPositionsModel_takeJoin_27 : decode b_GlyphPositionsModel_takeJoin 27 = .ok (.iconst (-1), 1) := by decide +kernel
theorem d_GlyphPositionsModel_takeJoin_28 : decode b_GlyphPositionsModel_takeJoin 28 = .ok (.goto 16, 3) := by decide +kernel
theorem d_GlyphPositionsModel_takeJoin_31 : decode b_GlyphPositionsModel_takeJoin 31 = .ok (.aload_n 0, 1) := by decide +kernel
theorem d_GlyphPositionsModel_takeJoin_32 : decode b_GlyphPositionsModel_takeJoin 32 = .ok (.iload_n 2, 1) := by decide +kernel
theorem d_GlyphPositionsModel_takeJoin_33 : decode b_GlyphPositionsModel_takeJoin 33 = .ok (.iconst 2, 1) := by decide +kernel
theorem d_GlyphPositionsModel_takeJoin_34 : decode b_GlyphPositionsModel_takeJoin 34 = .ok (.aload_n 0, 1) := by decide +kernel
theorem d_GlyphPositionsModel_takeJoin_35 : decode b_GlyphPositionsModel_takeJoin 35 = .ok (.getfield 47, 3) := by decide +kernel
theorem d_GlyphPositionsModel_takeJoin_38 : decode b_GlyphPositionsModel_takeJoin 38 = .ok (.iload 5, 2) := by decide +kernel
theorem d_GlyphPositionsModel_takeJoin_40 : decode b_GlyphPositionsModel_takeJoin 40 = .ok (.iaload, 1) := by decide +kernel
theorem d_GlyphPositionsModel_takeJoin_41 : decode b_GlyphPositionsModel_takeJoin 41 = .ok (.invokevirtual 306, 3) := by decide +kernel
theorem d_GlyphPositionsModel_takeJoin_44 : decode b_GlyphPositionsModel_takeJoin 44 = .ok (.istore 6, 2) := by decide +kernel
theorem d_GlyphPositionsModel_takeJoin_46 : decode b_GlyphPositionsModel_takeJoin 46 = .ok (.iload 4, 2) := by decide +kernel
theorem d_GlyphPositionsModel_takeJoin_48 : decode b_GlyphPositionsModel_takeJoin 48 = .ok (.ifCond .lt 8, 3) := by decide +kernel
theorem d_GlyphPositionsModel_takeJoin_51 : decode b_GlyphPositionsModel_takeJoin 51 = .ok (.iload 6, 2) := by decide +kernel
theorem d_GlyphPositionsModel_takeJoin_53 : decode b_GlyphPositionsModel_takeJoin 53 = .ok (.ifCond .ge 5, 3) := by decide +kernel
theorem d_GlyphPositionsModel_takeJoin_56 : decode b_GlyphPositionsModel_takeJoin 56 = .ok (.iconst (-1), 1) := by decide +kernel
theorem d_GlyphPositionsModel_takeJoin_57 : decode b_GlyphPositionsModel_takeJoin 57 = .ok (.ireturn, 1) := by decide +kernel
theorem d_GlyphPositionsModel_takeJoin_58 : decode b_GlyphPositionsModel_takeJoin 58 = .ok (.aload_n 0, 1) := by decide +kernel
theorem d_GlyphPositionsModel_takeJoin_59 : decode b_GlyphPositionsModel_takeJoin 59 = .ok (.iload_n 2, 1) := by decide +kernel
theorem d_GlyphPositionsModel_takeJoin_60 : decode b_GlyphPositionsModel_takeJoin 60 = .ok (.bipush 8, 2) := by decide +kernel
theorem d_GlyphPositionsModel_takeJoin_62 : decode b_GlyphPositionsModel_takeJoin 62 = .ok (.iadd, 1) := by decide +kernel
theorem d_GlyphPositionsModel_takeJoin_63 : decode b_GlyphPositionsModel_takeJoin 63 = .ok (.iconst 4, 1) := by decide +kernel
theorem d_GlyphPositionsModel_takeJoin_64 : decode b_GlyphPositionsModel_takeJoin 64 = .ok (.iload 4, 2) := by decide +kernel
theorem d_GlyphPositionsModel_takeJoin_66 : decode b_GlyphPositionsModel_takeJoin 66 = .ok (.imul, 1) := by decide +kernel
theorem d_GlyphPositionsModel_takeJoin_67 : decode b_GlyphPositionsModel_takeJoin 67 = .ok (.iadd, 1) := by decide +kernel
theorem d_GlyphPositionsModel_takeJoin_68 : decode b_GlyphPositionsModel_takeJoin 68 = .ok (.invokevirtual 244, 3) := by decide +kernel
theorem d_GlyphPositionsModel_takeJoin_71 : decode b_GlyphPositionsModel_takeJoin 71 = .ok (.istore 7, 2) := by decide +kernel
theorem d_GlyphPositionsModel_takeJoin_73 : decode b_GlyphPositionsModel_takeJoin 73 = .ok (.aload_n 0, 1) := by decide +kernel
theorem d_GlyphPositionsModel_takeJoin_74 : decode b_GlyphPositionsModel_takeJoin 74 = .ok (.iload_n 2, 1) := by decide +kernel
theorem d_GlyphPositionsModel_takeJoin_75 : decode b_GlyphPositionsModel_takeJoin 75 = .ok (.bipush 6, 2) := by decide +kernel
theorem d_GlyphPositionsModel_takeJoin_77 : decode b_GlyphPositionsModel_takeJoin 77 = .ok (.iadd, 1) := by decide +kernel
theorem d_GlyphPositionsModel_takeJoin_78 : decode b_GlyphPositionsModel_takeJoin 78 = .ok (.iconst 4, 1) := by decide +kernel
theorem d_GlyphPositionsModel_takeJoin_79 : decode b_GlyphPositionsModel_takeJoin 79 = .ok (.iload 6, 2) := by decide +kernel
theorem d_GlyphPositionsModel_takeJoin_81 : decode b_GlyphPositionsModel_takeJoin 81 = .ok (.imul, 1) := by decide +kernel
theorem d_GlyphPositionsModel_takeJoin_82 : decode b_GlyphPositionsModel_takeJoin 82 = .ok (.iadd, 1) := by decide +kernel
theorem d_GlyphPositionsModel_takeJoin_83 : decode b_GlyphPositionsModel_takeJoin 83 = .ok (.invokevirtual 244, 3) := by decide +kernel
theorem d_GlyphPositionsModel_takeJoin_86 : decode b_GlyphPositionsModel_takeJoin 86 = .ok (.istore 8, 2) := by decide +kernel
theorem d_GlyphPositionsModel_takeJoin_88 : decode b_GlyphPositionsModel_takeJoin 88 = .ok (.iload 7, 2) := by decide +kernel
theorem d_GlyphPositionsModel_takeJoin_90 : decode b_GlyphPositionsModel_takeJoin 90 = .ok (.ifCond .eq 8, 3) := by decide +kernel
theorem d_GlyphPositionsModel_takeJoin_93 : decode b_GlyphPositionsModel_takeJoin 93 = .ok (.iload 8, 2) := by decide +kernel
theorem d_GlyphPositionsModel_takeJoin_95 : decode b_GlyphPositionsModel_takeJoin 95 = .ok (.ifCond .ne 5, 3) := by decide +kernel
theorem d_GlyphPositionsModel_takeJoin_98 : decode b_GlyphPositionsModel_takeJoin 98 = .ok (.iconst (-1), 1) := by decide +kernel
theorem d_GlyphPositionsModel_takeJoin_99 : decode b_GlyphPositionsModel_takeJoin 99 = .ok (.ireturn, 1) := by decide +kernel
theorem d_GlyphPositionsModel_takeJoin_100 : decode b_GlyphPositionsModel_takeJoin 100 = .ok (.aload_n 0, 1) := by decide +kernel
theorem d_GlyphPositionsModel_takeJoin_101 : decode b_GlyphPositionsModel_takeJoin 101 = .ok (.iload_n 2, 1) := by decide +kernel
theorem d_GlyphPositionsModel_takeJoin_102 : decode b_GlyphPositionsModel_takeJoin 102 = .ok (.iload 7, 2) := by decide +kernel
theorem d_GlyphPositionsModel_takeJoin_104 : decode b_GlyphPositionsModel_takeJoin 104 = .ok (.iadd, 1) := by decide +kernel
theorem d_GlyphPositionsModel_takeJoin_105 : decode b_GlyphPositionsModel_takeJoin 105 = .ok (.iconst 2, 1) := by decide +kernel
theorem d_GlyphPositionsModel_takeJoin_106 : decode b_GlyphPositionsModel_takeJoin 106 = .ok (.iadd, 1) := by decide +kernel
theorem d_GlyphPositionsModel_takeJoin_107 : decode b_GlyphPositionsModel_takeJoin 107 = .ok (.invokevirtual 269, 3) := by decide +kernel
theorem d_GlyphPositionsModel_takeJoin_110 : decode b_GlyphPositionsModel_takeJoin 110 = .ok (.aload_n 0, 1) := by decide +kernel
theorem d_GlyphPositionsModel_takeJoin_111 : decode b_GlyphPositionsModel_takeJoin 111 = .ok (.getfield 59, 3) := by decide +kernel
theorem d_GlyphPositionsModel_takeJoin_114 : decode b_GlyphPositionsModel_takeJoin 114 = .ok (.iload_n 3, 1) := by decide +kernel
theorem d_GlyphPositionsModel_takeJoin_115 : decode b_GlyphPositionsModel_takeJoin 115 = .ok (.iaload, 1) := by decide +kernel
theorem d_GlyphPositionsModel_takeJoin_116 : decode b_GlyphPositionsModel_takeJoin 116 = .ok (.iadd, 1) := by decide +kernel
theorem d_GlyphPositionsModel_takeJoin_117 : decode b_GlyphPositionsModel_takeJoin 117 = .ok (.istore 9, 2) := by decide +kernel
theorem d_GlyphPositionsModel_takeJoin_119 : decode b_GlyphPositionsModel_takeJoin 119 = .ok (.aload_n 0, 1) := by decide +kernel
theorem d_GlyphPositionsModel_takeJoin_120 : decode b_GlyphPositionsModel_takeJoin 120 = .ok (.iload_n 2, 1) := by decide +kernel
theorem d_GlyphPositionsModel_takeJoin_121 : decode b_GlyphPositionsModel_takeJoin 121 = .ok (.iload 8, 2) := by decide +kernel
theorem d_GlyphPositionsModel_takeJoin_123 : decode b_GlyphPositionsModel_takeJoin 123 = .ok (.iadd, 1) := by decide +kernel
theorem d_GlyphPositionsModel_takeJoin_124 : decode b_GlyphPositionsModel_takeJoin 124 = .ok (.iconst 2, 1) := by decide +kernel
theorem d_GlyphPositionsModel_takeJoin_125 : decode b_GlyphPositionsModel_takeJoin 125 = .ok (.iadd, 1) := by decide +kernel
theorem d_GlyphPositionsModel_takeJoin_126 : decode b_GlyphPositionsModel_takeJoin 126 = .ok (.invokevirtual 269, 3) := by decide +kernel
theorem d_GlyphPositionsModel_takeJoin_129 : decode b_GlyphPositionsModel_takeJoin 129 = .ok (.aload_n 0, 1) := by decide +kernel
theorem d_GlyphPositionsModel_takeJoin_130 : decode b_GlyphPositionsModel_takeJoin 130 = .ok (.getfield 59, 3) := by decide +kernel
theorem d_GlyphPositionsModel_takeJoin_133 : decode b_GlyphPositionsModel_takeJoin 133 = .ok (.iload 5, 2) := by decide +kernel
theorem d_GlyphPositionsModel_takeJoin_135 : decode b_GlyphPositionsModel_takeJoin 135 = .ok (.iaload, 1) := by decide +kernel
theorem d_GlyphPositionsModel_takeJoin_136 : decode b_GlyphPositionsModel_takeJoin 136 = .ok (.iadd, 1) := by decide +kernel
theorem d_GlyphPositionsModel_takeJoin_137 : decode b_GlyphPositionsModel_takeJoin 137 = .ok (.istore 10, 2) := by decide +kernel
theorem d_GlyphPositionsModel_takeJoin_139 : decode b_GlyphPositionsModel_takeJoin 139 = .ok (.aload_n 0, 1) := by decide +kernel
theorem d_GlyphPositionsModel_takeJoin_140 : decode b_GlyphPositionsModel_takeJoin 140 = .ok (.getfield 323, 3) := by decide +kernel
theorem d_GlyphPositionsModel_takeJoin_143 : decode b_GlyphPositionsModel_takeJoin 143 = .ok (.ifCond .eq 45, 3) := by decide +kernel
theorem d_GlyphPositionsModel_takeJoin_146 : decode b_GlyphPositionsModel_takeJoin 146 = .ok (.aload_n 0, 1) := by decide +kernel
theorem d_GlyphPositionsModel_takeJoin_147 : decode b_GlyphPositionsModel_takeJoin 147 = .ok (.getfield 53, 3) := by decide +kernel
theorem d_GlyphPositionsModel_takeJoin_150 : decode b_GlyphPositionsModel_takeJoin 150 = .ok (.iload 5, 2) := by decide +kernel
theorem d_GlyphPositionsModel_takeJoin_152 : decode b_GlyphPositionsModel_takeJoin 152 = .ok (.iload 10, 2) := by decide +kernel
theorem d_GlyphPositionsModel_takeJoin_154 : decode b_GlyphPositionsModel_takeJoin 154 = .ok (.iastore, 1) := by decide +kernel
theorem d_GlyphPositionsModel_takeJoin_155 : decode b_GlyphPositionsModel_takeJoin 155 = .ok (.aload_n 0, 1) := by decide +kernel
theorem d_GlyphPositionsModel_takeJoin_156 : decode b_GlyphPositionsModel_takeJoin 156 = .ok (.getfield 53, 3) := by decide +kernel
theorem d_GlyphPositionsModel_takeJoin_159 : decode b_GlyphPositionsModel_takeJoin 159 = .ok (.iload_n 3, 1) := by decide +kernel
theorem d_GlyphPositionsModel_takeJoin_160 : decode b_GlyphPositionsModel_takeJoin 160 = .ok (.aload_n 0, 1) := by decide +kernel
theorem d_GlyphPositionsModel_takeJoin_161 : decode b_GlyphPositionsModel_takeJoin 161 = .ok (.getfield 53, 3) := by decide +kernel
theorem d_GlyphPositionsModel_takeJoin_164 : decode b_GlyphPositionsModel_takeJoin 164 = .ok (.iload_n 3, 1) := by decide +kernel
theorem d_GlyphPositionsModel_takeJoin_165 : decode b_GlyphPositionsModel_takeJoin 165 = .ok (.iaload, 1) := by decide +kernel
theorem d_GlyphPositionsModel_takeJoin_166 : decode b_GlyphPositionsModel_takeJoin 166 = .ok (.iload 9, 2) := by decide +kernel
theorem d_GlyphPositionsModel_takeJoin_168 : decode b_GlyphPositionsModel_takeJoin 168 = .ok (.isub, 1) := by decide +kernel
theorem d_GlyphPositionsModel_takeJoin_169 : decode b_GlyphPositionsModel_takeJoin 169 = .ok (.iastore, 1) := by decide +kernel
theorem d_GlyphPositionsModel_takeJoin_170 : decode b_GlyphPositionsModel_takeJoin 170 = .ok (.aload_n 0, 1) := by decide +kernel
theorem d_GlyphPositionsModel_takeJoin_171 : decode b_GlyphPositionsModel_takeJoin 171 = .ok (.getfield 59, 3) := by decide +kernel
theorem d_GlyphPositionsModel_takeJoin_174 : decode b_GlyphPositionsModel_takeJoin 174 = .ok (.iload_n 3, 1) := by decide +kernel
theorem d_GlyphPositionsModel_takeJoin_175 : decode b_GlyphPositionsModel_takeJoin 175 = .ok (.aload_n 0, 1) := by decide +kernel
theorem d_GlyphPositionsModel_takeJoin_176 : decode b_GlyphPositionsModel_takeJoin 176 = .ok (.getfield 59, 3) := by decide +kernel
theorem d_GlyphPositionsModel_takeJoin_179 : decode b_GlyphPositionsModel_takeJoin 179 = .ok (.iload_n 3, 1) := by decide +kernel
theorem d_GlyphPositionsModel_takeJoin_180 : decode b_GlyphPositionsModel_takeJoin 180 = .ok (.iaload, 1) := by decide +kernel
theorem d_GlyphPositionsModel_takeJoin_181 : decode b_GlyphPositionsModel_takeJoin 181 = .ok (.iload 9, 2) := by decide +kernel
theorem d_GlyphPositionsModel_takeJoin_183 : decode b_GlyphPositionsModel_takeJoin 183 = .ok (.isub, 1) := by decide +kernel
theorem d_GlyphPositionsModel_takeJoin_184 : decode b_GlyphPositionsModel_takeJoin 184 = .ok (.iastore, 1) := by decide +kernel
theorem d_GlyphPositionsModel_takeJoin_185 : decode b_GlyphPositionsModel_takeJoin 185 = .ok (.goto 45, 3) := by decide +kernel
theorem d_GlyphPositionsModel_takeJoin_188 : decode b_GlyphPositionsModel_takeJoin 188 = .ok (.aload_n 0, 1) := by decide +kernel
theorem d_GlyphPositionsModel_takeJoin_189 : decode b_GlyphPositionsModel_takeJoin 189 = .ok (.getfield 53, 3) := by decide +kernel
theorem d_GlyphPositionsModel_takeJoin_192 : decode b_GlyphPositionsModel_takeJoin 192 = .ok (.iload_n 3, 1) := by decide +kernel
theorem d_GlyphPositionsModel_takeJoin_193 : decode b_GlyphPositionsModel_takeJoin 193 = .ok (.iload 9, 2) := by decide +kernel
theorem d_GlyphPositionsModel_takeJoin_195 : decode b_GlyphPositionsModel_takeJoin 195 = .ok (.iastore, 1) := by decide +kernel
theorem d_GlyphPositionsModel_takeJoin_196 : decode b_GlyphPositionsModel_takeJoin 196 = .ok (.aload_n 0, 1) := by decide +kernel
theorem d_GlyphPositionsModel_takeJoin_197 : decode b_GlyphPositionsModel_takeJoin 197 = .ok (.getfield 53, 3) := by decide +kernel
theorem d_GlyphPositionsModel_takeJoin_200 : decode b_GlyphPositionsModel_takeJoin 200 = .ok (.iload 5, 2) := by decide +kernel
theorem d_GlyphPositionsModel_takeJoin_202 : decode b_GlyphPositionsModel_takeJoin 202 = .ok (.aload_n 0, 1) := by decide +kernel
theorem d_GlyphPositionsModel_takeJoin_203 : decode b_GlyphPositionsModel_takeJoin 203 = .ok (.getfield 53, 3) := by decide +kernel
theorem d_GlyphPositionsModel_takeJoin_206 : decode b_GlyphPositionsModel_takeJoin 206 = .ok (.iload 5, 2) := by decide +kernel
theorem d_GlyphPositionsModel_takeJoin_208 : decode b_GlyphPositionsModel_takeJoin 208 = .ok (.iaload, 1) := by decide +kernel
theorem d_GlyphPositionsModel_takeJoin_209 : decode b_GlyphPositionsModel_takeJoin 209 = .ok (.iload 10, 2) := by decide +kernel
theorem d_GlyphPositionsModel_takeJoin_211 : decode b_GlyphPositionsModel_takeJoin 211 = .ok (.isub, 1) := by decide +kernel
theorem d_GlyphPositionsModel_takeJoin_212 : decode b_GlyphPositionsModel_takeJoin 212 = .ok (.iastore, 1) := by decide +kernel
theorem d_GlyphPositionsModel_takeJoin_213 : decode b_GlyphPositionsModel_takeJoin 213 = .ok (.aload_n 0, 1) := by decide +kernel
theorem d_GlyphPositionsModel_takeJoin_214 : decode b_GlyphPositionsModel_takeJoin 214 = .ok (.getfield 59, 3) := by decide +kernel
theorem d_GlyphPositionsModel_takeJoin_217 : decode b_GlyphPositionsModel_takeJoin 217 = .ok (.iload 5, 2) := by decide +kernel
theorem d_GlyphPositionsModel_takeJoin_219 : decode b_GlyphPositionsModel_takeJoin 219 = .ok (.aload_n 0, 1) := by decide +kernel
theorem d_GlyphPositionsModel_takeJoin_220 : decode b_GlyphPositionsModel_takeJoin 220 = .ok (.getfield 59, 3) := by decide +kernel
theorem d_GlyphPositionsModel_takeJoin_223 : decode b_GlyphPositionsModel_takeJoin 223 = .ok (.iload 5, 2) := by decide +kernel
theorem d_GlyphPositionsModel_takeJoin_225 : decode b_GlyphPositionsModel_takeJoin 225 = .ok (.iaload, 1) := by decide +kernel
theorem d_GlyphPositionsModel_takeJoin_226 : decode b_GlyphPositionsModel_takeJoin 226 = .ok (.iload 10, 2) := by decide +kernel
theorem d_GlyphPositionsModel_takeJoin_228 : decode b_GlyphPositionsModel_takeJoin 228 = .ok (.isub, 1) := by decide +kernel
theorem d_GlyphPositionsModel_takeJoin_229 : decode b_GlyphPositionsModel_takeJoin 229 = .ok (.iastore, 1) := by decide +kernel
theorem d_GlyphPositionsModel_takeJoin_230 : decode b_GlyphPositionsModel_takeJoin 230 = .ok (.aload_n 0, 1) := by decide +kernel
theorem d_GlyphPositionsModel_takeJoin_231 : decode b_GlyphPositionsModel_takeJoin 231 = .ok (.iload 5, 2) := by decide +kernel
theorem d_GlyphPositionsModel_takeJoin_233 : decode b_GlyphPositionsModel_takeJoin 233 = .ok (.iload_n 3, 1) := by decide +kernel
theorem d_GlyphPositionsModel_takeJoin_234 : decode b_GlyphPositionsModel_takeJoin 234 = .ok (.iconst 1, 1) := by decide +kernel
theorem d_GlyphPositionsModel_takeJoin_235 : decode b_GlyphPositionsModel_takeJoin 235 = .ok (.iconst 0, 1) := by decide +kernel
theorem d_GlyphPositionsModel_takeJoin_236 : decode b_GlyphPositionsModel_takeJoin 236 = .ok (.aload_n 0, 1) := by decide +kernel
theorem d_GlyphPositionsModel_takeJoin_237 : decode b_GlyphPositionsModel_takeJoin 237 = .ok (.iload_n 2, 1) := by decide +kernel
theorem d_GlyphPositionsModel_takeJoin_238 : decode b_GlyphPositionsModel_takeJoin 238 = .ok (.iload 7, 2) := by decide +kernel
theorem d_GlyphPositionsModel_takeJoin_240 : decode b_GlyphPositionsModel_takeJoin 240 = .ok (.iadd, 1) := by decide +kernel
theorem d_GlyphPositionsModel_takeJoin_241 : decode b_GlyphPositionsModel_takeJoin 241 = .ok (.iconst 4, 1) := by decide +kernel
theorem d_GlyphPositionsModel_takeJoin_242 : decode b_GlyphPositionsModel_takeJoin 242 = .ok (.iadd, 1) := by decide +kernel
theorem d_GlyphPositionsModel_takeJoin_243 : decode b_GlyphPositionsModel_takeJoin 243 = .ok (.invokevirtual 269, 3) := by decide +kernel
theorem d_GlyphPositionsModel_takeJoin_246 : decode b_GlyphPositionsModel_takeJoin 246 = .ok (.aload_n 0, 1) := by decide +kernel
theorem d_GlyphPositionsModel_takeJoin_247 : decode b_GlyphPositionsModel_takeJoin 247 = .ok (.iload_n 2, 1) := by decide +kernel
theorem d_GlyphPositionsModel_takeJoin_248 : decode b_GlyphPositionsModel_takeJoin 248 = .ok (.iload 8, 2) := by decide +kernel
theorem d_GlyphPositionsModel_takeJoin_250 : decode b_GlyphPositionsModel_takeJoin 250 = .ok (.iadd, 1) := by decide +kernel
theorem d_GlyphPositionsModel_takeJoin_251 : decode b_GlyphPositionsModel_takeJoin 251 = .ok (.iconst 4, 1) := by decide +kernel
theorem d_GlyphPositionsModel_takeJoin_252 : decode b_GlyphPositionsModel_takeJoin 252 = .ok (.iadd, 1) := by decide +kernel
theorem d_GlyphPositionsModel_takeJoin_253 : decode b_GlyphPositionsModel_takeJoin 253 = .ok (.invokevirtual 269, 3) := by decide +kernel
theorem d_GlyphPositionsModel_takeJoin_256 : decode b_GlyphPositionsModel_takeJoin 256 = .ok (.isub, 1) := by decide +kernel
theorem d_GlyphPositionsModel_takeJoin_257 : decode b_GlyphPositionsModel_takeJoin 257 = .ok (.invokevirtual 326, 3) := by decide +kernel
theorem d_GlyphPositionsModel_takeJoin_260 : decode b_GlyphPositionsModel_takeJoin 260 = .ok (.iload_n 3, 1) := by decide +kernel
theorem d_GlyphPositionsModel_takeJoin_261 : decode b_GlyphPositionsModel_takeJoin 261 = .ok (.iconst 1, 1) := by decide +kernel
theorem d_GlyphPositionsModel_takeJoin_262 : decode b_GlyphPositionsModel_takeJoin 262 = .ok (.iadd, 1) := by decide +kernel
theorem d_GlyphPositionsModel_takeJoin_263 : decode b_GlyphPositionsModel_takeJoin 263 = .ok (.ireturn, 1) := by decide +kernel
abbrev b_GlyphPositionsModel_classIn : ByteArray := prog_12_method_55_code
def y_GlyphPositionsModel_classIn : MethodName := ⟨R_GlyphPositionsModel, "classIn", "(II)I"⟩
theorem d_GlyphPositionsModel_classIn_0 : decode b_GlyphPositionsModel_classIn 0 = .ok (.aload_n 0, 1) := by decide +kernel
theorem d_GlyphPositionsModel_classIn_1 : decode b_GlyphPositionsModel_classIn 1 = .ok (.iload_n 1, 1) := by decide +kernel
theorem d_GlyphPositionsModel_classIn_2 : decode b_GlyphPositionsModel_classIn 2 = .ok (.invokevirtual 244, 3) := by decide +kernel
theorem d_GlyphPositionsModel_classIn_5 : decode b_GlyphPositionsModel_classIn 5 = .ok (.iconst 1, 1) := by decide +kernel
theorem d_GlyphPositionsModel_classIn_6 : decode b_GlyphPositionsModel_classIn 6 = .ok (.if_icmp .ne 45, 3) := by decide +kernel
theorem d_GlyphPositionsModel_classIn_9 : decode b_GlyphPositionsModel_classIn 9 = .ok (.iload_n 2, 1) := by decide +kernel
theorem d_GlyphPositionsModel_classIn_10 : decode b_GlyphPositionsModel_classIn 10 = .ok (.aload_n 0, 1) := by decide +kernel
theorem d_GlyphPositionsModel_classIn_11 : decode b_GlyphPositionsModel_classIn 11 = .ok (.iload_n 1, 1) := by decide +kernel
theorem d_GlyphPositionsModel_classIn_12 : decode b_GlyphPositionsModel_classIn 12 = .ok (.iconst 2, 1) := by decide +kernel
theorem d_GlyphPositionsModel_classIn_13 : decode b_GlyphPositionsModel_classIn 13 = .ok (.iadd, 1) := by decide +kernel
theorem d_GlyphPositionsModel_classIn_14 : decode b_GlyphPositionsModel_classIn 14 = .ok (.invokevirtual 244, 3) := by decide +kernel
theorem d_GlyphPositionsModel_classIn_17 : decode b_GlyphPositionsModel_classIn 17 = .ok (.isub, 1) := by decide +kernel
theorem d_GlyphPositionsModel_classIn_18 : decode b_GlyphPositionsModel_classIn 18 = .ok (.istore_n 3, 1) := by decide +kernel
theorem d_GlyphPositionsModel_classIn_19 : decode b_GlyphPositionsModel_classIn 19 = .ok (.iload_n 3, 1) := by decide +kernel
theorem d_GlyphPositionsModel_classIn_20 : decode b_GlyphPositionsModel_classIn 20 = .ok (.ifCond .lt 29, 3) := by decide +kernel
theorem d_GlyphPositionsModel_classIn_23 : decode b_GlyphPositionsModel_classIn 23 = .ok (.iload_n 3, 1) := by decide +kernel
theorem d_GlyphPositionsModel_classIn_24 : decode b_GlyphPositionsModel_classIn 24 = .ok (.aload_n 0, 1) := by decide +kernel
theorem d_GlyphPositionsModel_classIn_25 : decode b_GlyphPositionsModel_classIn 25 = .ok (.iload_n 1, 1) := by decide +kernel
theorem d_GlyphPositionsModel_classIn_26 : decode b_GlyphPositionsModel_classIn 26 = .ok (.iconst 4, 1) := by decide +kernel
theorem d_GlyphPositionsModel_classIn_27 : decode b_GlyphPositionsModel_classIn 27 = .ok (.iadd, 1) := by decide +kernel
theorem d_GlyphPositionsModel_classIn_28 : decode b_GlyphPositionsModel_classIn 28 = .ok (.invokevirtual 244, 3) := by decide +kernel
theorem d_GlyphPositionsModel_classIn_31 : decode b_GlyphPositionsModel_classIn 31 = .ok (.if_icmp .ge 18, 3) := by decide +kernel
theorem d_GlyphPositionsModel_classIn_34 : decode b_GlyphPositionsModel_classIn 34 = .ok (.aload_n 0, 1) := by decide +kernel
theorem d_GlyphPositionsModel_classIn_35 : decode b_GlyphPositionsModel_classIn 35 = .ok (.iload_n 1, 1) := by decide +kernel
theorem d_GlyphPositionsModel_classIn_36 : decode b_GlyphPositionsModel_classIn 36 = .ok (.bipush 6, 2) := by decide +kernel
theorem d_GlyphPositionsModel_classIn_38 : decode b_GlyphPositionsModel_classIn 38 = .ok (.iadd, 1) := by decide +kernel
theorem d_GlyphPositionsModel_classIn_39 : decode b_GlyphPositionsModel_classIn 39 = .ok (.iconst 2, 1) := by decide +kernel
theorem d_GlyphPositionsModel_classIn_40 : decode b_GlyphPositionsModel_classIn 40 = .ok (.iload_n 3, 1) := by decide +kernel
theorem d_GlyphPositionsModel_classIn_41 : decode b_GlyphPositionsModel_classIn 41 = .ok (.imul, 1) := by decide +kernel
theorem d_GlyphPositionsModel_classIn_42 : decode b_GlyphPositionsModel_classIn 42 = .ok (.iadd, 1) := by decide +kernel
theorem d_GlyphPositionsModel_classIn_43 : decode b_GlyphPositionsModel_classIn 43 = .ok (.invokevirtual 244, 3) := by decide +kernel
theorem d_GlyphPositionsModel_classIn_46 : decode b_GlyphPositionsModel_classIn 46 = .ok (.goto 4, 3) := by decide +kernel
theorem d_GlyphPositionsModel_classIn_49 : decode b_GlyphPositionsModel_classIn 49 = .ok (.iconst 0, 1) := by decide +kernel
theorem d_GlyphPositionsModel_classIn_50 : decode b_GlyphPositionsModel_classIn 50 = .ok (.ireturn, 1) := by decide +kernel
theorem d_GlyphPositionsModel_classIn_51 : decode b_GlyphPositionsModel_classIn 51 = .ok (.iconst 0, 1) := by decide +kernel
theorem d_GlyphPositionsModel_classIn_52 : decode b_GlyphPositionsModel_classIn 52 = .ok (.istore_n 3, 1) := by decide +kernel
theorem d_GlyphPositionsModel_classIn_53 : decode b_GlyphPositionsModel_classIn 53 = .ok (.iconst 0, 1) := by decide +kernel
theorem d_GlyphPositionsModel_classIn_54 : decode b_GlyphPositionsModel_classIn 54 = .ok (.istore 4, 2) := by decide +kernel
theorem d_GlyphPositionsModel_classIn_56 : decode b_GlyphPositionsModel_classIn 56 = .ok (.iload 4, 2) := by decide +kernel
theorem d_GlyphPositionsModel_classIn_58 : decode b_GlyphPositionsModel_classIn 58 = .ok (.aload_n 0, 1) := by decide +kernel
theorem d_GlyphPositionsModel_classIn_59 : decode b_GlyphPositionsModel_classIn 59 = .ok (.iload_n 1, 1) := by decide +kernel
theorem d_GlyphPositionsModel_classIn_60 : decode b_GlyphPositionsModel_classIn 60 = .ok (.iconst 2, 1) := by decide +kernel
theorem d_GlyphPositionsModel_classIn_61 : decode b_GlyphPositionsModel_classIn 61 = .ok (.iadd, 1) := by decide +kernel
theorem d_GlyphPositionsModel_classIn_62 : decode b_GlyphPositionsModel_classIn 62 = .ok (.invokevirtual 244, 3) := by decide +kernel
theorem d_GlyphPositionsModel_classIn_65 : decode b_GlyphPositionsModel_classIn 65 = .ok (.if_icmp .ge 55, 3) := by decide +kernel
theorem d_GlyphPositionsModel_classIn_68 : decode b_GlyphPositionsModel_classIn 68 = .ok (.iload_n 1, 1) := by decide +kernel
theorem d_GlyphPositionsModel_classIn_69 : decode b_GlyphPositionsModel_classIn 69 = .ok (.iconst 4, 1) := by decide +kernel
theorem d_GlyphPositionsModel_classIn_70 : decode b_GlyphPositionsModel_classIn 70 = .ok (.iadd, 1) := by decide +kernel
theorem d_GlyphPositionsModel_classIn_71 : decode b_GlyphPositionsModel_classIn 71 = .ok (.bipush 6, 2) := by decide +kernel
theorem d_GlyphPositionsModel_classIn_73 : decode b_GlyphPositionsModel_classIn 73 = .ok (.iload 4, 2) := by decide +kernel
theorem d_GlyphPositionsModel_classIn_75 : decode b_GlyphPositionsModel_classIn 75 = .ok (.imul, 1) := by decide +kernel
theorem d_GlyphPositionsModel_classIn_76 : decode b_GlyphPositionsModel_classIn 76 = .ok (.iadd, 1) := by decide +kernel
theorem d_GlyphPositionsModel_classIn_77 : decode b_GlyphPositionsModel_classIn 77 = .ok (.istore 5, 2) := by decide +kernel
theorem d_GlyphPositionsModel_classIn_79 : decode b_GlyphPositionsModel_classIn 79 = .ok (.iload_n 2, 1) := by decide +kernel
theorem d_GlyphPositionsModel_classIn_80 : decode b_GlyphPositionsModel_classIn 80 = .ok (.aload_n 0, 1) := by decide +kernel
theorem d_GlyphPositionsModel_classIn_81 : decode b_GlyphPositionsModel_classIn 81 = .ok (.iload 5, 2) := by decide +kernel
theorem d_GlyphPositionsModel_classIn_83 : decode b_GlyphPositionsModel_classIn 83 = .ok (.invokevirtual 244, 3) := by decide +kernel
theorem d_GlyphPositionsModel_classIn_86 : decode b_GlyphPositionsModel_classIn 86 = .ok (.if_icmp .lt 26, 3) := by decide +kernel
theorem d_GlyphPositionsModel_classIn_89 : decode b_GlyphPositionsModel_classIn 89 = .ok (.iload_n 2, 1) := by decide +kernel
theorem d_GlyphPositionsModel_classIn_90 : decode b_GlyphPositionsModel_classIn 90 = .ok (.aload_n 0, 1) := by decide +kernel
theorem d_GlyphPositionsModel_classIn_91 : decode b_GlyphPositionsModel_classIn 91 = .ok (.iload 5, 2) := by decide +kernel
theorem d_GlyphPositionsModel_classIn_93 : decode b_GlyphPositionsModel_classIn 93 = .ok (.iconst 2, 1) := by decide +kernel
theorem d_GlyphPositionsModel_classIn_94 : decode b_GlyphPositionsModel_classIn 94 = .ok (.iadd, 1) := by decide +kernel
theorem d_GlyphPositionsModel_classIn_95 : decode b_GlyphPositionsModel_classIn 95 = .ok (.invokevirtual 244, 3) := by decide +kernel
theorem d_GlyphPositionsModel_classIn_98 : decode b_GlyphPositionsModel_classIn 98 = .ok (.if_icmp .gt 14, 3) := by decide +kernel
theorem d_GlyphPositionsModel_classIn_101 : decode b_GlyphPositionsModel_classIn 101 = .ok (.aload_n 0, 1) := by decide +kernel
theorem d_GlyphPositionsModel_classIn_102 : decode b_GlyphPositionsModel_classIn 102 = .ok (.iload 5, 2) := by decide +kernel
theorem d_GlyphPositionsModel_classIn_104 : decode b_GlyphPositionsModel_classIn 104 = .ok (.iconst 4, 1) := by decide +kernel
theorem d_GlyphPositionsModel_classIn_105 : decode b_GlyphPositionsModel_classIn 105 = .ok (.iadd, 1) := by decide +kernel
theorem d_GlyphPositionsModel_classIn_106 : decode b_GlyphPositionsModel_classIn 106 = .ok (.invokevirtual 244, 3) := by decide +kernel
theorem d_GlyphPositionsModel_classIn_109 : decode b_GlyphPositionsModel_classIn 109 = .ok (.goto 4, 3) := by decide +kernel
theorem d_GlyphPositionsModel_classIn_112 : decode b_GlyphPositionsModel_classIn 112 = .ok (.iload_n 3, 1) := by decide +kernel
theorem d_GlyphPositionsModel_classIn_113 : decode b_GlyphPositionsModel_classIn 113 = .ok (.istore_n 3, 1) := by decide +kernel
theorem d_GlyphPositionsModel_classIn_114 : decode b_GlyphPositionsModel_classIn 114 = .ok (.iinc 4 1, 3) := by decide +kernel
theorem d_GlyphPositionsModel_classIn_117 : decode b_GlyphPositionsModel_classIn 117 = .ok (.goto (-61), 3) := by decide +kernel
theorem d_GlyphPositionsModel_classIn_120 : decode b_GlyphPositionsModel_classIn 120 = .ok (.iload_n 3, 1) := by decide +kernel
theorem d_GlyphPositionsModel_classIn_121 : decode b_GlyphPositionsModel_classIn 121 = .ok (.ireturn, 1) := by decide +kernel
abbrev b_GlyphPositionsModel_valuesOf : ByteArray := prog_12_method_69_code
def y_GlyphPositionsModel_valuesOf : MethodName := ⟨R_GlyphPositionsModel, "valuesOf", "(IIIII)I"⟩
theorem d_GlyphPositionsModel_valuesOf_0 : decode b_GlyphPositionsModel_valuesOf 0 = .ok (.aload_n 0, 1) := by decide +kernel
theorem d_GlyphPositionsModel_valuesOf_1 : decode b_GlyphPositionsModel_valuesOf 1 = .ok (.iload_n 1, 1) := by decide +kernel
theorem d_GlyphPositionsModel_valuesOf_2 : decode b_GlyphPositionsModel_valuesOf 2 = .ok (.invokevirtual 244, 3) := by decide +kernel
theorem d_GlyphPositionsModel_valuesOf_5 : decode b_GlyphPositionsModel_valuesOf 5 = .ok (.iconst 2, 1) := by decide +kernel
theorem d_GlyphPositionsModel_valuesOf_6 : decode b_GlyphPositionsModel_valuesOf 6 = .ok (.if_icmp .ne 89, 3) := by decide +kernel
theorem d_GlyphPositionsModel_valuesOf_9 : decode b_GlyphPositionsModel_valuesOf 9 = .ok (.aload_n 0, 1) := by decide +kernel
theorem d_GlyphPositionsModel_valuesOf_10 : decode b_GlyphPositionsModel_valuesOf 10 = .ok (.iload_n 1, 1) := by decide +kernel
theorem d_GlyphPositionsModel_valuesOf_11 : decode b_GlyphPositionsModel_valuesOf 11 = .ok (.aload_n 0, 1) := by decide +kernel
theorem d_GlyphPositionsModel_valuesOf_12 : decode b_GlyphPositionsModel_valuesOf 12 = .ok (.iload_n 1, 1) := by decide +kernel
theorem d_GlyphPositionsModel_valuesOf_13 : decode b_GlyphPositionsModel_valuesOf 13 = .ok (.bipush 8, 2) := by decide +kernel
theorem d_GlyphPositionsModel_valuesOf_15 : decode b_GlyphPositionsModel_valuesOf 15 = .ok (.iadd, 1) := by decide +kernel
theorem d_GlyphPositionsModel_valuesOf_16 : decode b_GlyphPositionsModel_valuesOf 16 = .ok (.invokevirtual 244, 3) := by decide +kernel
theorem d_GlyphPositionsModel_valuesOf_19 : decode b_GlyphPositionsModel_valuesOf 19 = .ok (.iadd, 1) := by decide +kernel
theorem d_GlyphPositionsModel_valuesOf_20 : decode b_GlyphPositionsModel_valuesOf 20 = .ok (.iload_n 3, 1) := by decide +kernel
theorem d_GlyphPositionsModel_valuesOf_21 : decode b_GlyphPositionsModel_valuesOf 21 = .ok (.invokevirtual 313, 3) := by decide +kernel
theorem d_GlyphPositionsModel_valuesOf_24 : decode b_GlyphPositionsModel_valuesOf 24 = .ok (.istore 6, 2) := by decide +kernel
theorem d_GlyphPositionsModel_valuesOf_26 : decode b_GlyphPositionsModel_valuesOf 26 = .ok (.aload_n 0, 1) := by decide +kernel
theorem d_GlyphPositionsModel_valuesOf_27 : decode b_GlyphPositionsModel_valuesOf 27 = .ok (.iload_n 1, 1) := by decide +kernel
theorem d_GlyphPositionsModel_valuesOf_28 : decode b_GlyphPositionsModel_valuesOf 28 = .ok (.aload_n 0, 1) := by decide +kernel
theorem d_GlyphPositionsModel_valuesOf_29 : decode b_GlyphPositionsModel_valuesOf 29 = .ok (.iload_n 1, 1) := by decide +kernel
theorem d_GlyphPositionsModel_valuesOf_30 : decode b_GlyphPositionsModel_valuesOf 30 = .ok (.bipush 10, 2) := by decide +kernel
theorem d_GlyphPositionsModel_valuesOf_32 : decode b_GlyphPositionsModel_valuesOf 32 = .ok (.iadd, 1) := by decide +kernel
theorem d_GlyphPositionsModel_valuesOf_33 : decode b_GlyphPositionsModel_valuesOf 33 = .ok (.invokevirtual 244, 3) := by decide +kernel
theorem d_GlyphPositionsModel_valuesOf_36 : decode b_GlyphPositionsModel_valuesOf 36 = .ok (.iadd, 1) := by decide +kernel
theorem d_GlyphPositionsModel_valuesOf_37 : decode b_GlyphPositionsModel_valuesOf 37 = .ok (.iload 4, 2) := by decide +kernel
theorem d_GlyphPositionsModel_valuesOf_39 : decode b_GlyphPositionsModel_valuesOf 39 = .ok (.invokevirtual 313, 3) := by decide +kernel
theorem d_GlyphPositionsModel_valuesOf_42 : decode b_GlyphPositionsModel_valuesOf 42 = .ok (.istore 7, 2) := by decide +kernel
theorem d_GlyphPositionsModel_valuesOf_44 : decode b_GlyphPositionsModel_valuesOf 44 = .ok (.aload_n 0, 1) := by decide +kernel
theorem d_GlyphPositionsModel_valuesOf_45 : decode b_GlyphPositionsModel_valuesOf 45 = .ok (.iload_n 1, 1) := by decide +kernel
theorem d_GlyphPositionsModel_valuesOf_46 : decode b_GlyphPositionsModel_valuesOf 46 = .ok (.bipush 14, 2) := by decide +kernel
theorem d_GlyphPositionsModel_valuesOf_48 : decode b_GlyphPositionsModel_valuesOf 48 = .ok (.iadd, 1) := by decide +kernel
theorem d_GlyphPositionsModel_valuesOf_49 : decode b_GlyphPositionsModel_valuesOf 49 = .ok (.invokevirtual 244, 3) := by decide +kernel
theorem d_GlyphPositionsModel_valuesOf_52 : decode b_GlyphPositionsModel_valuesOf 52 = .ok (.istore 8, 2) := by decide +kernel
theorem d_GlyphPositionsModel_valuesOf_54 : decode b_GlyphPositionsModel_valuesOf 54 = .ok (.iload 6, 2) := by decide +kernel
theorem d_GlyphPositionsModel_valuesOf_56 : decode b_GlyphPositionsModel_valuesOf 56 = .ok (.aload_n 0, 1) := by decide +kernel
theorem d_GlyphPositionsModel_valuesOf_57 : decode b_GlyphPositionsModel_valuesOf 57 = .ok (.iload_n 1, 1) := by decide +kernel
theorem d_GlyphPositionsModel_valuesOf_58 : decode b_GlyphPositionsModel_valuesOf 58 = .ok (.bipush 12, 2) := by decide +kernel
theorem d_GlyphPositionsModel_valuesOf_60 : decode b_GlyphPositionsModel_valuesOf 60 = .ok (.iadd, 1) := by decide +kernel
theorem d_GlyphPositionsModel_valuesOf_61 : decode b_GlyphPositionsModel_valuesOf 61 = .ok (.invokevirtual 244, 3) := by decide +kernel
theorem d_GlyphPositionsModel_valuesOf_64 : decode b_GlyphPositionsModel_valuesOf 64 = .ok (.if_icmp .ge 29, 3) := by decide +kernel
theorem d_GlyphPositionsModel_valuesOf_67 : decode b_GlyphPositionsModel_valuesOf 67 = .ok (.iload 7, 2) := by decide +kernel
theorem d_GlyphPositionsModel_valuesOf_69 : decode b_GlyphPositionsModel_valuesOf 69 = .ok (.iload 8, 2) := by decide +kernel
theorem d_GlyphPositionsModel_valuesOf_71 : decode b_GlyphPositionsModel_valuesOf 71 = .ok (.if_icmp .ge 22, 3) := by decide +kernel
theorem d_GlyphPositionsModel_valuesOf_74 : decode b_GlyphPositionsModel_valuesOf 74 = .ok (.iload_n 1, 1) := by decide +kernel
theorem d_GlyphPositionsModel_valuesOf_75 : decode b_GlyphPositionsModel_valuesOf 75 = .ok (.bipush 16, 2) := by decide +kernel
theorem d_GlyphPositionsModel_valuesOf_77 : decode b_GlyphPositionsModel_valuesOf 77 = .ok (.iadd, 1) := by decide +kernel
theorem d_GlyphPositionsModel_valuesOf_78 : decode b_GlyphPositionsModel_valuesOf 78 = .ok (.iload 6, 2) := by decide +kernel
theorem d_GlyphPositionsModel_valuesOf_80 : decode b_GlyphPositionsModel_valuesOf 80 = .ok (.iload 8, 2) := by decide +kernel
theorem d_GlyphPositionsModel_valuesOf_82 : decode b_GlyphPositionsModel_valuesOf 82 = .ok (.imul, 1) := by decide +kernel
theorem d_GlyphPositionsModel_valuesOf_83 : decode b_GlyphPositionsModel_valuesOf 83 = .ok (.iload 7, 2) := by decide +kernel
theorem d_GlyphPositionsModel_valuesOf_85 : decode b_GlyphPositionsModel_valuesOf 85 = .ok (.iadd, 1) := by decide +kernel
theorem d_GlyphPositionsModel_valuesOf_86 : decode b_GlyphPositionsModel_valuesOf 86 = .ok (.iload 5, 2) := by decide +kernel
theorem d_GlyphPositionsModel_valuesOf_88 : decode b_GlyphPositionsModel_valuesOf 88 = .ok (.imul, 1) := by decide +kernel
theorem d_GlyphPositionsModel_valuesOf_89 : decode b_GlyphPositionsModel_valuesOf 89 = .ok (.iadd, 1) := by decide +kernel
theorem d_GlyphPositionsModel_valuesOf_90 : decode b_GlyphPositionsModel_valuesOf 90 = .ok (.goto 4, 3) := by decide +kernel
theorem d_GlyphPositionsModel_valuesOf_93 : decode b_GlyphPositionsModel_valuesOf 93 = .ok (.iconst 0, 1) := by decide +kernel
theorem d_GlyphPositionsModel_valuesOf_94 : decode b_GlyphPositionsModel_valuesOf 94 = .ok (.ireturn, 1) := by decide +kernel
theorem d_GlyphPositionsModel_valuesOf_95 : decode b_GlyphPositionsModel_valuesOf 95 = .ok (.iload_n 1, 1) := by decide +kernel
theorem d_GlyphPositionsModel_valuesOf_96 : decode b_GlyphPositionsModel_valuesOf 96 = .ok (.aload_n 0, 1) := by decide +kernel
theorem d_GlyphPositionsModel_valuesOf_97 : decode b_GlyphPositionsModel_valuesOf 97 = .ok (.iload_n 1, 1) := by decide +kernel
theorem d_GlyphPositionsModel_valuesOf_98 : decode b_GlyphPositionsModel_valuesOf 98 = .ok (.bipush 10, 2) := by decide +kernel
theorem d_GlyphPositionsModel_valuesOf_100 : decode b_GlyphPositionsModel_valuesOf 100 = .ok (.iadd, 1) := by decide +kernel
theorem d_GlyphPositionsModel_valuesOf_101 : decode b_GlyphPositionsModel_valuesOf 101 = .ok (.iconst 2, 1) := by decide +kernel
theorem d_GlyphPositionsModel_valuesOf_102 : decode b_GlyphPositionsModel_valuesOf 102 = .ok (.iload_n 2, 1) := by decide +kernel
theorem d_GlyphPositionsModel_valuesOf_103 : decode b_GlyphPositionsModel_valuesOf 103 = .ok (.imul, 1) := by decide +kernel
theorem d_GlyphPositionsModel_valuesOf_104 : decode b_GlyphPositionsModel_valuesOf 104 = .ok (.iadd, 1) := by decide +kernel
theorem d_GlyphPositionsModel_valuesOf_105 : decode b_GlyphPositionsModel_valuesOf 105 = .ok (.invokevirtual 244, 3) := by decide +kernel
theorem d_GlyphPositionsModel_valuesOf_108 : decode b_GlyphPositionsModel_valuesOf 108 = .ok (.iadd, 1) := by decide +kernel
theorem d_GlyphPositionsModel_valuesOf_109 : decode b_GlyphPositionsModel_valuesOf 109 = .ok (.istore 6, 2) := by decide +kernel
theorem d_GlyphPositionsModel_valuesOf_111 : decode b_GlyphPositionsModel_valuesOf 111 = .ok (.iconst 0, 1) := by decide +kernel
theorem d_GlyphPositionsModel_valuesOf_112 : decode b_GlyphPositionsModel_valuesOf 112 = .ok (.istore 7, 2) := by decide +kernel
theorem d_GlyphPositionsModel_valuesOf_114 : decode b_GlyphPositionsModel_valuesOf 114 = .ok (.iconst 0, 1) := by decide +kernel
theorem d_GlyphPositionsModel_valuesOf_115 : decode b_GlyphPositionsModel_valuesOf 115 = .ok (.istore 8, 2) := by decide +kernel
theorem d_GlyphPositionsModel_valuesOf_117 : decode b_GlyphPositionsModel_valuesOf 117 = .ok (.iload 8, 2) := by decide +kernel
theorem d_GlyphPositionsModel_valuesOf_119 : decode b_GlyphPositionsModel_valuesOf 119 = .ok (.aload_n 0, 1) := by decide +kernel
theorem d_GlyphPositionsModel_valuesOf_120 : decode b_GlyphPositionsModel_valuesOf 120 = .ok (.iload 6, 2) := by decide +kernel
theorem d_GlyphPositionsModel_valuesOf_122 : decode b_GlyphPositionsModel_valuesOf 122 = .ok (.invokevirtual 244, 3) := by decide +kernel
theorem d_GlyphPositionsModel_valuesOf_125 : decode b_GlyphPositionsModel_valuesOf 125 = .ok (.if_icmp .ge 45, 3) := by decide +kernel
theorem d_GlyphPositionsModel_valuesOf_128 : decode b_GlyphPositionsModel_valuesOf 128 = .ok (.iload 6, 2) := by decide +kernel
theorem d_GlyphPositionsModel_valuesOf_130 : decode b_GlyphPositionsModel_valuesOf 130 = .ok (.iconst 2, 1) := by decide +kernel
theorem d_GlyphPositionsModel_valuesOf_131 : decode b_GlyphPositionsModel_valuesOf 131 = .ok (.iadd, 1) := by decide +kernel
theorem d_GlyphPositionsModel_valuesOf_132 : decode b_GlyphPositionsModel_valuesOf 132 = .ok (.iconst 2, 1) := by decide +kernel
theorem d_GlyphPositionsModel_valuesOf_133 : decode b_GlyphPositionsModel_valuesOf 133 = .ok (.iload 5, 2) := by decide +kernel
theorem d_GlyphPositionsModel_valuesOf_135 : decode b_GlyphPositionsModel_valuesOf 135 = .ok (.iadd, 1) := by decide +kernel
theorem d_GlyphPositionsModel_valuesOf_136 : decode b_GlyphPositionsModel_valuesOf 136 = .ok (.iload 8, 2) := by decide +kernel
theorem d_GlyphPositionsModel_valuesOf_138 : decode b_GlyphPositionsModel_valuesOf 138 = .ok (.imul, 1) := by decide +kernel
theorem d_GlyphPositionsModel_valuesOf_139 : decode b_GlyphPositionsModel_valuesOf 139 = .ok (.iadd, 1) := by decide +kernel
theorem d_GlyphPositionsModel_valuesOf_140 : decode b_GlyphPositionsModel_valuesOf 140 = .ok (.istore 9, 2) := by decide +kernel
theorem d_GlyphPositionsModel_valuesOf_142 : decode b_GlyphPositionsModel_valuesOf 142 = .ok (.aload_n 0, 1) := by decide +kernel
theorem d_GlyphPositionsModel_valuesOf_143 : decode b_GlyphPositionsModel_valuesOf 143 = .ok (.iload 9, 2) := by decide +kernel
theorem d_GlyphPositionsModel_valuesOf_145 : decode b_GlyphPositionsModel_valuesOf 145 = .ok (.invokevirtual 244, 3) := by decide +kernel
theorem d_GlyphPositionsModel_valuesOf_148 : decode b_GlyphPositionsModel_valuesOf 148 = .ok (.iload 4, 2) := by decide +kernel
theorem d_GlyphPositionsModel_valuesOf_150 : decode b_GlyphPositionsModel_valuesOf 150 = .ok (.if_icmp .ne 10, 3) := by decide +kernel
theorem d_GlyphPositionsModel_valuesOf_153 : decode b_GlyphPositionsModel_valuesOf 153 = .ok (.iload 9, 2) := by decide +kernel
theorem d_GlyphPositionsModel_valuesOf_155 : decode b_GlyphPositionsModel_valuesOf 155 = .ok (.iconst 2, 1) := by decide +kernel
theorem d_GlyphPositionsModel_valuesOf_156 : decode b_GlyphPositionsModel_valuesOf 156 = .ok (.iadd, 1) := by decide +kernel
theorem d_GlyphPositionsModel_valuesOf_157 : decode b_GlyphPositionsModel_valuesOf 157 = .ok (.goto 5, 3) := by decide +kernel
theorem d_GlyphPositionsModel_valuesOf_160 : decode b_GlyphPositionsModel_valuesOf 160 = .ok (.iload 7, 2) := by decide +kernel
theorem d_GlyphPositionsModel_valuesOf_162 : decode b_GlyphPositionsModel_valuesOf 162 = .ok (.istore 7, 2) := by decide +kernel
theorem d_GlyphPositionsModel_valuesOf_164 : decode b_GlyphPositionsModel_valuesOf 164 = .ok (.iinc 8 1, 3) := by decide +kernel
theorem d_GlyphPositionsModel_valuesOf_167 : decode b_GlyphPositionsModel_valuesOf 167 = .ok (.goto (-50), 3) := by decide +kernel
theorem d_GlyphPositionsModel_valuesOf_170 : decode b_GlyphPositionsModel_valuesOf 170 = .ok (.iload 7, 2) := by decide +kernel
theorem d_GlyphPositionsModel_valuesOf_172 : decode b_GlyphPositionsModel_valuesOf 172 = .ok (.ireturn, 1) := by decide +kernel
abbrev b_GlyphPositionsModel_give : ByteArray := prog_12_method_60_code
def y_GlyphPositionsModel_give : MethodName := ⟨R_GlyphPositionsModel, "give", "(III)V"⟩
theorem d_GlyphPositionsModel_give_0 : decode b_GlyphPositionsModel_give 0 = .ok (.iload_n 2, 1) := by decide +kernel
theorem d_GlyphPositionsModel_give_1 : decode b_GlyphPositionsModel_give 1 = .ok (.istore 4, 2) := by decide +kernel
theorem d_GlyphPositionsModel_give_3 : decode b_GlyphPositionsModel_give 3 = .ok (.iconst 0, 1) := by decide +kernel
theorem d_GlyphPositionsModel_give_4 : decode b_GlyphPositionsModel_give 4 = .ok (.istore 5, 2) := by decide +kernel
theorem d_GlyphPositionsModel_give_6 : decode b_GlyphPositionsModel_give 6 = .ok (.iload 5, 2) := by decide +kernel
theorem d_GlyphPositionsModel_give_8 : decode b_GlyphPositionsModel_give 8 = .ok (.bipush 8, 2) := by decide +kernel
theorem d_GlyphPositionsModel_give_10 : decode b_GlyphPositionsModel_give 10 = .ok (.if_icmp .ge 152, 3) := by decide +kernel
theorem d_GlyphPositionsModel_give_13 : decode b_GlyphPositionsModel_give 13 = .ok (.iload_n 3, 1) := by decide +kernel
theorem d_GlyphPositionsModel_give_14 : decode b_GlyphPositionsModel_give 14 = .ok (.iload 5, 2) := by decide +kernel
theorem d_GlyphPositionsModel_give_16 : decode b_GlyphPositionsModel_give 16 = .ok (.ishr, 1) := by decide +kernel
theorem d_GlyphPositionsModel_give_17 : decode b_GlyphPositionsModel_give 17 = .ok (.iconst 1, 1) := by decide +kernel
theorem d_GlyphPositionsModel_give_18 : decode b_GlyphPositionsModel_give 18 = .ok (.iand, 1) := by decide +kernel
theorem d_GlyphPositionsModel_give_19 : decode b_GlyphPositionsModel_give 19 = .ok (.iconst 1, 1) := by decide +kernel
theorem d_GlyphPositionsModel_give_20 : decode b_GlyphPositionsModel_give 20 = .ok (.if_icmp .ne 136, 3) := by decide +kernel
theorem d_GlyphPositionsModel_give_23 : decode b_GlyphPositionsModel_give 23 = .ok (.aload_n 0, 1) := by decide +kernel
theorem d_GlyphPositionsModel_give_24 : decode b_GlyphPositionsModel_give 24 = .ok (.iload 4, 2) := by decide +kernel
theorem d_GlyphPositionsModel_give_26 : decode b_GlyphPositionsModel_give 26 = .ok (.invokevirtual 269, 3) := by decide +kernel
theorem d_GlyphPositionsModel_give_29 : decode b_GlyphPositionsModel_give 29 = .ok (.istore 6, 2) := by decide +kernel
theorem d_GlyphPositionsModel_give_31 : decode b_GlyphPositionsModel_give 31 = .ok (.iload 4, 2) := by decide +kernel
theorem d_GlyphPositionsModel_give_33 : decode b_GlyphPositionsModel_give 33 = .ok (.iconst 2, 1) := by decide +kernel
theorem d_GlyphPositionsModel_give_34 : decode b_GlyphPositionsModel_give 34 = .ok (.iadd, 1) := by decide +kernel
theorem d_GlyphPositionsModel_give_35 : decode b_GlyphPositionsModel_give 35 = .ok (.istore 4, 2) := by decide +kernel
theorem d_GlyphPositionsModel_give_37 : decode b_GlyphPositionsModel_give 37 = .ok (.aload_n 0, 1) := by decide +kernel
theorem d_GlyphPositionsModel_give_38 : decode b_GlyphPositionsModel_give 38 = .ok (.getfield 59, 3) := by decide +kernel
theorem d_GlyphPositionsModel_give_41 : decode b_GlyphPositionsModel_give 41 = .ok (.iload_n 1, 1) := by decide +kernel
theorem d_GlyphPositionsModel_give_42 : decode b_GlyphPositionsModel_give 42 = .ok (.iload 5, 2) := by decide +kernel
theorem d_GlyphPositionsModel_give_44 : decode b_GlyphPositionsModel_give 44 = .ok (.ifCond .ne 15, 3) := by decide +kernel
theorem d_GlyphPositionsModel_give_47 : decode b_GlyphPositionsModel_give 47 = .ok (.aload_n 0, 1) := by decide +kernel
theorem d_GlyphPositionsModel_give_48 : decode b_GlyphPositionsModel_give 48 = .ok (.getfield 59, 3) := by decide +kernel
theorem d_GlyphPositionsModel_give_51 : decode b_GlyphPositionsModel_give 51 = .ok (.iload_n 1, 1) := by decide +kernel
theorem d_GlyphPositionsModel_give_52 : decode b_GlyphPositionsModel_give 52 = .ok (.iaload, 1) := by decide +kernel
theorem d_GlyphPositionsModel_give_53 : decode b_GlyphPositionsModel_give 53 = .ok (.iload 6, 2) := by decide +kernel
theorem d_GlyphPositionsModel_give_55 : decode b_GlyphPositionsModel_give 55 = .ok (.iadd, 1) := by decide +kernel
theorem d_GlyphPositionsModel_give_56 : decode b_GlyphPositionsModel_give 56 = .ok (.goto 9, 3) := by decide +kernel
theorem d_GlyphPositionsModel_give_59 : decode b_GlyphPositionsModel_give 59 = .ok (.aload_n 0, 1) := by decide +kernel
theorem d_GlyphPositionsModel_give_60 : decode b_GlyphPositionsModel_give 60 = .ok (.getfield 59, 3) := by decide +kernel
theorem d_GlyphPositionsModel_give_63 : decode b_GlyphPositionsModel_give 63 = .ok (.iload_n 1, 1) := by decide +kernel
theorem d_GlyphPositionsModel_give_64 : decode b_GlyphPositionsModel_give 64 = .ok (.iaload, 1) := by decide +kernel
theorem d_GlyphPositionsModel_give_65 : decode b_GlyphPositionsModel_give 65 = .ok (.iastore, 1) := by decide +kernel
theorem d_GlyphPositionsModel_give_66 : decode b_GlyphPositionsModel_give 66 = .ok (.aload_n 0, 1) := by decide +kernel
theorem d_GlyphPositionsModel_give_67 : decode b_GlyphPositionsModel_give 67 = .ok (.getfield 62, 3) := by decide +kernel
theorem d_GlyphPositionsModel_give_70 : decode b_GlyphPositionsModel_give 70 = .ok (.iload_n 1, 1) := by decide +kernel
theorem d_GlyphPositionsModel_give_71 : decode b_GlyphPositionsModel_give 71 = .ok (.iload 5, 2) := by decide +kernel
theorem d_GlyphPositionsModel_give_73 : decode b_GlyphPositionsModel_give 73 = .ok (.iconst 1, 1) := by decide +kernel
theorem d_GlyphPositionsModel_give_74 : decode b_GlyphPositionsModel_give 74 = .ok (.if_icmp .ne 15, 3) := by decide +kernel
theorem d_GlyphPositionsModel_give_77 : decode b_GlyphPositionsModel_give 77 = .ok (.aload_n 0, 1) := by decide +kernel
theorem d_GlyphPositionsModel_give_78 : decode b_GlyphPositionsModel_give 78 = .ok (.getfield 62, 3) := by decide +kernel
theorem d_GlyphPositionsModel_give_81 : decode b_GlyphPositionsModel_give 81 = .ok (.iload_n 1, 1) := by decide +kernel
theorem d_GlyphPositionsModel_give_82 : decode b_GlyphPositionsModel_give 82 = .ok (.iaload, 1) := by decide +kernel
theorem d_GlyphPositionsModel_give_83 : decode b_GlyphPositionsModel_give 83 = .ok (.iload 6, 2) := by decide +kernel
theorem d_GlyphPositionsModel_give_85 : decode b_GlyphPositionsModel_give 85 = .ok (.iadd, 1) := by decide +kernel
theorem d_GlyphPositionsModel_give_86 : decode b_GlyphPositionsModel_give 86 = .ok (.goto 9, 3) := by decide +kernel
theorem d_GlyphPositionsModel_give_89 : decode b_GlyphPositionsModel_give 89 = .ok (.aload_n 0, 1) := by decide +kernel
theorem d_GlyphPositionsModel_give_90 : decode b_GlyphPositionsModel_give 90 = .ok (.getfield 62, 3) := by decide +kernel
theorem d_GlyphPositionsModel_give_93 : decode b_GlyphPositionsModel_give 93 = .ok (.iload_n 1, 1) := by decide +kernel
theorem d_GlyphPositionsModel_give_94 : decode b_GlyphPositionsModel_give 94 = .ok (.iaload, 1) := by decide +kernel
theorem d_GlyphPositionsModel_give_95 : decode b_GlyphPositionsModel_give 95 = .ok (.iastore, 1) := by decide +kernel
theorem d_GlyphPositionsModel_give_96 : decode b_GlyphPositionsModel_give 96 = .ok (.aload_n 0, 1) := by decide +kernel
theorem d_GlyphPositionsModel_give_97 : decode b_GlyphPositionsModel_give 97 = .ok (.getfield 53, 3) := by decide +kernel
theorem d_GlyphPositionsModel_give_100 : decode b_GlyphPositionsModel_give 100 = .ok (.iload_n 1, 1) := by decide +kernel
theorem d_GlyphPositionsModel_give_101 : decode b_GlyphPositionsModel_give 101 = .ok (.iload 5, 2) := by decide +kernel
theorem d_GlyphPositionsModel_give_103 : decode b_GlyphPositionsModel_give 103 = .ok (.iconst 2, 1) := by decide +kernel
theorem d_GlyphPositionsModel_give_104 : decode b_GlyphPositionsModel_give 104 = .ok (.if_icmp .ne 15, 3) := by decide +kernel
theorem d_GlyphPositionsModel_give_107 : decode b_GlyphPositionsModel_give 107 = .ok (.aload_n 0, 1) := by decide +kernel
theorem d_GlyphPositionsModel_give_108 : decode b_GlyphPositionsModel_give 108 = .ok (.getfield 53, 3) := by decide +kernel
theorem d_GlyphPositionsModel_give_111 : decode b_GlyphPositionsModel_give 111 = .ok (.iload_n 1, 1) := by decide +kernel
theorem d_GlyphPositionsModel_give_112 : decode b_GlyphPositionsModel_give 112 = .ok (.iaload, 1) := by decide +kernel
theorem d_GlyphPositionsModel_give_113 : decode b_GlyphPositionsModel_give 113 = .ok (.iload 6, 2) := by decide +kernel
theorem d_GlyphPositionsModel_give_115 : decode b_GlyphPositionsModel_give 115 = .ok (.iadd, 1) := by decide +kernel
theorem d_GlyphPositionsModel_give_116 : decode b_GlyphPositionsModel_give 116 = .ok (.goto 9, 3) := by decide +kernel
theorem d_GlyphPositionsModel_give_119 : decode b_GlyphPositionsModel_give 119 = .ok (.aload_n 0, 1) := by decide +kernel
theorem d_GlyphPositionsModel_give_120 : decode b_GlyphPositionsModel_give 120 = .ok (.getfield 53, 3) := by decide +kernel
theorem d_GlyphPositionsModel_give_123 : decode b_GlyphPositionsModel_give 123 = .ok (.iload_n 1, 1) := by decide +kernel
theorem d_GlyphPositionsModel_give_124 : decode b_GlyphPositionsModel_give 124 = .ok (.iaload, 1) := by decide +kernel
theorem d_GlyphPositionsModel_give_125 : decode b_GlyphPositionsModel_give 125 = .ok (.iastore, 1) := by decide +kernel
theorem d_GlyphPositionsModel_give_126 : decode b_GlyphPositionsModel_give 126 = .ok (.aload_n 0, 1) := by decide +kernel
theorem d_GlyphPositionsModel_give_127 : decode b_GlyphPositionsModel_give 127 = .ok (.getfield 56, 3) := by decide +kernel
theorem d_GlyphPositionsModel_give_130 : decode b_GlyphPositionsModel_give 130 = .ok (.iload_n 1, 1) := by decide +kernel
theorem d_GlyphPositionsModel_give_131 : decode b_GlyphPositionsModel_give 131 = .ok (.iload 5, 2) := by decide +kernel
theorem d_GlyphPositionsModel_give_133 : decode b_GlyphPositionsModel_give 133 = .ok (.iconst 3, 1) := by decide +kernel
theorem d_GlyphPositionsModel_give_134 : decode b_GlyphPositionsModel_give 134 = .ok (.if_icmp .ne 15, 3) := by decide +kernel
theorem d_GlyphPositionsModel_give_137 : decode b_GlyphPositionsModel_give 137 = .ok (.aload_n 0, 1) := by decide +kernel
theorem d_GlyphPositionsModel_give_138 : decode b_GlyphPositionsModel_give 138 = .ok (.getfield 56, 3) := by decide +kernel
theorem d_GlyphPositionsModel_give_141 : decode b_GlyphPositionsModel_give 141 = .ok (.iload_n 1, 1) := by decide +kernel
theorem d_GlyphPositionsModel_give_142 : decode b_GlyphPositionsModel_give 142 = .ok (.iaload, 1) := by decide +kernel
theorem d_GlyphPositionsModel_give_143 : decode b_GlyphPositionsModel_give 143 = .ok (.iload 6, 2) := by decide +kernel
theorem d_GlyphPositionsModel_give_145 : decode b_GlyphPositionsModel_give 145 = .ok (.iadd, 1) := by decide +kernel
theorem d_GlyphPositionsModel_give_146 : decode b_GlyphPositionsModel_give 146 = .ok (.goto 9, 3) := by decide +kernel
theorem d_GlyphPositionsModel_give_149 : decode b_GlyphPositionsModel_give 149 = .ok (.aload_n 0, 1) := by decide +kernel
theorem d_GlyphPositionsModel_give_150 : decode b_GlyphPositionsModel_give 150 = .ok (.getfield 56, 3) := by decide +kernel
theorem d_GlyphPositionsModel_give_153 : decode b_GlyphPositionsModel_give 153 = .ok (.iload_n 1, 1) := by decide +kernel
theorem d_GlyphPositionsModel_give_154 : decode b_GlyphPositionsModel_give 154 = .ok (.iaload, 1) := by decide +kernel
theorem d_GlyphPositionsModel_give_155 : decode b_GlyphPositionsModel_give 155 = .ok (.iastore, 1) := by decide +kernel
theorem d_GlyphPositionsModel_give_156 : decode b_GlyphPositionsModel_give 156 = .ok (.iinc 5 1, 3) := by decide +kernel
theorem d_GlyphPositionsModel_give_159 : decode b_GlyphPositionsModel_give 159 = .ok (.goto (-153), 3) := by decide +kernel
theorem d_GlyphPositionsModel_give_162 : decode b_GlyphPositionsModel_give 162 = .ok (.return_, 1) := by decide +kernel
abbrev b_GlyphPositionsModel_takePair : ByteArray := prog_12_method_70_code
def y_GlyphPositionsModel_takePair : MethodName := ⟨R_GlyphPositionsModel, "takePair", "(III)I"⟩
theorem d_GlyphPositionsModel_takePair_0 : decode b_GlyphPositionsModel_takePair 0 = .ok (.aload_n 0, 1) := by decide +kernel
theorem d_GlyphPositionsModel_takePair_1 : decode b_GlyphPositionsModel_takePair 1 = .ok (.iload_n 2, 1) := by decide +kernel
theorem d_GlyphPositionsModel_takePair_2 : decode b_GlyphPositionsModel_takePair 2 = .ok (.iconst 2, 1) := by decide +kernel
theorem d_GlyphPositionsModel_takePair_3 : decode b_GlyphPositionsModel_takePair 3 = .ok (.aload_n 0, 1) := by decide +kernel
theorem d_GlyphPositionsModel_takePair_4 : decode b_GlyphPositionsModel_takePair 4 = .ok (.getfield 47, 3) := by decide +kernel
theorem d_GlyphPositionsModel_takePair_7 : decode b_GlyphPositionsModel_takePair 7 = .ok (.iload_n 3, 1) := by decide +kernel
theorem d_GlyphPositionsModel_takePair_8 : decode b_GlyphPositionsModel_takePair 8 = .ok (.iaload, 1) := by decide +kernel
theorem d_GlyphPositionsModel_takePair_9 : decode b_GlyphPositionsModel_takePair 9 = .ok (.invokevirtual 306, 3) := by decide +kernel
theorem d_GlyphPositionsModel_takePair_12 : decode b_GlyphPositionsModel_takePair 12 = .ok (.istore 4, 2) := by decide +kernel
theorem d_GlyphPositionsModel_takePair_14 : decode b_GlyphPositionsModel_takePair 14 = .ok (.aload_n 0, 1) := by decide +kernel
theorem d_GlyphPositionsModel_takePair_15 : decode b_GlyphPositionsModel_takePair 15 = .ok (.iload_n 1, 1) := by decide +kernel
theorem d_GlyphPositionsModel_takePair_16 : decode b_GlyphPositionsModel_takePair 16 = .ok (.iload_n 3, 1) := by decide +kernel
theorem d_GlyphPositionsModel_takePair_17 : decode b_GlyphPositionsModel_takePair 17 = .ok (.invokevirtual 316, 3) := by decide +kernel
theorem d_GlyphPositionsModel_takePair_20 : decode b_GlyphPositionsModel_takePair 20 = .ok (.istore 5, 2) := by decide +kernel
theorem d_GlyphPositionsModel_takePair_22 : decode b_GlyphPositionsModel_takePair 22 = .ok (.iload 4, 2) := by decide +kernel
theorem d_GlyphPositionsModel_takePair_24 : decode b_GlyphPositionsModel_takePair 24 = .ok (.ifCond .lt 8, 3) := by decide +kernel
theorem d_GlyphPositionsModel_takePair_27 : decode b_GlyphPositionsModel_takePair 27 = .ok (.iload 5, 2) := by decide +kernel
theorem d_GlyphPositionsModel_takePair_29 : decode b_GlyphPositionsModel_takePair 29 = .ok (.ifCond .ge 5, 3) := by decide +kernel
theorem d_GlyphPositionsModel_takePair_32 : decode b_GlyphPositionsModel_takePair 32 = .ok (.iconst (-1), 1) := by decide +kernel
theorem d_GlyphPositionsModel_takePair_33 : decode b_GlyphPositionsModel_takePair 33 = .ok (.ireturn, 1) := by decide +kernel
theorem d_GlyphPositionsModel_takePair_34 : decode b_GlyphPositionsModel_takePair 34 = .ok (.aload_n 0, 1) := by decide +kernel
theorem d_GlyphPositionsModel_takePair_35 : decode b_GlyphPositionsModel_takePair 35 = .ok (.iload_n 2, 1) := by decide +kernel
theorem d_GlyphPositionsModel_takePair_36 : decode b_GlyphPositionsModel_takePair 36 = .ok (.iconst 4, 1) := by decide +kernel
theorem d_GlyphPositionsModel_takePair_37 : decode b_GlyphPositionsModel_takePair 37 = .ok (.iadd, 1) := by decide +kernel
theorem d_GlyphPositionsModel_takePair_38 : decode b_GlyphPositionsModel_takePair 38 = .ok (.invokevirtual 244, 3) := by decide +kernel
theorem d_GlyphPositionsModel_takePair_41 : decode b_GlyphPositionsModel_takePair 41 = .ok (.istore 6, 2) := by decide +kernel
theorem d_GlyphPositionsModel_takePair_43 : decode b_GlyphPositionsModel_takePair 43 = .ok (.aload_n 0, 1) := by decide +kernel
theorem d_GlyphPositionsModel_takePair_44 : decode b_GlyphPositionsModel_takePair 44 = .ok (.iload_n 2, 1) := by decide +kernel
theorem d_GlyphPositionsModel_takePair_45 : decode b_GlyphPositionsModel_takePair 45 = .ok (.bipush 6, 2) := by decide +kernel
theorem d_GlyphPositionsModel_takePair_47 : decode b_GlyphPositionsModel_takePair 47 = .ok (.iadd, 1) := by decide +kernel
theorem d_GlyphPositionsModel_takePair_48 : decode b_GlyphPositionsModel_takePair 48 = .ok (.invokevirtual 244, 3) := by decide +kernel
theorem d_GlyphPositionsModel_takePair_51 : decode b_GlyphPositionsModel_takePair 51 = .ok (.istore 7, 2) := by decide +kernel
theorem d_GlyphPositionsModel_takePair_53 : decode b_GlyphPositionsModel_takePair 53 = .ok (.aload_n 0, 1) := by decide +kernel
theorem d_GlyphPositionsModel_takePair_54 : decode b_GlyphPositionsModel_takePair 54 = .ok (.iload_n 2, 1) := by decide +kernel
theorem d_GlyphPositionsModel_takePair_55 : decode b_GlyphPositionsModel_takePair 55 = .ok (.iload 4, 2) := by decide +kernel
theorem d_GlyphPositionsModel_takePair_57 : decode b_GlyphPositionsModel_takePair 57 = .ok (.aload_n 0, 1) := by decide +kernel
theorem d_GlyphPositionsModel_takePair_58 : decode b_GlyphPositionsModel_takePair 58 = .ok (.getfield 47, 3) := by decide +kernel
theorem d_GlyphPositionsModel_takePair_61 : decode b_GlyphPositionsModel_takePair 61 = .ok (.iload_n 3, 1) := by decide +kernel
theorem d_GlyphPositionsModel_takePair_62 : decode b_GlyphPositionsModel_takePair 62 = .ok (.iaload, 1) := by decide +kernel
theorem d_GlyphPositionsModel_takePair_63 : decode b_GlyphPositionsModel_takePair 63 = .ok (.aload_n 0, 1) := by decide +kernel
theorem d_GlyphPositionsModel_takePair_64 : decode b_GlyphPositionsModel_takePair 64 = .ok (.getfield 47, 3) := by decide +kernel
theorem d_GlyphPositionsModel_takePair_67 : decode b_GlyphPositionsModel_takePair 67 = .ok (.iload 5, 2) := by decide +kernel
theorem d_GlyphPositionsModel_takePair_69 : decode b_GlyphPositionsModel_takePair 69 = .ok (.iaload, 1) := by decide +kernel
theorem d_GlyphPositionsModel_takePair_70 : decode b_GlyphPositionsModel_takePair 70 = .ok (.iload 6, 2) := by decide +kernel
theorem d_GlyphPositionsModel_takePair_72 : decode b_GlyphPositionsModel_takePair 72 = .ok (.invokestatic 148, 3) := by decide +kernel
theorem d_GlyphPositionsModel_takePair_75 : decode b_GlyphPositionsModel_takePair 75 = .ok (.iload 7, 2) := by decide +kernel
theorem d_GlyphPositionsModel_takePair_77 : decode b_GlyphPositionsModel_takePair 77 = .ok (.invokestatic 148, 3) := by decide +kernel
theorem d_GlyphPositionsModel_takePair_80 : decode b_GlyphPositionsModel_takePair 80 = .ok (.iadd, 1) := by decide +kernel
theorem d_GlyphPositionsModel_takePair_81 : decode b_GlyphPositionsModel_takePair 81 = .ok (.invokevirtual 319, 3) := by decide +kernel
theorem d_GlyphPositionsModel_takePair_84 : decode b_GlyphPositionsModel_takePair 84 = .ok (.istore 8, 2) := by decide +kernel
theorem d_GlyphPositionsModel_takePair_86 : decode b_GlyphPositionsModel_takePair 86 = .ok (.iload 8, 2) := by decide +kernel
theorem d_GlyphPositionsModel_takePair_88 : decode b_GlyphPositionsModel_takePair 88 = .ok (.ifCond .ne 5, 3) := by decide +kernel
theorem d_GlyphPositionsModel_takePair_91 : decode b_GlyphPositionsModel_takePair 91 = .ok (.iconst (-1), 1) := by decide +kernel
theorem d_GlyphPositionsModel_takePair_92 : decode b_GlyphPositionsModel_takePair 92 = .ok (.ireturn, 1) := by decide +kernel
theorem d_GlyphPositionsModel_takePair_93 : decode b_GlyphPositionsModel_takePair 93 = .ok (.aload_n 0, 1) := by decide +kernel
theorem d_GlyphPositionsModel_takePair_94 : decode b_GlyphPositionsModel_takePair 94 = .ok (.iload_n 3, 1) := by decide +kernel
theorem d_GlyphPositionsModel_takePair_95 : decode b_GlyphPositionsModel_takePair 95 = .ok (.iload 8, 2) := by decide +kernel
theorem d_GlyphPositionsModel_takePair_97 : decode b_GlyphPositionsModel_takePair 97 = .ok (.iload 6, 2) := by decide +kernel
theorem d_GlyphPositionsModel_takePair_99 : decode b_GlyphPositionsModel_takePair 99 = .ok (.invokevirtual 309, 3) := by decide +kernel
theorem d_GlyphPositionsModel_takePair_102 : decode b_GlyphPositionsModel_takePair 102 = .ok (.aload_n 0, 1) := by decide +kernel
theorem d_GlyphPositionsModel_takePair_103 : decode b_GlyphPositionsModel_takePair 103 = .ok (.iload 5, 2) := by decide +kernel
theorem d_GlyphPositionsModel_takePair_105 : decode b_GlyphPositionsModel_takePair 105 = .ok (.iload 8, 2) := by decide +kernel
theorem d_GlyphPositionsModel_takePair_107 : decode b_GlyphPositionsModel_takePair 107 = .ok (.iload 6, 2) := by decide +kernel
theorem d_GlyphPositionsModel_takePair_109 : decode b_GlyphPositionsModel_takePair 109 = .ok (.invokestatic 148, 3) := by decide +kernel
theorem d_GlyphPositionsModel_takePair_112 : decode b_GlyphPositionsModel_takePair 112 = .ok (.iadd, 1) := by decide +kernel
theorem d_GlyphPositionsModel_takePair_113 : decode b_GlyphPositionsModel_takePair 113 = .ok (.iload 7, 2) := by decide +kernel
theorem d_GlyphPositionsModel_takePair_115 : decode b_GlyphPositionsModel_takePair 115 = .ok (.invokevirtual 309, 3) := by decide +kernel
theorem d_GlyphPositionsModel_takePair_118 : decode b_GlyphPositionsModel_takePair 118 = .ok (.iload 7, 2) := by decide +kernel
theorem d_GlyphPositionsModel_takePair_120 : decode b_GlyphPositionsModel_takePair 120 = .ok (.ifCond .le 10, 3) := by decide +kernel
theorem d_GlyphPositionsModel_takePair_123 : decode b_GlyphPositionsModel_takePair 123 = .ok (.iload 5, 2) := by decide +kernel
theorem d_GlyphPositionsModel_takePair_125 : decode b_GlyphPositionsModel_takePair 125 = .ok (.iconst 1, 1) := by decide +kernel
theorem d_GlyphPositionsModel_takePair_126 : decode b_GlyphPositionsModel_takePair 126 = .ok (.iadd, 1) := by decide +kernel
theorem d_GlyphPositionsModel_takePair_127 : decode b_GlyphPositionsModel_takePair 127 = .ok (.goto 6, 3) := by decide +kernel
theorem d_GlyphPositionsModel_takePair_130 : decode b_GlyphPositionsModel_takePair 130 = .ok (.iload_n 3, 1) := by decide +kernel
theorem d_GlyphPositionsModel_takePair_131 : decode b_GlyphPositionsModel_takePair 131 = .ok (.iconst 1, 1) := by decide +kernel
theorem d_GlyphPositionsModel_takePair_132 : decode b_GlyphPositionsModel_takePair 132 = .ok (.iadd, 1) := by decide +kernel
theorem d_GlyphPositionsModel_takePair_133 : decode b_GlyphPositionsModel_takePair 133 = .ok (.ireturn, 1) := by decide +kernel
abbrev b_GlyphPositionsModel_takeSingle : ByteArray := prog_12_method_68_code
def y_GlyphPositionsModel_takeSingle : MethodName := ⟨R_GlyphPositionsModel, "takeSingle", "(II)I"⟩
theorem d_GlyphPositionsModel_takeSingle_0 : decode b_GlyphPositionsModel_takeSingle 0 = .ok (.aload_n 0, 1) := by decide +kernel
theorem d_GlyphPositionsModel_takeSingle_1 : decode b_GlyphPositionsModel_takeSingle 1 = .ok (.iload_n 1, 1) := by decide +kernel
theorem d_GlyphPositionsModel_takeSingle_2 : decode b_GlyphPositionsModel_takeSingle 2 = .ok (.iconst 2, 1) := by decide +kernel
theorem d_GlyphPositionsModel_takeSingle_3 : decode b_GlyphPositionsModel_takeSingle 3 = .ok (.aload_n 0, 1) := by decide +kernel
theorem d_GlyphPositionsModel_takeSingle_4 : decode b_GlyphPositionsModel_takeSingle 4 = .ok (.getfield 47, 3) := by decide +kernel
theorem d_GlyphPositionsModel_takeSingle_7 : decode b_GlyphPositionsModel_takeSingle 7 = .ok (.iload_n 2, 1) := by decide +kernel
theorem d_GlyphPositionsModel_takeSingle_8 : decode b_GlyphPositionsModel_takeSingle 8 = .ok (.iaload, 1) := by decide +kernel
theorem d_GlyphPositionsModel_takeSingle_9 : decode b_GlyphPositionsModel_takeSingle 9 = .ok (.invokevirtual 306, 3) := by decide +kernel
theorem d_GlyphPositionsModel_takeSingle_12 : decode b_GlyphPositionsModel_takeSingle 12 = .ok (.istore_n 3, 1) := by decide +kernel
theorem d_GlyphPositionsModel_takeSingle_13 : decode b_GlyphPositionsModel_takeSingle 13 = .ok (.iload_n 3, 1) := by decide +kernel
theorem d_GlyphPositionsModel_takeSingle_14 : decode b_GlyphPositionsModel_takeSingle 14 = .ok (.ifCond .ge 5, 3) := by decide +kernel
theorem d_GlyphPositionsModel_takeSingle_17 : decode b_GlyphPositionsModel_takeSingle 17 = .ok (.iconst (-1), 1) := by decide +kernel
theorem d_GlyphPositionsModel_takeSingle_18 : decode b_GlyphPositionsModel_takeSingle 18 = .ok (.ireturn, 1) := by decide +kernel
theorem d_GlyphPositionsModel_takeSingle_19 : decode b_GlyphPositionsModel_takeSingle 19 = .ok (.aload_n 0, 1) := by decide +kernel
theorem d_GlyphPositionsModel_takeSingle_20 : decode b_GlyphPositionsModel_takeSingle 20 = .ok (.iload_n 1, 1) := by decide +kernel
theorem d_GlyphPositionsModel_takeSingle_21 : decode b_GlyphPositionsModel_takeSingle 21 = .ok (.iconst 4, 1) := by decide +kernel
theorem d_GlyphPositionsModel_takeSingle_22 : decode b_GlyphPositionsModel_takeSingle 22 = .ok (.iadd, 1) := by decide +kernel
theorem d_GlyphPositionsModel_takeSingle_23 : decode b_GlyphPositionsModel_takeSingle 23 = .ok (.invokevirtual 244, 3) := by decide +kernel
theorem d_GlyphPositionsModel_takeSingle_26 : decode b_GlyphPositionsModel_takeSingle 26 = .ok (.istore 4, 2) := by decide +kernel
theorem d_GlyphPositionsModel_takeSingle_28 : decode b_GlyphPositionsModel_takeSingle 28 = .ok (.aload_n 0, 1) := by decide +kernel
theorem d_GlyphPositionsModel_takeSingle_29 : decode b_GlyphPositionsModel_takeSingle 29 = .ok (.iload_n 2, 1) := by decide +kernel
theorem d_GlyphPositionsModel_takeSingle_30 : decode b_GlyphPositionsModel_takeSingle 30 = .ok (.aload_n 0, 1) := by decide +kernel
theorem d_GlyphPositionsModel_takeSingle_31 : decode b_GlyphPositionsModel_takeSingle 31 = .ok (.iload_n 1, 1) := by decide +kernel
theorem d_GlyphPositionsModel_takeSingle_32 : decode b_GlyphPositionsModel_takeSingle 32 = .ok (.invokevirtual 244, 3) := by decide +kernel
theorem d_GlyphPositionsModel_takeSingle_35 : decode b_GlyphPositionsModel_takeSingle 35 = .ok (.iconst 1, 1) := by decide +kernel
theorem d_GlyphPositionsModel_takeSingle_36 : decode b_GlyphPositionsModel_takeSingle 36 = .ok (.if_icmp .ne 10, 3) := by decide +kernel
theorem d_GlyphPositionsModel_takeSingle_39 : decode b_GlyphPositionsModel_takeSingle 39 = .ok (.iload_n 1, 1) := by decide +kernel
theorem d_GlyphPositionsModel_takeSingle_40 : decode b_GlyphPositionsModel_takeSingle 40 = .ok (.bipush 6, 2) := by decide +kernel
theorem d_GlyphPositionsModel_takeSingle_42 : decode b_GlyphPositionsModel_takeSingle 42 = .ok (.iadd, 1) := by decide +kernel
theorem d_GlyphPositionsModel_takeSingle_43 : decode b_GlyphPositionsModel_takeSingle 43 = .ok (.goto 15, 3) := by decide +kernel
theorem d_GlyphPositionsModel_takeSingle_46 : decode b_GlyphPositionsModel_takeSingle 46 = .ok (.iload_n 1, 1) := by decide +kernel
theorem d_GlyphPositionsModel_takeSingle_47 : decode b_GlyphPositionsModel_takeSingle 47 = .ok (.bipush 8, 2) := by decide +kernel
theorem d_GlyphPositionsModel_takeSingle_49 : decode b_GlyphPositionsModel_takeSingle 49 = .ok (.iadd, 1) := by decide +kernel
theorem d_GlyphPositionsModel_takeSingle_50 : decode b_GlyphPositionsModel_takeSingle 50 = .ok (.iload_n 3, 1) := by decide +kernel
theorem d_GlyphPositionsModel_takeSingle_51 : decode b_GlyphPositionsModel_takeSingle 51 = .ok (.iload 4, 2) := by decide +kernel
theorem d_GlyphPositionsModel_takeSingle_53 : decode b_GlyphPositionsModel_takeSingle 53 = .ok (.invokestatic 148, 3) := by decide +kernel
theorem d_GlyphPositionsModel_takeSingle_56 : decode b_GlyphPositionsModel_takeSingle 56 = .ok (.imul, 1) := by decide +kernel
theorem d_GlyphPositionsModel_takeSingle_57 : decode b_GlyphPositionsModel_takeSingle 57 = .ok (.iadd, 1) := by decide +kernel
theorem d_GlyphPositionsModel_takeSingle_58 : decode b_GlyphPositionsModel_takeSingle 58 = .ok (.iload 4, 2) := by decide +kernel
theorem d_GlyphPositionsModel_takeSingle_60 : decode b_GlyphPositionsModel_takeSingle 60 = .ok (.invokevirtual 309, 3) := by decide +kernel
theorem d_GlyphPositionsModel_takeSingle_63 : decode b_GlyphPositionsModel_takeSingle 63 = .ok (.iload_n 2, 1) := by decide +kernel
theorem d_GlyphPositionsModel_takeSingle_64 : decode b_GlyphPositionsModel_takeSingle 64 = .ok (.iconst 1, 1) := by decide +kernel
theorem d_GlyphPositionsModel_takeSingle_65 : decode b_GlyphPositionsModel_takeSingle 65 = .ok (.iadd, 1) := by decide +kernel
theorem d_GlyphPositionsModel_takeSingle_66 : decode b_GlyphPositionsModel_takeSingle 66 = .ok (.ireturn, 1) := by decide +kernel
abbrev b_GlyphPositionsModel_take : ByteArray := prog_12_method_67_code
def y_GlyphPositionsModel_take : MethodName := ⟨R_GlyphPositionsModel, "take", "(IIII)I"⟩
theorem d_GlyphPositionsModel_take_0 : decode b_GlyphPositionsModel_take 0 = .ok (.iload_n 1, 1) := by decide +kernel
theorem d_GlyphPositionsModel_take_1 : decode b_GlyphPositionsModel_take 1 = .ok (.tableswitch 53 1 3 #[27, 35, 44], 27) := by decide +kernel
theorem d_GlyphPositionsModel_take_28 : decode b_GlyphPositionsModel_take 28 = .ok (.aload_n 0, 1) := by decide +kernel
theorem d_GlyphPositionsModel_take_29 : decode b_GlyphPositionsModel_take 29 = .ok (.iload_n 3, 1) := by decide +kernel
theorem d_GlyphPositionsModel_take_30 : decode b_GlyphPositionsModel_take 30 = .ok (.iload 4, 2) := by decide +kernel
theorem d_GlyphPositionsModel_take_32 : decode b_GlyphPositionsModel_take 32 = .ok (.invokevirtual 293, 3) := by decide +kernel
theorem d_GlyphPositionsModel_take_35 : decode b_GlyphPositionsModel_take 35 = .ok (.ireturn, 1) := by decide +kernel
theorem d_GlyphPositionsModel_take_36 : decode b_GlyphPositionsModel_take 36 = .ok (.aload_n 0, 1) := by decide +kernel
theorem d_GlyphPositionsModel_take_37 : decode b_GlyphPositionsModel_take 37 = .ok (.iload_n 2, 1) := by decide +kernel
theorem d_GlyphPositionsModel_take_38 : decode b_GlyphPositionsModel_take 38 = .ok (.iload_n 3, 1) := by decide +kernel
theorem d_GlyphPositionsModel_take_39 : decode b_GlyphPositionsModel_take 39 = .ok (.iload 4, 2) := by decide +kernel
theorem d_GlyphPositionsModel_take_41 : decode b_GlyphPositionsModel_take 41 = .ok (.invokevirtual 296, 3) := by decide +kernel
theorem d_GlyphPositionsModel_take_44 : decode b_GlyphPositionsModel_take 44 = .ok (.ireturn, 1) := by decide +kernel
theorem d_GlyphPositionsModel_take_45 : decode b_GlyphPositionsModel_take 45 = .ok (.aload_n 0, 1) := by decide +kernel
theorem d_GlyphPositionsModel_take_46 : decode b_GlyphPositionsModel_take 46 = .ok (.iload_n 2, 1) := by decide +kernel
theorem d_GlyphPositionsModel_take_47 : decode b_GlyphPositionsModel_take 47 = .ok (.iload_n 3, 1) := by decide +kernel
theorem d_GlyphPositionsModel_take_48 : decode b_GlyphPositionsModel_take 48 = .ok (.iload 4, 2) := by decide +kernel
theorem d_GlyphPositionsModel_take_50 : decode b_GlyphPositionsModel_take 50 = .ok (.invokevirtual 300, 3) := by decide +kernel
theorem d_GlyphPositionsModel_take_53 : decode b_GlyphPositionsModel_take 53 = .ok (.ireturn, 1) := by decide +kernel
theorem d_GlyphPositionsModel_take_54 : decode b_GlyphPositionsModel_take 54 = .ok (.aload_n 0, 1) := by decide +kernel
theorem d_GlyphPositionsModel_take_55 : decode b_GlyphPositionsModel_take 55 = .ok (.iload_n 1, 1) := by decide +kernel
theorem d_GlyphPositionsModel_take_56 : decode b_GlyphPositionsModel_take 56 = .ok (.iload_n 2, 1) := by decide +kernel
theorem d_GlyphPositionsModel_take_57 : decode b_GlyphPositionsModel_take 57 = .ok (.iload_n 3, 1) := by decide +kernel
theorem d_GlyphPositionsModel_take_58 : decode b_GlyphPositionsModel_take 58 = .ok (.iload 4, 2) := by decide +kernel
theorem d_GlyphPositionsModel_take_60 : decode b_GlyphPositionsModel_take 60 = .ok (.invokevirtual 303, 3) := by decide +kernel
theorem d_GlyphPositionsModel_take_63 : decode b_GlyphPositionsModel_take 63 = .ok (.ireturn, 1) := by decide +kernel
abbrev b_GlyphPositionsModel_doAt : ByteArray := prog_12_method_66_code
def y_GlyphPositionsModel_doAt : MethodName := ⟨R_GlyphPositionsModel, "doAt", "(II)I"⟩
theorem d_GlyphPositionsModel_doAt_0 : decode b_GlyphPositionsModel_doAt 0 = .ok (.aload_n 0, 1) := by decide +kernel
theorem d_GlyphPositionsModel_doAt_1 : decode b_GlyphPositionsModel_doAt 1 = .ok (.iload_n 1, 1) := by decide +kernel
theorem d_GlyphPositionsModel_doAt_2 : decode b_GlyphPositionsModel_doAt 2 = .ok (.invokevirtual 283, 3) := by decide +kernel
theorem d_GlyphPositionsModel_doAt_5 : decode b_GlyphPositionsModel_doAt 5 = .ok (.istore_n 3, 1) := by decide +kernel
theorem d_GlyphPositionsModel_doAt_6 : decode b_GlyphPositionsModel_doAt 6 = .ok (.aload_n 0, 1) := by decide +kernel
theorem d_GlyphPositionsModel_doAt_7 : decode b_GlyphPositionsModel_doAt 7 = .ok (.iload_n 1, 1) := by decide +kernel
theorem d_GlyphPositionsModel_doAt_8 : decode b_GlyphPositionsModel_doAt 8 = .ok (.iconst 2, 1) := by decide +kernel
theorem d_GlyphPositionsModel_doAt_9 : decode b_GlyphPositionsModel_doAt 9 = .ok (.iadd, 1) := by decide +kernel
theorem d_GlyphPositionsModel_doAt_10 : decode b_GlyphPositionsModel_doAt 10 = .ok (.invokevirtual 244, 3) := by decide +kernel
theorem d_GlyphPositionsModel_doAt_13 : decode b_GlyphPositionsModel_doAt 13 = .ok (.istore 4, 2) := by decide +kernel
theorem d_GlyphPositionsModel_doAt_15 : decode b_GlyphPositionsModel_doAt 15 = .ok (.aload_n 0, 1) := by decide +kernel
theorem d_GlyphPositionsModel_doAt_16 : decode b_GlyphPositionsModel_doAt 16 = .ok (.iload 4, 2) := by decide +kernel
theorem d_GlyphPositionsModel_doAt_18 : decode b_GlyphPositionsModel_doAt 18 = .ok (.aload_n 0, 1) := by decide +kernel
theorem d_GlyphPositionsModel_doAt_19 : decode b_GlyphPositionsModel_doAt 19 = .ok (.getfield 47, 3) := by decide +kernel
theorem d_GlyphPositionsModel_doAt_22 : decode b_GlyphPositionsModel_doAt 22 = .ok (.iload_n 2, 1) := by decide +kernel
theorem d_GlyphPositionsModel_doAt_23 : decode b_GlyphPositionsModel_doAt 23 = .ok (.iaload, 1) := by decide +kernel
theorem d_GlyphPositionsModel_doAt_24 : decode b_GlyphPositionsModel_doAt 24 = .ok (.invokevirtual 275, 3) := by decide +kernel
theorem d_GlyphPositionsModel_doAt_27 : decode b_GlyphPositionsModel_doAt 27 = .ok (.ifCond .eq 7, 3) := by decide +kernel
theorem d_GlyphPositionsModel_doAt_30 : decode b_GlyphPositionsModel_doAt 30 = .ok (.iload_n 2, 1) := by decide +kernel
theorem d_GlyphPositionsModel_doAt_31 : decode b_GlyphPositionsModel_doAt 31 = .ok (.iconst 1, 1) := by decide +kernel
theorem d_GlyphPositionsModel_doAt_32 : decode b_GlyphPositionsModel_doAt 32 = .ok (.iadd, 1) := by decide +kernel
theorem d_GlyphPositionsModel_doAt_33 : decode b_GlyphPositionsModel_doAt 33 = .ok (.ireturn, 1) := by decide +kernel
theorem d_GlyphPositionsModel_doAt_34 : decode b_GlyphPositionsModel_doAt 34 = .ok (.iconst 0, 1) := by decide +kernel
theorem d_GlyphPositionsModel_doAt_35 : decode b_GlyphPositionsModel_doAt 35 = .ok (.istore 5, 2) := by decide +kernel
theorem d_GlyphPositionsModel_doAt_37 : decode b_GlyphPositionsModel_doAt 37 = .ok (.iload 5, 2) := by decide +kernel
theorem d_GlyphPositionsModel_doAt_39 : decode b_GlyphPositionsModel_doAt 39 = .ok (.aload_n 0, 1) := by decide +kernel
theorem d_GlyphPositionsModel_doAt_40 : decode b_GlyphPositionsModel_doAt 40 = .ok (.iload_n 1, 1) := by decide +kernel
theorem d_GlyphPositionsModel_doAt_41 : decode b_GlyphPositionsModel_doAt 41 = .ok (.iconst 4, 1) := by decide +kernel
theorem d_GlyphPositionsModel_doAt_42 : decode b_GlyphPositionsModel_doAt 42 = .ok (.iadd, 1) := by decide +kernel
theorem d_GlyphPositionsModel_doAt_43 : decode b_GlyphPositionsModel_doAt 43 = .ok (.invokevirtual 244, 3) := by decide +kernel
theorem d_GlyphPositionsModel_doAt_46 : decode b_GlyphPositionsModel_doAt 46 = .ok (.if_icmp .ge 34, 3) := by decide +kernel
theorem d_GlyphPositionsModel_doAt_49 : decode b_GlyphPositionsModel_doAt 49 = .ok (.aload_n 0, 1) := by decide +kernel
theorem d_GlyphPositionsModel_doAt_50 : decode b_GlyphPositionsModel_doAt 50 = .ok (.iload_n 3, 1) := by decide +kernel
theorem d_GlyphPositionsModel_doAt_51 : decode b_GlyphPositionsModel_doAt 51 = .ok (.iload 4, 2) := by decide +kernel
theorem d_GlyphPositionsModel_doAt_53 : decode b_GlyphPositionsModel_doAt 53 = .ok (.aload_n 0, 1) := by decide +kernel
theorem d_GlyphPositionsModel_doAt_54 : decode b_GlyphPositionsModel_doAt 54 = .ok (.iload_n 1, 1) := by decide +kernel
theorem d_GlyphPositionsModel_doAt_55 : decode b_GlyphPositionsModel_doAt 55 = .ok (.iload 5, 2) := by decide +kernel
theorem d_GlyphPositionsModel_doAt_57 : decode b_GlyphPositionsModel_doAt 57 = .ok (.invokevirtual 286, 3) := by decide +kernel
theorem d_GlyphPositionsModel_doAt_60 : decode b_GlyphPositionsModel_doAt 60 = .ok (.iload_n 2, 1) := by decide +kernel
theorem d_GlyphPositionsModel_doAt_61 : decode b_GlyphPositionsModel_doAt 61 = .ok (.invokevirtual 289, 3) := by decide +kernel
theorem d_GlyphPositionsModel_doAt_64 : decode b_GlyphPositionsModel_doAt 64 = .ok (.istore 6, 2) := by decide +kernel
theorem d_GlyphPositionsModel_doAt_66 : decode b_GlyphPositionsModel_doAt 66 = .ok (.iload 6, 2) := by decide +kernel
theorem d_GlyphPositionsModel_doAt_68 : decode b_GlyphPositionsModel_doAt 68 = .ok (.ifCond .lt 6, 3) := by decide +kernel
theorem d_GlyphPositionsModel_doAt_71 : decode b_GlyphPositionsModel_doAt 71 = .ok (.iload 6, 2) := by decide +kernel
theorem d_GlyphPositionsModel_doAt_73 : decode b_GlyphPositionsModel_doAt 73 = .ok (.ireturn, 1) := by decide +kernel
theorem d_GlyphPositionsModel_doAt_74 : decode b_GlyphPositionsModel_doAt 74 = .ok (.iinc 5 1, 3) := by decide +kernel
theorem d_GlyphPositionsModel_doAt_77 : decode b_GlyphPositionsModel_doAt 77 = .ok (.goto (-40), 3) := by decide +kernel
theorem d_GlyphPositionsModel_doAt_80 : decode b_GlyphPositionsModel_doAt 80 = .ok (.iload_n 2, 1) := by decide +kernel
theorem d_GlyphPositionsModel_doAt_81 : decode b_GlyphPositionsModel_doAt 81 = .ok (.iconst 1, 1) := by decide +kernel
theorem d_GlyphPositionsModel_doAt_82 : decode b_GlyphPositionsModel_doAt 82 = .ok (.iadd, 1) := by decide +kernel
theorem d_GlyphPositionsModel_doAt_83 : decode b_GlyphPositionsModel_doAt 83 = .ok (.ireturn, 1) := by decide +kernel
abbrev b_GlyphPositionsModel_set : ByteArray := prog_12_method_76_code
def y_GlyphPositionsModel_set : MethodName := ⟨R_GlyphPositionsModel, "set", "(Z)I"⟩
theorem d_GlyphPositionsModel_set_0 : decode b_GlyphPositionsModel_set 0 = .ok (.aload_n 0, 1) := by decide +kernel
theorem d_GlyphPositionsModel_set_1 : decode b_GlyphPositionsModel_set 1 = .ok (.aload_n 0, 1) := by decide +kernel
theorem d_GlyphPositionsModel_set_2 : decode b_GlyphPositionsModel_set 2 = .ok (.getfield 223, 3) := by decide +kernel
theorem d_GlyphPositionsModel_set_5 : decode b_GlyphPositionsModel_set 5 = .ok (.ifCond .eq 7, 3) := by decide +kernel
theorem d_GlyphPositionsModel_set_8 : decode b_GlyphPositionsModel_set 8 = .ok (.iconst 0, 1) := by decide +kernel
theorem d_GlyphPositionsModel_set_9 : decode b_GlyphPositionsModel_set 9 = .ok (.goto 4, 3) := by decide +kernel
theorem d_GlyphPositionsModel_set_12 : decode b_GlyphPositionsModel_set 12 = .ok (.iconst 1, 1) := by decide +kernel
theorem d_GlyphPositionsModel_set_13 : decode b_GlyphPositionsModel_set 13 = .ok (.invokevirtual 84, 3) := by decide +kernel
theorem d_GlyphPositionsModel_set_16 : decode b_GlyphPositionsModel_set 16 = .ok (.ifCond .eq 5, 3) := by decide +kernel
theorem d_GlyphPositionsModel_set_19 : decode b_GlyphPositionsModel_set 19 = .ok (.iconst 0, 1) := by decide +kernel
theorem d_GlyphPositionsModel_set_20 : decode b_GlyphPositionsModel_set 20 = .ok (.ireturn, 1) := by decide +kernel
theorem d_GlyphPositionsModel_set_21 : decode b_GlyphPositionsModel_set 21 = .ok (.aload_n 0, 1) := by decide +kernel
theorem d_GlyphPositionsModel_set_22 : decode b_GlyphPositionsModel_set 22 = .ok (.iload_n 1, 1) := by decide +kernel
theorem d_GlyphPositionsModel_set_23 : decode b_GlyphPositionsModel_set 23 = .ok (.putfield 323, 3) := by decide +kernel
theorem d_GlyphPositionsModel_set_26 : decode b_GlyphPositionsModel_set 26 = .ok (.aload_n 0, 1) := by decide +kernel
theorem d_GlyphPositionsModel_set_27 : decode b_GlyphPositionsModel_set 27 = .ok (.invokevirtual 336, 3) := by decide +kernel
theorem d_GlyphPositionsModel_set_30 : decode b_GlyphPositionsModel_set 30 = .ok (.aload_n 0, 1) := by decide +kernel
theorem d_GlyphPositionsModel_set_31 : decode b_GlyphPositionsModel_set 31 = .ok (.aload_n 0, 1) := by decide +kernel
theorem d_GlyphPositionsModel_set_32 : decode b_GlyphPositionsModel_set 32 = .ok (.getfield 241, 3) := by decide +kernel
theorem d_GlyphPositionsModel_set_35 : decode b_GlyphPositionsModel_set 35 = .ok (.putfield 272, 3) := by decide +kernel
theorem d_GlyphPositionsModel_set_38 : decode b_GlyphPositionsModel_set 38 = .ok (.iconst 0, 1) := by decide +kernel
theorem d_GlyphPositionsModel_set_39 : decode b_GlyphPositionsModel_set 39 = .ok (.istore_n 2, 1) := by decide +kernel
theorem d_GlyphPositionsModel_set_40 : decode b_GlyphPositionsModel_set 40 = .ok (.iload_n 2, 1) := by decide +kernel
theorem d_GlyphPositionsModel_set_41 : decode b_GlyphPositionsModel_set 41 = .ok (.aload_n 0, 1) := by decide +kernel
theorem d_GlyphPositionsModel_set_42 : decode b_GlyphPositionsModel_set 42 = .ok (.getfield 241, 3) := by decide +kernel
theorem d_GlyphPositionsModel_set_45 : decode b_GlyphPositionsModel_set 45 = .ok (.if_icmp .ge 73, 3) := by decide +kernel
theorem d_GlyphPositionsModel_set_48 : decode b_GlyphPositionsModel_set 48 = .ok (.aload_n 0, 1) := by decide +kernel
theorem d_GlyphPositionsModel_set_49 : decode b_GlyphPositionsModel_set 49 = .ok (.getfield 47, 3) := by decide +kernel
theorem d_GlyphPositionsModel_set_52 : decode b_GlyphPositionsModel_set 52 = .ok (.iload_n 2, 1) := by decide +kernel
theorem d_GlyphPositionsModel_set_53 : decode b_GlyphPositionsModel_set 53 = .ok (.aload_n 0, 1) := by decide +kernel
theorem d_GlyphPositionsModel_set_54 : decode b_GlyphPositionsModel_set 54 = .ok (.getfield 35, 3) := by decide +kernel
theorem d_GlyphPositionsModel_set_57 : decode b_GlyphPositionsModel_set 57 = .ok (.iload_n 2, 1) := by decide +kernel
theorem d_GlyphPositionsModel_set_58 : decode b_GlyphPositionsModel_set 58 = .ok (.iaload, 1) := by decide +kernel
theorem d_GlyphPositionsModel_set_59 : decode b_GlyphPositionsModel_set 59 = .ok (.iastore, 1) := by decide +kernel
theorem d_GlyphPositionsModel_set_60 : decode b_GlyphPositionsModel_set 60 = .ok (.aload_n 0, 1) := by decide +kernel
theorem d_GlyphPositionsModel_set_61 : decode b_GlyphPositionsModel_set 61 = .ok (.getfield 53, 3) := by decide +kernel
theorem d_GlyphPositionsModel_set_64 : decode b_GlyphPositionsModel_set 64 = .ok (.iload_n 2, 1) := by decide +kernel
theorem d_GlyphPositionsModel_set_65 : decode b_GlyphPositionsModel_set 65 = .ok (.aload_n 0, 1) := by decide +kernel
theorem d_GlyphPositionsModel_set_66 : decode b_GlyphPositionsModel_set 66 = .ok (.getfield 38, 3) := by decide +kernel
theorem d_GlyphPositionsModel_set_69 : decode b_GlyphPositionsModel_set 69 = .ok (.iload_n 2, 1) := by decide +kernel
theorem d_GlyphPositionsModel_set_70 : decode b_GlyphPositionsModel_set 70 = .ok (.iaload, 1) := by decide +kernel
theorem d_GlyphPositionsModel_set_71 : decode b_GlyphPositionsModel_set 71 = .ok (.iastore, 1) := by decide +kernel
theorem d_GlyphPositionsModel_set_72 : decode b_GlyphPositionsModel_set 72 = .ok (.aload_n 0, 1) := by decide +kernel
theorem d_GlyphPositionsModel_set_73 : decode b_GlyphPositionsModel_set 73 = .ok (.getfield 50, 3) := by decide +kernel
theorem d_GlyphPositionsModel_set_76 : decode b_GlyphPositionsModel_set 76 = .ok (.iload_n 2, 1) := by decide +kernel
theorem d_GlyphPositionsModel_set_77 : decode b_GlyphPositionsModel_set 77 = .ok (.aload_n 0, 1) := by decide +kernel
theorem d_GlyphPositionsModel_set_78 : decode b_GlyphPositionsModel_set 78 = .ok (.getfield 41, 3) := by decide +kernel
theorem d_GlyphPositionsModel_set_81 : decode b_GlyphPositionsModel_set 81 = .ok (.iload_n 2, 1) := by decide +kernel
theorem d_GlyphPositionsModel_set_82 : decode b_GlyphPositionsModel_set 82 = .ok (.iaload, 1) := by decide +kernel
theorem d_GlyphPositionsModel_set_83 : decode b_GlyphPositionsModel_set 83 = .ok (.iastore, 1) := by decide +kernel
theorem d_GlyphPositionsModel_set_84 : decode b_GlyphPositionsModel_set 84 = .ok (.aload_n 0, 1) := by decide +kernel
theorem d_GlyphPositionsModel_set_85 : decode b_GlyphPositionsModel_set 85 = .ok (.getfield 56, 3) := by decide +kernel
theorem d_GlyphPositionsModel_set_88 : decode b_GlyphPositionsModel_set 88 = .ok (.iload_n 2, 1) := by decide +kernel
theorem d_GlyphPositionsModel_set_89 : decode b_GlyphPositionsModel_set 89 = .ok (.iconst 0, 1) := by decide +kernel
theorem d_GlyphPositionsModel_set_90 : decode b_GlyphPositionsModel_set 90 = .ok (.iastore, 1) := by decide +kernel
theorem d_GlyphPositionsModel_set_91 : decode b_GlyphPositionsModel_set 91 = .ok (.aload_n 0, 1) := by decide +kernel
theorem d_GlyphPositionsModel_set_92 : decode b_GlyphPositionsModel_set 92 = .ok (.getfield 59, 3) := by decide +kernel
theorem d_GlyphPositionsModel_set_95 : decode b_GlyphPositionsModel_set 95 = .ok (.iload_n 2, 1) := by decide +kernel
theorem d_GlyphPositionsModel_set_96 : decode b_GlyphPositionsModel_set 96 = .ok (.iconst 0, 1) := by decide +kernel
theorem d_GlyphPositionsModel_set_97 : decode b_GlyphPositionsModel_set 97 = .ok (.iastore, 1) := by decide +kernel
theorem d_GlyphPositionsModel_set_98 : decode b_GlyphPositionsModel_set 98 = .ok (.aload_n 0, 1) := by decide +kernel
theorem d_GlyphPositionsModel_set_99 : decode b_GlyphPositionsModel_set 99 = .ok (.getfield 62, 3) := by decide +kernel
theorem d_GlyphPositionsModel_set_102 : decode b_GlyphPositionsModel_set 102 = .ok (.iload_n 2, 1) := by decide +kernel
theorem d_GlyphPositionsModel_set_103 : decode b_GlyphPositionsModel_set 103 = .ok (.iconst 0, 1) := by decide +kernel
theorem d_GlyphPositionsModel_set_104 : decode b_GlyphPositionsModel_set 104 = .ok (.iastore, 1) := by decide +kernel
theorem d_GlyphPositionsModel_set_105 : decode b_GlyphPositionsModel_set 105 = .ok (.aload_n 0, 1) := by decide +kernel
theorem d_GlyphPositionsModel_set_106 : decode b_GlyphPositionsModel_set 106 = .ok (.getfield 65, 3) := by decide +kernel
theorem d_GlyphPositionsModel_set_109 : decode b_GlyphPositionsModel_set 109 = .ok (.iload_n 2, 1) := by decide +kernel
theorem d_GlyphPositionsModel_set_110 : decode b_GlyphPositionsModel_set 110 = .ok (.iconst (-1), 1) := by decide +kernel
theorem d_GlyphPositionsModel_set_111 : decode b_GlyphPositionsModel_set 111 = .ok (.iastore, 1) := by decide +kernel
theorem d_GlyphPositionsModel_set_112 : decode b_GlyphPositionsModel_set 112 = .ok (.iinc 2 1, 3) := by decide +kernel
theorem d_GlyphPositionsModel_set_115 : decode b_GlyphPositionsModel_set 115 = .ok (.goto (-75), 3) := by decide +kernel
theorem d_GlyphPositionsModel_set_118 : decode b_GlyphPositionsModel_set 118 = .ok (.aload_n 0, 1) := by decide +kernel
theorem d_GlyphPositionsModel_set_119 : decode b_GlyphPositionsModel_set 119 = .ok (.aload_n 0, 1) := by decide +kernel
theorem d_GlyphPositionsModel_set_120 : decode b_GlyphPositionsModel_set 120 = .ok (.bipush 8, 2) := by decide +kernel
theorem d_GlyphPositionsModel_set_122 : decode b_GlyphPositionsModel_set 122 = .ok (.invokevirtual 244, 3) := by decide +kernel
theorem d_GlyphPositionsModel_set_125 : decode b_GlyphPositionsModel_set 125 = .ok (.invokevirtual 244, 3) := by decide +kernel
theorem d_GlyphPositionsModel_set_128 : decode b_GlyphPositionsModel_set 128 = .ok (.istore_n 2, 1) := by decide +kernel
theorem d_GlyphPositionsModel_set_129 : decode b_GlyphPositionsModel_set 129 = .ok (.iconst 0, 1) := by decide +kernel
theorem d_GlyphPositionsModel_set_130 : decode b_GlyphPositionsModel_set 130 = .ok (.istore_n 3, 1) := by decide +kernel
theorem d_GlyphPositionsModel_set_131 : decode b_GlyphPositionsModel_set 131 = .ok (.iload_n 3, 1) := by decide +kernel
theorem d_GlyphPositionsModel_set_132 : decode b_GlyphPositionsModel_set 132 = .ok (.iload_n 2, 1) := by decide +kernel
theorem d_GlyphPositionsModel_set_133 : decode b_GlyphPositionsModel_set 133 = .ok (.if_icmp .ge 46, 3) := by decide +kernel
theorem d_GlyphPositionsModel_set_136 : decode b_GlyphPositionsModel_set 136 = .ok (.iconst 0, 1) := by decide +kernel
theorem d_GlyphPositionsModel_set_137 : decode b_GlyphPositionsModel_set 137 = .ok (.istore 4, 2) := by decide +kernel
theorem d_GlyphPositionsModel_set_139 : decode b_GlyphPositionsModel_set 139 = .ok (.aload_n 0, 1) := by decide +kernel
theorem d_GlyphPositionsModel_set_140 : decode b_GlyphPositionsModel_set 140 = .ok (.getfield 44, 3) := by decide +kernel
theorem d_GlyphPositionsModel_set_143 : decode b_GlyphPositionsModel_set 143 = .ok (.iload_n 3, 1) := by decide +kernel
theorem d_GlyphPositionsModel_set_144 : decode b_GlyphPositionsModel_set 144 = .ok (.baload, 1) := by decide +kernel
theorem d_GlyphPositionsModel_set_145 : decode b_GlyphPositionsModel_set 145 = .ok (.ifCond .eq 28, 3) := by decide +kernel
theorem d_GlyphPositionsModel_set_148 : decode b_GlyphPositionsModel_set 148 = .ok (.iload 4, 2) := by decide +kernel
theorem d_GlyphPositionsModel_set_150 : decode b_GlyphPositionsModel_set 150 = .ok (.aload_n 0, 1) := by decide +kernel
theorem d_GlyphPositionsModel_set_151 : decode b_GlyphPositionsModel_set 151 = .ok (.getfield 272, 3) := by decide +kernel
theorem d_GlyphPositionsModel_set_154 : decode b_GlyphPositionsModel_set 154 = .ok (.if_icmp .ge 19, 3) := by decide +kernel
theorem d_GlyphPositionsModel_set_157 : decode b_GlyphPositionsModel_set 157 = .ok (.aload_n 0, 1) := by decide +kernel
theorem d_GlyphPositionsModel_set_158 : decode b_GlyphPositionsModel_set 158 = .ok (.aload_n 0, 1) := by decide +kernel
theorem d_GlyphPositionsModel_set_159 : decode b_GlyphPositionsModel_set 159 = .ok (.iload_n 3, 1) := by decide +kernel
theorem d_GlyphPositionsModel_set_160 : decode b_GlyphPositionsModel_set 160 = .ok (.invokevirtual 339, 3) := by decide +kernel
theorem d_GlyphPositionsModel_set_163 : decode b_GlyphPositionsModel_set 163 = .ok (.iload 4, 2) := by decide +kernel
theorem d_GlyphPositionsModel_set_165 : decode b_GlyphPositionsModel_set 165 = .ok (.invokevirtual 342, 3) := by decide +kernel
theorem d_GlyphPositionsModel_set_168 : decode b_GlyphPositionsModel_set 168 = .ok (.istore 4, 2) := by decide +kernel
theorem d_GlyphPositionsModel_set_170 : decode b_GlyphPositionsModel_set 170 = .ok (.goto (-31), 3) := by decide +kernel
theorem d_GlyphPositionsModel_set_173 : decode b_GlyphPositionsModel_set 173 = .ok (.iinc 3 1, 3) := by decide +kernel
theorem d_GlyphPositionsModel_set_176 : decode b_GlyphPositionsModel_set 176 = .ok (.goto (-45), 3) := by decide +kernel
theorem d_GlyphPositionsModel_set_179 : decode b_GlyphPositionsModel_set 179 = .ok (.iconst 0, 1) := by decide +kernel
theorem d_GlyphPositionsModel_set_180 : decode b_GlyphPositionsModel_set 180 = .ok (.istore_n 3, 1) := by decide +kernel
theorem d_GlyphPositionsModel_set_181 : decode b_GlyphPositionsModel_set 181 = .ok (.iload_n 3, 1) := by decide +kernel
theorem d_GlyphPositionsModel_set_182 : decode b_GlyphPositionsModel_set 182 = .ok (.aload_n 0, 1) := by decide +kernel
theorem d_GlyphPositionsModel_set_183 : decode b_GlyphPositionsModel_set 183 = .ok (.getfield 272, 3) := by decide +kernel
theorem d_GlyphPositionsModel_set_186 : decode b_GlyphPositionsModel_set 186 = .ok (.if_icmp .ge 14, 3) := by decide +kernel
theorem d_GlyphPositionsModel_set_189 : decode b_GlyphPositionsModel_set 189 = .ok (.aload_n 0, 1) := by decide +kernel
theorem d_GlyphPositionsModel_set_190 : decode b_GlyphPositionsModel_set 190 = .ok (.iload_n 3, 1) := by decide +kernel
theorem d_GlyphPositionsModel_set_191 : decode b_GlyphPositionsModel_set 191 = .ok (.invokevirtual 345, 3) := by decide +kernel
theorem d_GlyphPositionsModel_set_194 : decode b_GlyphPositionsModel_set 194 = .ok (.iinc 3 1, 3) := by decide +kernel
theorem d_GlyphPositionsModel_set_197 : decode b_GlyphPositionsModel_set 197 = .ok (.goto (-16), 3) := by decide +kernel
theorem d_GlyphPositionsModel_set_200 : decode b_GlyphPositionsModel_set 200 = .ok (.aload_n 0, 1) := by decide +kernel
theorem d_GlyphPositionsModel_set_201 : decode b_GlyphPositionsModel_set 201 = .ok (.getfield 272, 3) := by decide +kernel
theorem d_GlyphPositionsModel_set_204 : decode b_GlyphPositionsModel_set 204 = .ok (.ireturn, 1) := by decide +kernel
