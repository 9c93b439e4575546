abbrev b_Table_copyFrom : ByteArray := prog_8_method_5_code
def y_Table_copyFrom : MethodName := ⟨R_Table, "copyFrom", "(LGlyphPositions$Table;)V"⟩
theorem d_Table_copyFrom_0 : decode b_Table_copyFrom 0 = .ok (.aload_n 1, 1) := by decide +kernel
theorem d_Table_copyFrom_1 : decode b_Table_copyFrom 1 = .ok (.getfield 9, 3) := by decide +kernel
theorem d_Table_copyFrom_4 : decode b_Table_copyFrom 4 = .ok (.iconst 0, 1) := by decide +kernel
theorem d_Table_copyFrom_5 : decode b_Table_copyFrom 5 = .ok (.aload_n 0, 1) := by decide +kernel
theorem d_Table_copyFrom_6 : decode b_Table_copyFrom 6 = .ok (.getfield 9, 3) := by decide +kernel
theorem d_Table_copyFrom_9 : decode b_Table_copyFrom 9 = .ok (.iconst 0, 1) := by decide +kernel
theorem d_Table_copyFrom_10 : decode b_Table_copyFrom 10 = .ok (.aload_n 1, 1) := by decide +kernel
theorem d_Table_copyFrom_11 : decode b_Table_copyFrom 11 = .ok (.getfield 15, 3) := by decide +kernel
theorem d_Table_copyFrom_14 : decode b_Table_copyFrom 14 = .ok (.invokestatic 19, 3) := by decide +kernel
theorem d_Table_copyFrom_17 : decode b_Table_copyFrom 17 = .ok (.aload_n 0, 1) := by decide +kernel
theorem d_Table_copyFrom_18 : decode b_Table_copyFrom 18 = .ok (.aload_n 1, 1) := by decide +kernel
theorem d_Table_copyFrom_19 : decode b_Table_copyFrom 19 = .ok (.getfield 15, 3) := by decide +kernel
theorem d_Table_copyFrom_22 : decode b_Table_copyFrom 22 = .ok (.putfield 15, 3) := by decide +kernel
theorem d_Table_copyFrom_25 : decode b_Table_copyFrom 25 = .ok (.return_, 1) := by decide +kernel
abbrev b_GP_feed : ByteArray := prog_1_method_2_code
def y_GP_feed : MethodName := ⟨R_GP, "feed", "(I)I"⟩
theorem d_GP_feed_0 : decode b_GP_feed 0 = .ok (.aload_n 0, 1) := by decide +kernel
theorem d_GP_feed_1 : decode b_GP_feed 1 = .ok (.getfield 10, 3) := by decide +kernel
theorem d_GP_feed_4 : decode b_GP_feed 4 = .ok (.iload_n 1, 1) := by decide +kernel
theorem d_GP_feed_5 : decode b_GP_feed 5 = .ok (.invokevirtual 74, 3) := by decide +kernel
theorem d_GP_feed_8 : decode b_GP_feed 8 = .ok (.ifCond .eq 13, 3) := by decide +kernel
theorem d_GP_feed_11 : decode b_GP_feed 11 = .ok (.aload_n 0, 1) := by decide +kernel
theorem d_GP_feed_12 : decode b_GP_feed 12 = .ok (.getfield 10, 3) := by decide +kernel
theorem d_GP_feed_15 : decode b_GP_feed 15 = .ok (.getfield 78, 3) := by decide +kernel
theorem d_GP_feed_18 : decode b_GP_feed 18 = .ok (.goto 4, 3) := by decide +kernel
theorem d_GP_feed_21 : decode b_GP_feed 21 = .ok (.iconst (-1), 1) := by decide +kernel
theorem d_GP_feed_22 : decode b_GP_feed 22 = .ok (.ireturn, 1) := by decide +kernel
abbrev b_GP_put : ByteArray := prog_1_method_3_code
def y_GP_put : MethodName := ⟨R_GP, "put", "(II)I"⟩
theorem d_GP_put_0 : decode b_GP_put 0 = .ok (.aload_n 0, 1) := by decide +kernel
theorem d_GP_put_1 : decode b_GP_put 1 = .ok (.getfield 10, 3) := by decide +kernel
theorem d_GP_put_4 : decode b_GP_put 4 = .ok (.iload_n 1, 1) := by decide +kernel
theorem d_GP_put_5 : decode b_GP_put 5 = .ok (.iconst 1, 1) := by decide +kernel
theorem d_GP_put_6 : decode b_GP_put 6 = .ok (.invokevirtual 82, 3) := by decide +kernel
theorem d_GP_put_9 : decode b_GP_put 9 = .ok (.ifCond .ne 13, 3) := by decide +kernel
theorem d_GP_put_12 : decode b_GP_put 12 = .ok (.new 86, 3) := by decide +kernel
theorem d_GP_put_15 : decode b_GP_put 15 = .ok (.dup, 1) := by decide +kernel
theorem d_GP_put_16 : decode b_GP_put 16 = .ok (.ldc 88, 2) := by decide +kernel
theorem d_GP_put_18 : decode b_GP_put 18 = .ok (.invokespecial 90, 3) := by decide +kernel
theorem d_GP_put_21 : decode b_GP_put 21 = .ok (.athrow, 1) := by decide +kernel
theorem d_GP_put_22 : decode b_GP_put 22 = .ok (.iload_n 2, 1) := by decide +kernel
theorem d_GP_put_23 : decode b_GP_put 23 = .ok (.ifCond .lt 10, 3) := by decide +kernel
theorem d_GP_put_26 : decode b_GP_put 26 = .ok (.iload_n 2, 1) := by decide +kernel
theorem d_GP_put_27 : decode b_GP_put 27 = .ok (.sipush 255, 3) := by decide +kernel
theorem d_GP_put_30 : decode b_GP_put 30 = .ok (.if_icmp .le 13, 3) := by decide +kernel
theorem d_GP_put_33 : decode b_GP_put 33 = .ok (.new 93, 3) := by decide +kernel
theorem d_GP_put_36 : decode b_GP_put 36 = .ok (.dup, 1) := by decide +kernel
theorem d_GP_put_37 : decode b_GP_put 37 = .ok (.ldc 95, 2) := by decide +kernel
theorem d_GP_put_39 : decode b_GP_put 39 = .ok (.invokespecial 97, 3) := by decide +kernel
theorem d_GP_put_42 : decode b_GP_put 42 = .ok (.athrow, 1) := by decide +kernel
theorem d_GP_put_43 : decode b_GP_put 43 = .ok (.aload_n 0, 1) := by decide +kernel
theorem d_GP_put_44 : decode b_GP_put 44 = .ok (.getfield 10, 3) := by decide +kernel
theorem d_GP_put_47 : decode b_GP_put 47 = .ok (.iload_n 1, 1) := by decide +kernel
theorem d_GP_put_48 : decode b_GP_put 48 = .ok (.iload_n 2, 1) := by decide +kernel
theorem d_GP_put_49 : decode b_GP_put 49 = .ok (.invokevirtual 98, 3) := by decide +kernel
theorem d_GP_put_52 : decode b_GP_put 52 = .ok (.ireturn, 1) := by decide +kernel
abbrev b_GP_cut : ByteArray := prog_1_method_4_code
def y_GP_cut : MethodName := ⟨R_GP, "cut", "(I)I"⟩
theorem d_GP_cut_0 : decode b_GP_cut 0 = .ok (.iload_n 1, 1) := by decide +kernel
theorem d_GP_cut_1 : decode b_GP_cut 1 = .ok (.ifCond .ge 13, 3) := by decide +kernel
theorem d_GP_cut_4 : decode b_GP_cut 4 = .ok (.new 93, 3) := by decide +kernel
theorem d_GP_cut_7 : decode b_GP_cut 7 = .ok (.dup, 1) := by decide +kernel
theorem d_GP_cut_8 : decode b_GP_cut 8 = .ok (.ldc 102, 2) := by decide +kernel
theorem d_GP_cut_10 : decode b_GP_cut 10 = .ok (.invokespecial 97, 3) := by decide +kernel
theorem d_GP_cut_13 : decode b_GP_cut 13 = .ok (.athrow, 1) := by decide +kernel
theorem d_GP_cut_14 : decode b_GP_cut 14 = .ok (.aload_n 0, 1) := by decide +kernel
theorem d_GP_cut_15 : decode b_GP_cut 15 = .ok (.getfield 10, 3) := by decide +kernel
theorem d_GP_cut_18 : decode b_GP_cut 18 = .ok (.iload_n 1, 1) := by decide +kernel
theorem d_GP_cut_19 : decode b_GP_cut 19 = .ok (.invokevirtual 104, 3) := by decide +kernel
theorem d_GP_cut_22 : decode b_GP_cut 22 = .ok (.ireturn, 1) := by decide +kernel
abbrev b_GP_load : ByteArray := prog_1_method_5_code
def y_GP_load : MethodName := ⟨R_GP, "load", "()I"⟩
theorem d_GP_load_0 : decode b_GP_load 0 = .ok (.aload_n 0, 1) := by decide +kernel
theorem d_GP_load_1 : decode b_GP_load 1 = .ok (.getfield 24, 3) := by decide +kernel
theorem d_GP_load_4 : decode b_GP_load 4 = .ok (.invokevirtual 108, 3) := by decide +kernel
theorem d_GP_load_7 : decode b_GP_load 7 = .ok (.ifCond .ne 5, 3) := by decide +kernel
theorem d_GP_load_10 : decode b_GP_load 10 = .ok (.iconst (-1), 1) := by decide +kernel
theorem d_GP_load_11 : decode b_GP_load 11 = .ok (.ireturn, 1) := by decide +kernel
theorem d_GP_load_12 : decode b_GP_load 12 = .ok (.aload_n 0, 1) := by decide +kernel
theorem d_GP_load_13 : decode b_GP_load 13 = .ok (.getfield 24, 3) := by decide +kernel
theorem d_GP_load_16 : decode b_GP_load 16 = .ok (.invokevirtual 112, 3) := by decide +kernel
theorem d_GP_load_19 : decode b_GP_load 19 = .ok (.ifCond .ne 6, 3) := by decide +kernel
theorem d_GP_load_22 : decode b_GP_load 22 = .ok (.bipush (-2), 2) := by decide +kernel
theorem d_GP_load_24 : decode b_GP_load 24 = .ok (.ireturn, 1) := by decide +kernel
theorem d_GP_load_25 : decode b_GP_load 25 = .ok (.aload_n 0, 1) := by decide +kernel
theorem d_GP_load_26 : decode b_GP_load 26 = .ok (.getfield 24, 3) := by decide +kernel
theorem d_GP_load_29 : decode b_GP_load 29 = .ok (.invokevirtual 115, 3) := by decide +kernel
theorem d_GP_load_32 : decode b_GP_load 32 = .ok (.ifCond .ne 6, 3) := by decide +kernel
theorem d_GP_load_35 : decode b_GP_load 35 = .ok (.bipush (-3), 2) := by decide +kernel
theorem d_GP_load_37 : decode b_GP_load 37 = .ok (.ireturn, 1) := by decide +kernel
theorem d_GP_load_38 : decode b_GP_load 38 = .ok (.aload_n 0, 1) := by decide +kernel
theorem d_GP_load_39 : decode b_GP_load 39 = .ok (.getfield 24, 3) := by decide +kernel
theorem d_GP_load_42 : decode b_GP_load 42 = .ok (.invokevirtual 118, 3) := by decide +kernel
theorem d_GP_load_45 : decode b_GP_load 45 = .ok (.ifCond .ne 6, 3) := by decide +kernel
theorem d_GP_load_48 : decode b_GP_load 48 = .ok (.bipush (-4), 2) := by decide +kernel
theorem d_GP_load_50 : decode b_GP_load 50 = .ok (.ireturn, 1) := by decide +kernel
theorem d_GP_load_51 : decode b_GP_load 51 = .ok (.aload_n 0, 1) := by decide +kernel
theorem d_GP_load_52 : decode b_GP_load 52 = .ok (.getfield 16, 3) := by decide +kernel
theorem d_GP_load_55 : decode b_GP_load 55 = .ok (.aload_n 0, 1) := by decide +kernel
theorem d_GP_load_56 : decode b_GP_load 56 = .ok (.getfield 10, 3) := by decide +kernel
theorem d_GP_load_59 : decode b_GP_load 59 = .ok (.invokevirtual 121, 3) := by decide +kernel
theorem d_GP_load_62 : decode b_GP_load 62 = .ok (.aload_n 0, 1) := by decide +kernel
theorem d_GP_load_63 : decode b_GP_load 63 = .ok (.iconst 1, 1) := by decide +kernel
theorem d_GP_load_64 : decode b_GP_load 64 = .ok (.putfield 124, 3) := by decide +kernel
theorem d_GP_load_67 : decode b_GP_load 67 = .ok (.aload_n 0, 1) := by decide +kernel
theorem d_GP_load_68 : decode b_GP_load 68 = .ok (.getfield 16, 3) := by decide +kernel
theorem d_GP_load_71 : decode b_GP_load 71 = .ok (.aload_n 0, 1) := by decide +kernel
theorem d_GP_load_72 : decode b_GP_load 72 = .ok (.getfield 16, 3) := by decide +kernel
theorem d_GP_load_75 : decode b_GP_load 75 = .ok (.bipush 8, 2) := by decide +kernel
theorem d_GP_load_77 : decode b_GP_load 77 = .ok (.invokevirtual 128, 3) := by decide +kernel
theorem d_GP_load_80 : decode b_GP_load 80 = .ok (.invokevirtual 128, 3) := by decide +kernel
theorem d_GP_load_83 : decode b_GP_load 83 = .ok (.ireturn, 1) := by decide +kernel
abbrev b_GP_isU16 : ByteArray := prog_1_method_14_code
def y_GP_isU16 : MethodName := ⟨R_GP, "isU16", "(I)Z"⟩
theorem d_GP_isU16_0 : decode b_GP_isU16 0 = .ok (.iload_n 0, 1) := by decide +kernel
theorem d_GP_isU16_1 : decode b_GP_isU16 1 = .ok (.ifCond .lt 13, 3) := by decide +kernel
theorem d_GP_isU16_4 : decode b_GP_isU16 4 = .ok (.iload_n 0, 1) := by decide +kernel
theorem d_GP_isU16_5 : decode b_GP_isU16 5 = .ok (.ldc 221, 2) := by decide +kernel
theorem d_GP_isU16_7 : decode b_GP_isU16 7 = .ok (.if_icmp .gt 7, 3) := by decide +kernel
theorem d_GP_isU16_10 : decode b_GP_isU16 10 = .ok (.iconst 1, 1) := by decide +kernel
theorem d_GP_isU16_11 : decode b_GP_isU16 11 = .ok (.goto 4, 3) := by decide +kernel
theorem d_GP_isU16_14 : decode b_GP_isU16 14 = .ok (.iconst 0, 1) := by decide +kernel
theorem d_GP_isU16_15 : decode b_GP_isU16 15 = .ok (.ireturn, 1) := by decide +kernel
abbrev b_GP_kind : ByteArray := prog_1_method_6_code
def y_GP_kind : MethodName := ⟨R_GP, "kind", "(IIII)V"⟩
theorem d_GP_kind_0 : decode b_GP_kind 0 = .ok (.iload_n 1, 1) := by decide +kernel
theorem d_GP_kind_1 : decode b_GP_kind 1 = .ok (.invokestatic 131, 3) := by decide +kernel
theorem d_GP_kind_4 : decode b_GP_kind 4 = .ok (.ifCond .eq 15, 3) := by decide +kernel
theorem d_GP_kind_7 : decode b_GP_kind 7 = .ok (.iload_n 2, 1) := by decide +kernel
theorem d_GP_kind_8 : decode b_GP_kind 8 = .ok (.invokestatic 131, 3) := by decide +kernel
theorem d_GP_kind_11 : decode b_GP_kind 11 = .ok (.ifCond .eq 8, 3) := by decide +kernel
theorem d_GP_kind_14 : decode b_GP_kind 14 = .ok (.iload_n 1, 1) := by decide +kernel
theorem d_GP_kind_15 : decode b_GP_kind 15 = .ok (.iload_n 2, 1) := by decide +kernel
theorem d_GP_kind_16 : decode b_GP_kind 16 = .ok (.if_icmp .le 13, 3) := by decide +kernel
theorem d_GP_kind_19 : decode b_GP_kind 19 = .ok (.new 93, 3) := by decide +kernel
theorem d_GP_kind_22 : decode b_GP_kind 22 = .ok (.dup, 1) := by decide +kernel
theorem d_GP_kind_23 : decode b_GP_kind 23 = .ok (.ldc 134, 2) := by decide +kernel
theorem d_GP_kind_25 : decode b_GP_kind 25 = .ok (.invokespecial 97, 3) := by decide +kernel
theorem d_GP_kind_28 : decode b_GP_kind 28 = .ok (.athrow, 1) := by decide +kernel
theorem d_GP_kind_29 : decode b_GP_kind 29 = .ok (.iload_n 3, 1) := by decide +kernel
theorem d_GP_kind_30 : decode b_GP_kind 30 = .ok (.ifCond .lt 21, 3) := by decide +kernel
theorem d_GP_kind_33 : decode b_GP_kind 33 = .ok (.iload_n 3, 1) := by decide +kernel
theorem d_GP_kind_34 : decode b_GP_kind 34 = .ok (.iconst 3, 1) := by decide +kernel
theorem d_GP_kind_35 : decode b_GP_kind 35 = .ok (.if_icmp .gt 16, 3) := by decide +kernel
theorem d_GP_kind_38 : decode b_GP_kind 38 = .ok (.iload 4, 2) := by decide +kernel
theorem d_GP_kind_40 : decode b_GP_kind 40 = .ok (.ifCond .lt 11, 3) := by decide +kernel
theorem d_GP_kind_43 : decode b_GP_kind 43 = .ok (.iload 4, 2) := by decide +kernel
theorem d_GP_kind_45 : decode b_GP_kind 45 = .ok (.sipush 255, 3) := by decide +kernel
theorem d_GP_kind_48 : decode b_GP_kind 48 = .ok (.if_icmp .le 13, 3) := by decide +kernel
theorem d_GP_kind_51 : decode b_GP_kind 51 = .ok (.new 93, 3) := by decide +kernel
theorem d_GP_kind_54 : decode b_GP_kind 54 = .ok (.dup, 1) := by decide +kernel
theorem d_GP_kind_55 : decode b_GP_kind 55 = .ok (.ldc 136, 2) := by decide +kernel
theorem d_GP_kind_57 : decode b_GP_kind 57 = .ok (.invokespecial 97, 3) := by decide +kernel
theorem d_GP_kind_60 : decode b_GP_kind 60 = .ok (.athrow, 1) := by decide +kernel
theorem d_GP_kind_61 : decode b_GP_kind 61 = .ok (.aload_n 0, 1) := by decide +kernel
theorem d_GP_kind_62 : decode b_GP_kind 62 = .ok (.getfield 31, 3) := by decide +kernel
theorem d_GP_kind_65 : decode b_GP_kind 65 = .ok (.iload_n 1, 1) := by decide +kernel
theorem d_GP_kind_66 : decode b_GP_kind 66 = .ok (.iload_n 2, 1) := by decide +kernel
theorem d_GP_kind_67 : decode b_GP_kind 67 = .ok (.iload_n 3, 1) := by decide +kernel
theorem d_GP_kind_68 : decode b_GP_kind 68 = .ok (.iload 4, 2) := by decide +kernel
theorem d_GP_kind_70 : decode b_GP_kind 70 = .ok (.invokevirtual 138, 3) := by decide +kernel
theorem d_GP_kind_73 : decode b_GP_kind 73 = .ok (.ifCond .ne 13, 3) := by decide +kernel
theorem d_GP_kind_76 : decode b_GP_kind 76 = .ok (.new 142, 3) := by decide +kernel
theorem d_GP_kind_79 : decode b_GP_kind 79 = .ok (.dup, 1) := by decide +kernel
theorem d_GP_kind_80 : decode b_GP_kind 80 = .ok (.ldc 144, 2) := by decide +kernel
theorem d_GP_kind_82 : decode b_GP_kind 82 = .ok (.invokespecial 146, 3) := by decide +kernel
theorem d_GP_kind_85 : decode b_GP_kind 85 = .ok (.athrow, 1) := by decide +kernel
theorem d_GP_kind_86 : decode b_GP_kind 86 = .ok (.return_, 1) := by decide +kernel
abbrev b_GP_forget : ByteArray := prog_1_method_7_code
def y_GP_forget : MethodName := ⟨R_GP, "forget", "()I"⟩
theorem d_GP_forget_0 : decode b_GP_forget 0 = .ok (.aload_n 0, 1) := by decide +kernel
theorem d_GP_forget_1 : decode b_GP_forget 1 = .ok (.getfield 31, 3) := by decide +kernel
theorem d_GP_forget_4 : decode b_GP_forget 4 = .ok (.invokevirtual 147, 3) := by decide +kernel
theorem d_GP_forget_7 : decode b_GP_forget 7 = .ok (.ireturn, 1) := by decide +kernel
abbrev b_GP_choose : ByteArray := prog_1_method_8_code
def y_GP_choose : MethodName := ⟨R_GP, "choose", "(II)V"⟩
theorem d_GP_choose_0 : decode b_GP_choose 0 = .ok (.aload_n 0, 1) := by decide +kernel
theorem d_GP_choose_1 : decode b_GP_choose 1 = .ok (.iload_n 1, 1) := by decide +kernel
theorem d_GP_choose_2 : decode b_GP_choose 2 = .ok (.putfield 151, 3) := by decide +kernel
theorem d_GP_choose_5 : decode b_GP_choose 5 = .ok (.aload_n 0, 1) := by decide +kernel
theorem d_GP_choose_6 : decode b_GP_choose 6 = .ok (.iload_n 2, 1) := by decide +kernel
theorem d_GP_choose_7 : decode b_GP_choose 7 = .ok (.putfield 154, 3) := by decide +kernel
theorem d_GP_choose_10 : decode b_GP_choose 10 = .ok (.return_, 1) := by decide +kernel
abbrev b_GP_feature : ByteArray := prog_1_method_9_code
def y_GP_feature : MethodName := ⟨R_GP, "feature", "(IZ)V"⟩
theorem d_GP_feature_0 : decode b_GP_feature 0 = .ok (.aload_n 0, 1) := by decide +kernel
theorem d_GP_feature_1 : decode b_GP_feature 1 = .ok (.getfield 38, 3) := by decide +kernel
theorem d_GP_feature_4 : decode b_GP_feature 4 = .ok (.iload_n 1, 1) := by decide +kernel
theorem d_GP_feature_5 : decode b_GP_feature 5 = .ok (.iload_n 2, 1) := by decide +kernel
theorem d_GP_feature_6 : decode b_GP_feature 6 = .ok (.invokevirtual 157, 3) := by decide +kernel
theorem d_GP_feature_9 : decode b_GP_feature 9 = .ok (.ifCond .ne 13, 3) := by decide +kernel
theorem d_GP_feature_12 : decode b_GP_feature 12 = .ok (.new 142, 3) := by decide +kernel
theorem d_GP_feature_15 : decode b_GP_feature 15 = .ok (.dup, 1) := by decide +kernel
theorem d_GP_feature_16 : decode b_GP_feature 16 = .ok (.ldc 160, 2) := by decide +kernel
theorem d_GP_feature_18 : decode b_GP_feature 18 = .ok (.invokespecial 146, 3) := by decide +kernel
theorem d_GP_feature_21 : decode b_GP_feature 21 = .ok (.athrow, 1) := by decide +kernel
theorem d_GP_feature_22 : decode b_GP_feature 22 = .ok (.return_, 1) := by decide +kernel
abbrev b_GP_add : ByteArray := prog_1_method_10_code
def y_GP_add : MethodName := ⟨R_GP, "add", "(III)I"⟩
theorem d_GP_add_0 : decode b_GP_add 0 = .ok (.iload_n 1, 1) := by decide +kernel
theorem d_GP_add_1 : decode b_GP_add 1 = .ok (.invokestatic 131, 3) := by decide +kernel
theorem d_GP_add_4 : decode b_GP_add 4 = .ok (.ifCond .eq 20, 3) := by decide +kernel
theorem d_GP_add_7 : decode b_GP_add 7 = .ok (.iload_n 2, 1) := by decide +kernel
theorem d_GP_add_8 : decode b_GP_add 8 = .ok (.invokestatic 131, 3) := by decide +kernel
theorem d_GP_add_11 : decode b_GP_add 11 = .ok (.ifCond .eq 13, 3) := by decide +kernel
theorem d_GP_add_14 : decode b_GP_add 14 = .ok (.iload_n 3, 1) := by decide +kernel
theorem d_GP_add_15 : decode b_GP_add 15 = .ok (.ifCond .lt 9, 3) := by decide +kernel
theorem d_GP_add_18 : decode b_GP_add 18 = .ok (.iload_n 3, 1) := by decide +kernel
theorem d_GP_add_19 : decode b_GP_add 19 = .ok (.bipush 16, 2) := by decide +kernel
theorem d_GP_add_21 : decode b_GP_add 21 = .ok (.if_icmp .le 13, 3) := by decide +kernel
theorem d_GP_add_24 : decode b_GP_add 24 = .ok (.new 93, 3) := by decide +kernel
theorem d_GP_add_27 : decode b_GP_add 27 = .ok (.dup, 1) := by decide +kernel
theorem d_GP_add_28 : decode b_GP_add 28 = .ok (.ldc 162, 2) := by decide +kernel
theorem d_GP_add_30 : decode b_GP_add 30 = .ok (.invokespecial 97, 3) := by decide +kernel
theorem d_GP_add_33 : decode b_GP_add 33 = .ok (.athrow, 1) := by decide +kernel
theorem d_GP_add_34 : decode b_GP_add 34 = .ok (.aload_n 0, 1) := by decide +kernel
theorem d_GP_add_35 : decode b_GP_add 35 = .ok (.getfield 45, 3) := by decide +kernel
theorem d_GP_add_38 : decode b_GP_add 38 = .ok (.iload_n 1, 1) := by decide +kernel
theorem d_GP_add_39 : decode b_GP_add 39 = .ok (.iload_n 2, 1) := by decide +kernel
theorem d_GP_add_40 : decode b_GP_add 40 = .ok (.iload_n 3, 1) := by decide +kernel
theorem d_GP_add_41 : decode b_GP_add 41 = .ok (.invokevirtual 164, 3) := by decide +kernel
theorem d_GP_add_44 : decode b_GP_add 44 = .ok (.ifCond .ne 13, 3) := by decide +kernel
theorem d_GP_add_47 : decode b_GP_add 47 = .ok (.new 142, 3) := by decide +kernel
theorem d_GP_add_50 : decode b_GP_add 50 = .ok (.dup, 1) := by decide +kernel
theorem d_GP_add_51 : decode b_GP_add 51 = .ok (.ldc 167, 2) := by decide +kernel
theorem d_GP_add_53 : decode b_GP_add 53 = .ok (.invokespecial 146, 3) := by decide +kernel
theorem d_GP_add_56 : decode b_GP_add 56 = .ok (.athrow, 1) := by decide +kernel
theorem d_GP_add_57 : decode b_GP_add 57 = .ok (.aload_n 0, 1) := by decide +kernel
theorem d_GP_add_58 : decode b_GP_add 58 = .ok (.getfield 45, 3) := by decide +kernel
theorem d_GP_add_61 : decode b_GP_add 61 = .ok (.getfield 169, 3) := by decide +kernel
theorem d_GP_add_64 : decode b_GP_add 64 = .ok (.ireturn, 1) := by decide +kernel
abbrev b_GP_clear : ByteArray := prog_1_method_11_code
def y_GP_clear : MethodName := ⟨R_GP, "clear", "()I"⟩
theorem d_GP_clear_0 : decode b_GP_clear 0 = .ok (.aload_n 0, 1) := by decide +kernel
theorem d_GP_clear_1 : decode b_GP_clear 1 = .ok (.getfield 45, 3) := by decide +kernel
theorem d_GP_clear_4 : decode b_GP_clear 4 = .ok (.invokevirtual 172, 3) := by decide +kernel
theorem d_GP_clear_7 : decode b_GP_clear 7 = .ok (.ireturn, 1) := by decide +kernel
abbrev b_GP_set : ByteArray := prog_1_method_12_code
def y_GP_set : MethodName := ⟨R_GP, "set", "(Z)I"⟩
theorem d_GP_set_0 : decode b_GP_set 0 = .ok (.aload_n 0, 1) := by decide +kernel
theorem d_GP_set_1 : decode b_GP_set 1 = .ok (.getfield 124, 3) := by decide +kernel
theorem d_GP_set_4 : decode b_GP_set 4 = .ok (.ifCond .ne 13, 3) := by decide +kernel
theorem d_GP_set_7 : decode b_GP_set 7 = .ok (.new 142, 3) := by decide +kernel
theorem d_GP_set_10 : decode b_GP_set 10 = .ok (.dup, 1) := by decide +kernel
theorem d_GP_set_11 : decode b_GP_set 11 = .ok (.ldc 173, 2) := by decide +kernel
theorem d_GP_set_13 : decode b_GP_set 13 = .ok (.invokespecial 146, 3) := by decide +kernel
theorem d_GP_set_16 : decode b_GP_set 16 = .ok (.athrow, 1) := by decide +kernel
theorem d_GP_set_17 : decode b_GP_set 17 = .ok (.aload_n 0, 1) := by decide +kernel
theorem d_GP_set_18 : decode b_GP_set 18 = .ok (.getfield 61, 3) := by decide +kernel
theorem d_GP_set_21 : decode b_GP_set 21 = .ok (.aload_n 0, 1) := by decide +kernel
theorem d_GP_set_22 : decode b_GP_set 22 = .ok (.getfield 45, 3) := by decide +kernel
theorem d_GP_set_25 : decode b_GP_set 25 = .ok (.invokevirtual 175, 3) := by decide +kernel
theorem d_GP_set_28 : decode b_GP_set 28 = .ok (.aload_n 0, 1) := by decide +kernel
theorem d_GP_set_29 : decode b_GP_set 29 = .ok (.getfield 70, 3) := by decide +kernel
theorem d_GP_set_32 : decode b_GP_set 32 = .ok (.iload_n 1, 1) := by decide +kernel
theorem d_GP_set_33 : decode b_GP_set 33 = .ok (.invokevirtual 179, 3) := by decide +kernel
theorem d_GP_set_36 : decode b_GP_set 36 = .ok (.aload_n 0, 1) := by decide +kernel
theorem d_GP_set_37 : decode b_GP_set 37 = .ok (.getfield 54, 3) := by decide +kernel
theorem d_GP_set_40 : decode b_GP_set 40 = .ok (.aload_n 0, 1) := by decide +kernel
theorem d_GP_set_41 : decode b_GP_set 41 = .ok (.getfield 151, 3) := by decide +kernel
theorem d_GP_set_44 : decode b_GP_set 44 = .ok (.aload_n 0, 1) := by decide +kernel
theorem d_GP_set_45 : decode b_GP_set 45 = .ok (.getfield 154, 3) := by decide +kernel
theorem d_GP_set_48 : decode b_GP_set 48 = .ok (.invokevirtual 182, 3) := by decide +kernel
theorem d_GP_set_51 : decode b_GP_set 51 = .ok (.iconst 0, 1) := by decide +kernel
theorem d_GP_set_52 : decode b_GP_set 52 = .ok (.istore_n 2, 1) := by decide +kernel
theorem d_GP_set_53 : decode b_GP_set 53 = .ok (.iload_n 2, 1) := by decide +kernel
theorem d_GP_set_54 : decode b_GP_set 54 = .ok (.bipush 64, 2) := by decide +kernel
theorem d_GP_set_56 : decode b_GP_set 56 = .ok (.if_icmp .ge 29, 3) := by decide +kernel
theorem d_GP_set_59 : decode b_GP_set 59 = .ok (.aload_n 0, 1) := by decide +kernel
theorem d_GP_set_60 : decode b_GP_set 60 = .ok (.getfield 54, 3) := by decide +kernel
theorem d_GP_set_63 : decode b_GP_set 63 = .ok (.getfield 186, 3) := by decide +kernel
theorem d_GP_set_66 : decode b_GP_set 66 = .ok (.iload_n 2, 1) := by decide +kernel
theorem d_GP_set_67 : decode b_GP_set 67 = .ok (.baload, 1) := by decide +kernel
theorem d_GP_set_68 : decode b_GP_set 68 = .ok (.ifCond .eq 11, 3) := by decide +kernel
theorem d_GP_set_71 : decode b_GP_set 71 = .ok (.aload_n 0, 1) := by decide +kernel
theorem d_GP_set_72 : decode b_GP_set 72 = .ok (.getfield 70, 3) := by decide +kernel
theorem d_GP_set_75 : decode b_GP_set 75 = .ok (.iload_n 2, 1) := by decide +kernel
theorem d_GP_set_76 : decode b_GP_set 76 = .ok (.invokevirtual 190, 3) := by decide +kernel
theorem d_GP_set_79 : decode b_GP_set 79 = .ok (.iinc 2 1, 3) := by decide +kernel
theorem d_GP_set_82 : decode b_GP_set 82 = .ok (.goto (-29), 3) := by decide +kernel
theorem d_GP_set_85 : decode b_GP_set 85 = .ok (.aload_n 0, 1) := by decide +kernel
theorem d_GP_set_86 : decode b_GP_set 86 = .ok (.getfield 61, 3) := by decide +kernel
theorem d_GP_set_89 : decode b_GP_set 89 = .ok (.iload_n 1, 1) := by decide +kernel
theorem d_GP_set_90 : decode b_GP_set 90 = .ok (.invokevirtual 194, 3) := by decide +kernel
theorem d_GP_set_93 : decode b_GP_set 93 = .ok (.aload_n 0, 1) := by decide +kernel
theorem d_GP_set_94 : decode b_GP_set 94 = .ok (.getfield 61, 3) := by decide +kernel
theorem d_GP_set_97 : decode b_GP_set 97 = .ok (.getfield 197, 3) := by decide +kernel
theorem d_GP_set_100 : decode b_GP_set 100 = .ok (.ireturn, 1) := by decide +kernel
abbrev b_GP_place : ByteArray := prog_1_method_13_code
def y_GP_place : MethodName := ⟨R_GP, "place", "(II)I"⟩
theorem d_GP_place_0 : decode b_GP_place 0 = .ok (.iload_n 1, 1) := by decide +kernel
theorem d_GP_place_1 : decode b_GP_place 1 = .ok (.ifCond .lt 14, 3) := by decide +kernel
theorem d_GP_place_4 : decode b_GP_place 4 = .ok (.iload_n 1, 1) := by decide +kernel
theorem d_GP_place_5 : decode b_GP_place 5 = .ok (.aload_n 0, 1) := by decide +kernel
theorem d_GP_place_6 : decode b_GP_place 6 = .ok (.getfield 61, 3) := by decide +kernel
theorem d_GP_place_9 : decode b_GP_place 9 = .ok (.getfield 197, 3) := by decide +kernel
theorem d_GP_place_12 : decode b_GP_place 12 = .ok (.if_icmp .lt 13, 3) := by decide +kernel
theorem d_GP_place_15 : decode b_GP_place 15 = .ok (.new 86, 3) := by decide +kernel
theorem d_GP_place_18 : decode b_GP_place 18 = .ok (.dup, 1) := by decide +kernel
theorem d_GP_place_19 : decode b_GP_place 19 = .ok (.ldc 198, 2) := by decide +kernel
theorem d_GP_place_21 : decode b_GP_place 21 = .ok (.invokespecial 90, 3) := by decide +kernel
theorem d_GP_place_24 : decode b_GP_place 24 = .ok (.athrow, 1) := by decide +kernel
theorem d_GP_place_25 : decode b_GP_place 25 = .ok (.iload_n 2, 1) := by decide +kernel
theorem d_GP_place_26 : decode b_GP_place 26 = .ok (.tableswitch 107 0 5 #[38, 48, 58, 68, 78, 97], 38) := by decide +kernel
theorem d_GP_place_64 : decode b_GP_place 64 = .ok (.aload_n 0, 1) := by decide +kernel
theorem d_GP_place_65 : decode b_GP_place 65 = .ok (.getfield 61, 3) := by decide +kernel
theorem d_GP_place_68 : decode b_GP_place 68 = .ok (.getfield 200, 3) := by decide +kernel
theorem d_GP_place_71 : decode b_GP_place 71 = .ok (.iload_n 1, 1) := by decide +kernel
theorem d_GP_place_72 : decode b_GP_place 72 = .ok (.iaload, 1) := by decide +kernel
theorem d_GP_place_73 : decode b_GP_place 73 = .ok (.ireturn, 1) := by decide +kernel
theorem d_GP_place_74 : decode b_GP_place 74 = .ok (.aload_n 0, 1) := by decide +kernel
theorem d_GP_place_75 : decode b_GP_place 75 = .ok (.getfield 61, 3) := by decide +kernel
theorem d_GP_place_78 : decode b_GP_place 78 = .ok (.getfield 204, 3) := by decide +kernel
theorem d_GP_place_81 : decode b_GP_place 81 = .ok (.iload_n 1, 1) := by decide +kernel
theorem d_GP_place_82 : decode b_GP_place 82 = .ok (.iaload, 1) := by decide +kernel
theorem d_GP_place_83 : decode b_GP_place 83 = .ok (.ireturn, 1) := by decide +kernel
theorem d_GP_place_84 : decode b_GP_place 84 = .ok (.aload_n 0, 1) := by decide +kernel
theorem d_GP_place_85 : decode b_GP_place 85 = .ok (.getfield 61, 3) := by decide +kernel
theorem d_GP_place_88 : decode b_GP_place 88 = .ok (.getfield 207, 3) := by decide +kernel
theorem d_GP_place_91 : decode b_GP_place 91 = .ok (.iload_n 1, 1) := by decide +kernel
theorem d_GP_place_92 : decode b_GP_place 92 = .ok (.iaload, 1) := by decide +kernel
theorem d_GP_place_93 : decode b_GP_place 93 = .ok (.ireturn, 1) := by decide +kernel
theorem d_GP_place_94 : decode b_GP_place 94 = .ok (.aload_n 0, 1) := by decide +kernel
theorem d_GP_place_95 : decode b_GP_place 95 = .ok (.getfield 61, 3) := by decide +kernel
theorem d_GP_place_98 : decode b_GP_place 98 = .ok (.getfield 210, 3) := by decide +kernel
theorem d_GP_place_101 : decode b_GP_place 101 = .ok (.iload_n 1, 1) := by decide +kernel
theorem d_GP_place_102 : decode b_GP_place 102 = .ok (.iaload, 1) := by decide +kernel
theorem d_GP_place_103 : decode b_GP_place 103 = .ok (.ireturn, 1) := by decide +kernel
theorem d_GP_place_104 : decode b_GP_place 104 = .ok (.aload_n 0, 1) := by decide +kernel
theorem d_GP_place_105 : decode b_GP_place 105 = .ok (.getfield 61, 3) := by decide +kernel
theorem d_GP_place_108 : decode b_GP_place 108 = .ok (.iload_n 1, 1) := by decide +kernel
theorem d_GP_place_109 : decode b_GP_place 109 = .ok (.invokevirtual 213, 3) := by decide +kernel
theorem d_GP_place_112 : decode b_GP_place 112 = .ok (.aload_n 0, 1) := by decide +kernel
theorem d_GP_place_113 : decode b_GP_place 113 = .ok (.getfield 61, 3) := by decide +kernel
theorem d_GP_place_116 : decode b_GP_place 116 = .ok (.getfield 207, 3) := by decide +kernel
theorem d_GP_place_119 : decode b_GP_place 119 = .ok (.iload_n 1, 1) := by decide +kernel
theorem d_GP_place_120 : decode b_GP_place 120 = .ok (.iaload, 1) := by decide +kernel
theorem d_GP_place_121 : decode b_GP_place 121 = .ok (.iadd, 1) := by decide +kernel
theorem d_GP_place_122 : decode b_GP_place 122 = .ok (.ireturn, 1) := by decide +kernel
theorem d_GP_place_123 : decode b_GP_place 123 = .ok (.aload_n 0, 1) := by decide +kernel
theorem d_GP_place_124 : decode b_GP_place 124 = .ok (.getfield 61, 3) := by decide +kernel
theorem d_GP_place_127 : decode b_GP_place 127 = .ok (.getfield 216, 3) := by decide +kernel
theorem d_GP_place_130 : decode b_GP_place 130 = .ok (.iload_n 1, 1) := by decide +kernel
theorem d_GP_place_131 : decode b_GP_place 131 = .ok (.iaload, 1) := by decide +kernel
theorem d_GP_place_132 : decode b_GP_place 132 = .ok (.ireturn, 1) := by decide +kernel
theorem d_GP_place_133 : decode b_GP_place 133 = .ok (.new 86, 3) := by decide +kernel
theorem d_GP_place_136 : decode b_GP_place 136 = .ok (.dup, 1) := by decide +kernel
theorem d_GP_place_137 : decode b_GP_place 137 = .ok (.ldc 219, 2) := by decide +kernel
theorem d_GP_place_139 : decode b_GP_place 139 = .ok (.invokespecial 90, 3) := by decide +kernel
theorem d_GP_place_142 : decode b_GP_place 142 = .ok (.athrow, 1) := by decide +kernel
