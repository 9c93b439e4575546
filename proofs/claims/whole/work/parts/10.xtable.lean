def xTable_lies (x1 x2 : Int32) (st : QSt) : Option Int32 :=
  if x1 < 0 then (some 0) else (if x2 < 0 then (some 0) else (if ((st.1 3) - x2) < x1 then (some 0) else (some 1)))
set_option maxHeartbeats 4000000 in
set_option maxRecDepth 100000 in
theorem c_xTable_lies (l : Launch) (G : XG) {x1 x2 : Int32} {st : QSt} {ro : Int32} (hf : xTable_lies x1 x2 st = some ro) : q_Mp l y_Table_lies b_Table_lies 3 .boolean ({ frames := 0, cells := 0, slots := 0, locals := 0 } : Room) G.1 (xT G) (wX G) [.ref (G.2.2 1), .int x1, .int x2] st ro := by
  refine q_Mp_of (by decide) (Nat.le_of_ble_eq_true rfl) (wX_fst G) ?_
  intro p e s m args below meth c ls hC hr hlk hT hP hS hl
  have hx := hC.1.1
  have hb := hC.1.2.1
  have hown := hC.1.2.2.2.1
  have hts := hC.1.2.2.2.2
  have hl : lv_has ls 3 [(0, .ref (G.2.2 1)), (1, .int x1), (2, .int x2)] := hl
  unfold xTable_lies at hf
  refine lv_iload_n hx hb d_Table_lies_0 rfl (lv_at hl 1 rfl) ?_
  refine lv_if_lt (tgt := 22) hx hb d_Table_lies_1 (by decide) (fun c1 => ?_) (fun c1 => ?_)
  · rw [if_pos c1] at hf
    refine lv_iconst (v := 0) hx hb d_Table_lies_22 (by decide) ?_
    exact q_iretP hC hr hlk hf (by first | rfl | decide) hS d_Table_lies_23
  rw [if_neg c1] at hf
  refine lv_iload_n hx hb d_Table_lies_4 rfl (lv_at hl 2 rfl) ?_
  refine lv_if_lt (tgt := 22) hx hb d_Table_lies_5 (by decide) (fun c1 => ?_) (fun c1 => ?_)
  · rw [if_pos c1] at hf
    refine lv_iconst (v := 0) hx hb d_Table_lies_22 (by decide) ?_
    exact q_iretP hC hr hlk hf (by first | rfl | decide) hS d_Table_lies_23
  rw [if_neg c1] at hf
  refine lv_iload_n hx hb d_Table_lies_8 rfl (lv_at hl 1 rfl) ?_
  refine lv_aload_n hx hb d_Table_lies_9 rfl (lv_at hl 0 rfl) ?_
  refine xg_1_size hC hP wq_0 d_Table_lies_10 ?_
  refine lv_iload_n hx hb d_Table_lies_13 rfl (lv_at hl 2 rfl) ?_
  refine lv_isub hx hb d_Table_lies_14 ?_
  refine lv_icmp_gt (tgt := 22) hx hb d_Table_lies_15 (by decide) (fun c1 => ?_) (fun c1 => ?_)
  · rw [if_pos c1] at hf
    refine lv_iconst (v := 0) hx hb d_Table_lies_22 (by decide) ?_
    exact q_iretP hC hr hlk hf (by first | rfl | decide) hS d_Table_lies_23
  rw [if_neg c1] at hf
  refine lv_iconst (v := 1) hx hb d_Table_lies_18 (by decide) ?_
  refine lv_goto (tgt := 23) hx hb d_Table_lies_19 (by decide) ?_
  exact q_iretP hC hr hlk hf (by first | rfl | decide) hS d_Table_lies_23
def xTable_u16 (x1 : Int32) (st : QSt) : Option Int32 :=
  if x1 < 0 then (some 0) else (if x1 ≤ ((st.1 3) - 2) then (q_grd (q_vpb x1 8192) (q_lt (st.2 0 x1.toNatClampNeg) (fun v1 => q_grd (q_vpb (x1 + 1) 8192) (q_lt (st.2 0 (x1 + 1).toNatClampNeg) (fun v2 => some (((v1 &&& 255) <<< (8 &&& 31)) ||| (v2 &&& 255))))))) else (some 0))
set_option maxHeartbeats 4000000 in
set_option maxRecDepth 100000 in
theorem c_xTable_u16 (l : Launch) (G : XG) {x1 : Int32} {st : QSt} {ro : Int32} (hf : xTable_u16 x1 st = some ro) : q_Mp l y_Table_u16 b_Table_u16 2 .int ({ frames := 0, cells := 0, slots := 0, locals := 0 } : Room) G.1 (xT G) (wX G) [.ref (G.2.2 1), .int x1] st ro := by
  refine q_Mp_of (by decide) (Nat.le_of_ble_eq_true rfl) (wX_fst G) ?_
  intro p e s m args below meth c ls hC hr hlk hT hP hS hl
  have hx := hC.1.1
  have hb := hC.1.2.1
  have hown := hC.1.2.2.2.1
  have hts := hC.1.2.2.2.2
  have hl : lv_has ls 2 [(0, .ref (G.2.2 1)), (1, .int x1)] := hl
  unfold xTable_u16 at hf
  refine lv_iload_n hx hb d_Table_u16_0 rfl (lv_at hl 1 rfl) ?_
  refine lv_if_lt (tgt := 14) hx hb d_Table_u16_1 (by decide) (fun c1 => ?_) (fun c1 => ?_)
  · rw [if_pos c1] at hf
    refine lv_iconst (v := 0) hx hb d_Table_u16_14 (by decide) ?_
    exact q_iretP hC hr hlk hf (by first | rfl | decide) hS d_Table_u16_15
  rw [if_neg c1] at hf
  refine lv_iload_n hx hb d_Table_u16_4 rfl (lv_at hl 1 rfl) ?_
  refine lv_aload_n hx hb d_Table_u16_5 rfl (lv_at hl 0 rfl) ?_
  refine xg_1_size hC hP wq_0 d_Table_u16_6 ?_
  refine lv_iconst (v := 2) hx hb d_Table_u16_9 (by decide) ?_
  refine lv_isub hx hb d_Table_u16_10 ?_
  refine lv_icmp_le (tgt := 16) hx hb d_Table_u16_11 (by decide) (fun c1 => ?_) (fun c1 => ?_)
  rotate_left
  · rw [if_neg c1] at hf
    refine lv_iconst (v := 0) hx hb d_Table_u16_14 (by decide) ?_
    exact q_iretP hC hr hlk hf (by first | rfl | decide) hS d_Table_u16_15
  rw [if_pos c1] at hf
  refine lv_aload_n hx hb d_Table_u16_16 rfl (lv_at hl 0 rfl) ?_
  refine xg_1_bytes hC hP wq_1 d_Table_u16_17 ?_
  refine lv_iload_n hx hb d_Table_u16_20 rfl (lv_at hl 1 rfl) ?_
  obtain ⟨hi, hf⟩ := q_grd_some hf
  obtain ⟨v1, e_v1, hf⟩ := q_lt_some hf
  refine xl_2 hC hP e_v1 hi d_Table_u16_21 ?_
  refine lv_sipush (v := 255) hx hb d_Table_u16_22 (by decide) ?_
  refine lv_iand hx hb d_Table_u16_25 ?_
  refine lv_bipush (v := 8) hx hb d_Table_u16_26 (by decide) ?_
  refine lv_ishl hx hb d_Table_u16_28 ?_
  refine lv_aload_n hx hb d_Table_u16_29 rfl (lv_at hl 0 rfl) ?_
  refine xg_1_bytes hC hP wq_1 d_Table_u16_30 ?_
  refine lv_iload_n hx hb d_Table_u16_33 rfl (lv_at hl 1 rfl) ?_
  refine lv_iconst (v := 1) hx hb d_Table_u16_34 (by decide) ?_
  refine lv_iadd hx hb d_Table_u16_35 ?_
  obtain ⟨hi, hf⟩ := q_grd_some hf
  obtain ⟨v2, e_v2, hf⟩ := q_lt_some hf
  refine xl_2 hC hP e_v2 hi d_Table_u16_36 ?_
  refine lv_sipush (v := 255) hx hb d_Table_u16_37 (by decide) ?_
  refine lv_iand hx hb d_Table_u16_40 ?_
  refine lv_ior hx hb d_Table_u16_41 ?_
  exact q_iretP hC hr hlk hf (by first | rfl | decide) hS d_Table_u16_42
def xTable_u32 (x1 : Int32) (st : QSt) : Option Int32 :=
  q_bn (xTable_u16 x1 st) (fun r1 => q_bn (xTable_u16 (x1 + 2) st) (fun r2 => some ((r1 <<< (16 &&& 31)) ||| r2)))
set_option maxHeartbeats 4000000 in
set_option maxRecDepth 100000 in
theorem c_xTable_u32 (l : Launch) (G : XG) {x1 : Int32} {st : QSt} {ro : Int32} (hf : xTable_u32 x1 st = some ro) : q_Mp l y_Table_u32 b_Table_u32 2 .int ({ frames := 1, cells := 0, slots := 0, locals := 21 } : Room) G.1 (xT G) (wX G) [.ref (G.2.2 1), .int x1] st ro := by
  refine q_Mp_of (by decide) (Nat.le_of_ble_eq_true rfl) (wX_fst G) ?_
  intro p e s m args below meth c ls hC hr hlk hT hP hS hl
  have hx := hC.1.1
  have hb := hC.1.2.1
  have hown := hC.1.2.2.2.1
  have hts := hC.1.2.2.2.2
  have hl : lv_has ls 2 [(0, .ref (G.2.2 1)), (1, .int x1)] := hl
  unfold xTable_u32 at hf
  refine lv_aload_n hx hb d_Table_u32_0 rfl (lv_at hl 0 rfl) ?_
  refine lv_iload_n hx hb d_Table_u32_1 rfl (lv_at hl 1 rfl) ?_
  obtain ⟨r1, h_r1, hf⟩ := q_bn_some hf
  refine q_callVp (As := [.int x1]) (rest := []) (q0 := 1) hC (c_xTable_u16 l G h_r1) cal_Table_u16 wq_2 ⟨rfl, rfl, Nat.le_of_ble_eq_true rfl, Nat.le_of_ble_eq_true rfl⟩ rfl rfl hP hT hS rfl hl.1 rfl (Nat.le_of_ble_eq_true rfl) d_Table_u32_2 (fun H locs hP hS => ?_)
  refine lv_bipush (v := 16) hx hb d_Table_u32_5 (by decide) ?_
  refine lv_ishl hx hb d_Table_u32_7 ?_
  refine lv_aload_n hx hb d_Table_u32_8 rfl (lv_at hl 0 rfl) ?_
  refine lv_iload_n hx hb d_Table_u32_9 rfl (lv_at hl 1 rfl) ?_
  refine lv_iconst (v := 2) hx hb d_Table_u32_10 (by decide) ?_
  refine lv_iadd hx hb d_Table_u32_11 ?_
  obtain ⟨r2, h_r2, hf⟩ := q_bn_some hf
  refine q_callVp (As := [.int (x1 + 2)]) (rest := [.int (r1 <<< (16 &&& 31))]) (q0 := 1) hC (c_xTable_u16 l G h_r2) cal_Table_u16 wq_2 ⟨rfl, rfl, Nat.le_of_ble_eq_true rfl, Nat.le_of_ble_eq_true rfl⟩ rfl rfl hP hT hS rfl hl.1 rfl (Nat.le_of_ble_eq_true rfl) d_Table_u32_12 (fun H locs hP hS => ?_)
  refine lv_ior hx hb d_Table_u32_15 ?_
  exact q_iretP hC hr hlk hf (by first | rfl | decide) hS d_Table_u32_16
def xTable_append (x1 : Int32) (st : QSt) : Option (Int32 × QSt) :=
  if (st.1 3) ≤ 8188 then (q_grd (q_vpb (st.1 3) 8192) (q_lt (q_pa st 0 (st.1 3).toNatClampNeg (vp_nar .byte ((q_ush x1 24).toInt8.toInt32))) (fun s1 => q_grd (q_vpb ((s1.1 3) + 1) 8192) (q_lt (q_pa s1 0 ((s1.1 3) + 1).toNatClampNeg (vp_nar .byte ((q_ush x1 16).toInt8.toInt32))) (fun s2 => q_grd (q_vpb ((s2.1 3) + 2) 8192) (q_lt (q_pa s2 0 ((s2.1 3) + 2).toNatClampNeg (vp_nar .byte ((q_ush x1 8).toInt8.toInt32))) (fun s3 => q_grd (q_vpb ((s3.1 3) + 3) 8192) (q_lt (q_pa s3 0 ((s3.1 3) + 3).toNatClampNeg (vp_nar .byte x1.toInt8.toInt32)) (fun s4 => q_lt (q_ps s4 3 ((s4.1 3) + 4)) (fun s5 => some (1, s5))))))))))) else (some (0, st))
set_option maxHeartbeats 4000000 in
set_option maxRecDepth 100000 in
theorem c_xTable_append (l : Launch) (G : XG) {x1 : Int32} {st : QSt} {ro : Int32} {so : QSt} (hf : xTable_append x1 st = some (ro, so)) : q_Mi l y_Table_append b_Table_append 2 .boolean ({ frames := 0, cells := 0, slots := 0, locals := 0 } : Room) G.1 (xT G) (wX G) [.ref (G.2.2 1), .int x1] st ro so := by
  refine q_Mi_of (by decide) (Nat.le_of_ble_eq_true rfl) (wX_fst G) ?_
  intro p e s m args below meth c A ls hC hr hlk hT hD hA hP hS hl
  have hx := hC.1.1
  have hb := hC.1.2.1
  have hown := hC.1.2.2.2.1
  have hts := hC.1.2.2.2.2
  have hl : lv_has ls 2 [(0, .ref (G.2.2 1)), (1, .int x1)] := hl
  unfold xTable_append at hf
  refine lv_aload_n hx hb d_Table_append_0 rfl (lv_at hl 0 rfl) ?_
  refine xg_1_size hC hP wq_0 d_Table_append_1 ?_
  refine lv_sipush (v := 8188) hx hb d_Table_append_4 (by decide) ?_
  refine lv_icmp_le (tgt := 12) hx hb d_Table_append_7 (by decide) (fun c1 => ?_) (fun c1 => ?_)
  rotate_left
  · rw [if_neg c1] at hf
    refine lv_iconst (v := 0) hx hb d_Table_append_10 (by decide) ?_
    exact q_iret hC hr hlk hf (by first | rfl | decide) hP hS d_Table_append_11
  rw [if_pos c1] at hf
  refine lv_aload_n hx hb d_Table_append_12 rfl (lv_at hl 0 rfl) ?_
  refine xg_1_bytes hC hP wq_1 d_Table_append_13 ?_
  refine lv_aload_n hx hb d_Table_append_16 rfl (lv_at hl 0 rfl) ?_
  refine xg_1_size hC hP wq_0 d_Table_append_17 ?_
  refine lv_iload_n hx hb d_Table_append_20 rfl (lv_at hl 1 rfl) ?_
  refine lv_bipush (v := 24) hx hb d_Table_append_21 (by decide) ?_
  refine lv_iushr (v := q_ush x1 24) hx hb d_Table_append_23 rfl ?_
  refine lv_i2b (v := (q_ush x1 24).toInt8.toInt32) hx hb d_Table_append_24 rfl ?_
  obtain ⟨hi, hf⟩ := q_grd_some hf
  obtain ⟨s1, e_s1, hf⟩ := q_lt_some hf
  refine xs_2 hC hP hD hS e_s1 hi d_Table_append_25 (fun H locs hP hS => ?_)
  refine lv_aload_n hx hb d_Table_append_26 rfl (lv_at hl 0 rfl) ?_
  refine xg_1_bytes hC hP wq_1 d_Table_append_27 ?_
  refine lv_aload_n hx hb d_Table_append_30 rfl (lv_at hl 0 rfl) ?_
  refine xg_1_size hC hP wq_0 d_Table_append_31 ?_
  refine lv_iconst (v := 1) hx hb d_Table_append_34 (by decide) ?_
  refine lv_iadd hx hb d_Table_append_35 ?_
  refine lv_iload_n hx hb d_Table_append_36 rfl (lv_at hl 1 rfl) ?_
  refine lv_bipush (v := 16) hx hb d_Table_append_37 (by decide) ?_
  refine lv_iushr (v := q_ush x1 16) hx hb d_Table_append_39 rfl ?_
  refine lv_i2b (v := (q_ush x1 16).toInt8.toInt32) hx hb d_Table_append_40 rfl ?_
  obtain ⟨hi, hf⟩ := q_grd_some hf
  obtain ⟨s2, e_s2, hf⟩ := q_lt_some hf
  refine xs_2 hC hP hD hS e_s2 hi d_Table_append_41 (fun H locs hP hS => ?_)
  refine lv_aload_n hx hb d_Table_append_42 rfl (lv_at hl 0 rfl) ?_
  refine xg_1_bytes hC hP wq_1 d_Table_append_43 ?_
  refine lv_aload_n hx hb d_Table_append_46 rfl (lv_at hl 0 rfl) ?_
  refine xg_1_size hC hP wq_0 d_Table_append_47 ?_
  refine lv_iconst (v := 2) hx hb d_Table_append_50 (by decide) ?_
  refine lv_iadd hx hb d_Table_append_51 ?_
  refine lv_iload_n hx hb d_Table_append_52 rfl (lv_at hl 1 rfl) ?_
  refine lv_bipush (v := 8) hx hb d_Table_append_53 (by decide) ?_
  refine lv_iushr (v := q_ush x1 8) hx hb d_Table_append_55 rfl ?_
  refine lv_i2b (v := (q_ush x1 8).toInt8.toInt32) hx hb d_Table_append_56 rfl ?_
  obtain ⟨hi, hf⟩ := q_grd_some hf
  obtain ⟨s3, e_s3, hf⟩ := q_lt_some hf
  refine xs_2 hC hP hD hS e_s3 hi d_Table_append_57 (fun H locs hP hS => ?_)
  refine lv_aload_n hx hb d_Table_append_58 rfl (lv_at hl 0 rfl) ?_
  refine xg_1_bytes hC hP wq_1 d_Table_append_59 ?_
  refine lv_aload_n hx hb d_Table_append_62 rfl (lv_at hl 0 rfl) ?_
  refine xg_1_size hC hP wq_0 d_Table_append_63 ?_
  refine lv_iconst (v := 3) hx hb d_Table_append_66 (by decide) ?_
  refine lv_iadd hx hb d_Table_append_67 ?_
  refine lv_iload_n hx hb d_Table_append_68 rfl (lv_at hl 1 rfl) ?_
  refine lv_i2b (v := x1.toInt8.toInt32) hx hb d_Table_append_69 rfl ?_
  obtain ⟨hi, hf⟩ := q_grd_some hf
  obtain ⟨s4, e_s4, hf⟩ := q_lt_some hf
  refine xs_2 hC hP hD hS e_s4 hi d_Table_append_70 (fun H locs hP hS => ?_)
  refine lv_aload_n hx hb d_Table_append_71 rfl (lv_at hl 0 rfl) ?_
  refine lv_dup hx hb d_Table_append_72 rfl ?_
  refine xg_1_size hC hP wq_0 d_Table_append_73 ?_
  refine lv_iconst (v := 4) hx hb d_Table_append_76 (by decide) ?_
  refine lv_iadd hx hb d_Table_append_77 ?_
  obtain ⟨s5, e_s5, hf⟩ := q_lt_some hf
  refine xp_1_size hC hP hD hS e_s5 wq_0 d_Table_append_78 (fun H locs hP hS => ?_)
  refine lv_iconst (v := 1) hx hb d_Table_append_81 (by decide) ?_
  exact q_iret hC hr hlk hf (by first | rfl | decide) hP hS d_Table_append_82
def xTable_replace (x1 x2 : Int32) (st : QSt) : Option (Int32 × QSt) :=
  if x1 < 0 then (some (0, st)) else (if x1 < (st.1 3) then (q_grd (q_vpb x1 8192) (q_lt (st.2 0 x1.toNatClampNeg) (fun v1 => q_lt (v1 &&& 255) (fun x3_1002 => q_grd (q_vpb x1 8192) (q_lt (q_pa st 0 x1.toNatClampNeg (vp_nar .byte x2.toInt8.toInt32)) (fun s3 => some (x3_1002, s3))))))) else (some (0, st)))
set_option maxHeartbeats 4000000 in
set_option maxRecDepth 100000 in
theorem c_xTable_replace (l : Launch) (G : XG) {x1 x2 : Int32} {st : QSt} {ro : Int32} {so : QSt} (hf : xTable_replace x1 x2 st = some (ro, so)) : q_Mi l y_Table_replace b_Table_replace 4 .int ({ frames := 0, cells := 0, slots := 0, locals := 0 } : Room) G.1 (xT G) (wX G) [.ref (G.2.2 1), .int x1, .int x2] st ro so := by
  refine q_Mi_of (by decide) (Nat.le_of_ble_eq_true rfl) (wX_fst G) ?_
  intro p e s m args below meth c A ls hC hr hlk hT hD hA hP hS hl
  have hx := hC.1.1
  have hb := hC.1.2.1
  have hown := hC.1.2.2.2.1
  have hts := hC.1.2.2.2.2
  have hl : lv_has ls 4 [(0, .ref (G.2.2 1)), (1, .int x1), (2, .int x2)] := hl
  unfold xTable_replace at hf
  refine lv_iload_n hx hb d_Table_replace_0 rfl (lv_at hl 1 rfl) ?_
  refine lv_if_lt (tgt := 12) hx hb d_Table_replace_1 (by decide) (fun c1 => ?_) (fun c1 => ?_)
  · rw [if_pos c1] at hf
    refine lv_iconst (v := 0) hx hb d_Table_replace_12 (by decide) ?_
    exact q_iret hC hr hlk hf (by first | rfl | decide) hP hS d_Table_replace_13
  rw [if_neg c1] at hf
  refine lv_iload_n hx hb d_Table_replace_4 rfl (lv_at hl 1 rfl) ?_
  refine lv_aload_n hx hb d_Table_replace_5 rfl (lv_at hl 0 rfl) ?_
  refine xg_1_size hC hP wq_0 d_Table_replace_6 ?_
  refine lv_icmp_lt (tgt := 14) hx hb d_Table_replace_9 (by decide) (fun c1 => ?_) (fun c1 => ?_)
  rotate_left
  · rw [if_neg c1] at hf
    refine lv_iconst (v := 0) hx hb d_Table_replace_12 (by decide) ?_
    exact q_iret hC hr hlk hf (by first | rfl | decide) hP hS d_Table_replace_13
  rw [if_pos c1] at hf
  refine lv_aload_n hx hb d_Table_replace_14 rfl (lv_at hl 0 rfl) ?_
  refine xg_1_bytes hC hP wq_1 d_Table_replace_15 ?_
  refine lv_iload_n hx hb d_Table_replace_18 rfl (lv_at hl 1 rfl) ?_
  obtain ⟨hi, hf⟩ := q_grd_some hf
  obtain ⟨v1, e_v1, hf⟩ := q_lt_some hf
  refine xl_2 hC hP e_v1 hi d_Table_replace_19 ?_
  refine lv_sipush (v := 255) hx hb d_Table_replace_20 (by decide) ?_
  refine lv_iand hx hb d_Table_replace_23 ?_
  obtain ⟨x3_1002, e_x3_1002, hf⟩ := q_lt_some hf
  refine q_topi e_x3_1002 ?_
  refine lv_istore_n (lv' := [(3, .int x3_1002), (0, .ref (G.2.2 1)), (1, .int x1), (2, .int x2)]) hx hb d_Table_replace_24 rfl hl (by decide) rfl (fun ls hl => ?_)
  refine lv_aload_n hx hb d_Table_replace_25 rfl (lv_at hl 1 rfl) ?_
  refine xg_1_bytes hC hP wq_1 d_Table_replace_26 ?_
  refine lv_iload_n hx hb d_Table_replace_29 rfl (lv_at hl 2 rfl) ?_
  refine lv_iload_n hx hb d_Table_replace_30 rfl (lv_at hl 3 rfl) ?_
  refine lv_i2b (v := x2.toInt8.toInt32) hx hb d_Table_replace_31 rfl ?_
  obtain ⟨hi, hf⟩ := q_grd_some hf
  obtain ⟨s3, e_s3, hf⟩ := q_lt_some hf
  refine xs_2 hC hP hD hS e_s3 hi d_Table_replace_32 (fun H locs hP hS => ?_)
  refine lv_iload_n hx hb d_Table_replace_33 rfl (lv_at hl 0 rfl) ?_
  exact q_iret hC hr hlk hf (by first | rfl | decide) hP hS d_Table_replace_34
def xTable_shorten_22 (w0_22 : Int32) (st_22 : QSt) : Option (Int32 × QSt) :=
  q_lt (q_ps st_22 3 ((st_22.1 3) - w0_22)) (fun s1 => some (w0_22, s1))
def xTable_shorten_21 (st_21 : QSt) : Option (Int32 × QSt) :=
  xTable_shorten_22 0 st_21
def xTable_shorten (x1 : Int32) (st : QSt) : Option (Int32 × QSt) :=
  if x1 < 0 then (xTable_shorten_21 st) else (if (st.1 3) ≤ x1 then (xTable_shorten_21 st) else (xTable_shorten_22 ((st.1 3) - x1) st))
set_option maxHeartbeats 4000000 in
set_option maxRecDepth 100000 in
theorem c_xTable_shorten (l : Launch) (G : XG) {x1 : Int32} {st : QSt} {ro : Int32} {so : QSt} (hf : xTable_shorten x1 st = some (ro, so)) : q_Mi l y_Table_shorten b_Table_shorten 3 .int ({ frames := 0, cells := 0, slots := 0, locals := 0 } : Room) G.1 (xT G) (wX G) [.ref (G.2.2 1), .int x1] st ro so := by
  refine q_Mi_of (by decide) (Nat.le_of_ble_eq_true rfl) (wX_fst G) ?_
  intro p e s m args below meth c A ls hC hr hlk hT hD hA hP hS hl
  have hx := hC.1.1
  have hb := hC.1.2.1
  have hown := hC.1.2.2.2.1
  have hts := hC.1.2.2.2.2
  have hl : lv_has ls 3 [(0, .ref (G.2.2 1)), (1, .int x1)] := hl
  have J_22 : ∀ (w0_22 : Int32) (st_22 : QSt) (H : Heap) (locs : List Loc) (ls : Array Slot), xTable_shorten_22 w0_22 st_22 = some (ro, so) → va_P G.1 vwCl (wX G st_22) H → va_S A s.heap H locs → lv_has ls 3 [(0, .ref (G.2.2 1))] → W p l e ({ frames := 0, cells := 0, slots := 0, locals := 0 } : Room) s m args below meth c H locs 0 0 (q_Zi below args s G.1 (wX G) ro so A) (F0 m 22 ls [.int w0_22]) := by
    intro w0_22 st_22 H locs ls hf hP hS hl
    unfold xTable_shorten_22 at hf
    refine lv_istore_n (lv' := [(2, .int w0_22), (0, .ref (G.2.2 1))]) hx hb d_Table_shorten_22 rfl hl (by decide) rfl (fun ls hl => ?_)
    refine lv_aload_n hx hb d_Table_shorten_23 rfl (lv_at hl 1 rfl) ?_
    refine lv_dup hx hb d_Table_shorten_24 rfl ?_
    refine xg_1_size hC hP wq_0 d_Table_shorten_25 ?_
    refine lv_iload_n hx hb d_Table_shorten_28 rfl (lv_at hl 0 rfl) ?_
    refine lv_isub hx hb d_Table_shorten_29 ?_
    obtain ⟨s1, e_s1, hf⟩ := q_lt_some hf
    refine xp_1_size hC hP hD hS e_s1 wq_0 d_Table_shorten_30 (fun H locs hP hS => ?_)
    refine lv_iload_n hx hb d_Table_shorten_33 rfl (lv_at hl 0 rfl) ?_
    exact q_iret hC hr hlk hf (by first | rfl | decide) hP hS d_Table_shorten_34
  have J_21 : ∀ (st_21 : QSt) (H : Heap) (locs : List Loc) (ls : Array Slot), xTable_shorten_21 st_21 = some (ro, so) → va_P G.1 vwCl (wX G st_21) H → va_S A s.heap H locs → lv_has ls 3 [(0, .ref (G.2.2 1))] → W p l e ({ frames := 0, cells := 0, slots := 0, locals := 0 } : Room) s m args below meth c H locs 0 0 (q_Zi below args s G.1 (wX G) ro so A) (F0 m 21 ls []) := by
    intro st_21 H locs ls hf hP hS hl
    unfold xTable_shorten_21 at hf
    refine lv_iconst (v := 0) hx hb d_Table_shorten_21 (by decide) ?_
    exact J_22 _ _ _ _ _ hf hP hS hl
  unfold xTable_shorten at hf
  refine lv_iload_n hx hb d_Table_shorten_0 rfl (lv_at hl 1 rfl) ?_
  refine lv_if_lt (tgt := 21) hx hb d_Table_shorten_1 (by decide) (fun c1 => ?_) (fun c1 => ?_)
  · rw [if_pos c1] at hf
    exact J_21 _ _ _ _ hf hP hS (lv_sub hl [0] rfl)
  rw [if_neg c1] at hf
  refine lv_iload_n hx hb d_Table_shorten_4 rfl (lv_at hl 1 rfl) ?_
  refine lv_aload_n hx hb d_Table_shorten_5 rfl (lv_at hl 0 rfl) ?_
  refine xg_1_size hC hP wq_0 d_Table_shorten_6 ?_
  refine lv_icmp_ge (tgt := 21) hx hb d_Table_shorten_9 (by decide) (fun c1 => ?_) (fun c1 => ?_)
  · rw [if_pos c1] at hf
    exact J_21 _ _ _ _ hf hP hS (lv_sub hl [0] rfl)
  rw [if_neg c1] at hf
  refine lv_aload_n hx hb d_Table_shorten_12 rfl (lv_at hl 0 rfl) ?_
  refine xg_1_size hC hP wq_0 d_Table_shorten_13 ?_
  refine lv_iload_n hx hb d_Table_shorten_16 rfl (lv_at hl 1 rfl) ?_
  refine lv_isub hx hb d_Table_shorten_17 ?_
  refine lv_goto (tgt := 22) hx hb d_Table_shorten_18 (by decide) ?_
  exact J_22 _ _ _ _ _ hf hP hS (lv_sub hl [0] rfl)
def xTable_u16_3 (x1 : Int32) (st : QSt) : Option Int32 :=
  if x1 < 0 then (some 0) else (if x1 ≤ ((st.1 4) - 2) then (q_grd (q_vpb x1 8192) (q_lt (st.2 1 x1.toNatClampNeg) (fun v1 => q_grd (q_vpb (x1 + 1) 8192) (q_lt (st.2 1 (x1 + 1).toNatClampNeg) (fun v2 => some (((v1 &&& 255) <<< (8 &&& 31)) ||| (v2 &&& 255))))))) else (some 0))
set_option maxHeartbeats 4000000 in
set_option maxRecDepth 100000 in
theorem c_xTable_u16_3 (l : Launch) (G : XG) {x1 : Int32} {st : QSt} {ro : Int32} (hf : xTable_u16_3 x1 st = some ro) : q_Mp l y_Table_u16 b_Table_u16 2 .int ({ frames := 0, cells := 0, slots := 0, locals := 0 } : Room) G.1 (xT G) (wX G) [.ref (G.2.2 3), .int x1] st ro := by
  refine q_Mp_of (by decide) (Nat.le_of_ble_eq_true rfl) (wX_fst G) ?_
  intro p e s m args below meth c ls hC hr hlk hT hP hS hl
  have hx := hC.1.1
  have hb := hC.1.2.1
  have hown := hC.1.2.2.2.1
  have hts := hC.1.2.2.2.2
  have hl : lv_has ls 2 [(0, .ref (G.2.2 3)), (1, .int x1)] := hl
  unfold xTable_u16_3 at hf
  refine lv_iload_n hx hb d_Table_u16_0 rfl (lv_at hl 1 rfl) ?_
  refine lv_if_lt (tgt := 14) hx hb d_Table_u16_1 (by decide) (fun c1 => ?_) (fun c1 => ?_)
  · rw [if_pos c1] at hf
    refine lv_iconst (v := 0) hx hb d_Table_u16_14 (by decide) ?_
    exact q_iretP hC hr hlk hf (by first | rfl | decide) hS d_Table_u16_15
  rw [if_neg c1] at hf
  refine lv_iload_n hx hb d_Table_u16_4 rfl (lv_at hl 1 rfl) ?_
  refine lv_aload_n hx hb d_Table_u16_5 rfl (lv_at hl 0 rfl) ?_
  refine xg_3_size hC hP wq_0 d_Table_u16_6 ?_
  refine lv_iconst (v := 2) hx hb d_Table_u16_9 (by decide) ?_
  refine lv_isub hx hb d_Table_u16_10 ?_
  refine lv_icmp_le (tgt := 16) hx hb d_Table_u16_11 (by decide) (fun c1 => ?_) (fun c1 => ?_)
  rotate_left
  · rw [if_neg c1] at hf
    refine lv_iconst (v := 0) hx hb d_Table_u16_14 (by decide) ?_
    exact q_iretP hC hr hlk hf (by first | rfl | decide) hS d_Table_u16_15
  rw [if_pos c1] at hf
  refine lv_aload_n hx hb d_Table_u16_16 rfl (lv_at hl 0 rfl) ?_
  refine xg_3_bytes hC hP wq_1 d_Table_u16_17 ?_
  refine lv_iload_n hx hb d_Table_u16_20 rfl (lv_at hl 1 rfl) ?_
  obtain ⟨hi, hf⟩ := q_grd_some hf
  obtain ⟨v1, e_v1, hf⟩ := q_lt_some hf
  refine xl_4 hC hP e_v1 hi d_Table_u16_21 ?_
  refine lv_sipush (v := 255) hx hb d_Table_u16_22 (by decide) ?_
  refine lv_iand hx hb d_Table_u16_25 ?_
  refine lv_bipush (v := 8) hx hb d_Table_u16_26 (by decide) ?_
  refine lv_ishl hx hb d_Table_u16_28 ?_
  refine lv_aload_n hx hb d_Table_u16_29 rfl (lv_at hl 0 rfl) ?_
  refine xg_3_bytes hC hP wq_1 d_Table_u16_30 ?_
  refine lv_iload_n hx hb d_Table_u16_33 rfl (lv_at hl 1 rfl) ?_
  refine lv_iconst (v := 1) hx hb d_Table_u16_34 (by decide) ?_
  refine lv_iadd hx hb d_Table_u16_35 ?_
  obtain ⟨hi, hf⟩ := q_grd_some hf
  obtain ⟨v2, e_v2, hf⟩ := q_lt_some hf
  refine xl_4 hC hP e_v2 hi d_Table_u16_36 ?_
  refine lv_sipush (v := 255) hx hb d_Table_u16_37 (by decide) ?_
  refine lv_iand hx hb d_Table_u16_40 ?_
  refine lv_ior hx hb d_Table_u16_41 ?_
  exact q_iretP hC hr hlk hf (by first | rfl | decide) hS d_Table_u16_42
def xTable_s16 (x1 : Int32) (st : QSt) : Option Int32 :=
  q_bn (xTable_u16_3 x1 st) (fun r1 => some r1.toInt16.toInt32)
set_option maxHeartbeats 4000000 in
set_option maxRecDepth 100000 in
theorem c_xTable_s16 (l : Launch) (G : XG) {x1 : Int32} {st : QSt} {ro : Int32} (hf : xTable_s16 x1 st = some ro) : q_Mp l y_Table_s16 b_Table_s16 2 .int ({ frames := 1, cells := 0, slots := 0, locals := 21 } : Room) G.1 (xT G) (wX G) [.ref (G.2.2 3), .int x1] st ro := by
  refine q_Mp_of (by decide) (Nat.le_of_ble_eq_true rfl) (wX_fst G) ?_
  intro p e s m args below meth c ls hC hr hlk hT hP hS hl
  have hx := hC.1.1
  have hb := hC.1.2.1
  have hown := hC.1.2.2.2.1
  have hts := hC.1.2.2.2.2
  have hl : lv_has ls 2 [(0, .ref (G.2.2 3)), (1, .int x1)] := hl
  unfold xTable_s16 at hf
  refine lv_aload_n hx hb d_Table_s16_0 rfl (lv_at hl 0 rfl) ?_
  refine lv_iload_n hx hb d_Table_s16_1 rfl (lv_at hl 1 rfl) ?_
  obtain ⟨r1, h_r1, hf⟩ := q_bn_some hf
  refine q_callVp (As := [.int x1]) (rest := []) (q0 := 3) hC (c_xTable_u16_3 l G h_r1) cal_Table_u16 wq_2 ⟨rfl, rfl, Nat.le_of_ble_eq_true rfl, Nat.le_of_ble_eq_true rfl⟩ rfl rfl hP hT hS rfl hl.1 rfl (Nat.le_of_ble_eq_true rfl) d_Table_s16_2 (fun H locs hP hS => ?_)
  refine lv_i2s (v := r1.toInt16.toInt32) hx hb d_Table_s16_5 rfl ?_
  exact q_iretP hC hr hlk hf (by first | rfl | decide) hS d_Table_s16_6
def xTable_u32_3 (x1 : Int32) (st : QSt) : Option Int32 :=
  q_bn (xTable_u16_3 x1 st) (fun r1 => q_bn (xTable_u16_3 (x1 + 2) st) (fun r2 => some ((r1 <<< (16 &&& 31)) ||| r2)))
set_option maxHeartbeats 4000000 in
set_option maxRecDepth 100000 in
theorem c_xTable_u32_3 (l : Launch) (G : XG) {x1 : Int32} {st : QSt} {ro : Int32} (hf : xTable_u32_3 x1 st = some ro) : q_Mp l y_Table_u32 b_Table_u32 2 .int ({ frames := 1, cells := 0, slots := 0, locals := 21 } : Room) G.1 (xT G) (wX G) [.ref (G.2.2 3), .int x1] st ro := by
  refine q_Mp_of (by decide) (Nat.le_of_ble_eq_true rfl) (wX_fst G) ?_
  intro p e s m args below meth c ls hC hr hlk hT hP hS hl
  have hx := hC.1.1
  have hb := hC.1.2.1
  have hown := hC.1.2.2.2.1
  have hts := hC.1.2.2.2.2
  have hl : lv_has ls 2 [(0, .ref (G.2.2 3)), (1, .int x1)] := hl
  unfold xTable_u32_3 at hf
  refine lv_aload_n hx hb d_Table_u32_0 rfl (lv_at hl 0 rfl) ?_
  refine lv_iload_n hx hb d_Table_u32_1 rfl (lv_at hl 1 rfl) ?_
  obtain ⟨r1, h_r1, hf⟩ := q_bn_some hf
  refine q_callVp (As := [.int x1]) (rest := []) (q0 := 3) hC (c_xTable_u16_3 l G h_r1) cal_Table_u16 wq_2 ⟨rfl, rfl, Nat.le_of_ble_eq_true rfl, Nat.le_of_ble_eq_true rfl⟩ rfl rfl hP hT hS rfl hl.1 rfl (Nat.le_of_ble_eq_true rfl) d_Table_u32_2 (fun H locs hP hS => ?_)
  refine lv_bipush (v := 16) hx hb d_Table_u32_5 (by decide) ?_
  refine lv_ishl hx hb d_Table_u32_7 ?_
  refine lv_aload_n hx hb d_Table_u32_8 rfl (lv_at hl 0 rfl) ?_
  refine lv_iload_n hx hb d_Table_u32_9 rfl (lv_at hl 1 rfl) ?_
  refine lv_iconst (v := 2) hx hb d_Table_u32_10 (by decide) ?_
  refine lv_iadd hx hb d_Table_u32_11 ?_
  obtain ⟨r2, h_r2, hf⟩ := q_bn_some hf
  refine q_callVp (As := [.int (x1 + 2)]) (rest := [.int (r1 <<< (16 &&& 31))]) (q0 := 3) hC (c_xTable_u16_3 l G h_r2) cal_Table_u16 wq_2 ⟨rfl, rfl, Nat.le_of_ble_eq_true rfl, Nat.le_of_ble_eq_true rfl⟩ rfl rfl hP hT hS rfl hl.1 rfl (Nat.le_of_ble_eq_true rfl) d_Table_u32_12 (fun H locs hP hS => ?_)
  refine lv_ior hx hb d_Table_u32_15 ?_
  exact q_iretP hC hr hlk hf (by first | rfl | decide) hS d_Table_u32_16
def xInteger_bitCount (x0 : Int32) : Option Int32 :=
  q_lt (x0 - ((q_ush x0 1) &&& 1431655765)) (fun x0_1001 => q_lt ((x0_1001 &&& 858993459) + ((q_ush x0_1001 2) &&& 858993459)) (fun x0_1002 => q_lt ((x0_1002 + (q_ush x0_1002 4)) &&& 252645135) (fun x0_1003 => q_lt (x0_1003 + (q_ush x0_1003 8)) (fun x0_1004 => q_lt (x0_1004 + (q_ush x0_1004 16)) (fun x0_1005 => some (x0_1005 &&& 63))))))
set_option maxHeartbeats 4000000 in
set_option maxRecDepth 100000 in
theorem c_xInteger_bitCount (l : Launch) (G : XG) {x0 : Int32} {st : QSt} {ro : Int32} (hf : xInteger_bitCount x0 = some ro) : q_Mp l y_Integer_bitCount b_Integer_bitCount 1 .int ({ frames := 0, cells := 0, slots := 0, locals := 0 } : Room) G.1 (xT G) (wX G) [.int x0] st ro := by
  refine q_Mp_of (by decide) (Nat.le_of_ble_eq_true rfl) (wX_fst G) ?_
  intro p e s m args below meth c ls hC hr hlk hT hP hS hl
  have hx := hC.1.1
  have hb := hC.1.2.1
  have hown := hC.1.2.2.2.1
  have hts := hC.1.2.2.2.2
  have hl : lv_has ls 1 [(0, .int x0)] := hl
  unfold xInteger_bitCount at hf
  refine lv_iload_n hx hb d_Integer_bitCount_0 rfl (lv_at hl 0 rfl) ?_
  refine lv_iload_n hx hb d_Integer_bitCount_1 rfl (lv_at hl 0 rfl) ?_
  refine lv_iconst (v := 1) hx hb d_Integer_bitCount_2 (by decide) ?_
  refine lv_iushr (v := q_ush x0 1) hx hb d_Integer_bitCount_3 rfl ?_
  refine lv_ldcw (v := 1431655765) hx hb hown (hts _ wq_3) d_Integer_bitCount_4 ?_
  refine lv_iand hx hb d_Integer_bitCount_7 ?_
  refine lv_isub hx hb d_Integer_bitCount_8 ?_
  obtain ⟨x0_1001, e_x0_1001, hf⟩ := q_lt_some hf
  refine q_topi e_x0_1001 ?_
  refine lv_istore_n (lv' := [(0, .int x0_1001)]) hx hb d_Integer_bitCount_9 rfl hl (by decide) rfl (fun ls hl => ?_)
  refine lv_iload_n hx hb d_Integer_bitCount_10 rfl (lv_at hl 0 rfl) ?_
  refine lv_ldcw (v := 858993459) hx hb hown (hts _ wq_4) d_Integer_bitCount_11 ?_
  refine lv_iand hx hb d_Integer_bitCount_14 ?_
  refine lv_iload_n hx hb d_Integer_bitCount_15 rfl (lv_at hl 0 rfl) ?_
  refine lv_iconst (v := 2) hx hb d_Integer_bitCount_16 (by decide) ?_
  refine lv_iushr (v := q_ush x0_1001 2) hx hb d_Integer_bitCount_17 rfl ?_
  refine lv_ldcw (v := 858993459) hx hb hown (hts _ wq_4) d_Integer_bitCount_18 ?_
  refine lv_iand hx hb d_Integer_bitCount_21 ?_
  refine lv_iadd hx hb d_Integer_bitCount_22 ?_
  obtain ⟨x0_1002, e_x0_1002, hf⟩ := q_lt_some hf
  refine q_topi e_x0_1002 ?_
  refine lv_istore_n (lv' := [(0, .int x0_1002)]) hx hb d_Integer_bitCount_23 rfl hl (by decide) rfl (fun ls hl => ?_)
  refine lv_iload_n hx hb d_Integer_bitCount_24 rfl (lv_at hl 0 rfl) ?_
  refine lv_iload_n hx hb d_Integer_bitCount_25 rfl (lv_at hl 0 rfl) ?_
  refine lv_iconst (v := 4) hx hb d_Integer_bitCount_26 (by decide) ?_
  refine lv_iushr (v := q_ush x0_1002 4) hx hb d_Integer_bitCount_27 rfl ?_
  refine lv_iadd hx hb d_Integer_bitCount_28 ?_
  refine lv_ldcw (v := 252645135) hx hb hown (hts _ wq_5) d_Integer_bitCount_29 ?_
  refine lv_iand hx hb d_Integer_bitCount_32 ?_
  obtain ⟨x0_1003, e_x0_1003, hf⟩ := q_lt_some hf
  refine q_topi e_x0_1003 ?_
  refine lv_istore_n (lv' := [(0, .int x0_1003)]) hx hb d_Integer_bitCount_33 rfl hl (by decide) rfl (fun ls hl => ?_)
  refine lv_iload_n hx hb d_Integer_bitCount_34 rfl (lv_at hl 0 rfl) ?_
  refine lv_iload_n hx hb d_Integer_bitCount_35 rfl (lv_at hl 0 rfl) ?_
  refine lv_bipush (v := 8) hx hb d_Integer_bitCount_36 (by decide) ?_
  refine lv_iushr (v := q_ush x0_1003 8) hx hb d_Integer_bitCount_38 rfl ?_
  refine lv_iadd hx hb d_Integer_bitCount_39 ?_
  obtain ⟨x0_1004, e_x0_1004, hf⟩ := q_lt_some hf
  refine q_topi e_x0_1004 ?_
  refine lv_istore_n (lv' := [(0, .int x0_1004)]) hx hb d_Integer_bitCount_40 rfl hl (by decide) rfl (fun ls hl => ?_)
  refine lv_iload_n hx hb d_Integer_bitCount_41 rfl (lv_at hl 0 rfl) ?_
  refine lv_iload_n hx hb d_Integer_bitCount_42 rfl (lv_at hl 0 rfl) ?_
  refine lv_bipush (v := 16) hx hb d_Integer_bitCount_43 (by decide) ?_
  refine lv_iushr (v := q_ush x0_1004 16) hx hb d_Integer_bitCount_45 rfl ?_
  refine lv_iadd hx hb d_Integer_bitCount_46 ?_
  obtain ⟨x0_1005, e_x0_1005, hf⟩ := q_lt_some hf
  refine q_topi e_x0_1005 ?_
  refine lv_istore_n (lv' := [(0, .int x0_1005)]) hx hb d_Integer_bitCount_47 rfl hl (by decide) rfl (fun ls hl => ?_)
  refine lv_iload_n hx hb d_Integer_bitCount_48 rfl (lv_at hl 0 rfl) ?_
  refine lv_bipush (v := 63) hx hb d_Integer_bitCount_49 (by decide) ?_
  refine lv_iand hx hb d_Integer_bitCount_51 ?_
  exact q_iretP hC hr hlk hf (by first | rfl | decide) hS d_Integer_bitCount_52
def xInteger_compare (x0 x1 : Int32) : Option Int32 :=
  if x1 ≤ x0 then (if x0 = x1 then (some 0) else (some 1)) else (some (-1))
set_option maxHeartbeats 4000000 in
set_option maxRecDepth 100000 in
theorem c_xInteger_compare (l : Launch) (G : XG) {x0 x1 : Int32} {st : QSt} {ro : Int32} (hf : xInteger_compare x0 x1 = some ro) : q_Mp l y_Integer_compare b_Integer_compare 2 .int ({ frames := 0, cells := 0, slots := 0, locals := 0 } : Room) G.1 (xT G) (wX G) [.int x0, .int x1] st ro := by
  refine q_Mp_of (by decide) (Nat.le_of_ble_eq_true rfl) (wX_fst G) ?_
  intro p e s m args below meth c ls hC hr hlk hT hP hS hl
  have hx := hC.1.1
  have hb := hC.1.2.1
  have hown := hC.1.2.2.2.1
  have hts := hC.1.2.2.2.2
  have hl : lv_has ls 2 [(0, .int x0), (1, .int x1)] := hl
  unfold xInteger_compare at hf
  refine lv_iload_n hx hb d_Integer_compare_0 rfl (lv_at hl 0 rfl) ?_
  refine lv_iload_n hx hb d_Integer_compare_1 rfl (lv_at hl 1 rfl) ?_
  refine lv_icmp_ge (tgt := 9) hx hb d_Integer_compare_2 (by decide) (fun c1 => ?_) (fun c1 => ?_)
  rotate_left
  · rw [if_neg c1] at hf
    refine lv_iconst (v := (-1)) hx hb d_Integer_compare_5 (by decide) ?_
    refine lv_goto (tgt := 19) hx hb d_Integer_compare_6 (by decide) ?_
    exact q_iretP hC hr hlk hf (by first | rfl | decide) hS d_Integer_compare_19
  rw [if_pos c1] at hf
  refine lv_iload_n hx hb d_Integer_compare_9 rfl (lv_at hl 0 rfl) ?_
  refine lv_iload_n hx hb d_Integer_compare_10 rfl (lv_at hl 1 rfl) ?_
  refine lv_icmp_ne (tgt := 18) hx hb d_Integer_compare_11 (by decide) (fun c1 => ?_) (fun c1 => ?_)
  · rw [if_neg c1] at hf
    refine lv_iconst (v := 1) hx hb d_Integer_compare_18 (by decide) ?_
    exact q_iretP hC hr hlk hf (by first | rfl | decide) hS d_Integer_compare_19
  rw [if_pos c1] at hf
  refine lv_iconst (v := 0) hx hb d_Integer_compare_14 (by decide) ?_
  refine lv_goto (tgt := 19) hx hb d_Integer_compare_15 (by decide) ?_
  exact q_iretP hC hr hlk hf (by first | rfl | decide) hS d_Integer_compare_19
def xInteger_compareUnsigned (x0 x1 : Int32) : Option Int32 :=
  q_bn (xInteger_compare (x0 + (-2147483648)) (x1 + (-2147483648))) (fun r1 => some r1)
set_option maxHeartbeats 4000000 in
set_option maxRecDepth 100000 in
theorem c_xInteger_compareUnsigned (l : Launch) (G : XG) {x0 x1 : Int32} {st : QSt} {ro : Int32} (hf : xInteger_compareUnsigned x0 x1 = some ro) : q_Mp l y_Integer_compareUnsigned b_Integer_compareUnsigned 2 .int ({ frames := 1, cells := 0, slots := 0, locals := 21 } : Room) G.1 (xT G) (wX G) [.int x0, .int x1] st ro := by
  refine q_Mp_of (by decide) (Nat.le_of_ble_eq_true rfl) (wX_fst G) ?_
  intro p e s m args below meth c ls hC hr hlk hT hP hS hl
  have hx := hC.1.1
  have hb := hC.1.2.1
  have hown := hC.1.2.2.2.1
  have hts := hC.1.2.2.2.2
  have hl : lv_has ls 2 [(0, .int x0), (1, .int x1)] := hl
  unfold xInteger_compareUnsigned at hf
  refine lv_iload_n hx hb d_Integer_compareUnsigned_0 rfl (lv_at hl 0 rfl) ?_
  refine lv_ldc (v := (-2147483648)) hx hb hown (hts _ wq_6) d_Integer_compareUnsigned_1 ?_
  refine lv_iadd hx hb d_Integer_compareUnsigned_3 ?_
  refine lv_iload_n hx hb d_Integer_compareUnsigned_4 rfl (lv_at hl 1 rfl) ?_
  refine lv_ldc (v := (-2147483648)) hx hb hown (hts _ wq_6) d_Integer_compareUnsigned_5 ?_
  refine lv_iadd hx hb d_Integer_compareUnsigned_7 ?_
  obtain ⟨r1, h_r1, hf⟩ := q_bn_some hf
  refine q_callSp (As := [.int (x0 + (-2147483648)), .int (x1 + (-2147483648))]) (rest := []) hC (c_xInteger_compare l G h_r1) cal_Integer_compare wq_7 ⟨rfl, rfl, Nat.le_of_ble_eq_true rfl, Nat.le_of_ble_eq_true rfl⟩ hP hT hS rfl hl.1 rfl (Nat.le_of_ble_eq_true rfl) d_Integer_compareUnsigned_8 (fun H locs hP hS => ?_)
  exact q_iretP hC hr hlk hf (by first | rfl | decide) hS d_Integer_compareUnsigned_11
