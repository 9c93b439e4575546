def xLoader_headAsSaid (st : QSt) : Option Int32 :=
  q_bn (xTable_lies 0 10 st) (fun r1 => if r1 = 0 then (some 0) else (q_bn (xTable_u16 0 st) (fun r2 => if r2 = 1 then (q_bn (xTable_u16 2 st) (fun r3 => if r3 = 0 then (q_bn (xTable_u16 4 st) (fun r4 => if r4 = 0 then (some 0) else (q_bn (xTable_u16 6 st) (fun r5 => if r5 = 0 then (some 0) else (q_bn (xTable_u16 8 st) (fun r6 => if r6 = 0 then (some 0) else (some 1))))))) else (some 0))) else (some 0))))
set_option maxHeartbeats 4000000 in
set_option maxRecDepth 100000 in
theorem c_xLoader_headAsSaid (l : Launch) (G : XG) {st : QSt} {ro : Int32} (hf : xLoader_headAsSaid st = some ro) : q_Mp l y_Loader_headAsSaid b_Loader_headAsSaid 1 .boolean ({ frames := 1, cells := 0, slots := 0, locals := 22 } : Room) G.1 (xT G) (wX G) [.ref (G.2.2 5)] st ro := by
  refine q_Mp_of (by decide) (Nat.le_of_ble_eq_true rfl) (wX_fst G) ?_
  intro p e s m args below meth c ls hC hr hlk hT hP hS hl
  have hx := hC.1.1
  have hb := hC.1.2.1
  have hown := hC.1.2.2.2.1
  have hts := hC.1.2.2.2.2
  have hl : lv_has ls 1 [(0, .ref (G.2.2 5))] := hl
  unfold xLoader_headAsSaid at hf
  refine lv_aload_n hx hb d_Loader_headAsSaid_0 rfl (lv_at hl 0 rfl) ?_
  refine xg_5_table hC hP wq_8 d_Loader_headAsSaid_1 ?_
  refine lv_iconst (v := 0) hx hb d_Loader_headAsSaid_4 (by decide) ?_
  refine lv_bipush (v := 10) hx hb d_Loader_headAsSaid_5 (by decide) ?_
  obtain ⟨r1, h_r1, hf⟩ := q_bn_some hf
  refine q_callVp (As := [.int 0, .int 10]) (rest := []) (q0 := 1) hC (c_xTable_lies l G h_r1) cal_Table_lies wq_9 ⟨rfl, rfl, Nat.le_of_ble_eq_true rfl, Nat.le_of_ble_eq_true rfl⟩ rfl rfl hP hT hS rfl hl.1 rfl (Nat.le_of_ble_eq_true rfl) d_Loader_headAsSaid_7 (fun H locs hP hS => ?_)
  refine lv_if_eq (tgt := 75) hx hb d_Loader_headAsSaid_10 (by decide) (fun c1 => ?_) (fun c1 => ?_)
  · rw [if_pos c1] at hf
    refine lv_iconst (v := 0) hx hb d_Loader_headAsSaid_75 (by decide) ?_
    exact q_iretP hC hr hlk hf (by first | rfl | decide) hS d_Loader_headAsSaid_76
  rw [if_neg c1] at hf
  refine lv_aload_n hx hb d_Loader_headAsSaid_13 rfl (lv_at hl 0 rfl) ?_
  refine xg_5_table hC hP wq_8 d_Loader_headAsSaid_14 ?_
  refine lv_iconst (v := 0) hx hb d_Loader_headAsSaid_17 (by decide) ?_
  obtain ⟨r2, h_r2, hf⟩ := q_bn_some hf
  refine q_callVp (As := [.int 0]) (rest := []) (q0 := 1) hC (c_xTable_u16 l G h_r2) cal_Table_u16 wq_10 ⟨rfl, rfl, Nat.le_of_ble_eq_true rfl, Nat.le_of_ble_eq_true rfl⟩ rfl rfl hP hT hS rfl hl.1 rfl (Nat.le_of_ble_eq_true rfl) d_Loader_headAsSaid_18 (fun H locs hP hS => ?_)
  refine lv_iconst (v := 1) hx hb d_Loader_headAsSaid_21 (by decide) ?_
  refine lv_icmp_ne (tgt := 75) hx hb d_Loader_headAsSaid_22 (by decide) (fun c1 => ?_) (fun c1 => ?_)
  · rw [if_neg c1] at hf
    refine lv_iconst (v := 0) hx hb d_Loader_headAsSaid_75 (by decide) ?_
    exact q_iretP hC hr hlk hf (by first | rfl | decide) hS d_Loader_headAsSaid_76
  rw [if_pos c1] at hf
  refine lv_aload_n hx hb d_Loader_headAsSaid_25 rfl (lv_at hl 0 rfl) ?_
  refine xg_5_table hC hP wq_8 d_Loader_headAsSaid_26 ?_
  refine lv_iconst (v := 2) hx hb d_Loader_headAsSaid_29 (by decide) ?_
  obtain ⟨r3, h_r3, hf⟩ := q_bn_some hf
  refine q_callVp (As := [.int 2]) (rest := []) (q0 := 1) hC (c_xTable_u16 l G h_r3) cal_Table_u16 wq_10 ⟨rfl, rfl, Nat.le_of_ble_eq_true rfl, Nat.le_of_ble_eq_true rfl⟩ rfl rfl hP hT hS rfl hl.1 rfl (Nat.le_of_ble_eq_true rfl) d_Loader_headAsSaid_30 (fun H locs hP hS => ?_)
  refine lv_if_ne (tgt := 75) hx hb d_Loader_headAsSaid_33 (by decide) (fun c1 => ?_) (fun c1 => ?_)
  · rw [if_neg c1] at hf
    refine lv_iconst (v := 0) hx hb d_Loader_headAsSaid_75 (by decide) ?_
    exact q_iretP hC hr hlk hf (by first | rfl | decide) hS d_Loader_headAsSaid_76
  rw [if_pos c1] at hf
  refine lv_aload_n hx hb d_Loader_headAsSaid_36 rfl (lv_at hl 0 rfl) ?_
  refine xg_5_table hC hP wq_8 d_Loader_headAsSaid_37 ?_
  refine lv_iconst (v := 4) hx hb d_Loader_headAsSaid_40 (by decide) ?_
  obtain ⟨r4, h_r4, hf⟩ := q_bn_some hf
  refine q_callVp (As := [.int 4]) (rest := []) (q0 := 1) hC (c_xTable_u16 l G h_r4) cal_Table_u16 wq_10 ⟨rfl, rfl, Nat.le_of_ble_eq_true rfl, Nat.le_of_ble_eq_true rfl⟩ rfl rfl hP hT hS rfl hl.1 rfl (Nat.le_of_ble_eq_true rfl) d_Loader_headAsSaid_41 (fun H locs hP hS => ?_)
  refine lv_if_eq (tgt := 75) hx hb d_Loader_headAsSaid_44 (by decide) (fun c1 => ?_) (fun c1 => ?_)
  · rw [if_pos c1] at hf
    refine lv_iconst (v := 0) hx hb d_Loader_headAsSaid_75 (by decide) ?_
    exact q_iretP hC hr hlk hf (by first | rfl | decide) hS d_Loader_headAsSaid_76
  rw [if_neg c1] at hf
  refine lv_aload_n hx hb d_Loader_headAsSaid_47 rfl (lv_at hl 0 rfl) ?_
  refine xg_5_table hC hP wq_8 d_Loader_headAsSaid_48 ?_
  refine lv_bipush (v := 6) hx hb d_Loader_headAsSaid_51 (by decide) ?_
  obtain ⟨r5, h_r5, hf⟩ := q_bn_some hf
  refine q_callVp (As := [.int 6]) (rest := []) (q0 := 1) hC (c_xTable_u16 l G h_r5) cal_Table_u16 wq_10 ⟨rfl, rfl, Nat.le_of_ble_eq_true rfl, Nat.le_of_ble_eq_true rfl⟩ rfl rfl hP hT hS rfl hl.1 rfl (Nat.le_of_ble_eq_true rfl) d_Loader_headAsSaid_53 (fun H locs hP hS => ?_)
  refine lv_if_eq (tgt := 75) hx hb d_Loader_headAsSaid_56 (by decide) (fun c1 => ?_) (fun c1 => ?_)
  · rw [if_pos c1] at hf
    refine lv_iconst (v := 0) hx hb d_Loader_headAsSaid_75 (by decide) ?_
    exact q_iretP hC hr hlk hf (by first | rfl | decide) hS d_Loader_headAsSaid_76
  rw [if_neg c1] at hf
  refine lv_aload_n hx hb d_Loader_headAsSaid_59 rfl (lv_at hl 0 rfl) ?_
  refine xg_5_table hC hP wq_8 d_Loader_headAsSaid_60 ?_
  refine lv_bipush (v := 8) hx hb d_Loader_headAsSaid_63 (by decide) ?_
  obtain ⟨r6, h_r6, hf⟩ := q_bn_some hf
  refine q_callVp (As := [.int 8]) (rest := []) (q0 := 1) hC (c_xTable_u16 l G h_r6) cal_Table_u16 wq_10 ⟨rfl, rfl, Nat.le_of_ble_eq_true rfl, Nat.le_of_ble_eq_true rfl⟩ rfl rfl hP hT hS rfl hl.1 rfl (Nat.le_of_ble_eq_true rfl) d_Loader_headAsSaid_65 (fun H locs hP hS => ?_)
  refine lv_if_eq (tgt := 75) hx hb d_Loader_headAsSaid_68 (by decide) (fun c1 => ?_) (fun c1 => ?_)
  · rw [if_pos c1] at hf
    refine lv_iconst (v := 0) hx hb d_Loader_headAsSaid_75 (by decide) ?_
    exact q_iretP hC hr hlk hf (by first | rfl | decide) hS d_Loader_headAsSaid_76
  rw [if_neg c1] at hf
  refine lv_iconst (v := 1) hx hb d_Loader_headAsSaid_71 (by decide) ?_
  refine lv_goto (tgt := 76) hx hb d_Loader_headAsSaid_72 (by decide) ?_
  exact q_iretP hC hr hlk hf (by first | rfl | decide) hS d_Loader_headAsSaid_76
def xLoader_listLies (x1 x2 x3 : Int32) (st : QSt) : Option Int32 :=
  q_bn (xTable_lies x1 2 st) (fun r1 => if r1 = 0 then (some 0) else (q_bn (xTable_u16 x1 st) (fun r2 => if x2 < r2 then (some 0) else (q_bn (xTable_lies (x1 + 2) (r2 * x3) st) (fun r3 => if r3 = 0 then (some 0) else (some 1))))))
set_option maxHeartbeats 4000000 in
set_option maxRecDepth 100000 in
theorem c_xLoader_listLies (l : Launch) (G : XG) {x1 x2 x3 : Int32} {st : QSt} {ro : Int32} (hf : xLoader_listLies x1 x2 x3 st = some ro) : q_Mp l y_Loader_listLies b_Loader_listLies 5 .boolean ({ frames := 1, cells := 0, slots := 0, locals := 22 } : Room) G.1 (xT G) (wX G) [.ref (G.2.2 5), .int x1, .int x2, .int x3] st ro := by
  refine q_Mp_of (by decide) (Nat.le_of_ble_eq_true rfl) (wX_fst G) ?_
  intro p e s m args below meth c ls hC hr hlk hT hP hS hl
  have hx := hC.1.1
  have hb := hC.1.2.1
  have hown := hC.1.2.2.2.1
  have hts := hC.1.2.2.2.2
  have hl : lv_has ls 5 [(0, .ref (G.2.2 5)), (1, .int x1), (2, .int x2), (3, .int x3)] := hl
  unfold xLoader_listLies at hf
  refine lv_aload_n hx hb d_Loader_listLies_0 rfl (lv_at hl 0 rfl) ?_
  refine xg_5_table hC hP wq_8 d_Loader_listLies_1 ?_
  refine lv_iload_n hx hb d_Loader_listLies_4 rfl (lv_at hl 1 rfl) ?_
  refine lv_iconst (v := 2) hx hb d_Loader_listLies_5 (by decide) ?_
  obtain ⟨r1, h_r1, hf⟩ := q_bn_some hf
  refine q_callVp (As := [.int x1, .int 2]) (rest := []) (q0 := 1) hC (c_xTable_lies l G h_r1) cal_Table_lies wq_9 ⟨rfl, rfl, Nat.le_of_ble_eq_true rfl, Nat.le_of_ble_eq_true rfl⟩ rfl rfl hP hT hS rfl hl.1 rfl (Nat.le_of_ble_eq_true rfl) d_Loader_listLies_6 (fun H locs hP hS => ?_)
  refine lv_if_ne (tgt := 14) hx hb d_Loader_listLies_9 (by decide) (fun c1 => ?_) (fun c1 => ?_)
  rotate_left
  · rw [if_pos c1] at hf
    refine lv_iconst (v := 0) hx hb d_Loader_listLies_12 (by decide) ?_
    exact q_iretP hC hr hlk hf (by first | rfl | decide) hS d_Loader_listLies_13
  rw [if_neg c1] at hf
  refine lv_aload_n hx hb d_Loader_listLies_14 rfl (lv_at hl 0 rfl) ?_
  refine xg_5_table hC hP wq_8 d_Loader_listLies_15 ?_
  refine lv_iload_n hx hb d_Loader_listLies_18 rfl (lv_at hl 1 rfl) ?_
  obtain ⟨r2, h_r2, hf⟩ := q_bn_some hf
  refine q_callVp (As := [.int x1]) (rest := []) (q0 := 1) hC (c_xTable_u16 l G h_r2) cal_Table_u16 wq_10 ⟨rfl, rfl, Nat.le_of_ble_eq_true rfl, Nat.le_of_ble_eq_true rfl⟩ rfl rfl hP hT hS rfl hl.1 rfl (Nat.le_of_ble_eq_true rfl) d_Loader_listLies_19 (fun H locs hP hS => ?_)
  refine lv_istore (lv' := [(4, .int r2), (0, .ref (G.2.2 5)), (1, .int x1), (2, .int x2), (3, .int x3)]) hx hb d_Loader_listLies_22 hl (by decide) rfl (fun ls hl => ?_)
  refine lv_iload hx hb d_Loader_listLies_24 (lv_at hl 0 rfl) ?_
  refine lv_iload_n hx hb d_Loader_listLies_26 rfl (lv_at hl 3 rfl) ?_
  refine lv_icmp_gt (tgt := 51) hx hb d_Loader_listLies_27 (by decide) (fun c1 => ?_) (fun c1 => ?_)
  · rw [if_pos c1] at hf
    refine lv_iconst (v := 0) hx hb d_Loader_listLies_51 (by decide) ?_
    exact q_iretP hC hr hlk hf (by first | rfl | decide) hS d_Loader_listLies_52
  rw [if_neg c1] at hf
  refine lv_aload_n hx hb d_Loader_listLies_30 rfl (lv_at hl 1 rfl) ?_
  refine xg_5_table hC hP wq_8 d_Loader_listLies_31 ?_
  refine lv_iload_n hx hb d_Loader_listLies_34 rfl (lv_at hl 2 rfl) ?_
  refine lv_iconst (v := 2) hx hb d_Loader_listLies_35 (by decide) ?_
  refine lv_iadd hx hb d_Loader_listLies_36 ?_
  refine lv_iload hx hb d_Loader_listLies_37 (lv_at hl 0 rfl) ?_
  refine lv_iload_n hx hb d_Loader_listLies_39 rfl (lv_at hl 4 rfl) ?_
  refine lv_imul hx hb d_Loader_listLies_40 ?_
  obtain ⟨r3, h_r3, hf⟩ := q_bn_some hf
  refine q_callVp (As := [.int (x1 + 2), .int (r2 * x3)]) (rest := []) (q0 := 1) hC (c_xTable_lies l G h_r3) cal_Table_lies wq_9 ⟨rfl, rfl, Nat.le_of_ble_eq_true rfl, Nat.le_of_ble_eq_true rfl⟩ rfl rfl hP hT hS rfl hl.1 rfl (Nat.le_of_ble_eq_true rfl) d_Loader_listLies_41 (fun H locs hP hS => ?_)
  refine lv_if_eq (tgt := 51) hx hb d_Loader_listLies_44 (by decide) (fun c1 => ?_) (fun c1 => ?_)
  · rw [if_pos c1] at hf
    refine lv_iconst (v := 0) hx hb d_Loader_listLies_51 (by decide) ?_
    exact q_iretP hC hr hlk hf (by first | rfl | decide) hS d_Loader_listLies_52
  rw [if_neg c1] at hf
  refine lv_iconst (v := 1) hx hb d_Loader_listLies_47 (by decide) ?_
  refine lv_goto (tgt := 52) hx hb d_Loader_listLies_48 (by decide) ?_
  exact q_iretP hC hr hlk hf (by first | rfl | decide) hS d_Loader_listLies_52
def xLoader_tagsAsSaid_26 (N : Nat) (st : QSt) (x1_26 x2_26 x3_26 : Int32) : Nat → Int32 → Option Int32
  | 0, _ => none
  | n_26 + 1, x4_26 => if x3_26 ≤ x4_26 then (some 1) else (q_bn (xTable_u32 ((x1_26 + 2) + (6 * x4_26)) st) (fun r3 => q_bn (xTable_u32 ((x1_26 - 4) + (6 * x4_26)) st) (fun r4 => q_bn (xInteger_compareUnsigned r3 r4) (fun r5 => if r5 < 0 then (some 0) else (if r5 = 0 then (if x2_26 = 0 then (some 0) else (xLoader_tagsAsSaid_26 N st x1_26 x2_26 x3_26 n_26 (x4_26 + 1))) else (xLoader_tagsAsSaid_26 N st x1_26 x2_26 x3_26 n_26 (x4_26 + 1)))))))
def xLoader_tagsAsSaid (N : Nat) (x1 x2 : Int32) (st : QSt) : Option Int32 :=
  q_bn (xLoader_listLies x1 64 6 st) (fun r1 => if r1 = 0 then (some 0) else (q_bn (xTable_u16 x1 st) (fun r2 => xLoader_tagsAsSaid_26 N st x1 x2 r2 N 1)))
set_option maxHeartbeats 4000000 in
set_option maxRecDepth 100000 in
theorem c_xLoader_tagsAsSaid (l : Launch) (G : XG) {N : Nat} {x1 x2 : Int32} {st : QSt} {ro : Int32} (hf : xLoader_tagsAsSaid N x1 x2 st = some ro) : q_Mp l y_Loader_tagsAsSaid b_Loader_tagsAsSaid 6 .boolean ({ frames := 2, cells := 0, slots := 0, locals := 46 } : Room) G.1 (xT G) (wX G) [.ref (G.2.2 5), .int x1, .int x2] st ro := by
  refine q_Mp_of (by decide) (Nat.le_of_ble_eq_true rfl) (wX_fst G) ?_
  intro p e s m args below meth c ls hC hr hlk hT hP hS hl
  have hx := hC.1.1
  have hb := hC.1.2.1
  have hown := hC.1.2.2.2.1
  have hts := hC.1.2.2.2.2
  have hl : lv_has ls 6 [(0, .ref (G.2.2 5)), (1, .int x1), (2, .int x2)] := hl
  have L_26 : ∀ (x1_26 x2_26 x3_26 : Int32) (n_26 : Nat) (x4_26 : Int32) (H : Heap) (locs : List Loc) (ls : Array Slot), xLoader_tagsAsSaid_26 N st x1_26 x2_26 x3_26 n_26 x4_26 = some ro → va_P G.1 vwCl (wX G st) H → va_S (fun _ => False) s.heap H locs → lv_has ls 6 [(0, .ref (G.2.2 5)), (1, .int x1_26), (2, .int x2_26), (3, .int x3_26), (4, .int x4_26)] → W p l e ({ frames := 2, cells := 0, slots := 0, locals := 46 } : Room) s m args below meth c H locs 0 0 (q_Zp below args s ro) (F0 m 26 ls []) := by
    intro x1_26 x2_26 x3_26 n_26
    induction n_26 with
    | zero => intro _ _ _ _ hf; exact absurd hf (by simp [xLoader_tagsAsSaid_26])
    | succ n_26 ih_26 =>
      intro x4_26 H locs ls hf hP hS hl
      rw [xLoader_tagsAsSaid_26] at hf
      refine lv_iload hx hb d_Loader_tagsAsSaid_26 (lv_at hl 4 rfl) ?_
      refine lv_iload_n hx hb d_Loader_tagsAsSaid_28 rfl (lv_at hl 3 rfl) ?_
      refine lv_icmp_ge (tgt := 91) hx hb d_Loader_tagsAsSaid_29 (by decide) (fun c1 => ?_) (fun c1 => ?_)
      · rw [if_pos c1] at hf
        refine lv_iconst (v := 1) hx hb d_Loader_tagsAsSaid_91 (by decide) ?_
        exact q_iretP hC hr hlk hf (by first | rfl | decide) hS d_Loader_tagsAsSaid_92
      rw [if_neg c1] at hf
      refine lv_aload_n hx hb d_Loader_tagsAsSaid_32 rfl (lv_at hl 0 rfl) ?_
      refine xg_5_table hC hP wq_8 d_Loader_tagsAsSaid_33 ?_
      refine lv_iload_n hx hb d_Loader_tagsAsSaid_36 rfl (lv_at hl 1 rfl) ?_
      refine lv_iconst (v := 2) hx hb d_Loader_tagsAsSaid_37 (by decide) ?_
      refine lv_iadd hx hb d_Loader_tagsAsSaid_38 ?_
      refine lv_bipush (v := 6) hx hb d_Loader_tagsAsSaid_39 (by decide) ?_
      refine lv_iload hx hb d_Loader_tagsAsSaid_41 (lv_at hl 4 rfl) ?_
      refine lv_imul hx hb d_Loader_tagsAsSaid_43 ?_
      refine lv_iadd hx hb d_Loader_tagsAsSaid_44 ?_
      obtain ⟨r3, h_r3, hf⟩ := q_bn_some hf
      refine q_callVp (As := [.int ((x1_26 + 2) + (6 * x4_26))]) (rest := []) (q0 := 1) hC (c_xTable_u32 l G h_r3) cal_Table_u32 wq_11 ⟨rfl, rfl, Nat.le_of_ble_eq_true rfl, Nat.le_of_ble_eq_true rfl⟩ rfl rfl hP hT hS rfl hl.1 rfl (Nat.le_of_ble_eq_true rfl) d_Loader_tagsAsSaid_45 (fun H locs hP hS => ?_)
      refine lv_aload_n hx hb d_Loader_tagsAsSaid_48 rfl (lv_at hl 0 rfl) ?_
      refine xg_5_table hC hP wq_8 d_Loader_tagsAsSaid_49 ?_
      refine lv_iload_n hx hb d_Loader_tagsAsSaid_52 rfl (lv_at hl 1 rfl) ?_
      refine lv_iconst (v := 4) hx hb d_Loader_tagsAsSaid_53 (by decide) ?_
      refine lv_isub hx hb d_Loader_tagsAsSaid_54 ?_
      refine lv_bipush (v := 6) hx hb d_Loader_tagsAsSaid_55 (by decide) ?_
      refine lv_iload hx hb d_Loader_tagsAsSaid_57 (lv_at hl 4 rfl) ?_
      refine lv_imul hx hb d_Loader_tagsAsSaid_59 ?_
      refine lv_iadd hx hb d_Loader_tagsAsSaid_60 ?_
      obtain ⟨r4, h_r4, hf⟩ := q_bn_some hf
      refine q_callVp (As := [.int ((x1_26 - 4) + (6 * x4_26))]) (rest := [.int r3]) (q0 := 1) hC (c_xTable_u32 l G h_r4) cal_Table_u32 wq_11 ⟨rfl, rfl, Nat.le_of_ble_eq_true rfl, Nat.le_of_ble_eq_true rfl⟩ rfl rfl hP hT hS rfl hl.1 rfl (Nat.le_of_ble_eq_true rfl) d_Loader_tagsAsSaid_61 (fun H locs hP hS => ?_)
      obtain ⟨r5, h_r5, hf⟩ := q_bn_some hf
      refine q_callSp (As := [.int r3, .int r4]) (rest := []) hC (c_xInteger_compareUnsigned l G h_r5) cal_Integer_compareUnsigned wq_12 ⟨rfl, rfl, Nat.le_of_ble_eq_true rfl, Nat.le_of_ble_eq_true rfl⟩ hP hT hS rfl hl.1 rfl (Nat.le_of_ble_eq_true rfl) d_Loader_tagsAsSaid_64 (fun H locs hP hS => ?_)
      refine lv_istore (lv' := [(5, .int r5), (0, .ref (G.2.2 5)), (1, .int x1_26), (2, .int x2_26), (3, .int x3_26), (4, .int x4_26)]) hx hb d_Loader_tagsAsSaid_67 hl (by decide) rfl (fun ls hl => ?_)
      refine lv_iload hx hb d_Loader_tagsAsSaid_69 (lv_at hl 0 rfl) ?_
      refine lv_if_lt (tgt := 83) hx hb d_Loader_tagsAsSaid_71 (by decide) (fun c1 => ?_) (fun c1 => ?_)
      · rw [if_pos c1] at hf
        refine lv_iconst (v := 0) hx hb d_Loader_tagsAsSaid_83 (by decide) ?_
        exact q_iretP hC hr hlk hf (by first | rfl | decide) hS d_Loader_tagsAsSaid_84
      rw [if_neg c1] at hf
      refine lv_iload hx hb d_Loader_tagsAsSaid_74 (lv_at hl 0 rfl) ?_
      refine lv_if_ne (tgt := 85) hx hb d_Loader_tagsAsSaid_76 (by decide) (fun c1 => ?_) (fun c1 => ?_)
      · rw [if_neg c1] at hf
        refine lv_iinc (v := x4_26 + 1) (lv' := [(4, .int (x4_26 + 1)), (5, .int r5), (0, .ref (G.2.2 5)), (1, .int x1_26), (2, .int x2_26), (3, .int x3_26)]) hx hb d_Loader_tagsAsSaid_85 hl (k := 5) rfl rfl (by decide) rfl (fun ls hl => ?_)
        refine lv_goto (tgt := 26) hx hb d_Loader_tagsAsSaid_88 (by decide) ?_
        exact ih_26 _ _ _ _ hf hP hS (lv_sub hl [2, 3, 4, 5, 0] rfl)
      rw [if_pos c1] at hf
      refine lv_iload_n hx hb d_Loader_tagsAsSaid_79 rfl (lv_at hl 3 rfl) ?_
      refine lv_if_ne (tgt := 85) hx hb d_Loader_tagsAsSaid_80 (by decide) (fun c1 => ?_) (fun c1 => ?_)
      rotate_left
      · rw [if_pos c1] at hf
        refine lv_iconst (v := 0) hx hb d_Loader_tagsAsSaid_83 (by decide) ?_
        exact q_iretP hC hr hlk hf (by first | rfl | decide) hS d_Loader_tagsAsSaid_84
      rw [if_neg c1] at hf
      refine lv_iinc (v := x4_26 + 1) (lv' := [(4, .int (x4_26 + 1)), (5, .int r5), (0, .ref (G.2.2 5)), (1, .int x1_26), (2, .int x2_26), (3, .int x3_26)]) hx hb d_Loader_tagsAsSaid_85 hl (k := 5) rfl rfl (by decide) rfl (fun ls hl => ?_)
      refine lv_goto (tgt := 26) hx hb d_Loader_tagsAsSaid_88 (by decide) ?_
      exact ih_26 _ _ _ _ hf hP hS (lv_sub hl [2, 3, 4, 5, 0] rfl)
  unfold xLoader_tagsAsSaid at hf
  refine lv_aload_n hx hb d_Loader_tagsAsSaid_0 rfl (lv_at hl 0 rfl) ?_
  refine lv_iload_n hx hb d_Loader_tagsAsSaid_1 rfl (lv_at hl 1 rfl) ?_
  refine lv_bipush (v := 64) hx hb d_Loader_tagsAsSaid_2 (by decide) ?_
  refine lv_bipush (v := 6) hx hb d_Loader_tagsAsSaid_4 (by decide) ?_
  obtain ⟨r1, h_r1, hf⟩ := q_bn_some hf
  refine q_callVp (As := [.int x1, .int 64, .int 6]) (rest := []) (q0 := 5) hC (c_xLoader_listLies l G h_r1) cal_Loader_listLies wq_13 ⟨rfl, rfl, Nat.le_of_ble_eq_true rfl, Nat.le_of_ble_eq_true rfl⟩ rfl rfl hP hT hS rfl hl.1 rfl (Nat.le_of_ble_eq_true rfl) d_Loader_tagsAsSaid_6 (fun H locs hP hS => ?_)
  refine lv_if_ne (tgt := 14) hx hb d_Loader_tagsAsSaid_9 (by decide) (fun c1 => ?_) (fun c1 => ?_)
  rotate_left
  · rw [if_pos c1] at hf
    refine lv_iconst (v := 0) hx hb d_Loader_tagsAsSaid_12 (by decide) ?_
    exact q_iretP hC hr hlk hf (by first | rfl | decide) hS d_Loader_tagsAsSaid_13
  rw [if_neg c1] at hf
  refine lv_aload_n hx hb d_Loader_tagsAsSaid_14 rfl (lv_at hl 0 rfl) ?_
  refine xg_5_table hC hP wq_8 d_Loader_tagsAsSaid_15 ?_
  refine lv_iload_n hx hb d_Loader_tagsAsSaid_18 rfl (lv_at hl 1 rfl) ?_
  obtain ⟨r2, h_r2, hf⟩ := q_bn_some hf
  refine q_callVp (As := [.int x1]) (rest := []) (q0 := 1) hC (c_xTable_u16 l G h_r2) cal_Table_u16 wq_10 ⟨rfl, rfl, Nat.le_of_ble_eq_true rfl, Nat.le_of_ble_eq_true rfl⟩ rfl rfl hP hT hS rfl hl.1 rfl (Nat.le_of_ble_eq_true rfl) d_Loader_tagsAsSaid_19 (fun H locs hP hS => ?_)
  refine lv_istore_n (lv' := [(3, .int r2), (0, .ref (G.2.2 5)), (1, .int x1), (2, .int x2)]) hx hb d_Loader_tagsAsSaid_22 rfl hl (by decide) rfl (fun ls hl => ?_)
  refine lv_iconst (v := 1) hx hb d_Loader_tagsAsSaid_23 (by decide) ?_
  refine lv_istore (lv' := [(4, .int 1), (3, .int r2), (0, .ref (G.2.2 5)), (1, .int x1), (2, .int x2)]) hx hb d_Loader_tagsAsSaid_24 hl (by decide) rfl (fun ls hl => ?_)
  exact L_26 _ _ _ _ _ _ _ _ hf hP hS (lv_sub hl [2, 3, 4, 1, 0] rfl)
def xLoader_numbersAsSaid_25 (N : Nat) (st : QSt) (x1_25 x2_25 x3_25 : Int32) : Nat → Int32 → Option Int32
  | 0, _ => none
  | n_25 + 1, x4_25 => if x3_25 ≤ x4_25 then (some 1) else (q_bn (xTable_u16 ((x1_25 + 2) + (2 * x4_25)) st) (fun r3 => if r3 < x2_25 then (xLoader_numbersAsSaid_25 N st x1_25 x2_25 x3_25 n_25 (x4_25 + 1)) else (some 0)))
def xLoader_numbersAsSaid (N : Nat) (x1 x2 : Int32) (st : QSt) : Option Int32 :=
  q_bn (xLoader_listLies x1 64 2 st) (fun r1 => if r1 = 0 then (some 0) else (q_bn (xTable_u16 x1 st) (fun r2 => xLoader_numbersAsSaid_25 N st x1 x2 r2 N 0)))
set_option maxHeartbeats 4000000 in
set_option maxRecDepth 100000 in
theorem c_xLoader_numbersAsSaid (l : Launch) (G : XG) {N : Nat} {x1 x2 : Int32} {st : QSt} {ro : Int32} (hf : xLoader_numbersAsSaid N x1 x2 st = some ro) : q_Mp l y_Loader_numbersAsSaid b_Loader_numbersAsSaid 5 .boolean ({ frames := 2, cells := 0, slots := 0, locals := 46 } : Room) G.1 (xT G) (wX G) [.ref (G.2.2 5), .int x1, .int x2] st ro := by
  refine q_Mp_of (by decide) (Nat.le_of_ble_eq_true rfl) (wX_fst G) ?_
  intro p e s m args below meth c ls hC hr hlk hT hP hS hl
  have hx := hC.1.1
  have hb := hC.1.2.1
  have hown := hC.1.2.2.2.1
  have hts := hC.1.2.2.2.2
  have hl : lv_has ls 5 [(0, .ref (G.2.2 5)), (1, .int x1), (2, .int x2)] := hl
  have L_25 : ∀ (x1_25 x2_25 x3_25 : Int32) (n_25 : Nat) (x4_25 : Int32) (H : Heap) (locs : List Loc) (ls : Array Slot), xLoader_numbersAsSaid_25 N st x1_25 x2_25 x3_25 n_25 x4_25 = some ro → va_P G.1 vwCl (wX G st) H → va_S (fun _ => False) s.heap H locs → lv_has ls 5 [(0, .ref (G.2.2 5)), (1, .int x1_25), (2, .int x2_25), (3, .int x3_25), (4, .int x4_25)] → W p l e ({ frames := 2, cells := 0, slots := 0, locals := 46 } : Room) s m args below meth c H locs 0 0 (q_Zp below args s ro) (F0 m 25 ls []) := by
    intro x1_25 x2_25 x3_25 n_25
    induction n_25 with
    | zero => intro _ _ _ _ hf; exact absurd hf (by simp [xLoader_numbersAsSaid_25])
    | succ n_25 ih_25 =>
      intro x4_25 H locs ls hf hP hS hl
      rw [xLoader_numbersAsSaid_25] at hf
      refine lv_iload hx hb d_Loader_numbersAsSaid_25 (lv_at hl 4 rfl) ?_
      refine lv_iload_n hx hb d_Loader_numbersAsSaid_27 rfl (lv_at hl 3 rfl) ?_
      refine lv_icmp_ge (tgt := 58) hx hb d_Loader_numbersAsSaid_28 (by decide) (fun c1 => ?_) (fun c1 => ?_)
      · rw [if_pos c1] at hf
        refine lv_iconst (v := 1) hx hb d_Loader_numbersAsSaid_58 (by decide) ?_
        exact q_iretP hC hr hlk hf (by first | rfl | decide) hS d_Loader_numbersAsSaid_59
      rw [if_neg c1] at hf
      refine lv_aload_n hx hb d_Loader_numbersAsSaid_31 rfl (lv_at hl 0 rfl) ?_
      refine xg_5_table hC hP wq_8 d_Loader_numbersAsSaid_32 ?_
      refine lv_iload_n hx hb d_Loader_numbersAsSaid_35 rfl (lv_at hl 1 rfl) ?_
      refine lv_iconst (v := 2) hx hb d_Loader_numbersAsSaid_36 (by decide) ?_
      refine lv_iadd hx hb d_Loader_numbersAsSaid_37 ?_
      refine lv_iconst (v := 2) hx hb d_Loader_numbersAsSaid_38 (by decide) ?_
      refine lv_iload hx hb d_Loader_numbersAsSaid_39 (lv_at hl 4 rfl) ?_
      refine lv_imul hx hb d_Loader_numbersAsSaid_41 ?_
      refine lv_iadd hx hb d_Loader_numbersAsSaid_42 ?_
      obtain ⟨r3, h_r3, hf⟩ := q_bn_some hf
      refine q_callVp (As := [.int ((x1_25 + 2) + (2 * x4_25))]) (rest := []) (q0 := 1) hC (c_xTable_u16 l G h_r3) cal_Table_u16 wq_10 ⟨rfl, rfl, Nat.le_of_ble_eq_true rfl, Nat.le_of_ble_eq_true rfl⟩ rfl rfl hP hT hS rfl hl.1 rfl (Nat.le_of_ble_eq_true rfl) d_Loader_numbersAsSaid_43 (fun H locs hP hS => ?_)
      refine lv_iload_n hx hb d_Loader_numbersAsSaid_46 rfl (lv_at hl 2 rfl) ?_
      refine lv_icmp_lt (tgt := 52) hx hb d_Loader_numbersAsSaid_47 (by decide) (fun c1 => ?_) (fun c1 => ?_)
      rotate_left
      · rw [if_neg c1] at hf
        refine lv_iconst (v := 0) hx hb d_Loader_numbersAsSaid_50 (by decide) ?_
        exact q_iretP hC hr hlk hf (by first | rfl | decide) hS d_Loader_numbersAsSaid_51
      rw [if_pos c1] at hf
      refine lv_iinc (v := x4_25 + 1) (lv' := [(4, .int (x4_25 + 1)), (0, .ref (G.2.2 5)), (1, .int x1_25), (2, .int x2_25), (3, .int x3_25)]) hx hb d_Loader_numbersAsSaid_52 hl (k := 4) rfl rfl (by decide) rfl (fun ls hl => ?_)
      refine lv_goto (tgt := 25) hx hb d_Loader_numbersAsSaid_55 (by decide) ?_
      exact ih_25 _ _ _ _ hf hP hS (lv_sub hl [1, 2, 3, 4, 0] rfl)
  unfold xLoader_numbersAsSaid at hf
  refine lv_aload_n hx hb d_Loader_numbersAsSaid_0 rfl (lv_at hl 0 rfl) ?_
  refine lv_iload_n hx hb d_Loader_numbersAsSaid_1 rfl (lv_at hl 1 rfl) ?_
  refine lv_bipush (v := 64) hx hb d_Loader_numbersAsSaid_2 (by decide) ?_
  refine lv_iconst (v := 2) hx hb d_Loader_numbersAsSaid_4 (by decide) ?_
  obtain ⟨r1, h_r1, hf⟩ := q_bn_some hf
  refine q_callVp (As := [.int x1, .int 64, .int 2]) (rest := []) (q0 := 5) hC (c_xLoader_listLies l G h_r1) cal_Loader_listLies wq_13 ⟨rfl, rfl, Nat.le_of_ble_eq_true rfl, Nat.le_of_ble_eq_true rfl⟩ rfl rfl hP hT hS rfl hl.1 rfl (Nat.le_of_ble_eq_true rfl) d_Loader_numbersAsSaid_5 (fun H locs hP hS => ?_)
  refine lv_if_ne (tgt := 13) hx hb d_Loader_numbersAsSaid_8 (by decide) (fun c1 => ?_) (fun c1 => ?_)
  rotate_left
  · rw [if_pos c1] at hf
    refine lv_iconst (v := 0) hx hb d_Loader_numbersAsSaid_11 (by decide) ?_
    exact q_iretP hC hr hlk hf (by first | rfl | decide) hS d_Loader_numbersAsSaid_12
  rw [if_neg c1] at hf
  refine lv_aload_n hx hb d_Loader_numbersAsSaid_13 rfl (lv_at hl 0 rfl) ?_
  refine xg_5_table hC hP wq_8 d_Loader_numbersAsSaid_14 ?_
  refine lv_iload_n hx hb d_Loader_numbersAsSaid_17 rfl (lv_at hl 1 rfl) ?_
  obtain ⟨r2, h_r2, hf⟩ := q_bn_some hf
  refine q_callVp (As := [.int x1]) (rest := []) (q0 := 1) hC (c_xTable_u16 l G h_r2) cal_Table_u16 wq_10 ⟨rfl, rfl, Nat.le_of_ble_eq_true rfl, Nat.le_of_ble_eq_true rfl⟩ rfl rfl hP hT hS rfl hl.1 rfl (Nat.le_of_ble_eq_true rfl) d_Loader_numbersAsSaid_18 (fun H locs hP hS => ?_)
  refine lv_istore_n (lv' := [(3, .int r2), (0, .ref (G.2.2 5)), (1, .int x1), (2, .int x2)]) hx hb d_Loader_numbersAsSaid_21 rfl hl (by decide) rfl (fun ls hl => ?_)
  refine lv_iconst (v := 0) hx hb d_Loader_numbersAsSaid_22 (by decide) ?_
  refine lv_istore (lv' := [(4, .int 0), (3, .int r2), (0, .ref (G.2.2 5)), (1, .int x1), (2, .int x2)]) hx hb d_Loader_numbersAsSaid_23 hl (by decide) rfl (fun ls hl => ?_)
  exact L_25 _ _ _ _ _ _ _ _ hf hP hS (lv_sub hl [2, 3, 4, 1, 0] rfl)
def xLoader_languageAsSaid_53 (N : Nat) (st : QSt) (x1_53 x2_53 : Int32) : Option Int32 :=
  q_bn (xLoader_numbersAsSaid N (x1_53 + 4) x2_53 st) (fun r5 => if r5 = 0 then (some 0) else (some 1))
def xLoader_languageAsSaid (N : Nat) (x1 : Int32) (st : QSt) : Option Int32 :=
  q_bn (xTable_u16 6 st) (fun r1 => q_bn (xTable_u16 r1 st) (fun r2 => q_bn (xTable_lies x1 4 st) (fun r3 => if r3 = 0 then (some 0) else (q_bn (xTable_u16 (x1 + 2) st) (fun r4 => if r4 = 65535 then (xLoader_languageAsSaid_53 N st x1 r2) else (if r2 ≤ r4 then (some 0) else (xLoader_languageAsSaid_53 N st x1 r2)))))))
set_option maxHeartbeats 4000000 in
set_option maxRecDepth 100000 in
theorem c_xLoader_languageAsSaid (l : Launch) (G : XG) {N : Nat} {x1 : Int32} {st : QSt} {ro : Int32} (hf : xLoader_languageAsSaid N x1 st = some ro) : q_Mp l y_Loader_languageAsSaid b_Loader_languageAsSaid 4 .boolean ({ frames := 3, cells := 0, slots := 0, locals := 70 } : Room) G.1 (xT G) (wX G) [.ref (G.2.2 5), .int x1] st ro := by
  refine q_Mp_of (by decide) (Nat.le_of_ble_eq_true rfl) (wX_fst G) ?_
  intro p e s m args below meth c ls hC hr hlk hT hP hS hl
  have hx := hC.1.1
  have hb := hC.1.2.1
  have hown := hC.1.2.2.2.1
  have hts := hC.1.2.2.2.2
  have hl : lv_has ls 4 [(0, .ref (G.2.2 5)), (1, .int x1)] := hl
  have J_53 : ∀ (x1_53 x2_53 : Int32) (H : Heap) (locs : List Loc) (ls : Array Slot), xLoader_languageAsSaid_53 N st x1_53 x2_53 = some ro → va_P G.1 vwCl (wX G st) H → va_S (fun _ => False) s.heap H locs → lv_has ls 4 [(0, .ref (G.2.2 5)), (1, .int x1_53), (2, .int x2_53)] → W p l e ({ frames := 3, cells := 0, slots := 0, locals := 70 } : Room) s m args below meth c H locs 0 0 (q_Zp below args s ro) (F0 m 53 ls []) := by
    intro x1_53 x2_53 H locs ls hf hP hS hl
    unfold xLoader_languageAsSaid_53 at hf
    refine lv_aload_n hx hb d_Loader_languageAsSaid_53 rfl (lv_at hl 0 rfl) ?_
    refine lv_iload_n hx hb d_Loader_languageAsSaid_54 rfl (lv_at hl 1 rfl) ?_
    refine lv_iconst (v := 4) hx hb d_Loader_languageAsSaid_55 (by decide) ?_
    refine lv_iadd hx hb d_Loader_languageAsSaid_56 ?_
    refine lv_iload_n hx hb d_Loader_languageAsSaid_57 rfl (lv_at hl 2 rfl) ?_
    obtain ⟨r5, h_r5, hf⟩ := q_bn_some hf
    refine q_callVp (As := [.int (x1_53 + 4), .int x2_53]) (rest := []) (q0 := 5) hC (c_xLoader_numbersAsSaid l G h_r5) cal_Loader_numbersAsSaid wq_14 ⟨rfl, rfl, Nat.le_of_ble_eq_true rfl, Nat.le_of_ble_eq_true rfl⟩ rfl rfl hP hT hS rfl hl.1 rfl (Nat.le_of_ble_eq_true rfl) d_Loader_languageAsSaid_58 (fun H locs hP hS => ?_)
    refine lv_if_eq (tgt := 68) hx hb d_Loader_languageAsSaid_61 (by decide) (fun c1 => ?_) (fun c1 => ?_)
    · rw [if_pos c1] at hf
      refine lv_iconst (v := 0) hx hb d_Loader_languageAsSaid_68 (by decide) ?_
      exact q_iretP hC hr hlk hf (by first | rfl | decide) hS d_Loader_languageAsSaid_69
    rw [if_neg c1] at hf
    refine lv_iconst (v := 1) hx hb d_Loader_languageAsSaid_64 (by decide) ?_
    refine lv_goto (tgt := 69) hx hb d_Loader_languageAsSaid_65 (by decide) ?_
    exact q_iretP hC hr hlk hf (by first | rfl | decide) hS d_Loader_languageAsSaid_69
  unfold xLoader_languageAsSaid at hf
  refine lv_aload_n hx hb d_Loader_languageAsSaid_0 rfl (lv_at hl 0 rfl) ?_
  refine xg_5_table hC hP wq_8 d_Loader_languageAsSaid_1 ?_
  refine lv_aload_n hx hb d_Loader_languageAsSaid_4 rfl (lv_at hl 0 rfl) ?_
  refine xg_5_table hC hP wq_8 d_Loader_languageAsSaid_5 ?_
  refine lv_bipush (v := 6) hx hb d_Loader_languageAsSaid_8 (by decide) ?_
  obtain ⟨r1, h_r1, hf⟩ := q_bn_some hf
  refine q_callVp (As := [.int 6]) (rest := [.ref (G.2.2 1)]) (q0 := 1) hC (c_xTable_u16 l G h_r1) cal_Table_u16 wq_10 ⟨rfl, rfl, Nat.le_of_ble_eq_true rfl, Nat.le_of_ble_eq_true rfl⟩ rfl rfl hP hT hS rfl hl.1 rfl (Nat.le_of_ble_eq_true rfl) d_Loader_languageAsSaid_10 (fun H locs hP hS => ?_)
  obtain ⟨r2, h_r2, hf⟩ := q_bn_some hf
  refine q_callVp (As := [.int r1]) (rest := []) (q0 := 1) hC (c_xTable_u16 l G h_r2) cal_Table_u16 wq_10 ⟨rfl, rfl, Nat.le_of_ble_eq_true rfl, Nat.le_of_ble_eq_true rfl⟩ rfl rfl hP hT hS rfl hl.1 rfl (Nat.le_of_ble_eq_true rfl) d_Loader_languageAsSaid_13 (fun H locs hP hS => ?_)
  refine lv_istore_n (lv' := [(2, .int r2), (0, .ref (G.2.2 5)), (1, .int x1)]) hx hb d_Loader_languageAsSaid_16 rfl hl (by decide) rfl (fun ls hl => ?_)
  refine lv_aload_n hx hb d_Loader_languageAsSaid_17 rfl (lv_at hl 1 rfl) ?_
  refine xg_5_table hC hP wq_8 d_Loader_languageAsSaid_18 ?_
  refine lv_iload_n hx hb d_Loader_languageAsSaid_21 rfl (lv_at hl 2 rfl) ?_
  refine lv_iconst (v := 4) hx hb d_Loader_languageAsSaid_22 (by decide) ?_
  obtain ⟨r3, h_r3, hf⟩ := q_bn_some hf
  refine q_callVp (As := [.int x1, .int 4]) (rest := []) (q0 := 1) hC (c_xTable_lies l G h_r3) cal_Table_lies wq_9 ⟨rfl, rfl, Nat.le_of_ble_eq_true rfl, Nat.le_of_ble_eq_true rfl⟩ rfl rfl hP hT hS rfl hl.1 rfl (Nat.le_of_ble_eq_true rfl) d_Loader_languageAsSaid_23 (fun H locs hP hS => ?_)
  refine lv_if_ne (tgt := 31) hx hb d_Loader_languageAsSaid_26 (by decide) (fun c1 => ?_) (fun c1 => ?_)
  rotate_left
  · rw [if_pos c1] at hf
    refine lv_iconst (v := 0) hx hb d_Loader_languageAsSaid_29 (by decide) ?_
    exact q_iretP hC hr hlk hf (by first | rfl | decide) hS d_Loader_languageAsSaid_30
  rw [if_neg c1] at hf
  refine lv_aload_n hx hb d_Loader_languageAsSaid_31 rfl (lv_at hl 1 rfl) ?_
  refine xg_5_table hC hP wq_8 d_Loader_languageAsSaid_32 ?_
  refine lv_iload_n hx hb d_Loader_languageAsSaid_35 rfl (lv_at hl 2 rfl) ?_
  refine lv_iconst (v := 2) hx hb d_Loader_languageAsSaid_36 (by decide) ?_
  refine lv_iadd hx hb d_Loader_languageAsSaid_37 ?_
  obtain ⟨r4, h_r4, hf⟩ := q_bn_some hf
  refine q_callVp (As := [.int (x1 + 2)]) (rest := []) (q0 := 1) hC (c_xTable_u16 l G h_r4) cal_Table_u16 wq_10 ⟨rfl, rfl, Nat.le_of_ble_eq_true rfl, Nat.le_of_ble_eq_true rfl⟩ rfl rfl hP hT hS rfl hl.1 rfl (Nat.le_of_ble_eq_true rfl) d_Loader_languageAsSaid_38 (fun H locs hP hS => ?_)
  refine lv_istore_n (lv' := [(3, .int r4), (2, .int r2), (0, .ref (G.2.2 5)), (1, .int x1)]) hx hb d_Loader_languageAsSaid_41 rfl hl (by decide) rfl (fun ls hl => ?_)
  refine lv_iload_n hx hb d_Loader_languageAsSaid_42 rfl (lv_at hl 0 rfl) ?_
  refine lv_ldc (v := 65535) hx hb hown (hts _ wq_15) d_Loader_languageAsSaid_43 ?_
  refine lv_icmp_eq (tgt := 53) hx hb d_Loader_languageAsSaid_45 (by decide) (fun c1 => ?_) (fun c1 => ?_)
  · rw [if_pos c1] at hf
    exact J_53 _ _ _ _ _ hf hP hS (lv_sub hl [2, 3, 1] rfl)
  rw [if_neg c1] at hf
  refine lv_iload_n hx hb d_Loader_languageAsSaid_48 rfl (lv_at hl 0 rfl) ?_
  refine lv_iload_n hx hb d_Loader_languageAsSaid_49 rfl (lv_at hl 1 rfl) ?_
  refine lv_icmp_ge (tgt := 68) hx hb d_Loader_languageAsSaid_50 (by decide) (fun c1 => ?_) (fun c1 => ?_)
  rotate_left
  · rw [if_neg c1] at hf
    exact J_53 _ _ _ _ _ hf hP hS (lv_sub hl [2, 3, 1] rfl)
  rw [if_pos c1] at hf
  refine lv_iconst (v := 0) hx hb d_Loader_languageAsSaid_68 (by decide) ?_
  exact q_iretP hC hr hlk hf (by first | rfl | decide) hS d_Loader_languageAsSaid_69
def xLoader_scriptAsSaid_64 (N : Nat) (st : QSt) (x1_64 x3_64 : Int32) : Nat → Int32 → Option Int32
  | 0, _ => none
  | n_64 + 1, x4_64 => if x3_64 ≤ x4_64 then (some 1) else (q_bn (xTable_u16 ((x1_64 + 8) + (6 * x4_64)) st) (fun r5 => q_bn (xLoader_languageAsSaid N (x1_64 + r5) st) (fun r6 => if r6 = 0 then (some 0) else (xLoader_scriptAsSaid_64 N st x1_64 x3_64 n_64 (x4_64 + 1)))))
def xLoader_scriptAsSaid_50 (N : Nat) (st : QSt) (x1_50 : Int32) : Option Int32 :=
  q_bn (xTable_u16 (x1_50 + 2) st) (fun r4 => xLoader_scriptAsSaid_64 N st x1_50 r4 N 0)
def xLoader_scriptAsSaid (N : Nat) (x1 : Int32) (st : QSt) : Option Int32 :=
  q_bn (xTable_lies x1 2 st) (fun r1 => if r1 = 0 then (some 0) else (q_bn (xLoader_tagsAsSaid N (x1 + 2) 0 st) (fun r2 => if r2 = 0 then (some 0) else (q_bn (xTable_u16 x1 st) (fun r3 => if r3 = 0 then (xLoader_scriptAsSaid_50 N st x1) else (q_bn (xLoader_languageAsSaid N (x1 + r3) st) (fun r7 => if r7 = 0 then (some 0) else (xLoader_scriptAsSaid_50 N st x1))))))))
set_option maxHeartbeats 4000000 in
set_option maxRecDepth 100000 in
theorem c_xLoader_scriptAsSaid (l : Launch) (G : XG) {N : Nat} {x1 : Int32} {st : QSt} {ro : Int32} (hf : xLoader_scriptAsSaid N x1 st = some ro) : q_Mp l y_Loader_scriptAsSaid b_Loader_scriptAsSaid 5 .boolean ({ frames := 4, cells := 0, slots := 0, locals := 93 } : Room) G.1 (xT G) (wX G) [.ref (G.2.2 5), .int x1] st ro := by
  refine q_Mp_of (by decide) (Nat.le_of_ble_eq_true rfl) (wX_fst G) ?_
  intro p e s m args below meth c ls hC hr hlk hT hP hS hl
  have hx := hC.1.1
  have hb := hC.1.2.1
  have hown := hC.1.2.2.2.1
  have hts := hC.1.2.2.2.2
  have hl : lv_has ls 5 [(0, .ref (G.2.2 5)), (1, .int x1)] := hl
  have L_64 : ∀ (x1_64 x3_64 : Int32) (n_64 : Nat) (x4_64 : Int32) (H : Heap) (locs : List Loc) (ls : Array Slot), xLoader_scriptAsSaid_64 N st x1_64 x3_64 n_64 x4_64 = some ro → va_P G.1 vwCl (wX G st) H → va_S (fun _ => False) s.heap H locs → lv_has ls 5 [(0, .ref (G.2.2 5)), (1, .int x1_64), (3, .int x3_64), (4, .int x4_64)] → W p l e ({ frames := 4, cells := 0, slots := 0, locals := 93 } : Room) s m args below meth c H locs 0 0 (q_Zp below args s ro) (F0 m 64 ls []) := by
    intro x1_64 x3_64 n_64
    induction n_64 with
    | zero => intro _ _ _ _ hf; exact absurd hf (by simp [xLoader_scriptAsSaid_64])
    | succ n_64 ih_64 =>
      intro x4_64 H locs ls hf hP hS hl
      rw [xLoader_scriptAsSaid_64] at hf
      refine lv_iload hx hb d_Loader_scriptAsSaid_64 (lv_at hl 3 rfl) ?_
      refine lv_iload_n hx hb d_Loader_scriptAsSaid_66 rfl (lv_at hl 2 rfl) ?_
      refine lv_icmp_ge (tgt := 104) hx hb d_Loader_scriptAsSaid_67 (by decide) (fun c1 => ?_) (fun c1 => ?_)
      · rw [if_pos c1] at hf
        refine lv_iconst (v := 1) hx hb d_Loader_scriptAsSaid_104 (by decide) ?_
        exact q_iretP hC hr hlk hf (by first | rfl | decide) hS d_Loader_scriptAsSaid_105
      rw [if_neg c1] at hf
      refine lv_aload_n hx hb d_Loader_scriptAsSaid_70 rfl (lv_at hl 0 rfl) ?_
      refine lv_iload_n hx hb d_Loader_scriptAsSaid_71 rfl (lv_at hl 1 rfl) ?_
      refine lv_aload_n hx hb d_Loader_scriptAsSaid_72 rfl (lv_at hl 0 rfl) ?_
      refine xg_5_table hC hP wq_8 d_Loader_scriptAsSaid_73 ?_
      refine lv_iload_n hx hb d_Loader_scriptAsSaid_76 rfl (lv_at hl 1 rfl) ?_
      refine lv_bipush (v := 8) hx hb d_Loader_scriptAsSaid_77 (by decide) ?_
      refine lv_iadd hx hb d_Loader_scriptAsSaid_79 ?_
      refine lv_bipush (v := 6) hx hb d_Loader_scriptAsSaid_80 (by decide) ?_
      refine lv_iload hx hb d_Loader_scriptAsSaid_82 (lv_at hl 3 rfl) ?_
      refine lv_imul hx hb d_Loader_scriptAsSaid_84 ?_
      refine lv_iadd hx hb d_Loader_scriptAsSaid_85 ?_
      obtain ⟨r5, h_r5, hf⟩ := q_bn_some hf
      refine q_callVp (As := [.int ((x1_64 + 8) + (6 * x4_64))]) (rest := [.int x1_64, .ref (G.2.2 5)]) (q0 := 1) hC (c_xTable_u16 l G h_r5) cal_Table_u16 wq_10 ⟨rfl, rfl, Nat.le_of_ble_eq_true rfl, Nat.le_of_ble_eq_true rfl⟩ rfl rfl hP hT hS rfl hl.1 rfl (Nat.le_of_ble_eq_true rfl) d_Loader_scriptAsSaid_86 (fun H locs hP hS => ?_)
      refine lv_iadd hx hb d_Loader_scriptAsSaid_89 ?_
      obtain ⟨r6, h_r6, hf⟩ := q_bn_some hf
      refine q_callVp (As := [.int (x1_64 + r5)]) (rest := []) (q0 := 5) hC (c_xLoader_languageAsSaid l G h_r6) cal_Loader_languageAsSaid wq_16 ⟨rfl, rfl, Nat.le_of_ble_eq_true rfl, Nat.le_of_ble_eq_true rfl⟩ rfl rfl hP hT hS rfl hl.1 rfl (Nat.le_of_ble_eq_true rfl) d_Loader_scriptAsSaid_90 (fun H locs hP hS => ?_)
      refine lv_if_ne (tgt := 98) hx hb d_Loader_scriptAsSaid_93 (by decide) (fun c1 => ?_) (fun c1 => ?_)
      rotate_left
      · rw [if_pos c1] at hf
        refine lv_iconst (v := 0) hx hb d_Loader_scriptAsSaid_96 (by decide) ?_
        exact q_iretP hC hr hlk hf (by first | rfl | decide) hS d_Loader_scriptAsSaid_97
      rw [if_neg c1] at hf
      refine lv_iinc (v := x4_64 + 1) (lv' := [(4, .int (x4_64 + 1)), (0, .ref (G.2.2 5)), (1, .int x1_64), (3, .int x3_64)]) hx hb d_Loader_scriptAsSaid_98 hl (k := 3) rfl rfl (by decide) rfl (fun ls hl => ?_)
      refine lv_goto (tgt := 64) hx hb d_Loader_scriptAsSaid_101 (by decide) ?_
      exact ih_64 _ _ _ _ hf hP hS (lv_sub hl [1, 2, 3, 0] rfl)
  have J_50 : ∀ (x1_50 : Int32) (H : Heap) (locs : List Loc) (ls : Array Slot), xLoader_scriptAsSaid_50 N st x1_50 = some ro → va_P G.1 vwCl (wX G st) H → va_S (fun _ => False) s.heap H locs → lv_has ls 5 [(0, .ref (G.2.2 5)), (1, .int x1_50)] → W p l e ({ frames := 4, cells := 0, slots := 0, locals := 93 } : Room) s m args below meth c H locs 0 0 (q_Zp below args s ro) (F0 m 50 ls []) := by
    intro x1_50 H locs ls hf hP hS hl
    unfold xLoader_scriptAsSaid_50 at hf
    refine lv_aload_n hx hb d_Loader_scriptAsSaid_50 rfl (lv_at hl 0 rfl) ?_
    refine xg_5_table hC hP wq_8 d_Loader_scriptAsSaid_51 ?_
    refine lv_iload_n hx hb d_Loader_scriptAsSaid_54 rfl (lv_at hl 1 rfl) ?_
    refine lv_iconst (v := 2) hx hb d_Loader_scriptAsSaid_55 (by decide) ?_
    refine lv_iadd hx hb d_Loader_scriptAsSaid_56 ?_
    obtain ⟨r4, h_r4, hf⟩ := q_bn_some hf
    refine q_callVp (As := [.int (x1_50 + 2)]) (rest := []) (q0 := 1) hC (c_xTable_u16 l G h_r4) cal_Table_u16 wq_10 ⟨rfl, rfl, Nat.le_of_ble_eq_true rfl, Nat.le_of_ble_eq_true rfl⟩ rfl rfl hP hT hS rfl hl.1 rfl (Nat.le_of_ble_eq_true rfl) d_Loader_scriptAsSaid_57 (fun H locs hP hS => ?_)
    refine lv_istore_n (lv' := [(3, .int r4), (0, .ref (G.2.2 5)), (1, .int x1_50)]) hx hb d_Loader_scriptAsSaid_60 rfl hl (by decide) rfl (fun ls hl => ?_)
    refine lv_iconst (v := 0) hx hb d_Loader_scriptAsSaid_61 (by decide) ?_
    refine lv_istore (lv' := [(4, .int 0), (3, .int r4), (0, .ref (G.2.2 5)), (1, .int x1_50)]) hx hb d_Loader_scriptAsSaid_62 hl (by decide) rfl (fun ls hl => ?_)
    exact L_64 _ _ _ _ _ _ _ hf hP hS (lv_sub hl [2, 3, 1, 0] rfl)
  unfold xLoader_scriptAsSaid at hf
  refine lv_aload_n hx hb d_Loader_scriptAsSaid_0 rfl (lv_at hl 0 rfl) ?_
  refine xg_5_table hC hP wq_8 d_Loader_scriptAsSaid_1 ?_
  refine lv_iload_n hx hb d_Loader_scriptAsSaid_4 rfl (lv_at hl 1 rfl) ?_
  refine lv_iconst (v := 2) hx hb d_Loader_scriptAsSaid_5 (by decide) ?_
  obtain ⟨r1, h_r1, hf⟩ := q_bn_some hf
  refine q_callVp (As := [.int x1, .int 2]) (rest := []) (q0 := 1) hC (c_xTable_lies l G h_r1) cal_Table_lies wq_9 ⟨rfl, rfl, Nat.le_of_ble_eq_true rfl, Nat.le_of_ble_eq_true rfl⟩ rfl rfl hP hT hS rfl hl.1 rfl (Nat.le_of_ble_eq_true rfl) d_Loader_scriptAsSaid_6 (fun H locs hP hS => ?_)
  refine lv_if_eq (tgt := 23) hx hb d_Loader_scriptAsSaid_9 (by decide) (fun c1 => ?_) (fun c1 => ?_)
  · rw [if_pos c1] at hf
    refine lv_iconst (v := 0) hx hb d_Loader_scriptAsSaid_23 (by decide) ?_
    exact q_iretP hC hr hlk hf (by first | rfl | decide) hS d_Loader_scriptAsSaid_24
  rw [if_neg c1] at hf
  refine lv_aload_n hx hb d_Loader_scriptAsSaid_12 rfl (lv_at hl 0 rfl) ?_
  refine lv_iload_n hx hb d_Loader_scriptAsSaid_13 rfl (lv_at hl 1 rfl) ?_
  refine lv_iconst (v := 2) hx hb d_Loader_scriptAsSaid_14 (by decide) ?_
  refine lv_iadd hx hb d_Loader_scriptAsSaid_15 ?_
  refine lv_iconst (v := 0) hx hb d_Loader_scriptAsSaid_16 (by decide) ?_
  obtain ⟨r2, h_r2, hf⟩ := q_bn_some hf
  refine q_callVp (As := [.int (x1 + 2), .int 0]) (rest := []) (q0 := 5) hC (c_xLoader_tagsAsSaid l G h_r2) cal_Loader_tagsAsSaid wq_17 ⟨rfl, rfl, Nat.le_of_ble_eq_true rfl, Nat.le_of_ble_eq_true rfl⟩ rfl rfl hP hT hS rfl hl.1 rfl (Nat.le_of_ble_eq_true rfl) d_Loader_scriptAsSaid_17 (fun H locs hP hS => ?_)
  refine lv_if_ne (tgt := 25) hx hb d_Loader_scriptAsSaid_20 (by decide) (fun c1 => ?_) (fun c1 => ?_)
  rotate_left
  · rw [if_pos c1] at hf
    refine lv_iconst (v := 0) hx hb d_Loader_scriptAsSaid_23 (by decide) ?_
    exact q_iretP hC hr hlk hf (by first | rfl | decide) hS d_Loader_scriptAsSaid_24
  rw [if_neg c1] at hf
  refine lv_aload_n hx hb d_Loader_scriptAsSaid_25 rfl (lv_at hl 0 rfl) ?_
  refine xg_5_table hC hP wq_8 d_Loader_scriptAsSaid_26 ?_
  refine lv_iload_n hx hb d_Loader_scriptAsSaid_29 rfl (lv_at hl 1 rfl) ?_
  obtain ⟨r3, h_r3, hf⟩ := q_bn_some hf
  refine q_callVp (As := [.int x1]) (rest := []) (q0 := 1) hC (c_xTable_u16 l G h_r3) cal_Table_u16 wq_10 ⟨rfl, rfl, Nat.le_of_ble_eq_true rfl, Nat.le_of_ble_eq_true rfl⟩ rfl rfl hP hT hS rfl hl.1 rfl (Nat.le_of_ble_eq_true rfl) d_Loader_scriptAsSaid_30 (fun H locs hP hS => ?_)
  refine lv_istore_n (lv' := [(2, .int r3), (0, .ref (G.2.2 5)), (1, .int x1)]) hx hb d_Loader_scriptAsSaid_33 rfl hl (by decide) rfl (fun ls hl => ?_)
  refine lv_iload_n hx hb d_Loader_scriptAsSaid_34 rfl (lv_at hl 0 rfl) ?_
  refine lv_if_eq (tgt := 50) hx hb d_Loader_scriptAsSaid_35 (by decide) (fun c1 => ?_) (fun c1 => ?_)
  · rw [if_pos c1] at hf
    exact J_50 _ _ _ _ hf hP hS (lv_sub hl [1, 2] rfl)
  rw [if_neg c1] at hf
  refine lv_aload_n hx hb d_Loader_scriptAsSaid_38 rfl (lv_at hl 1 rfl) ?_
  refine lv_iload_n hx hb d_Loader_scriptAsSaid_39 rfl (lv_at hl 2 rfl) ?_
  refine lv_iload_n hx hb d_Loader_scriptAsSaid_40 rfl (lv_at hl 0 rfl) ?_
  refine lv_iadd hx hb d_Loader_scriptAsSaid_41 ?_
  obtain ⟨r7, h_r7, hf⟩ := q_bn_some hf
  refine q_callVp (As := [.int (x1 + r3)]) (rest := []) (q0 := 5) hC (c_xLoader_languageAsSaid l G h_r7) cal_Loader_languageAsSaid wq_16 ⟨rfl, rfl, Nat.le_of_ble_eq_true rfl, Nat.le_of_ble_eq_true rfl⟩ rfl rfl hP hT hS rfl hl.1 rfl (Nat.le_of_ble_eq_true rfl) d_Loader_scriptAsSaid_42 (fun H locs hP hS => ?_)
  refine lv_if_ne (tgt := 50) hx hb d_Loader_scriptAsSaid_45 (by decide) (fun c1 => ?_) (fun c1 => ?_)
  · rw [if_neg c1] at hf
    exact J_50 _ _ _ _ hf hP hS (lv_sub hl [1, 2] rfl)
  rw [if_pos c1] at hf
  refine lv_iconst (v := 0) hx hb d_Loader_scriptAsSaid_48 (by decide) ?_
  exact q_iretP hC hr hlk hf (by first | rfl | decide) hS d_Loader_scriptAsSaid_49
def xLoader_scriptsAsSaid_31 (N : Nat) (st : QSt) (x1_31 x2_31 : Int32) : Nat → Int32 → Option Int32
  | 0, _ => none
  | n_31 + 1, x3_31 => if x2_31 ≤ x3_31 then (some 1) else (q_bn (xTable_u16 ((x1_31 + 6) + (6 * x3_31)) st) (fun r4 => q_bn (xLoader_scriptAsSaid N (x1_31 + r4) st) (fun r5 => if r5 = 0 then (some 0) else (xLoader_scriptsAsSaid_31 N st x1_31 x2_31 n_31 (x3_31 + 1)))))
def xLoader_scriptsAsSaid (N : Nat) (st : QSt) : Option Int32 :=
  q_bn (xTable_u16 4 st) (fun r1 => q_bn (xLoader_tagsAsSaid N r1 0 st) (fun r2 => if r2 = 0 then (some 0) else (q_bn (xTable_u16 r1 st) (fun r3 => xLoader_scriptsAsSaid_31 N st r1 r3 N 0))))
set_option maxHeartbeats 4000000 in
set_option maxRecDepth 100000 in
theorem c_xLoader_scriptsAsSaid (l : Launch) (G : XG) {N : Nat} {st : QSt} {ro : Int32} (hf : xLoader_scriptsAsSaid N st = some ro) : q_Mp l y_Loader_scriptsAsSaid b_Loader_scriptsAsSaid 4 .boolean ({ frames := 5, cells := 0, slots := 0, locals := 117 } : Room) G.1 (xT G) (wX G) [.ref (G.2.2 5)] st ro := by
  refine q_Mp_of (by decide) (Nat.le_of_ble_eq_true rfl) (wX_fst G) ?_
  intro p e s m args below meth c ls hC hr hlk hT hP hS hl
  have hx := hC.1.1
  have hb := hC.1.2.1
  have hown := hC.1.2.2.2.1
  have hts := hC.1.2.2.2.2
  have hl : lv_has ls 4 [(0, .ref (G.2.2 5))] := hl
  have L_31 : ∀ (x1_31 x2_31 : Int32) (n_31 : Nat) (x3_31 : Int32) (H : Heap) (locs : List Loc) (ls : Array Slot), xLoader_scriptsAsSaid_31 N st x1_31 x2_31 n_31 x3_31 = some ro → va_P G.1 vwCl (wX G st) H → va_S (fun _ => False) s.heap H locs → lv_has ls 4 [(0, .ref (G.2.2 5)), (1, .int x1_31), (2, .int x2_31), (3, .int x3_31)] → W p l e ({ frames := 5, cells := 0, slots := 0, locals := 117 } : Room) s m args below meth c H locs 0 0 (q_Zp below args s ro) (F0 m 31 ls []) := by
    intro x1_31 x2_31 n_31
    induction n_31 with
    | zero => intro _ _ _ _ hf; exact absurd hf (by simp [xLoader_scriptsAsSaid_31])
    | succ n_31 ih_31 =>
      intro x3_31 H locs ls hf hP hS hl
      rw [xLoader_scriptsAsSaid_31] at hf
      refine lv_iload_n hx hb d_Loader_scriptsAsSaid_31 rfl (lv_at hl 3 rfl) ?_
      refine lv_iload_n hx hb d_Loader_scriptsAsSaid_32 rfl (lv_at hl 2 rfl) ?_
      refine lv_icmp_ge (tgt := 69) hx hb d_Loader_scriptsAsSaid_33 (by decide) (fun c1 => ?_) (fun c1 => ?_)
      · rw [if_pos c1] at hf
        refine lv_iconst (v := 1) hx hb d_Loader_scriptsAsSaid_69 (by decide) ?_
        exact q_iretP hC hr hlk hf (by first | rfl | decide) hS d_Loader_scriptsAsSaid_70
      rw [if_neg c1] at hf
      refine lv_aload_n hx hb d_Loader_scriptsAsSaid_36 rfl (lv_at hl 0 rfl) ?_
      refine lv_iload_n hx hb d_Loader_scriptsAsSaid_37 rfl (lv_at hl 1 rfl) ?_
      refine lv_aload_n hx hb d_Loader_scriptsAsSaid_38 rfl (lv_at hl 0 rfl) ?_
      refine xg_5_table hC hP wq_8 d_Loader_scriptsAsSaid_39 ?_
      refine lv_iload_n hx hb d_Loader_scriptsAsSaid_42 rfl (lv_at hl 1 rfl) ?_
      refine lv_bipush (v := 6) hx hb d_Loader_scriptsAsSaid_43 (by decide) ?_
      refine lv_iadd hx hb d_Loader_scriptsAsSaid_45 ?_
      refine lv_bipush (v := 6) hx hb d_Loader_scriptsAsSaid_46 (by decide) ?_
      refine lv_iload_n hx hb d_Loader_scriptsAsSaid_48 rfl (lv_at hl 3 rfl) ?_
      refine lv_imul hx hb d_Loader_scriptsAsSaid_49 ?_
      refine lv_iadd hx hb d_Loader_scriptsAsSaid_50 ?_
      obtain ⟨r4, h_r4, hf⟩ := q_bn_some hf
      refine q_callVp (As := [.int ((x1_31 + 6) + (6 * x3_31))]) (rest := [.int x1_31, .ref (G.2.2 5)]) (q0 := 1) hC (c_xTable_u16 l G h_r4) cal_Table_u16 wq_10 ⟨rfl, rfl, Nat.le_of_ble_eq_true rfl, Nat.le_of_ble_eq_true rfl⟩ rfl rfl hP hT hS rfl hl.1 rfl (Nat.le_of_ble_eq_true rfl) d_Loader_scriptsAsSaid_51 (fun H locs hP hS => ?_)
      refine lv_iadd hx hb d_Loader_scriptsAsSaid_54 ?_
      obtain ⟨r5, h_r5, hf⟩ := q_bn_some hf
      refine q_callVp (As := [.int (x1_31 + r4)]) (rest := []) (q0 := 5) hC (c_xLoader_scriptAsSaid l G h_r5) cal_Loader_scriptAsSaid wq_18 ⟨rfl, rfl, Nat.le_of_ble_eq_true rfl, Nat.le_of_ble_eq_true rfl⟩ rfl rfl hP hT hS rfl hl.1 rfl (Nat.le_of_ble_eq_true rfl) d_Loader_scriptsAsSaid_55 (fun H locs hP hS => ?_)
      refine lv_if_ne (tgt := 63) hx hb d_Loader_scriptsAsSaid_58 (by decide) (fun c1 => ?_) (fun c1 => ?_)
      rotate_left
      · rw [if_pos c1] at hf
        refine lv_iconst (v := 0) hx hb d_Loader_scriptsAsSaid_61 (by decide) ?_
        exact q_iretP hC hr hlk hf (by first | rfl | decide) hS d_Loader_scriptsAsSaid_62
      rw [if_neg c1] at hf
      refine lv_iinc (v := x3_31 + 1) (lv' := [(3, .int (x3_31 + 1)), (0, .ref (G.2.2 5)), (1, .int x1_31), (2, .int x2_31)]) hx hb d_Loader_scriptsAsSaid_63 hl (k := 3) rfl rfl (by decide) rfl (fun ls hl => ?_)
      refine lv_goto (tgt := 31) hx hb d_Loader_scriptsAsSaid_66 (by decide) ?_
      exact ih_31 _ _ _ _ hf hP hS (lv_sub hl [1, 2, 3, 0] rfl)
  unfold xLoader_scriptsAsSaid at hf
  refine lv_aload_n hx hb d_Loader_scriptsAsSaid_0 rfl (lv_at hl 0 rfl) ?_
  refine xg_5_table hC hP wq_8 d_Loader_scriptsAsSaid_1 ?_
  refine lv_iconst (v := 4) hx hb d_Loader_scriptsAsSaid_4 (by decide) ?_
  obtain ⟨r1, h_r1, hf⟩ := q_bn_some hf
  refine q_callVp (As := [.int 4]) (rest := []) (q0 := 1) hC (c_xTable_u16 l G h_r1) cal_Table_u16 wq_10 ⟨rfl, rfl, Nat.le_of_ble_eq_true rfl, Nat.le_of_ble_eq_true rfl⟩ rfl rfl hP hT hS rfl hl.1 rfl (Nat.le_of_ble_eq_true rfl) d_Loader_scriptsAsSaid_5 (fun H locs hP hS => ?_)
  refine lv_istore_n (lv' := [(1, .int r1), (0, .ref (G.2.2 5))]) hx hb d_Loader_scriptsAsSaid_8 rfl hl (by decide) rfl (fun ls hl => ?_)
  refine lv_aload_n hx hb d_Loader_scriptsAsSaid_9 rfl (lv_at hl 1 rfl) ?_
  refine lv_iload_n hx hb d_Loader_scriptsAsSaid_10 rfl (lv_at hl 0 rfl) ?_
  refine lv_iconst (v := 0) hx hb d_Loader_scriptsAsSaid_11 (by decide) ?_
  obtain ⟨r2, h_r2, hf⟩ := q_bn_some hf
  refine q_callVp (As := [.int r1, .int 0]) (rest := []) (q0 := 5) hC (c_xLoader_tagsAsSaid l G h_r2) cal_Loader_tagsAsSaid wq_17 ⟨rfl, rfl, Nat.le_of_ble_eq_true rfl, Nat.le_of_ble_eq_true rfl⟩ rfl rfl hP hT hS rfl hl.1 rfl (Nat.le_of_ble_eq_true rfl) d_Loader_scriptsAsSaid_12 (fun H locs hP hS => ?_)
  refine lv_if_ne (tgt := 20) hx hb d_Loader_scriptsAsSaid_15 (by decide) (fun c1 => ?_) (fun c1 => ?_)
  rotate_left
  · rw [if_pos c1] at hf
    refine lv_iconst (v := 0) hx hb d_Loader_scriptsAsSaid_18 (by decide) ?_
    exact q_iretP hC hr hlk hf (by first | rfl | decide) hS d_Loader_scriptsAsSaid_19
  rw [if_neg c1] at hf
  refine lv_aload_n hx hb d_Loader_scriptsAsSaid_20 rfl (lv_at hl 1 rfl) ?_
  refine xg_5_table hC hP wq_8 d_Loader_scriptsAsSaid_21 ?_
  refine lv_iload_n hx hb d_Loader_scriptsAsSaid_24 rfl (lv_at hl 0 rfl) ?_
  obtain ⟨r3, h_r3, hf⟩ := q_bn_some hf
  refine q_callVp (As := [.int r1]) (rest := []) (q0 := 1) hC (c_xTable_u16 l G h_r3) cal_Table_u16 wq_10 ⟨rfl, rfl, Nat.le_of_ble_eq_true rfl, Nat.le_of_ble_eq_true rfl⟩ rfl rfl hP hT hS rfl hl.1 rfl (Nat.le_of_ble_eq_true rfl) d_Loader_scriptsAsSaid_25 (fun H locs hP hS => ?_)
  refine lv_istore_n (lv' := [(2, .int r3), (1, .int r1), (0, .ref (G.2.2 5))]) hx hb d_Loader_scriptsAsSaid_28 rfl hl (by decide) rfl (fun ls hl => ?_)
  refine lv_iconst (v := 0) hx hb d_Loader_scriptsAsSaid_29 (by decide) ?_
  refine lv_istore_n (lv' := [(3, .int 0), (2, .int r3), (1, .int r1), (0, .ref (G.2.2 5))]) hx hb d_Loader_scriptsAsSaid_30 rfl hl (by decide) rfl (fun ls hl => ?_)
  exact L_31 _ _ _ _ _ _ _ hf hP hS (lv_sub hl [3, 2, 1, 0] rfl)
def xLoader_featuresAsSaid_50 (N : Nat) (st : QSt) (x1_50 x2_50 x3_50 : Int32) : Nat → Int32 → Option Int32
  | 0, _ => none
  | n_50 + 1, x4_50 => if x3_50 ≤ x4_50 then (some 1) else (q_bn (xTable_u16 ((x1_50 + 6) + (6 * x4_50)) st) (fun r6 => q_lt (x1_50 + r6) (fun x5_1007 => q_bn (xLoader_numbersAsSaid N (x5_1007 + 2) x2_50 st) (fun r8 => if r8 = 0 then (some 0) else (xLoader_featuresAsSaid_50 N st x1_50 x2_50 x3_50 n_50 (x4_50 + 1))))))
def xLoader_featuresAsSaid (N : Nat) (st : QSt) : Option Int32 :=
  q_bn (xTable_u16 6 st) (fun r1 => q_bn (xLoader_tagsAsSaid N r1 1 st) (fun r2 => if r2 = 0 then (some 0) else (q_bn (xTable_u16 8 st) (fun r3 => q_bn (xTable_u16 r3 st) (fun r4 => q_bn (xTable_u16 r1 st) (fun r5 => xLoader_featuresAsSaid_50 N st r1 r4 r5 N 0))))))
set_option maxHeartbeats 4000000 in
set_option maxRecDepth 100000 in
theorem c_xLoader_featuresAsSaid (l : Launch) (G : XG) {N : Nat} {st : QSt} {ro : Int32} (hf : xLoader_featuresAsSaid N st = some ro) : q_Mp l y_Loader_featuresAsSaid b_Loader_featuresAsSaid 6 .boolean ({ frames := 3, cells := 0, slots := 0, locals := 71 } : Room) G.1 (xT G) (wX G) [.ref (G.2.2 5)] st ro := by
  refine q_Mp_of (by decide) (Nat.le_of_ble_eq_true rfl) (wX_fst G) ?_
  intro p e s m args below meth c ls hC hr hlk hT hP hS hl
  have hx := hC.1.1
  have hb := hC.1.2.1
  have hown := hC.1.2.2.2.1
  have hts := hC.1.2.2.2.2
  have hl : lv_has ls 6 [(0, .ref (G.2.2 5))] := hl
  have L_50 : ∀ (x1_50 x2_50 x3_50 : Int32) (n_50 : Nat) (x4_50 : Int32) (H : Heap) (locs : List Loc) (ls : Array Slot), xLoader_featuresAsSaid_50 N st x1_50 x2_50 x3_50 n_50 x4_50 = some ro → va_P G.1 vwCl (wX G st) H → va_S (fun _ => False) s.heap H locs → lv_has ls 6 [(0, .ref (G.2.2 5)), (1, .int x1_50), (2, .int x2_50), (3, .int x3_50), (4, .int x4_50)] → W p l e ({ frames := 3, cells := 0, slots := 0, locals := 71 } : Room) s m args below meth c H locs 0 0 (q_Zp below args s ro) (F0 m 50 ls []) := by
    intro x1_50 x2_50 x3_50 n_50
    induction n_50 with
    | zero => intro _ _ _ _ hf; exact absurd hf (by simp [xLoader_featuresAsSaid_50])
    | succ n_50 ih_50 =>
      intro x4_50 H locs ls hf hP hS hl
      rw [xLoader_featuresAsSaid_50] at hf
      refine lv_iload hx hb d_Loader_featuresAsSaid_50 (lv_at hl 4 rfl) ?_
      refine lv_iload_n hx hb d_Loader_featuresAsSaid_52 rfl (lv_at hl 3 rfl) ?_
      refine lv_icmp_ge (tgt := 97) hx hb d_Loader_featuresAsSaid_53 (by decide) (fun c1 => ?_) (fun c1 => ?_)
      · rw [if_pos c1] at hf
        refine lv_iconst (v := 1) hx hb d_Loader_featuresAsSaid_97 (by decide) ?_
        exact q_iretP hC hr hlk hf (by first | rfl | decide) hS d_Loader_featuresAsSaid_98
      rw [if_neg c1] at hf
      refine lv_iload_n hx hb d_Loader_featuresAsSaid_56 rfl (lv_at hl 1 rfl) ?_
      refine lv_aload_n hx hb d_Loader_featuresAsSaid_57 rfl (lv_at hl 0 rfl) ?_
      refine xg_5_table hC hP wq_8 d_Loader_featuresAsSaid_58 ?_
      refine lv_iload_n hx hb d_Loader_featuresAsSaid_61 rfl (lv_at hl 1 rfl) ?_
      refine lv_bipush (v := 6) hx hb d_Loader_featuresAsSaid_62 (by decide) ?_
      refine lv_iadd hx hb d_Loader_featuresAsSaid_64 ?_
      refine lv_bipush (v := 6) hx hb d_Loader_featuresAsSaid_65 (by decide) ?_
      refine lv_iload hx hb d_Loader_featuresAsSaid_67 (lv_at hl 4 rfl) ?_
      refine lv_imul hx hb d_Loader_featuresAsSaid_69 ?_
      refine lv_iadd hx hb d_Loader_featuresAsSaid_70 ?_
      obtain ⟨r6, h_r6, hf⟩ := q_bn_some hf
      refine q_callVp (As := [.int ((x1_50 + 6) + (6 * x4_50))]) (rest := [.int x1_50]) (q0 := 1) hC (c_xTable_u16 l G h_r6) cal_Table_u16 wq_10 ⟨rfl, rfl, Nat.le_of_ble_eq_true rfl, Nat.le_of_ble_eq_true rfl⟩ rfl rfl hP hT hS rfl hl.1 rfl (Nat.le_of_ble_eq_true rfl) d_Loader_featuresAsSaid_71 (fun H locs hP hS => ?_)
      refine lv_iadd hx hb d_Loader_featuresAsSaid_74 ?_
      obtain ⟨x5_1007, e_x5_1007, hf⟩ := q_lt_some hf
      refine q_topi e_x5_1007 ?_
      refine lv_istore (lv' := [(5, .int x5_1007), (0, .ref (G.2.2 5)), (1, .int x1_50), (2, .int x2_50), (3, .int x3_50), (4, .int x4_50)]) hx hb d_Loader_featuresAsSaid_75 hl (by decide) rfl (fun ls hl => ?_)
      refine lv_aload_n hx hb d_Loader_featuresAsSaid_77 rfl (lv_at hl 1 rfl) ?_
      refine lv_iload hx hb d_Loader_featuresAsSaid_78 (lv_at hl 0 rfl) ?_
      refine lv_iconst (v := 2) hx hb d_Loader_featuresAsSaid_80 (by decide) ?_
      refine lv_iadd hx hb d_Loader_featuresAsSaid_81 ?_
      refine lv_iload_n hx hb d_Loader_featuresAsSaid_82 rfl (lv_at hl 3 rfl) ?_
      obtain ⟨r8, h_r8, hf⟩ := q_bn_some hf
      refine q_callVp (As := [.int (x5_1007 + 2), .int x2_50]) (rest := []) (q0 := 5) hC (c_xLoader_numbersAsSaid l G h_r8) cal_Loader_numbersAsSaid wq_14 ⟨rfl, rfl, Nat.le_of_ble_eq_true rfl, Nat.le_of_ble_eq_true rfl⟩ rfl rfl hP hT hS rfl hl.1 rfl (Nat.le_of_ble_eq_true rfl) d_Loader_featuresAsSaid_83 (fun H locs hP hS => ?_)
      refine lv_if_ne (tgt := 91) hx hb d_Loader_featuresAsSaid_86 (by decide) (fun c1 => ?_) (fun c1 => ?_)
      rotate_left
      · rw [if_pos c1] at hf
        refine lv_iconst (v := 0) hx hb d_Loader_featuresAsSaid_89 (by decide) ?_
        exact q_iretP hC hr hlk hf (by first | rfl | decide) hS d_Loader_featuresAsSaid_90
      rw [if_neg c1] at hf
      refine lv_iinc (v := x4_50 + 1) (lv' := [(4, .int (x4_50 + 1)), (5, .int x5_1007), (0, .ref (G.2.2 5)), (1, .int x1_50), (2, .int x2_50), (3, .int x3_50)]) hx hb d_Loader_featuresAsSaid_91 hl (k := 5) rfl rfl (by decide) rfl (fun ls hl => ?_)
      refine lv_goto (tgt := 50) hx hb d_Loader_featuresAsSaid_94 (by decide) ?_
      exact ih_50 _ _ _ _ hf hP hS (lv_sub hl [2, 3, 4, 5, 0] rfl)
  unfold xLoader_featuresAsSaid at hf
  refine lv_aload_n hx hb d_Loader_featuresAsSaid_0 rfl (lv_at hl 0 rfl) ?_
  refine xg_5_table hC hP wq_8 d_Loader_featuresAsSaid_1 ?_
  refine lv_bipush (v := 6) hx hb d_Loader_featuresAsSaid_4 (by decide) ?_
  obtain ⟨r1, h_r1, hf⟩ := q_bn_some hf
  refine q_callVp (As := [.int 6]) (rest := []) (q0 := 1) hC (c_xTable_u16 l G h_r1) cal_Table_u16 wq_10 ⟨rfl, rfl, Nat.le_of_ble_eq_true rfl, Nat.le_of_ble_eq_true rfl⟩ rfl rfl hP hT hS rfl hl.1 rfl (Nat.le_of_ble_eq_true rfl) d_Loader_featuresAsSaid_6 (fun H locs hP hS => ?_)
  refine lv_istore_n (lv' := [(1, .int r1), (0, .ref (G.2.2 5))]) hx hb d_Loader_featuresAsSaid_9 rfl hl (by decide) rfl (fun ls hl => ?_)
  refine lv_aload_n hx hb d_Loader_featuresAsSaid_10 rfl (lv_at hl 1 rfl) ?_
  refine lv_iload_n hx hb d_Loader_featuresAsSaid_11 rfl (lv_at hl 0 rfl) ?_
  refine lv_iconst (v := 1) hx hb d_Loader_featuresAsSaid_12 (by decide) ?_
  obtain ⟨r2, h_r2, hf⟩ := q_bn_some hf
  refine q_callVp (As := [.int r1, .int 1]) (rest := []) (q0 := 5) hC (c_xLoader_tagsAsSaid l G h_r2) cal_Loader_tagsAsSaid wq_17 ⟨rfl, rfl, Nat.le_of_ble_eq_true rfl, Nat.le_of_ble_eq_true rfl⟩ rfl rfl hP hT hS rfl hl.1 rfl (Nat.le_of_ble_eq_true rfl) d_Loader_featuresAsSaid_13 (fun H locs hP hS => ?_)
  refine lv_if_ne (tgt := 21) hx hb d_Loader_featuresAsSaid_16 (by decide) (fun c1 => ?_) (fun c1 => ?_)
  rotate_left
  · rw [if_pos c1] at hf
    refine lv_iconst (v := 0) hx hb d_Loader_featuresAsSaid_19 (by decide) ?_
    exact q_iretP hC hr hlk hf (by first | rfl | decide) hS d_Loader_featuresAsSaid_20
  rw [if_neg c1] at hf
  refine lv_aload_n hx hb d_Loader_featuresAsSaid_21 rfl (lv_at hl 1 rfl) ?_
  refine xg_5_table hC hP wq_8 d_Loader_featuresAsSaid_22 ?_
  refine lv_aload_n hx hb d_Loader_featuresAsSaid_25 rfl (lv_at hl 1 rfl) ?_
  refine xg_5_table hC hP wq_8 d_Loader_featuresAsSaid_26 ?_
  refine lv_bipush (v := 8) hx hb d_Loader_featuresAsSaid_29 (by decide) ?_
  obtain ⟨r3, h_r3, hf⟩ := q_bn_some hf
  refine q_callVp (As := [.int 8]) (rest := [.ref (G.2.2 1)]) (q0 := 1) hC (c_xTable_u16 l G h_r3) cal_Table_u16 wq_10 ⟨rfl, rfl, Nat.le_of_ble_eq_true rfl, Nat.le_of_ble_eq_true rfl⟩ rfl rfl hP hT hS rfl hl.1 rfl (Nat.le_of_ble_eq_true rfl) d_Loader_featuresAsSaid_31 (fun H locs hP hS => ?_)
  obtain ⟨r4, h_r4, hf⟩ := q_bn_some hf
  refine q_callVp (As := [.int r3]) (rest := []) (q0 := 1) hC (c_xTable_u16 l G h_r4) cal_Table_u16 wq_10 ⟨rfl, rfl, Nat.le_of_ble_eq_true rfl, Nat.le_of_ble_eq_true rfl⟩ rfl rfl hP hT hS rfl hl.1 rfl (Nat.le_of_ble_eq_true rfl) d_Loader_featuresAsSaid_34 (fun H locs hP hS => ?_)
  refine lv_istore_n (lv' := [(2, .int r4), (1, .int r1), (0, .ref (G.2.2 5))]) hx hb d_Loader_featuresAsSaid_37 rfl hl (by decide) rfl (fun ls hl => ?_)
  refine lv_aload_n hx hb d_Loader_featuresAsSaid_38 rfl (lv_at hl 2 rfl) ?_
  refine xg_5_table hC hP wq_8 d_Loader_featuresAsSaid_39 ?_
  refine lv_iload_n hx hb d_Loader_featuresAsSaid_42 rfl (lv_at hl 1 rfl) ?_
  obtain ⟨r5, h_r5, hf⟩ := q_bn_some hf
  refine q_callVp (As := [.int r1]) (rest := []) (q0 := 1) hC (c_xTable_u16 l G h_r5) cal_Table_u16 wq_10 ⟨rfl, rfl, Nat.le_of_ble_eq_true rfl, Nat.le_of_ble_eq_true rfl⟩ rfl rfl hP hT hS rfl hl.1 rfl (Nat.le_of_ble_eq_true rfl) d_Loader_featuresAsSaid_43 (fun H locs hP hS => ?_)
  refine lv_istore_n (lv' := [(3, .int r5), (2, .int r4), (1, .int r1), (0, .ref (G.2.2 5))]) hx hb d_Loader_featuresAsSaid_46 rfl hl (by decide) rfl (fun ls hl => ?_)
  refine lv_iconst (v := 0) hx hb d_Loader_featuresAsSaid_47 (by decide) ?_
  refine lv_istore (lv' := [(4, .int 0), (3, .int r5), (2, .int r4), (1, .int r1), (0, .ref (G.2.2 5))]) hx hb d_Loader_featuresAsSaid_48 hl (by decide) rfl (fun ls hl => ?_)
  exact L_50 _ _ _ _ _ _ _ _ hf hP hS (lv_sub hl [4, 3, 2, 1, 0] rfl)
