def xTable_copyFrom (st : QSt) : Option QSt :=
  q_grd (q_cpyb (st.2 0) (st.1 3) 8192) (q_lt (q_pc st 0 1 (st.1 3)) (fun s1 => q_lt (q_ps s1 4 (s1.1 3)) (fun s2 => some s2)))
set_option maxHeartbeats 4000000 in
set_option maxRecDepth 100000 in
theorem c_xTable_copyFrom (l : Launch) (G : XG) {st : QSt} {so : QSt} (hf : xTable_copyFrom st = some so) : q_Mv l y_Table_copyFrom b_Table_copyFrom 2 ({ frames := 1, cells := 0, slots := 0, locals := 30 } : Room) G.1 (xT G) (wX G) [.ref (G.2.2 3), .ref (G.2.2 1)] st so := by
  refine q_Mv_of (by decide) (Nat.le_of_ble_eq_true rfl) (wX_fst G) ?_
  intro p e s m args below meth c A ls hC hr hlk hT hD hA hP hS hl
  have hx := hC.1.1
  have hb := hC.1.2.1
  have hown := hC.1.2.2.2.1
  have hts := hC.1.2.2.2.2
  have hl : lv_has ls 2 [(0, .ref (G.2.2 3)), (1, .ref (G.2.2 1))] := hl
  unfold xTable_copyFrom at hf
  refine lv_aload_n hx hb d_Table_copyFrom_0 rfl (lv_at hl 1 rfl) ?_
  refine xg_1_bytes hC hP wq_1 d_Table_copyFrom_1 ?_
  refine lv_iconst (v := 0) hx hb d_Table_copyFrom_4 (by decide) ?_
  refine lv_aload_n hx hb d_Table_copyFrom_5 rfl (lv_at hl 0 rfl) ?_
  refine xg_3_bytes hC hP wq_1 d_Table_copyFrom_6 ?_
  refine lv_iconst (v := 0) hx hb d_Table_copyFrom_9 (by decide) ?_
  refine lv_aload_n hx hb d_Table_copyFrom_10 rfl (lv_at hl 1 rfl) ?_
  refine xg_1_size hC hP wq_0 d_Table_copyFrom_11 ?_
  obtain ⟨hi, hf⟩ := q_grd_some hf
  obtain ⟨s1, e_s1, hf⟩ := q_lt_some hf
  refine xc_2_4 hC hP hD hS hl.1 e_s1 hi wq_496 (Nat.le_of_ble_eq_true rfl) (Nat.le_of_ble_eq_true rfl) d_Table_copyFrom_14 (fun H locs hP hS => ?_)
  refine lv_aload_n hx hb d_Table_copyFrom_17 rfl (lv_at hl 0 rfl) ?_
  refine lv_aload_n hx hb d_Table_copyFrom_18 rfl (lv_at hl 1 rfl) ?_
  refine xg_1_size hC hP wq_0 d_Table_copyFrom_19 ?_
  obtain ⟨s2, e_s2, hf⟩ := q_lt_some hf
  refine xp_3_size hC hP hD hS e_s2 wq_0 d_Table_copyFrom_22 (fun H locs hP hS => ?_)
  exact q_vret hC hr hlk hf hP hS d_Table_copyFrom_25
def xGlyphPositions_feed (x1 : Int32) (st : QSt) : Option (Int32 × QSt) :=
  q_bm (xTable_append x1 st) (fun r1 sr1 => if r1 = 0 then (some ((-1), sr1)) else (some (sr1.1 3, sr1)))
set_option maxHeartbeats 4000000 in
set_option maxRecDepth 100000 in
theorem c_xGlyphPositions_feed (l : Launch) (G : XG) {x1 : Int32} {st : QSt} {ro : Int32} {so : QSt} (hf : xGlyphPositions_feed x1 st = some (ro, so)) : q_Mi l y_GP_feed b_GP_feed 2 .int ({ frames := 1, cells := 0, slots := 0, locals := 21 } : Room) G.1 (xT G) (wX G) [.ref (G.2.2 0), .int x1] st ro so := by
  refine q_Mi_of (by decide) (Nat.le_of_ble_eq_true rfl) (wX_fst G) ?_
  intro p e s m args below meth c A ls hC hr hlk hT hD hA hP hS hl
  have hx := hC.1.1
  have hb := hC.1.2.1
  have hown := hC.1.2.2.2.1
  have hts := hC.1.2.2.2.2
  have hl : lv_has ls 2 [(0, .ref (G.2.2 0)), (1, .int x1)] := hl
  unfold xGlyphPositions_feed at hf
  refine lv_aload_n hx hb d_GP_feed_0 rfl (lv_at hl 0 rfl) ?_
  refine xg_0_fed hC hP wq_497 d_GP_feed_1 ?_
  refine lv_iload_n hx hb d_GP_feed_4 rfl (lv_at hl 1 rfl) ?_
  obtain ⟨r1, sr1, h_r1, hf⟩ := q_bm_some hf
  refine q_callVi (As := [.int x1]) (rest := []) (q0 := 1) hC (c_xTable_append l G h_r1) cal_Table_append wq_498 ⟨rfl, rfl, Nat.le_of_ble_eq_true rfl, Nat.le_of_ble_eq_true rfl⟩ rfl rfl hP hD hA hS rfl hl.1 rfl (Nat.le_of_ble_eq_true rfl) d_GP_feed_5 (fun H locs hP hS => ?_)
  refine lv_if_eq (tgt := 21) hx hb d_GP_feed_8 (by decide) (fun c1 => ?_) (fun c1 => ?_)
  · rw [if_pos c1] at hf
    refine lv_iconst (v := (-1)) hx hb d_GP_feed_21 (by decide) ?_
    exact q_iret hC hr hlk hf (by first | rfl | decide) hP hS d_GP_feed_22
  rw [if_neg c1] at hf
  refine lv_aload_n hx hb d_GP_feed_11 rfl (lv_at hl 0 rfl) ?_
  refine xg_0_fed hC hP wq_497 d_GP_feed_12 ?_
  refine xgN_1_size hC hP wq_499 d_GP_feed_15 ?_
  refine lv_goto (tgt := 22) hx hb d_GP_feed_18 (by decide) ?_
  exact q_iret hC hr hlk hf (by first | rfl | decide) hP hS d_GP_feed_22
def xGlyphPositions_put_33 (st_33 : QSt) : Option (Int32 × QSt) :=
  none
def xGlyphPositions_put (x1 x2 : Int32) (st : QSt) : Option (Int32 × QSt) :=
  q_bn (xTable_lies x1 1 st) (fun r1 => if r1 = 0 then (none) else (if x2 < 0 then (xGlyphPositions_put_33 st) else (if x2 ≤ 255 then (q_bm (xTable_replace x1 x2 st) (fun r2 sr2 => some (r2, sr2))) else (xGlyphPositions_put_33 st))))
set_option maxHeartbeats 4000000 in
set_option maxRecDepth 100000 in
theorem c_xGlyphPositions_put (l : Launch) (G : XG) {x1 x2 : Int32} {st : QSt} {ro : Int32} {so : QSt} (hf : xGlyphPositions_put x1 x2 st = some (ro, so)) : q_Mi l y_GP_put b_GP_put 3 .int ({ frames := 1, cells := 0, slots := 0, locals := 23 } : Room) G.1 (xT G) (wX G) [.ref (G.2.2 0), .int x1, .int x2] st ro so := by
  refine q_Mi_of (by decide) (Nat.le_of_ble_eq_true rfl) (wX_fst G) ?_
  intro p e s m args below meth c A ls hC hr hlk hT hD hA hP hS hl
  have hx := hC.1.1
  have hb := hC.1.2.1
  have hown := hC.1.2.2.2.1
  have hts := hC.1.2.2.2.2
  have hl : lv_has ls 3 [(0, .ref (G.2.2 0)), (1, .int x1), (2, .int x2)] := hl
  have J_33 : ∀ (st_33 : QSt) (H : Heap) (locs : List Loc) (ls : Array Slot), xGlyphPositions_put_33 st_33 = some (ro, so) → va_P G.1 vwCl (wX G st_33) H → va_S A s.heap H locs → lv_has ls 3 [] → W p l e ({ frames := 1, cells := 0, slots := 0, locals := 23 } : Room) s m args below meth c H locs 0 0 (q_Zi below args s G.1 (wX G) ro so A) (F0 m 33 ls []) := by
    intro st_33 H locs ls hf hP hS hl
    unfold xGlyphPositions_put_33 at hf
    cases hf
  unfold xGlyphPositions_put at hf
  refine lv_aload_n hx hb d_GP_put_0 rfl (lv_at hl 0 rfl) ?_
  refine xg_0_fed hC hP wq_497 d_GP_put_1 ?_
  refine lv_iload_n hx hb d_GP_put_4 rfl (lv_at hl 1 rfl) ?_
  refine lv_iconst (v := 1) hx hb d_GP_put_5 (by decide) ?_
  obtain ⟨r1, h_r1, hf⟩ := q_bn_some hf
  refine q_callVp (As := [.int x1, .int 1]) (rest := []) (q0 := 1) hC (c_xTable_lies l G h_r1) cal_Table_lies wq_500 ⟨rfl, rfl, Nat.le_of_ble_eq_true rfl, Nat.le_of_ble_eq_true rfl⟩ rfl rfl hP hT hS rfl hl.1 rfl (Nat.le_of_ble_eq_true rfl) d_GP_put_6 (fun H locs hP hS => ?_)
  refine lv_if_ne (tgt := 22) hx hb d_GP_put_9 (by decide) (fun c1 => ?_) (fun c1 => ?_)
  rotate_left
  · rw [if_pos c1] at hf
    cases hf
  rw [if_neg c1] at hf
  refine lv_iload_n hx hb d_GP_put_22 rfl (lv_at hl 2 rfl) ?_
  refine lv_if_lt (tgt := 33) hx hb d_GP_put_23 (by decide) (fun c1 => ?_) (fun c1 => ?_)
  · rw [if_pos c1] at hf
    exact J_33 _ _ _ _ hf hP hS (lv_sub hl [] rfl)
  rw [if_neg c1] at hf
  refine lv_iload_n hx hb d_GP_put_26 rfl (lv_at hl 2 rfl) ?_
  refine lv_sipush (v := 255) hx hb d_GP_put_27 (by decide) ?_
  refine lv_icmp_le (tgt := 43) hx hb d_GP_put_30 (by decide) (fun c1 => ?_) (fun c1 => ?_)
  rotate_left
  · rw [if_neg c1] at hf
    exact J_33 _ _ _ _ hf hP hS (lv_sub hl [] rfl)
  rw [if_pos c1] at hf
  refine lv_aload_n hx hb d_GP_put_43 rfl (lv_at hl 0 rfl) ?_
  refine xg_0_fed hC hP wq_497 d_GP_put_44 ?_
  refine lv_iload_n hx hb d_GP_put_47 rfl (lv_at hl 1 rfl) ?_
  refine lv_iload_n hx hb d_GP_put_48 rfl (lv_at hl 2 rfl) ?_
  obtain ⟨r2, sr2, h_r2, hf⟩ := q_bm_some hf
  refine q_callVi (As := [.int x1, .int x2]) (rest := []) (q0 := 1) hC (c_xTable_replace l G h_r2) cal_Table_replace wq_501 ⟨rfl, rfl, Nat.le_of_ble_eq_true rfl, Nat.le_of_ble_eq_true rfl⟩ rfl rfl hP hD hA hS rfl hl.1 rfl (Nat.le_of_ble_eq_true rfl) d_GP_put_49 (fun H locs hP hS => ?_)
  exact q_iret hC hr hlk hf (by first | rfl | decide) hP hS d_GP_put_52
def xGlyphPositions_cut (x1 : Int32) (st : QSt) : Option (Int32 × QSt) :=
  if 0 ≤ x1 then (q_bm (xTable_shorten x1 st) (fun r1 sr1 => some (r1, sr1))) else (none)
set_option maxHeartbeats 4000000 in
set_option maxRecDepth 100000 in
theorem c_xGlyphPositions_cut (l : Launch) (G : XG) {x1 : Int32} {st : QSt} {ro : Int32} {so : QSt} (hf : xGlyphPositions_cut x1 st = some (ro, so)) : q_Mi l y_GP_cut b_GP_cut 2 .int ({ frames := 1, cells := 0, slots := 0, locals := 22 } : Room) G.1 (xT G) (wX G) [.ref (G.2.2 0), .int x1] st ro so := by
  refine q_Mi_of (by decide) (Nat.le_of_ble_eq_true rfl) (wX_fst G) ?_
  intro p e s m args below meth c A ls hC hr hlk hT hD hA hP hS hl
  have hx := hC.1.1
  have hb := hC.1.2.1
  have hown := hC.1.2.2.2.1
  have hts := hC.1.2.2.2.2
  have hl : lv_has ls 2 [(0, .ref (G.2.2 0)), (1, .int x1)] := hl
  unfold xGlyphPositions_cut at hf
  refine lv_iload_n hx hb d_GP_cut_0 rfl (lv_at hl 1 rfl) ?_
  refine lv_if_ge (tgt := 14) hx hb d_GP_cut_1 (by decide) (fun c1 => ?_) (fun c1 => ?_)
  rotate_left
  · rw [if_neg c1] at hf
    cases hf
  rw [if_pos c1] at hf
  refine lv_aload_n hx hb d_GP_cut_14 rfl (lv_at hl 0 rfl) ?_
  refine xg_0_fed hC hP wq_497 d_GP_cut_15 ?_
  refine lv_iload_n hx hb d_GP_cut_18 rfl (lv_at hl 1 rfl) ?_
  obtain ⟨r1, sr1, h_r1, hf⟩ := q_bm_some hf
  refine q_callVi (As := [.int x1]) (rest := []) (q0 := 1) hC (c_xTable_shorten l G h_r1) cal_Table_shorten wq_502 ⟨rfl, rfl, Nat.le_of_ble_eq_true rfl, Nat.le_of_ble_eq_true rfl⟩ rfl rfl hP hD hA hS rfl hl.1 rfl (Nat.le_of_ble_eq_true rfl) d_GP_cut_19 (fun H locs hP hS => ?_)
  exact q_iret hC hr hlk hf (by first | rfl | decide) hP hS d_GP_cut_22
def xGlyphPositions_load (N : Nat) (st : QSt) : Option (Int32 × QSt) :=
  q_bn (xLoader_headAsSaid st) (fun r1 => if r1 = 0 then (some ((-1), st)) else (q_bn (xLoader_scriptsAsSaid N st) (fun r2 => if r2 = 0 then (some ((-2), st)) else (q_bn (xLoader_featuresAsSaid N st) (fun r3 => if r3 = 0 then (some ((-3), st)) else (q_bm (xLoader_lookupsAsSaid N st) (fun r4 sr4 => if r4 = 0 then (some ((-4), sr4)) else (q_bv (xTable_copyFrom sr4) (fun sr5 => q_lt (q_ps sr5 0 1) (fun s6 => q_bn (xTable_u16_3 8 s6) (fun r7 => q_bn (xTable_u16_3 r7 s6) (fun r8 => some (r8, s6)))))))))))))
set_option maxHeartbeats 4000000 in
set_option maxRecDepth 100000 in
theorem c_xGlyphPositions_load (l : Launch) (G : XG) {N : Nat} {st : QSt} {ro : Int32} {so : QSt} (hf : xGlyphPositions_load N st = some (ro, so)) : q_Mi l y_GP_load b_GP_load 1 .int ({ frames := 7, cells := 0, slots := 0, locals := 171 } : Room) G.1 (xT G) (wX G) [.ref (G.2.2 0)] st ro so := by
  refine q_Mi_of (by decide) (Nat.le_of_ble_eq_true rfl) (wX_fst G) ?_
  intro p e s m args below meth c A ls hC hr hlk hT hD hA hP hS hl
  have hx := hC.1.1
  have hb := hC.1.2.1
  have hown := hC.1.2.2.2.1
  have hts := hC.1.2.2.2.2
  have hl : lv_has ls 1 [(0, .ref (G.2.2 0))] := hl
  unfold xGlyphPositions_load at hf
  refine lv_aload_n hx hb d_GP_load_0 rfl (lv_at hl 0 rfl) ?_
  refine xg_0_loader hC hP wq_503 d_GP_load_1 ?_
  obtain ⟨r1, h_r1, hf⟩ := q_bn_some hf
  refine q_callVp (As := []) (rest := []) (q0 := 5) hC (c_xLoader_headAsSaid l G h_r1) cal_Loader_headAsSaid wq_504 ⟨rfl, rfl, Nat.le_of_ble_eq_true rfl, Nat.le_of_ble_eq_true rfl⟩ rfl rfl hP hT hS rfl hl.1 rfl (Nat.le_of_ble_eq_true rfl) d_GP_load_4 (fun H locs hP hS => ?_)
  refine lv_if_ne (tgt := 12) hx hb d_GP_load_7 (by decide) (fun c1 => ?_) (fun c1 => ?_)
  rotate_left
  · rw [if_pos c1] at hf
    refine lv_iconst (v := (-1)) hx hb d_GP_load_10 (by decide) ?_
    exact q_iret hC hr hlk hf (by first | rfl | decide) hP hS d_GP_load_11
  rw [if_neg c1] at hf
  refine lv_aload_n hx hb d_GP_load_12 rfl (lv_at hl 0 rfl) ?_
  refine xg_0_loader hC hP wq_503 d_GP_load_13 ?_
  obtain ⟨r2, h_r2, hf⟩ := q_bn_some hf
  refine q_callVp (As := []) (rest := []) (q0 := 5) hC (c_xLoader_scriptsAsSaid l G h_r2) cal_Loader_scriptsAsSaid wq_505 ⟨rfl, rfl, Nat.le_of_ble_eq_true rfl, Nat.le_of_ble_eq_true rfl⟩ rfl rfl hP hT hS rfl hl.1 rfl (Nat.le_of_ble_eq_true rfl) d_GP_load_16 (fun H locs hP hS => ?_)
  refine lv_if_ne (tgt := 25) hx hb d_GP_load_19 (by decide) (fun c1 => ?_) (fun c1 => ?_)
  rotate_left
  · rw [if_pos c1] at hf
    refine lv_bipush (v := (-2)) hx hb d_GP_load_22 (by decide) ?_
    exact q_iret hC hr hlk hf (by first | rfl | decide) hP hS d_GP_load_24
  rw [if_neg c1] at hf
  refine lv_aload_n hx hb d_GP_load_25 rfl (lv_at hl 0 rfl) ?_
  refine xg_0_loader hC hP wq_503 d_GP_load_26 ?_
  obtain ⟨r3, h_r3, hf⟩ := q_bn_some hf
  refine q_callVp (As := []) (rest := []) (q0 := 5) hC (c_xLoader_featuresAsSaid l G h_r3) cal_Loader_featuresAsSaid wq_506 ⟨rfl, rfl, Nat.le_of_ble_eq_true rfl, Nat.le_of_ble_eq_true rfl⟩ rfl rfl hP hT hS rfl hl.1 rfl (Nat.le_of_ble_eq_true rfl) d_GP_load_29 (fun H locs hP hS => ?_)
  refine lv_if_ne (tgt := 38) hx hb d_GP_load_32 (by decide) (fun c1 => ?_) (fun c1 => ?_)
  rotate_left
  · rw [if_pos c1] at hf
    refine lv_bipush (v := (-3)) hx hb d_GP_load_35 (by decide) ?_
    exact q_iret hC hr hlk hf (by first | rfl | decide) hP hS d_GP_load_37
  rw [if_neg c1] at hf
  refine lv_aload_n hx hb d_GP_load_38 rfl (lv_at hl 0 rfl) ?_
  refine xg_0_loader hC hP wq_503 d_GP_load_39 ?_
  obtain ⟨r4, sr4, h_r4, hf⟩ := q_bm_some hf
  refine q_callVi (As := []) (rest := []) (q0 := 5) hC (c_xLoader_lookupsAsSaid l G h_r4) cal_Loader_lookupsAsSaid wq_507 ⟨rfl, rfl, Nat.le_of_ble_eq_true rfl, Nat.le_of_ble_eq_true rfl⟩ rfl rfl hP hD hA hS rfl hl.1 rfl (Nat.le_of_ble_eq_true rfl) d_GP_load_42 (fun H locs hP hS => ?_)
  refine lv_if_ne (tgt := 51) hx hb d_GP_load_45 (by decide) (fun c1 => ?_) (fun c1 => ?_)
  rotate_left
  · rw [if_pos c1] at hf
    refine lv_bipush (v := (-4)) hx hb d_GP_load_48 (by decide) ?_
    exact q_iret hC hr hlk hf (by first | rfl | decide) hP hS d_GP_load_50
  rw [if_neg c1] at hf
  refine lv_aload_n hx hb d_GP_load_51 rfl (lv_at hl 0 rfl) ?_
  refine xg_0_font hC hP wq_508 d_GP_load_52 ?_
  refine lv_aload_n hx hb d_GP_load_55 rfl (lv_at hl 0 rfl) ?_
  refine xg_0_fed hC hP wq_497 d_GP_load_56 ?_
  obtain ⟨sr5, h_r5, hf⟩ := q_bv_some hf
  refine q_callVv (As := [.ref (G.2.2 1)]) (rest := []) (q0 := 3) hC (c_xTable_copyFrom l G h_r5) cal_Table_copyFrom wq_509 ⟨rfl, rfl, Nat.le_of_ble_eq_true rfl, Nat.le_of_ble_eq_true rfl⟩ rfl rfl hP hD hA hS rfl hl.1 rfl (Nat.le_of_ble_eq_true rfl) d_GP_load_59 (fun H locs hP hS => ?_)
  refine lv_aload_n hx hb d_GP_load_62 rfl (lv_at hl 0 rfl) ?_
  refine lv_iconst (v := 1) hx hb d_GP_load_63 (by decide) ?_
  obtain ⟨s6, e_s6, hf⟩ := q_lt_some hf
  refine xp_0_loaded hC hP hD hS e_s6 rfl wq_510 d_GP_load_64 (fun H locs hP hS => ?_)
  refine lv_aload_n hx hb d_GP_load_67 rfl (lv_at hl 0 rfl) ?_
  refine xg_0_font hC hP wq_508 d_GP_load_68 ?_
  refine lv_aload_n hx hb d_GP_load_71 rfl (lv_at hl 0 rfl) ?_
  refine xg_0_font hC hP wq_508 d_GP_load_72 ?_
  refine lv_bipush (v := 8) hx hb d_GP_load_75 (by decide) ?_
  obtain ⟨r7, h_r7, hf⟩ := q_bn_some hf
  refine q_callVp (As := [.int 8]) (rest := [.ref (G.2.2 3)]) (q0 := 3) hC (c_xTable_u16_3 l G h_r7) cal_Table_u16 wq_511 ⟨rfl, rfl, Nat.le_of_ble_eq_true rfl, Nat.le_of_ble_eq_true rfl⟩ rfl rfl hP hT hS rfl hl.1 rfl (Nat.le_of_ble_eq_true rfl) d_GP_load_77 (fun H locs hP hS => ?_)
  obtain ⟨r8, h_r8, hf⟩ := q_bn_some hf
  refine q_callVp (As := [.int r7]) (rest := []) (q0 := 3) hC (c_xTable_u16_3 l G h_r8) cal_Table_u16 wq_511 ⟨rfl, rfl, Nat.le_of_ble_eq_true rfl, Nat.le_of_ble_eq_true rfl⟩ rfl rfl hP hT hS rfl hl.1 rfl (Nat.le_of_ble_eq_true rfl) d_GP_load_80 (fun H locs hP hS => ?_)
  exact q_iret hC hr hlk hf (by first | rfl | decide) hP hS d_GP_load_83
def xGlyphPositions_isU16 (x0 : Int32) : Option Int32 :=
  if x0 < 0 then (some 0) else (if 65535 < x0 then (some 0) else (some 1))
set_option maxHeartbeats 4000000 in
set_option maxRecDepth 100000 in
theorem c_xGlyphPositions_isU16 (l : Launch) (G : XG) {x0 : Int32} {st : QSt} {ro : Int32} (hf : xGlyphPositions_isU16 x0 = some ro) : q_Mp l y_GP_isU16 b_GP_isU16 1 .boolean ({ frames := 0, cells := 0, slots := 0, locals := 0 } : Room) G.1 (xT G) (wX G) [.int x0] st ro := by
  refine q_Mp_of (by decide) (Nat.le_of_ble_eq_true rfl) (wX_fst G) ?_
  intro p e s m args below meth c ls hC hr hlk hT hP hS hl
  have hx := hC.1.1
  have hb := hC.1.2.1
  have hown := hC.1.2.2.2.1
  have hts := hC.1.2.2.2.2
  have hl : lv_has ls 1 [(0, .int x0)] := hl
  unfold xGlyphPositions_isU16 at hf
  refine lv_iload_n hx hb d_GP_isU16_0 rfl (lv_at hl 0 rfl) ?_
  refine lv_if_lt (tgt := 14) hx hb d_GP_isU16_1 (by decide) (fun c1 => ?_) (fun c1 => ?_)
  · rw [if_pos c1] at hf
    refine lv_iconst (v := 0) hx hb d_GP_isU16_14 (by decide) ?_
    exact q_iretP hC hr hlk hf (by first | rfl | decide) hS d_GP_isU16_15
  rw [if_neg c1] at hf
  refine lv_iload_n hx hb d_GP_isU16_4 rfl (lv_at hl 0 rfl) ?_
  refine lv_ldc (v := 65535) hx hb hown (hts _ wq_512) d_GP_isU16_5 ?_
  refine lv_icmp_gt (tgt := 14) hx hb d_GP_isU16_7 (by decide) (fun c1 => ?_) (fun c1 => ?_)
  · rw [if_pos c1] at hf
    refine lv_iconst (v := 0) hx hb d_GP_isU16_14 (by decide) ?_
    exact q_iretP hC hr hlk hf (by first | rfl | decide) hS d_GP_isU16_15
  rw [if_neg c1] at hf
  refine lv_iconst (v := 1) hx hb d_GP_isU16_10 (by decide) ?_
  refine lv_goto (tgt := 15) hx hb d_GP_isU16_11 (by decide) ?_
  exact q_iretP hC hr hlk hf (by first | rfl | decide) hS d_GP_isU16_15
def xGlyphPositions_kind_19 (st_19 : QSt) : Option QSt :=
  none
def xGlyphPositions_kind_51 (st_51 : QSt) : Option QSt :=
  none
def xGlyphPositions_kind (x1 x2 x3 x4 : Int32) (st : QSt) : Option QSt :=
  q_bn (xGlyphPositions_isU16 x1) (fun r1 => if r1 = 0 then (xGlyphPositions_kind_19 st) else (q_bn (xGlyphPositions_isU16 x2) (fun r2 => if r2 = 0 then (xGlyphPositions_kind_19 st) else (if x1 ≤ x2 then (if x3 < 0 then (xGlyphPositions_kind_51 st) else (if 3 < x3 then (xGlyphPositions_kind_51 st) else (if x4 < 0 then (xGlyphPositions_kind_51 st) else (if x4 ≤ 255 then (q_bm (xKinds_tell x1 x2 x3 x4 st) (fun r3 sr3 => if r3 = 0 then (none) else (some sr3))) else (xGlyphPositions_kind_51 st))))) else (xGlyphPositions_kind_19 st)))))
set_option maxHeartbeats 4000000 in
set_option maxRecDepth 100000 in
theorem c_xGlyphPositions_kind (l : Launch) (G : XG) {x1 x2 x3 x4 : Int32} {st : QSt} {so : QSt} (hf : xGlyphPositions_kind x1 x2 x3 x4 st = some so) : q_Mv l y_GP_kind b_GP_kind 5 ({ frames := 1, cells := 0, slots := 0, locals := 24 } : Room) G.1 (xT G) (wX G) [.ref (G.2.2 0), .int x1, .int x2, .int x3, .int x4] st so := by
  refine q_Mv_of (by decide) (Nat.le_of_ble_eq_true rfl) (wX_fst G) ?_
  intro p e s m args below meth c A ls hC hr hlk hT hD hA hP hS hl
  have hx := hC.1.1
  have hb := hC.1.2.1
  have hown := hC.1.2.2.2.1
  have hts := hC.1.2.2.2.2
  have hl : lv_has ls 5 [(0, .ref (G.2.2 0)), (1, .int x1), (2, .int x2), (3, .int x3), (4, .int x4)] := hl
  have J_19 : ∀ (st_19 : QSt) (H : Heap) (locs : List Loc) (ls : Array Slot), xGlyphPositions_kind_19 st_19 = some so → va_P G.1 vwCl (wX G st_19) H → va_S A s.heap H locs → lv_has ls 5 [] → W p l e ({ frames := 1, cells := 0, slots := 0, locals := 24 } : Room) s m args below meth c H locs 0 0 (q_Zv below args s G.1 (wX G) so A) (F0 m 19 ls []) := by
    intro st_19 H locs ls hf hP hS hl
    unfold xGlyphPositions_kind_19 at hf
    cases hf
  have J_51 : ∀ (st_51 : QSt) (H : Heap) (locs : List Loc) (ls : Array Slot), xGlyphPositions_kind_51 st_51 = some so → va_P G.1 vwCl (wX G st_51) H → va_S A s.heap H locs → lv_has ls 5 [] → W p l e ({ frames := 1, cells := 0, slots := 0, locals := 24 } : Room) s m args below meth c H locs 0 0 (q_Zv below args s G.1 (wX G) so A) (F0 m 51 ls []) := by
    intro st_51 H locs ls hf hP hS hl
    unfold xGlyphPositions_kind_51 at hf
    cases hf
  unfold xGlyphPositions_kind at hf
  refine lv_iload_n hx hb d_GP_kind_0 rfl (lv_at hl 1 rfl) ?_
  obtain ⟨r1, h_r1, hf⟩ := q_bn_some hf
  refine q_callSp (As := [.int x1]) (rest := []) hC (c_xGlyphPositions_isU16 l G h_r1) cal_GP_isU16 wq_513 ⟨rfl, rfl, Nat.le_of_ble_eq_true rfl, Nat.le_of_ble_eq_true rfl⟩ hP hT hS rfl hl.1 rfl (Nat.le_of_ble_eq_true rfl) d_GP_kind_1 (fun H locs hP hS => ?_)
  refine lv_if_eq (tgt := 19) hx hb d_GP_kind_4 (by decide) (fun c1 => ?_) (fun c1 => ?_)
  · rw [if_pos c1] at hf
    exact J_19 _ _ _ _ hf hP hS (lv_sub hl [] rfl)
  rw [if_neg c1] at hf
  refine lv_iload_n hx hb d_GP_kind_7 rfl (lv_at hl 2 rfl) ?_
  obtain ⟨r2, h_r2, hf⟩ := q_bn_some hf
  refine q_callSp (As := [.int x2]) (rest := []) hC (c_xGlyphPositions_isU16 l G h_r2) cal_GP_isU16 wq_513 ⟨rfl, rfl, Nat.le_of_ble_eq_true rfl, Nat.le_of_ble_eq_true rfl⟩ hP hT hS rfl hl.1 rfl (Nat.le_of_ble_eq_true rfl) d_GP_kind_8 (fun H locs hP hS => ?_)
  refine lv_if_eq (tgt := 19) hx hb d_GP_kind_11 (by decide) (fun c1 => ?_) (fun c1 => ?_)
  · rw [if_pos c1] at hf
    exact J_19 _ _ _ _ hf hP hS (lv_sub hl [] rfl)
  rw [if_neg c1] at hf
  refine lv_iload_n hx hb d_GP_kind_14 rfl (lv_at hl 1 rfl) ?_
  refine lv_iload_n hx hb d_GP_kind_15 rfl (lv_at hl 2 rfl) ?_
  refine lv_icmp_le (tgt := 29) hx hb d_GP_kind_16 (by decide) (fun c1 => ?_) (fun c1 => ?_)
  rotate_left
  · rw [if_neg c1] at hf
    exact J_19 _ _ _ _ hf hP hS (lv_sub hl [] rfl)
  rw [if_pos c1] at hf
  refine lv_iload_n hx hb d_GP_kind_29 rfl (lv_at hl 3 rfl) ?_
  refine lv_if_lt (tgt := 51) hx hb d_GP_kind_30 (by decide) (fun c1 => ?_) (fun c1 => ?_)
  · rw [if_pos c1] at hf
    exact J_51 _ _ _ _ hf hP hS (lv_sub hl [] rfl)
  rw [if_neg c1] at hf
  refine lv_iload_n hx hb d_GP_kind_33 rfl (lv_at hl 3 rfl) ?_
  refine lv_iconst (v := 3) hx hb d_GP_kind_34 (by decide) ?_
  refine lv_icmp_gt (tgt := 51) hx hb d_GP_kind_35 (by decide) (fun c1 => ?_) (fun c1 => ?_)
  · rw [if_pos c1] at hf
    exact J_51 _ _ _ _ hf hP hS (lv_sub hl [] rfl)
  rw [if_neg c1] at hf
  refine lv_iload hx hb d_GP_kind_38 (lv_at hl 4 rfl) ?_
  refine lv_if_lt (tgt := 51) hx hb d_GP_kind_40 (by decide) (fun c1 => ?_) (fun c1 => ?_)
  · rw [if_pos c1] at hf
    exact J_51 _ _ _ _ hf hP hS (lv_sub hl [] rfl)
  rw [if_neg c1] at hf
  refine lv_iload hx hb d_GP_kind_43 (lv_at hl 4 rfl) ?_
  refine lv_sipush (v := 255) hx hb d_GP_kind_45 (by decide) ?_
  refine lv_icmp_le (tgt := 61) hx hb d_GP_kind_48 (by decide) (fun c1 => ?_) (fun c1 => ?_)
  rotate_left
  · rw [if_neg c1] at hf
    exact J_51 _ _ _ _ hf hP hS (lv_sub hl [] rfl)
  rw [if_pos c1] at hf
  refine lv_aload_n hx hb d_GP_kind_61 rfl (lv_at hl 0 rfl) ?_
  refine xg_0_kinds hC hP wq_514 d_GP_kind_62 ?_
  refine lv_iload_n hx hb d_GP_kind_65 rfl (lv_at hl 1 rfl) ?_
  refine lv_iload_n hx hb d_GP_kind_66 rfl (lv_at hl 2 rfl) ?_
  refine lv_iload_n hx hb d_GP_kind_67 rfl (lv_at hl 3 rfl) ?_
  refine lv_iload hx hb d_GP_kind_68 (lv_at hl 4 rfl) ?_
  obtain ⟨r3, sr3, h_r3, hf⟩ := q_bm_some hf
  refine q_callVi (As := [.int x1, .int x2, .int x3, .int x4]) (rest := []) (q0 := 6) hC (c_xKinds_tell l G h_r3) cal_Kinds_tell wq_515 ⟨rfl, rfl, Nat.le_of_ble_eq_true rfl, Nat.le_of_ble_eq_true rfl⟩ rfl rfl hP hD hA hS rfl hl.1 rfl (Nat.le_of_ble_eq_true rfl) d_GP_kind_70 (fun H locs hP hS => ?_)
  refine lv_if_ne (tgt := 86) hx hb d_GP_kind_73 (by decide) (fun c1 => ?_) (fun c1 => ?_)
  · rw [if_neg c1] at hf
    exact q_vret hC hr hlk hf hP hS d_GP_kind_86
  rw [if_pos c1] at hf
  cases hf
def xGlyphPositions_forget (st : QSt) : Option (Int32 × QSt) :=
  q_bm (xKinds_drop st) (fun r1 sr1 => some (r1, sr1))
set_option maxHeartbeats 4000000 in
set_option maxRecDepth 100000 in
theorem c_xGlyphPositions_forget (l : Launch) (G : XG) {st : QSt} {ro : Int32} {so : QSt} (hf : xGlyphPositions_forget st = some (ro, so)) : q_Mi l y_GP_forget b_GP_forget 1 .int ({ frames := 1, cells := 0, slots := 0, locals := 21 } : Room) G.1 (xT G) (wX G) [.ref (G.2.2 0)] st ro so := by
  refine q_Mi_of (by decide) (Nat.le_of_ble_eq_true rfl) (wX_fst G) ?_
  intro p e s m args below meth c A ls hC hr hlk hT hD hA hP hS hl
  have hx := hC.1.1
  have hb := hC.1.2.1
  have hown := hC.1.2.2.2.1
  have hts := hC.1.2.2.2.2
  have hl : lv_has ls 1 [(0, .ref (G.2.2 0))] := hl
  unfold xGlyphPositions_forget at hf
  refine lv_aload_n hx hb d_GP_forget_0 rfl (lv_at hl 0 rfl) ?_
  refine xg_0_kinds hC hP wq_514 d_GP_forget_1 ?_
  obtain ⟨r1, sr1, h_r1, hf⟩ := q_bm_some hf
  refine q_callVi (As := []) (rest := []) (q0 := 6) hC (c_xKinds_drop l G h_r1) cal_Kinds_drop wq_516 ⟨rfl, rfl, Nat.le_of_ble_eq_true rfl, Nat.le_of_ble_eq_true rfl⟩ rfl rfl hP hD hA hS rfl hl.1 rfl (Nat.le_of_ble_eq_true rfl) d_GP_forget_4 (fun H locs hP hS => ?_)
  exact q_iret hC hr hlk hf (by first | rfl | decide) hP hS d_GP_forget_7
def xGlyphPositions_choose (x1 x2 : Int32) (st : QSt) : Option QSt :=
  q_lt (q_ps st 1 x1) (fun s1 => q_lt (q_ps s1 2 x2) (fun s2 => some s2))
set_option maxHeartbeats 4000000 in
set_option maxRecDepth 100000 in
theorem c_xGlyphPositions_choose (l : Launch) (G : XG) {x1 x2 : Int32} {st : QSt} {so : QSt} (hf : xGlyphPositions_choose x1 x2 st = some so) : q_Mv l y_GP_choose b_GP_choose 3 ({ frames := 0, cells := 0, slots := 0, locals := 0 } : Room) G.1 (xT G) (wX G) [.ref (G.2.2 0), .int x1, .int x2] st so := by
  refine q_Mv_of (by decide) (Nat.le_of_ble_eq_true rfl) (wX_fst G) ?_
  intro p e s m args below meth c A ls hC hr hlk hT hD hA hP hS hl
  have hx := hC.1.1
  have hb := hC.1.2.1
  have hown := hC.1.2.2.2.1
  have hts := hC.1.2.2.2.2
  have hl : lv_has ls 3 [(0, .ref (G.2.2 0)), (1, .int x1), (2, .int x2)] := hl
  unfold xGlyphPositions_choose at hf
  refine lv_aload_n hx hb d_GP_choose_0 rfl (lv_at hl 0 rfl) ?_
  refine lv_iload_n hx hb d_GP_choose_1 rfl (lv_at hl 1 rfl) ?_
  obtain ⟨s1, e_s1, hf⟩ := q_lt_some hf
  refine xp_0_script hC hP hD hS e_s1 wq_517 d_GP_choose_2 (fun H locs hP hS => ?_)
  refine lv_aload_n hx hb d_GP_choose_5 rfl (lv_at hl 0 rfl) ?_
  refine lv_iload_n hx hb d_GP_choose_6 rfl (lv_at hl 2 rfl) ?_
  obtain ⟨s2, e_s2, hf⟩ := q_lt_some hf
  refine xp_0_language hC hP hD hS e_s2 wq_518 d_GP_choose_7 (fun H locs hP hS => ?_)
  exact q_vret hC hr hlk hf hP hS d_GP_choose_10
def xGlyphPositions_feature (N : Nat) (x1 x2 : Int32) (st : QSt) : Option QSt :=
  q_bm (xTags_tell N x1 x2 st) (fun r1 sr1 => if r1 = 0 then (none) else (some sr1))
set_option maxHeartbeats 4000000 in
set_option maxRecDepth 100000 in
theorem c_xGlyphPositions_feature (l : Launch) (G : XG) {N : Nat} {x1 x2 : Int32} {st : QSt} {so : QSt} (hf : xGlyphPositions_feature N x1 x2 st = some so) : q_Mv l y_GP_feature b_GP_feature 3 ({ frames := 2, cells := 0, slots := 0, locals := 45 } : Room) G.1 (xT G) (wX G) [.ref (G.2.2 0), .int x1, .int x2] st so := by
  refine q_Mv_of (by decide) (Nat.le_of_ble_eq_true rfl) (wX_fst G) ?_
  intro p e s m args below meth c A ls hC hr hlk hT hD hA hP hS hl
  have hx := hC.1.1
  have hb := hC.1.2.1
  have hown := hC.1.2.2.2.1
  have hts := hC.1.2.2.2.2
  have hl : lv_has ls 3 [(0, .ref (G.2.2 0)), (1, .int x1), (2, .int x2)] := hl
  unfold xGlyphPositions_feature at hf
  refine lv_aload_n hx hb d_GP_feature_0 rfl (lv_at hl 0 rfl) ?_
  refine xg_0_tags hC hP wq_519 d_GP_feature_1 ?_
  refine lv_iload_n hx hb d_GP_feature_4 rfl (lv_at hl 1 rfl) ?_
  refine lv_iload_n hx hb d_GP_feature_5 rfl (lv_at hl 2 rfl) ?_
  obtain ⟨r1, sr1, h_r1, hf⟩ := q_bm_some hf
  refine q_callVi (As := [.int x1, .int x2]) (rest := []) (q0 := 11) hC (c_xTags_tell l G h_r1) cal_Tags_tell wq_520 ⟨rfl, rfl, Nat.le_of_ble_eq_true rfl, Nat.le_of_ble_eq_true rfl⟩ rfl rfl hP hD hA hS rfl hl.1 rfl (Nat.le_of_ble_eq_true rfl) d_GP_feature_6 (fun H locs hP hS => ?_)
  refine lv_if_ne (tgt := 22) hx hb d_GP_feature_9 (by decide) (fun c1 => ?_) (fun c1 => ?_)
  · rw [if_neg c1] at hf
    exact q_vret hC hr hlk hf hP hS d_GP_feature_22
  rw [if_pos c1] at hf
  cases hf
def xGlyphPositions_add_24 (st_24 : QSt) : Option (Int32 × QSt) :=
  none
def xGlyphPositions_add (x1 x2 x3 : Int32) (st : QSt) : Option (Int32 × QSt) :=
  q_bn (xGlyphPositions_isU16 x1) (fun r1 => if r1 = 0 then (xGlyphPositions_add_24 st) else (q_bn (xGlyphPositions_isU16 x2) (fun r2 => if r2 = 0 then (xGlyphPositions_add_24 st) else (if x3 < 0 then (xGlyphPositions_add_24 st) else (if x3 ≤ 16 then (q_bm (xTold_append x1 x2 x3 st) (fun r3 sr3 => if r3 = 0 then (none) else (some (sr3.1 8, sr3)))) else (xGlyphPositions_add_24 st))))))
set_option maxHeartbeats 4000000 in
set_option maxRecDepth 100000 in
theorem c_xGlyphPositions_add (l : Launch) (G : XG) {x1 x2 x3 : Int32} {st : QSt} {ro : Int32} {so : QSt} (hf : xGlyphPositions_add x1 x2 x3 st = some (ro, so)) : q_Mi l y_GP_add b_GP_add 4 .int ({ frames := 1, cells := 0, slots := 0, locals := 23 } : Room) G.1 (xT G) (wX G) [.ref (G.2.2 0), .int x1, .int x2, .int x3] st ro so := by
  refine q_Mi_of (by decide) (Nat.le_of_ble_eq_true rfl) (wX_fst G) ?_
  intro p e s m args below meth c A ls hC hr hlk hT hD hA hP hS hl
  have hx := hC.1.1
  have hb := hC.1.2.1
  have hown := hC.1.2.2.2.1
  have hts := hC.1.2.2.2.2
  have hl : lv_has ls 4 [(0, .ref (G.2.2 0)), (1, .int x1), (2, .int x2), (3, .int x3)] := hl
  have J_24 : ∀ (st_24 : QSt) (H : Heap) (locs : List Loc) (ls : Array Slot), xGlyphPositions_add_24 st_24 = some (ro, so) → va_P G.1 vwCl (wX G st_24) H → va_S A s.heap H locs → lv_has ls 4 [] → W p l e ({ frames := 1, cells := 0, slots := 0, locals := 23 } : Room) s m args below meth c H locs 0 0 (q_Zi below args s G.1 (wX G) ro so A) (F0 m 24 ls []) := by
    intro st_24 H locs ls hf hP hS hl
    unfold xGlyphPositions_add_24 at hf
    cases hf
  unfold xGlyphPositions_add at hf
  refine lv_iload_n hx hb d_GP_add_0 rfl (lv_at hl 1 rfl) ?_
  obtain ⟨r1, h_r1, hf⟩ := q_bn_some hf
  refine q_callSp (As := [.int x1]) (rest := []) hC (c_xGlyphPositions_isU16 l G h_r1) cal_GP_isU16 wq_513 ⟨rfl, rfl, Nat.le_of_ble_eq_true rfl, Nat.le_of_ble_eq_true rfl⟩ hP hT hS rfl hl.1 rfl (Nat.le_of_ble_eq_true rfl) d_GP_add_1 (fun H locs hP hS => ?_)
  refine lv_if_eq (tgt := 24) hx hb d_GP_add_4 (by decide) (fun c1 => ?_) (fun c1 => ?_)
  · rw [if_pos c1] at hf
    exact J_24 _ _ _ _ hf hP hS (lv_sub hl [] rfl)
  rw [if_neg c1] at hf
  refine lv_iload_n hx hb d_GP_add_7 rfl (lv_at hl 2 rfl) ?_
  obtain ⟨r2, h_r2, hf⟩ := q_bn_some hf
  refine q_callSp (As := [.int x2]) (rest := []) hC (c_xGlyphPositions_isU16 l G h_r2) cal_GP_isU16 wq_513 ⟨rfl, rfl, Nat.le_of_ble_eq_true rfl, Nat.le_of_ble_eq_true rfl⟩ hP hT hS rfl hl.1 rfl (Nat.le_of_ble_eq_true rfl) d_GP_add_8 (fun H locs hP hS => ?_)
  refine lv_if_eq (tgt := 24) hx hb d_GP_add_11 (by decide) (fun c1 => ?_) (fun c1 => ?_)
  · rw [if_pos c1] at hf
    exact J_24 _ _ _ _ hf hP hS (lv_sub hl [] rfl)
  rw [if_neg c1] at hf
  refine lv_iload_n hx hb d_GP_add_14 rfl (lv_at hl 3 rfl) ?_
  refine lv_if_lt (tgt := 24) hx hb d_GP_add_15 (by decide) (fun c1 => ?_) (fun c1 => ?_)
  · rw [if_pos c1] at hf
    exact J_24 _ _ _ _ hf hP hS (lv_sub hl [] rfl)
  rw [if_neg c1] at hf
  refine lv_iload_n hx hb d_GP_add_18 rfl (lv_at hl 3 rfl) ?_
  refine lv_bipush (v := 16) hx hb d_GP_add_19 (by decide) ?_
  refine lv_icmp_le (tgt := 34) hx hb d_GP_add_21 (by decide) (fun c1 => ?_) (fun c1 => ?_)
  rotate_left
  · rw [if_neg c1] at hf
    exact J_24 _ _ _ _ hf hP hS (lv_sub hl [] rfl)
  rw [if_pos c1] at hf
  refine lv_aload_n hx hb d_GP_add_34 rfl (lv_at hl 0 rfl) ?_
  refine xg_0_told hC hP wq_521 d_GP_add_35 ?_
  refine lv_iload_n hx hb d_GP_add_38 rfl (lv_at hl 1 rfl) ?_
  refine lv_iload_n hx hb d_GP_add_39 rfl (lv_at hl 2 rfl) ?_
  refine lv_iload_n hx hb d_GP_add_40 rfl (lv_at hl 3 rfl) ?_
  obtain ⟨r3, sr3, h_r3, hf⟩ := q_bm_some hf
  refine q_callVi (As := [.int x1, .int x2, .int x3]) (rest := []) (q0 := 14) hC (c_xTold_append l G h_r3) cal_Told_append wq_522 ⟨rfl, rfl, Nat.le_of_ble_eq_true rfl, Nat.le_of_ble_eq_true rfl⟩ rfl rfl hP hD hA hS rfl hl.1 rfl (Nat.le_of_ble_eq_true rfl) d_GP_add_41 (fun H locs hP hS => ?_)
  refine lv_if_ne (tgt := 57) hx hb d_GP_add_44 (by decide) (fun c1 => ?_) (fun c1 => ?_)
  rotate_left
  · rw [if_pos c1] at hf
    cases hf
  rw [if_neg c1] at hf
  refine lv_aload_n hx hb d_GP_add_57 rfl (lv_at hl 0 rfl) ?_
  refine xg_0_told hC hP wq_521 d_GP_add_58 ?_
  refine xgN_14_count hC hP wq_523 d_GP_add_61 ?_
  exact q_iret hC hr hlk hf (by first | rfl | decide) hP hS d_GP_add_64
def xGlyphPositions_clear (st : QSt) : Option (Int32 × QSt) :=
  q_bm (xTold_drop st) (fun r1 sr1 => some (r1, sr1))
set_option maxHeartbeats 4000000 in
set_option maxRecDepth 100000 in
theorem c_xGlyphPositions_clear (l : Launch) (G : XG) {st : QSt} {ro : Int32} {so : QSt} (hf : xGlyphPositions_clear st = some (ro, so)) : q_Mi l y_GP_clear b_GP_clear 1 .int ({ frames := 1, cells := 0, slots := 0, locals := 21 } : Room) G.1 (xT G) (wX G) [.ref (G.2.2 0)] st ro so := by
  refine q_Mi_of (by decide) (Nat.le_of_ble_eq_true rfl) (wX_fst G) ?_
  intro p e s m args below meth c A ls hC hr hlk hT hD hA hP hS hl
  have hx := hC.1.1
  have hb := hC.1.2.1
  have hown := hC.1.2.2.2.1
  have hts := hC.1.2.2.2.2
  have hl : lv_has ls 1 [(0, .ref (G.2.2 0))] := hl
  unfold xGlyphPositions_clear at hf
  refine lv_aload_n hx hb d_GP_clear_0 rfl (lv_at hl 0 rfl) ?_
  refine xg_0_told hC hP wq_521 d_GP_clear_1 ?_
  obtain ⟨r1, sr1, h_r1, hf⟩ := q_bm_some hf
  refine q_callVi (As := []) (rest := []) (q0 := 14) hC (c_xTold_drop l G h_r1) cal_Told_drop wq_524 ⟨rfl, rfl, Nat.le_of_ble_eq_true rfl, Nat.le_of_ble_eq_true rfl⟩ rfl rfl hP hD hA hS rfl hl.1 rfl (Nat.le_of_ble_eq_true rfl) d_GP_clear_4 (fun H locs hP hS => ?_)
  exact q_iret hC hr hlk hf (by first | rfl | decide) hP hS d_GP_clear_7
def xGlyphPositions_set_53 (N : Nat) (x1_53 : Int32) : Nat → Int32 → QSt → Option (Int32 × QSt)
  | 0, _, _ => none
  | n_53 + 1, x2_53, st_53 => if 64 ≤ x2_53 then (q_bv (xRun_finish N x1_53 st_53) (fun sr4 => some (sr4.1 9, sr4))) else (q_grd (q_vpb x2_53 64) (q_lt (st_53.2 11 x2_53.toNatClampNeg) (fun v5 => if v5 = 0 then (xGlyphPositions_set_53 N x1_53 n_53 (x2_53 + 1) st_53) else (q_bv (xSetter_carryOut N x2_53 st_53) (fun sr6 => xGlyphPositions_set_53 N x1_53 n_53 (x2_53 + 1) sr6)))))
def xGlyphPositions_set (N : Nat) (x1 : Int32) (st : QSt) : Option (Int32 × QSt) :=
  if (st.1 0) = 0 then (none) else (q_bv (xRun_start N st) (fun sr1 => q_bv (xSetter_start N x1 sr1) (fun sr2 => q_bv (xChoice_find N (sr2.1 1) (sr2.1 2) sr2) (fun sr3 => xGlyphPositions_set_53 N x1 N 0 sr3))))
set_option maxHeartbeats 4000000 in
set_option maxRecDepth 100000 in
theorem c_xGlyphPositions_set (l : Launch) (G : XG) {N : Nat} {x1 : Int32} {st : QSt} {ro : Int32} {so : QSt} (hf : xGlyphPositions_set N x1 st = some (ro, so)) : q_Mi l y_GP_set b_GP_set 3 .int ({ frames := 7, cells := 0, slots := 0, locals := 181 } : Room) G.1 (xT G) (wX G) [.ref (G.2.2 0), .int x1] st ro so := by
  refine q_Mi_of (by decide) (Nat.le_of_ble_eq_true rfl) (wX_fst G) ?_
  intro p e s m args below meth c A ls hC hr hlk hT hD hA hP hS hl
  have hx := hC.1.1
  have hb := hC.1.2.1
  have hown := hC.1.2.2.2.1
  have hts := hC.1.2.2.2.2
  have hl : lv_has ls 3 [(0, .ref (G.2.2 0)), (1, .int x1)] := hl
  have L_53 : ∀ (x1_53 : Int32) (n_53 : Nat) (x2_53 : Int32) (st_53 : QSt) (H : Heap) (locs : List Loc) (ls : Array Slot), xGlyphPositions_set_53 N x1_53 n_53 x2_53 st_53 = some (ro, so) → va_P G.1 vwCl (wX G st_53) H → va_S A s.heap H locs → lv_has ls 3 [(0, .ref (G.2.2 0)), (1, .int x1_53), (2, .int x2_53)] → W p l e ({ frames := 7, cells := 0, slots := 0, locals := 181 } : Room) s m args below meth c H locs 0 0 (q_Zi below args s G.1 (wX G) ro so A) (F0 m 53 ls []) := by
    intro x1_53 n_53
    induction n_53 with
    | zero => intro _ _ _ _ _ hf; exact absurd hf (by simp [xGlyphPositions_set_53])
    | succ n_53 ih_53 =>
      intro x2_53 st_53 H locs ls hf hP hS hl
      rw [xGlyphPositions_set_53] at hf
      refine lv_iload_n hx hb d_GP_set_53 rfl (lv_at hl 2 rfl) ?_
      refine lv_bipush (v := 64) hx hb d_GP_set_54 (by decide) ?_
      refine lv_icmp_ge (tgt := 85) hx hb d_GP_set_56 (by decide) (fun c1 => ?_) (fun c1 => ?_)
      · rw [if_pos c1] at hf
        refine lv_aload_n hx hb d_GP_set_85 rfl (lv_at hl 0 rfl) ?_
        refine xg_0_run hC hP wq_525 d_GP_set_86 ?_
        refine lv_iload_n hx hb d_GP_set_89 rfl (lv_at hl 1 rfl) ?_
        obtain ⟨sr4, h_r4, hf⟩ := q_bv_some hf
        refine q_callVv (As := [.int x1_53]) (rest := []) (q0 := 20) hC (c_xRun_finish l G h_r4) cal_Run_finish wq_526 ⟨rfl, rfl, Nat.le_of_ble_eq_true rfl, Nat.le_of_ble_eq_true rfl⟩ rfl rfl hP hD hA hS rfl hl.1 rfl (Nat.le_of_ble_eq_true rfl) d_GP_set_90 (fun H locs hP hS => ?_)
        refine lv_aload_n hx hb d_GP_set_93 rfl (lv_at hl 0 rfl) ?_
        refine xg_0_run hC hP wq_525 d_GP_set_94 ?_
        refine xgN_20_count hC hP wq_527 d_GP_set_97 ?_
        exact q_iret hC hr hlk hf (by first | rfl | decide) hP hS d_GP_set_100
      rw [if_neg c1] at hf
      refine lv_aload_n hx hb d_GP_set_59 rfl (lv_at hl 0 rfl) ?_
      refine xg_0_choice hC hP wq_528 d_GP_set_60 ?_
      refine xgN_18_wanted hC hP wq_529 d_GP_set_63 ?_
      refine lv_iload_n hx hb d_GP_set_66 rfl (lv_at hl 2 rfl) ?_
      obtain ⟨hi, hf⟩ := q_grd_some hf
      obtain ⟨v5, e_v5, hf⟩ := q_lt_some hf
      refine xl_19 hC hP e_v5 hi d_GP_set_67 ?_
      refine lv_if_eq (tgt := 79) hx hb d_GP_set_68 (by decide) (fun c1 => ?_) (fun c1 => ?_)
      · rw [if_pos c1] at hf
        refine lv_iinc (v := x2_53 + 1) (lv' := [(2, .int (x2_53 + 1)), (0, .ref (G.2.2 0)), (1, .int x1_53)]) hx hb d_GP_set_79 hl (k := 2) rfl rfl (by decide) rfl (fun ls hl => ?_)
        refine lv_goto (tgt := 53) hx hb d_GP_set_82 (by decide) ?_
        exact ih_53 _ _ _ _ _ hf hP hS (lv_sub hl [1, 2, 0] rfl)
      rw [if_neg c1] at hf
      refine lv_aload_n hx hb d_GP_set_71 rfl (lv_at hl 0 rfl) ?_
      refine xg_0_setter hC hP wq_530 d_GP_set_72 ?_
      refine lv_iload_n hx hb d_GP_set_75 rfl (lv_at hl 2 rfl) ?_
      obtain ⟨sr6, h_r6, hf⟩ := q_bv_some hf
      refine q_callVv (As := [.int x2_53]) (rest := []) (q0 := 29) hC (c_xSetter_carryOut l G h_r6) cal_Setter_carryOut wq_531 ⟨rfl, rfl, Nat.le_of_ble_eq_true rfl, Nat.le_of_ble_eq_true rfl⟩ rfl rfl hP hD hA hS rfl hl.1 rfl (Nat.le_of_ble_eq_true rfl) d_GP_set_76 (fun H locs hP hS => ?_)
      refine lv_iinc (v := x2_53 + 1) (lv' := [(2, .int (x2_53 + 1)), (0, .ref (G.2.2 0)), (1, .int x1_53)]) hx hb d_GP_set_79 hl (k := 2) rfl rfl (by decide) rfl (fun ls hl => ?_)
      refine lv_goto (tgt := 53) hx hb d_GP_set_82 (by decide) ?_
      exact ih_53 _ _ _ _ _ hf hP hS (lv_sub hl [1, 2, 0] rfl)
  unfold xGlyphPositions_set at hf
  refine lv_aload_n hx hb d_GP_set_0 rfl (lv_at hl 0 rfl) ?_
  refine xg_0_loaded hC hP wq_510 d_GP_set_1 ?_
  refine lv_if_ne (tgt := 17) hx hb d_GP_set_4 (by decide) (fun c1 => ?_) (fun c1 => ?_)
  rotate_left
  · rw [if_pos c1] at hf
    cases hf
  rw [if_neg c1] at hf
  refine lv_aload_n hx hb d_GP_set_17 rfl (lv_at hl 0 rfl) ?_
  refine xg_0_run hC hP wq_525 d_GP_set_18 ?_
  refine lv_aload_n hx hb d_GP_set_21 rfl (lv_at hl 0 rfl) ?_
  refine xg_0_told hC hP wq_521 d_GP_set_22 ?_
  obtain ⟨sr1, h_r1, hf⟩ := q_bv_some hf
  refine q_callVv (As := [.ref (G.2.2 14)]) (rest := []) (q0 := 20) hC (c_xRun_start l G h_r1) cal_Run_start wq_532 ⟨rfl, rfl, Nat.le_of_ble_eq_true rfl, Nat.le_of_ble_eq_true rfl⟩ rfl rfl hP hD hA hS rfl hl.1 rfl (Nat.le_of_ble_eq_true rfl) d_GP_set_25 (fun H locs hP hS => ?_)
  refine lv_aload_n hx hb d_GP_set_28 rfl (lv_at hl 0 rfl) ?_
  refine xg_0_setter hC hP wq_530 d_GP_set_29 ?_
  refine lv_iload_n hx hb d_GP_set_32 rfl (lv_at hl 1 rfl) ?_
  obtain ⟨sr2, h_r2, hf⟩ := q_bv_some hf
  refine q_callVv (As := [.int x1]) (rest := []) (q0 := 29) hC (c_xSetter_start l G h_r2) cal_Setter_start wq_533 ⟨rfl, rfl, Nat.le_of_ble_eq_true rfl, Nat.le_of_ble_eq_true rfl⟩ rfl rfl hP hD hA hS rfl hl.1 rfl (Nat.le_of_ble_eq_true rfl) d_GP_set_33 (fun H locs hP hS => ?_)
  refine lv_aload_n hx hb d_GP_set_36 rfl (lv_at hl 0 rfl) ?_
  refine xg_0_choice hC hP wq_528 d_GP_set_37 ?_
  refine lv_aload_n hx hb d_GP_set_40 rfl (lv_at hl 0 rfl) ?_
  refine xg_0_script hC hP wq_517 d_GP_set_41 ?_
  refine lv_aload_n hx hb d_GP_set_44 rfl (lv_at hl 0 rfl) ?_
  refine xg_0_language hC hP wq_518 d_GP_set_45 ?_
  obtain ⟨sr3, h_r3, hf⟩ := q_bv_some hf
  refine q_callVv (As := [.int (sr2.1 1), .int (sr2.1 2)]) (rest := []) (q0 := 18) hC (c_xChoice_find l G h_r3) cal_Choice_find wq_534 ⟨rfl, rfl, Nat.le_of_ble_eq_true rfl, Nat.le_of_ble_eq_true rfl⟩ rfl rfl hP hD hA hS rfl hl.1 rfl (Nat.le_of_ble_eq_true rfl) d_GP_set_48 (fun H locs hP hS => ?_)
  refine lv_iconst (v := 0) hx hb d_GP_set_51 (by decide) ?_
  refine lv_istore_n (lv' := [(2, .int 0), (0, .ref (G.2.2 0)), (1, .int x1)]) hx hb d_GP_set_52 rfl hl (by decide) rfl (fun ls hl => ?_)
  exact L_53 _ _ _ _ _ _ _ hf hP hS (lv_sub hl [1, 2, 0] rfl)
def xGlyphPositions_place_15 (N : Nat) (st : QSt) : Option Int32 :=
  none
def xGlyphPositions_place (N : Nat) (x1 x2 : Int32) (st : QSt) : Option Int32 :=
  if x1 < 0 then (xGlyphPositions_place_15 N st) else (if x1 < (st.1 9) then (if x2 = 0 then (q_grd (q_vpb x1 800) (q_lt (st.2 12 x1.toNatClampNeg) (fun v7 => some v7))) else (if x2 = 1 then (q_grd (q_vpb x1 800) (q_lt (st.2 13 x1.toNatClampNeg) (fun v6 => some v6))) else (if x2 = 2 then (q_grd (q_vpb x1 800) (q_lt (st.2 14 x1.toNatClampNeg) (fun v5 => some v5))) else (if x2 = 3 then (q_grd (q_vpb x1 800) (q_lt (st.2 15 x1.toNatClampNeg) (fun v4 => some v4))) else (if x2 = 4 then (q_bn (xRun_widthsBefore N x1 st) (fun r2 => q_grd (q_vpb x1 800) (q_lt (st.2 14 x1.toNatClampNeg) (fun v3 => some (r2 + v3))))) else (if x2 = 5 then (q_grd (q_vpb x1 800) (q_lt (st.2 16 x1.toNatClampNeg) (fun v1 => some v1))) else (none))))))) else (xGlyphPositions_place_15 N st))
set_option maxHeartbeats 4000000 in
set_option maxRecDepth 100000 in
theorem c_xGlyphPositions_place (l : Launch) (G : XG) {N : Nat} {x1 x2 : Int32} {st : QSt} {ro : Int32} (hf : xGlyphPositions_place N x1 x2 st = some ro) : q_Mp l y_GP_place b_GP_place 3 .int ({ frames := 1, cells := 0, slots := 0, locals := 23 } : Room) G.1 (xT G) (wX G) [.ref (G.2.2 0), .int x1, .int x2] st ro := by
  refine q_Mp_of (by decide) (Nat.le_of_ble_eq_true rfl) (wX_fst G) ?_
  intro p e s m args below meth c ls hC hr hlk hT hP hS hl
  have hx := hC.1.1
  have hb := hC.1.2.1
  have hown := hC.1.2.2.2.1
  have hts := hC.1.2.2.2.2
  have hl : lv_has ls 3 [(0, .ref (G.2.2 0)), (1, .int x1), (2, .int x2)] := hl
  have J_15 : ∀ (H : Heap) (locs : List Loc) (ls : Array Slot), xGlyphPositions_place_15 N st = some ro → va_P G.1 vwCl (wX G st) H → va_S (fun _ => False) s.heap H locs → lv_has ls 3 [] → W p l e ({ frames := 1, cells := 0, slots := 0, locals := 23 } : Room) s m args below meth c H locs 0 0 (q_Zp below args s ro) (F0 m 15 ls []) := by
    intro H locs ls hf hP hS hl
    unfold xGlyphPositions_place_15 at hf
    cases hf
  unfold xGlyphPositions_place at hf
  refine lv_iload_n hx hb d_GP_place_0 rfl (lv_at hl 1 rfl) ?_
  refine lv_if_lt (tgt := 15) hx hb d_GP_place_1 (by decide) (fun c1 => ?_) (fun c1 => ?_)
  · rw [if_pos c1] at hf
    exact J_15 _ _ _ hf hP hS (lv_sub hl [] rfl)
  rw [if_neg c1] at hf
  refine lv_iload_n hx hb d_GP_place_4 rfl (lv_at hl 1 rfl) ?_
  refine lv_aload_n hx hb d_GP_place_5 rfl (lv_at hl 0 rfl) ?_
  refine xg_0_run hC hP wq_525 d_GP_place_6 ?_
  refine xgN_20_count hC hP wq_527 d_GP_place_9 ?_
  refine lv_icmp_lt (tgt := 25) hx hb d_GP_place_12 (by decide) (fun c1 => ?_) (fun c1 => ?_)
  rotate_left
  · rw [if_neg c1] at hf
    exact J_15 _ _ _ hf hP hS (lv_sub hl [] rfl)
  rw [if_pos c1] at hf
  refine lv_iload_n hx hb d_GP_place_25 rfl (lv_at hl 2 rfl) ?_
  by_cases c0 : x2 = 0
  · rw [if_pos c0] at hf
    refine lv_tableIn (tgt := 64) hx hb d_GP_place_26 (by rw [c0]; decide) (by rw [c0]; decide) (by rw [c0]; rfl) (by decide) ?_
    refine lv_aload_n hx hb d_GP_place_64 rfl (lv_at hl 0 rfl) ?_
    refine xg_0_run hC hP wq_525 d_GP_place_65 ?_
    refine xgN_20_width hC hP wq_535 d_GP_place_68 ?_
    refine lv_iload_n hx hb d_GP_place_71 rfl (lv_at hl 1 rfl) ?_
    obtain ⟨hi, hf⟩ := q_grd_some hf
    obtain ⟨v7, e_v7, hf⟩ := q_lt_some hf
    refine xl_21 hC hP e_v7 hi d_GP_place_72 ?_
    exact q_iretP hC hr hlk hf (by first | rfl | decide) hS d_GP_place_73
  rw [if_neg c0] at hf
  by_cases c1 : x2 = 1
  · rw [if_pos c1] at hf
    refine lv_tableIn (tgt := 74) hx hb d_GP_place_26 (by rw [c1]; decide) (by rw [c1]; decide) (by rw [c1]; rfl) (by decide) ?_
    refine lv_aload_n hx hb d_GP_place_74 rfl (lv_at hl 0 rfl) ?_
    refine xg_0_run hC hP wq_525 d_GP_place_75 ?_
    refine xgN_20_higher hC hP wq_536 d_GP_place_78 ?_
    refine lv_iload_n hx hb d_GP_place_81 rfl (lv_at hl 1 rfl) ?_
    obtain ⟨hi, hf⟩ := q_grd_some hf
    obtain ⟨v6, e_v6, hf⟩ := q_lt_some hf
    refine xl_22 hC hP e_v6 hi d_GP_place_82 ?_
    exact q_iretP hC hr hlk hf (by first | rfl | decide) hS d_GP_place_83
  rw [if_neg c1] at hf
  by_cases c2 : x2 = 2
  · rw [if_pos c2] at hf
    refine lv_tableIn (tgt := 84) hx hb d_GP_place_26 (by rw [c2]; decide) (by rw [c2]; decide) (by rw [c2]; rfl) (by decide) ?_
    refine lv_aload_n hx hb d_GP_place_84 rfl (lv_at hl 0 rfl) ?_
    refine xg_0_run hC hP wq_525 d_GP_place_85 ?_
    refine xgN_20_right hC hP wq_537 d_GP_place_88 ?_
    refine lv_iload_n hx hb d_GP_place_91 rfl (lv_at hl 1 rfl) ?_
    obtain ⟨hi, hf⟩ := q_grd_some hf
    obtain ⟨v5, e_v5, hf⟩ := q_lt_some hf
    refine xl_23 hC hP e_v5 hi d_GP_place_92 ?_
    exact q_iretP hC hr hlk hf (by first | rfl | decide) hS d_GP_place_93
  rw [if_neg c2] at hf
  by_cases c3 : x2 = 3
  · rw [if_pos c3] at hf
    refine lv_tableIn (tgt := 94) hx hb d_GP_place_26 (by rw [c3]; decide) (by rw [c3]; decide) (by rw [c3]; rfl) (by decide) ?_
    refine lv_aload_n hx hb d_GP_place_94 rfl (lv_at hl 0 rfl) ?_
    refine xg_0_run hC hP wq_525 d_GP_place_95 ?_
    refine xgN_20_up hC hP wq_538 d_GP_place_98 ?_
    refine lv_iload_n hx hb d_GP_place_101 rfl (lv_at hl 1 rfl) ?_
    obtain ⟨hi, hf⟩ := q_grd_some hf
    obtain ⟨v4, e_v4, hf⟩ := q_lt_some hf
    refine xl_24 hC hP e_v4 hi d_GP_place_102 ?_
    exact q_iretP hC hr hlk hf (by first | rfl | decide) hS d_GP_place_103
  rw [if_neg c3] at hf
  by_cases c4 : x2 = 4
  · rw [if_pos c4] at hf
    refine lv_tableIn (tgt := 104) hx hb d_GP_place_26 (by rw [c4]; decide) (by rw [c4]; decide) (by rw [c4]; rfl) (by decide) ?_
    refine lv_aload_n hx hb d_GP_place_104 rfl (lv_at hl 0 rfl) ?_
    refine xg_0_run hC hP wq_525 d_GP_place_105 ?_
    refine lv_iload_n hx hb d_GP_place_108 rfl (lv_at hl 1 rfl) ?_
    obtain ⟨r2, h_r2, hf⟩ := q_bn_some hf
    refine q_callVp (As := [.int x1]) (rest := []) (q0 := 20) hC (c_xRun_widthsBefore l G h_r2) cal_Run_widthsBefore wq_539 ⟨rfl, rfl, Nat.le_of_ble_eq_true rfl, Nat.le_of_ble_eq_true rfl⟩ rfl rfl hP hT hS rfl hl.1 rfl (Nat.le_of_ble_eq_true rfl) d_GP_place_109 (fun H locs hP hS => ?_)
    refine lv_aload_n hx hb d_GP_place_112 rfl (lv_at hl 0 rfl) ?_
    refine xg_0_run hC hP wq_525 d_GP_place_113 ?_
    refine xgN_20_right hC hP wq_537 d_GP_place_116 ?_
    refine lv_iload_n hx hb d_GP_place_119 rfl (lv_at hl 1 rfl) ?_
    obtain ⟨hi, hf⟩ := q_grd_some hf
    obtain ⟨v3, e_v3, hf⟩ := q_lt_some hf
    refine xl_23 hC hP e_v3 hi d_GP_place_120 ?_
    refine lv_iadd hx hb d_GP_place_121 ?_
    exact q_iretP hC hr hlk hf (by first | rfl | decide) hS d_GP_place_122
  rw [if_neg c4] at hf
  by_cases c5 : x2 = 5
  · rw [if_pos c5] at hf
    refine lv_tableIn (tgt := 123) hx hb d_GP_place_26 (by rw [c5]; decide) (by rw [c5]; decide) (by rw [c5]; rfl) (by decide) ?_
    refine lv_aload_n hx hb d_GP_place_123 rfl (lv_at hl 0 rfl) ?_
    refine xg_0_run hC hP wq_525 d_GP_place_124 ?_
    refine xgN_20_hangsOn hC hP wq_540 d_GP_place_127 ?_
    refine lv_iload_n hx hb d_GP_place_130 rfl (lv_at hl 1 rfl) ?_
    obtain ⟨hi, hf⟩ := q_grd_some hf
    obtain ⟨v1, e_v1, hf⟩ := q_lt_some hf
    refine xl_25 hC hP e_v1 hi d_GP_place_131 ?_
    exact q_iretP hC hr hlk hf (by first | rfl | decide) hS d_GP_place_132
  rw [if_neg c5] at hf
  refine lv_tableOut (tgt := 133) hx hb d_GP_place_26 (by have z0 := True.intro; have z1 : (x2).toInt ≠ 0 := q_ine c0; have z2 : (x2).toInt ≠ 1 := q_ine c1; have z3 : (x2).toInt ≠ 2 := q_ine c2; have z4 : (x2).toInt ≠ 3 := q_ine c3; have z5 : (x2).toInt ≠ 4 := q_ine c4; have z6 : (x2).toInt ≠ 5 := q_ine c5; omega) (by decide) ?_
  cases hf
