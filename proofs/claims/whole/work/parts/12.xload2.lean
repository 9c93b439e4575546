def xLoader_lookupHeadAsSaid_51 (st : QSt) (x1_51 x3_51 : Int32) : Option Int32 :=
  if (x3_51 &&& 16) = 0 then (q_bn (xLoader_listLies (x1_51 + 4) 16 2 st) (fun r4 => if r4 = 0 then (some 0) else (some 1))) else (some 0)
def xLoader_lookupHeadAsSaid_45 (st : QSt) (x1_45 x2_45 x3_45 : Int32) : Option Int32 :=
  if x2_45 = 9 then (xLoader_lookupHeadAsSaid_51 st x1_45 x3_45) else (some 0)
def xLoader_lookupHeadAsSaid (x1 : Int32) (st : QSt) : Option Int32 :=
  q_bn (xTable_lies x1 4 st) (fun r1 => if r1 = 0 then (some 0) else (q_bn (xTable_u16 x1 st) (fun r2 => q_bn (xTable_u16 (x1 + 2) st) (fun r3 => if r2 < 1 then (xLoader_lookupHeadAsSaid_45 st x1 r2 r3) else (if r2 ≤ 6 then (xLoader_lookupHeadAsSaid_51 st x1 r3) else (xLoader_lookupHeadAsSaid_45 st x1 r2 r3))))))
set_option maxHeartbeats 4000000 in
set_option maxRecDepth 100000 in
theorem c_xLoader_lookupHeadAsSaid (l : Launch) (G : XG) {x1 : Int32} {st : QSt} {ro : Int32} (hf : xLoader_lookupHeadAsSaid x1 st = some ro) : q_Mp l y_Loader_lookupHeadAsSaid b_Loader_lookupHeadAsSaid 4 .boolean ({ frames := 2, cells := 0, slots := 0, locals := 46 } : Room) G.1 (xT G) (wX G) [.ref (G.2.2 5), .int x1] st ro := by
  refine q_Mp_of (by decide) (Nat.le_of_ble_eq_true rfl) (wX_fst G) ?_
  intro p e s m args below meth c ls hC hr hlk hT hP hS hl
  have hx := hC.1.1
  have hb := hC.1.2.1
  have hown := hC.1.2.2.2.1
  have hts := hC.1.2.2.2.2
  have hl : lv_has ls 4 [(0, .ref (G.2.2 5)), (1, .int x1)] := hl
  have J_51 : ∀ (x1_51 x3_51 : Int32) (H : Heap) (locs : List Loc) (ls : Array Slot), xLoader_lookupHeadAsSaid_51 st x1_51 x3_51 = some ro → va_P G.1 vwCl (wX G st) H → va_S (fun _ => False) s.heap H locs → lv_has ls 4 [(0, .ref (G.2.2 5)), (1, .int x1_51), (3, .int x3_51)] → W p l e ({ frames := 2, cells := 0, slots := 0, locals := 46 } : Room) s m args below meth c H locs 0 0 (q_Zp below args s ro) (F0 m 51 ls []) := by
    intro x1_51 x3_51 H locs ls hf hP hS hl
    unfold xLoader_lookupHeadAsSaid_51 at hf
    refine lv_iload_n hx hb d_Loader_lookupHeadAsSaid_51 rfl (lv_at hl 2 rfl) ?_
    refine lv_bipush (v := 16) hx hb d_Loader_lookupHeadAsSaid_52 (by decide) ?_
    refine lv_iand hx hb d_Loader_lookupHeadAsSaid_54 ?_
    refine lv_if_ne (tgt := 75) hx hb d_Loader_lookupHeadAsSaid_55 (by decide) (fun c1 => ?_) (fun c1 => ?_)
    · rw [if_neg c1] at hf
      refine lv_iconst (v := 0) hx hb d_Loader_lookupHeadAsSaid_75 (by decide) ?_
      exact q_iretP hC hr hlk hf (by first | rfl | decide) hS d_Loader_lookupHeadAsSaid_76
    rw [if_pos c1] at hf
    refine lv_aload_n hx hb d_Loader_lookupHeadAsSaid_58 rfl (lv_at hl 0 rfl) ?_
    refine lv_iload_n hx hb d_Loader_lookupHeadAsSaid_59 rfl (lv_at hl 1 rfl) ?_
    refine lv_iconst (v := 4) hx hb d_Loader_lookupHeadAsSaid_60 (by decide) ?_
    refine lv_iadd hx hb d_Loader_lookupHeadAsSaid_61 ?_
    refine lv_bipush (v := 16) hx hb d_Loader_lookupHeadAsSaid_62 (by decide) ?_
    refine lv_iconst (v := 2) hx hb d_Loader_lookupHeadAsSaid_64 (by decide) ?_
    obtain ⟨r4, h_r4, hf⟩ := q_bn_some hf
    refine q_callVp (As := [.int (x1_51 + 4), .int 16, .int 2]) (rest := []) (q0 := 5) hC (c_xLoader_listLies l G h_r4) cal_Loader_listLies wq_13 ⟨rfl, rfl, Nat.le_of_ble_eq_true rfl, Nat.le_of_ble_eq_true rfl⟩ rfl rfl hP hT hS rfl hl.1 rfl (Nat.le_of_ble_eq_true rfl) d_Loader_lookupHeadAsSaid_65 (fun H locs hP hS => ?_)
    refine lv_if_eq (tgt := 75) hx hb d_Loader_lookupHeadAsSaid_68 (by decide) (fun c1 => ?_) (fun c1 => ?_)
    · rw [if_pos c1] at hf
      refine lv_iconst (v := 0) hx hb d_Loader_lookupHeadAsSaid_75 (by decide) ?_
      exact q_iretP hC hr hlk hf (by first | rfl | decide) hS d_Loader_lookupHeadAsSaid_76
    rw [if_neg c1] at hf
    refine lv_iconst (v := 1) hx hb d_Loader_lookupHeadAsSaid_71 (by decide) ?_
    refine lv_goto (tgt := 76) hx hb d_Loader_lookupHeadAsSaid_72 (by decide) ?_
    exact q_iretP hC hr hlk hf (by first | rfl | decide) hS d_Loader_lookupHeadAsSaid_76
  have J_45 : ∀ (x1_45 x2_45 x3_45 : Int32) (H : Heap) (locs : List Loc) (ls : Array Slot), xLoader_lookupHeadAsSaid_45 st x1_45 x2_45 x3_45 = some ro → va_P G.1 vwCl (wX G st) H → va_S (fun _ => False) s.heap H locs → lv_has ls 4 [(0, .ref (G.2.2 5)), (1, .int x1_45), (2, .int x2_45), (3, .int x3_45)] → W p l e ({ frames := 2, cells := 0, slots := 0, locals := 46 } : Room) s m args below meth c H locs 0 0 (q_Zp below args s ro) (F0 m 45 ls []) := by
    intro x1_45 x2_45 x3_45 H locs ls hf hP hS hl
    unfold xLoader_lookupHeadAsSaid_45 at hf
    refine lv_iload_n hx hb d_Loader_lookupHeadAsSaid_45 rfl (lv_at hl 2 rfl) ?_
    refine lv_bipush (v := 9) hx hb d_Loader_lookupHeadAsSaid_46 (by decide) ?_
    refine lv_icmp_ne (tgt := 75) hx hb d_Loader_lookupHeadAsSaid_48 (by decide) (fun c1 => ?_) (fun c1 => ?_)
    rotate_left
    · rw [if_pos c1] at hf
      exact J_51 _ _ _ _ _ hf hP hS (lv_sub hl [0, 1, 3] rfl)
    rw [if_neg c1] at hf
    refine lv_iconst (v := 0) hx hb d_Loader_lookupHeadAsSaid_75 (by decide) ?_
    exact q_iretP hC hr hlk hf (by first | rfl | decide) hS d_Loader_lookupHeadAsSaid_76
  unfold xLoader_lookupHeadAsSaid at hf
  refine lv_aload_n hx hb d_Loader_lookupHeadAsSaid_0 rfl (lv_at hl 0 rfl) ?_
  refine xg_5_table hC hP wq_8 d_Loader_lookupHeadAsSaid_1 ?_
  refine lv_iload_n hx hb d_Loader_lookupHeadAsSaid_4 rfl (lv_at hl 1 rfl) ?_
  refine lv_iconst (v := 4) hx hb d_Loader_lookupHeadAsSaid_5 (by decide) ?_
  obtain ⟨r1, h_r1, hf⟩ := q_bn_some hf
  refine q_callVp (As := [.int x1, .int 4]) (rest := []) (q0 := 1) hC (c_xTable_lies l G h_r1) cal_Table_lies wq_9 ⟨rfl, rfl, Nat.le_of_ble_eq_true rfl, Nat.le_of_ble_eq_true rfl⟩ rfl rfl hP hT hS rfl hl.1 rfl (Nat.le_of_ble_eq_true rfl) d_Loader_lookupHeadAsSaid_6 (fun H locs hP hS => ?_)
  refine lv_if_ne (tgt := 14) hx hb d_Loader_lookupHeadAsSaid_9 (by decide) (fun c1 => ?_) (fun c1 => ?_)
  rotate_left
  · rw [if_pos c1] at hf
    refine lv_iconst (v := 0) hx hb d_Loader_lookupHeadAsSaid_12 (by decide) ?_
    exact q_iretP hC hr hlk hf (by first | rfl | decide) hS d_Loader_lookupHeadAsSaid_13
  rw [if_neg c1] at hf
  refine lv_aload_n hx hb d_Loader_lookupHeadAsSaid_14 rfl (lv_at hl 0 rfl) ?_
  refine xg_5_table hC hP wq_8 d_Loader_lookupHeadAsSaid_15 ?_
  refine lv_iload_n hx hb d_Loader_lookupHeadAsSaid_18 rfl (lv_at hl 1 rfl) ?_
  obtain ⟨r2, h_r2, hf⟩ := q_bn_some hf
  refine q_callVp (As := [.int x1]) (rest := []) (q0 := 1) hC (c_xTable_u16 l G h_r2) cal_Table_u16 wq_10 ⟨rfl, rfl, Nat.le_of_ble_eq_true rfl, Nat.le_of_ble_eq_true rfl⟩ rfl rfl hP hT hS rfl hl.1 rfl (Nat.le_of_ble_eq_true rfl) d_Loader_lookupHeadAsSaid_19 (fun H locs hP hS => ?_)
  refine lv_istore_n (lv' := [(2, .int r2), (0, .ref (G.2.2 5)), (1, .int x1)]) hx hb d_Loader_lookupHeadAsSaid_22 rfl hl (by decide) rfl (fun ls hl => ?_)
  refine lv_aload_n hx hb d_Loader_lookupHeadAsSaid_23 rfl (lv_at hl 1 rfl) ?_
  refine xg_5_table hC hP wq_8 d_Loader_lookupHeadAsSaid_24 ?_
  refine lv_iload_n hx hb d_Loader_lookupHeadAsSaid_27 rfl (lv_at hl 2 rfl) ?_
  refine lv_iconst (v := 2) hx hb d_Loader_lookupHeadAsSaid_28 (by decide) ?_
  refine lv_iadd hx hb d_Loader_lookupHeadAsSaid_29 ?_
  obtain ⟨r3, h_r3, hf⟩ := q_bn_some hf
  refine q_callVp (As := [.int (x1 + 2)]) (rest := []) (q0 := 1) hC (c_xTable_u16 l G h_r3) cal_Table_u16 wq_10 ⟨rfl, rfl, Nat.le_of_ble_eq_true rfl, Nat.le_of_ble_eq_true rfl⟩ rfl rfl hP hT hS rfl hl.1 rfl (Nat.le_of_ble_eq_true rfl) d_Loader_lookupHeadAsSaid_30 (fun H locs hP hS => ?_)
  refine lv_istore_n (lv' := [(3, .int r3), (2, .int r2), (0, .ref (G.2.2 5)), (1, .int x1)]) hx hb d_Loader_lookupHeadAsSaid_33 rfl hl (by decide) rfl (fun ls hl => ?_)
  refine lv_iload_n hx hb d_Loader_lookupHeadAsSaid_34 rfl (lv_at hl 1 rfl) ?_
  refine lv_iconst (v := 1) hx hb d_Loader_lookupHeadAsSaid_35 (by decide) ?_
  refine lv_icmp_lt (tgt := 45) hx hb d_Loader_lookupHeadAsSaid_36 (by decide) (fun c1 => ?_) (fun c1 => ?_)
  · rw [if_pos c1] at hf
    exact J_45 _ _ _ _ _ _ hf hP hS (lv_sub hl [2, 3, 1, 0] rfl)
  rw [if_neg c1] at hf
  refine lv_iload_n hx hb d_Loader_lookupHeadAsSaid_39 rfl (lv_at hl 1 rfl) ?_
  refine lv_bipush (v := 6) hx hb d_Loader_lookupHeadAsSaid_40 (by decide) ?_
  refine lv_icmp_le (tgt := 51) hx hb d_Loader_lookupHeadAsSaid_42 (by decide) (fun c1 => ?_) (fun c1 => ?_)
  · rw [if_pos c1] at hf
    exact J_51 _ _ _ _ _ hf hP hS (lv_sub hl [2, 3, 0] rfl)
  rw [if_neg c1] at hf
  exact J_45 _ _ _ _ _ _ hf hP hS (lv_sub hl [2, 3, 1, 0] rfl)
def xLoader_looksAtOneMore (st : QSt) : Option (Int32 × QSt) :=
  q_lt (q_ps st 5 ((st.1 5) + 1)) (fun s1 => if 20000 < (s1.1 5) then (some (0, s1)) else (some (1, s1)))
set_option maxHeartbeats 4000000 in
set_option maxRecDepth 100000 in
theorem c_xLoader_looksAtOneMore (l : Launch) (G : XG) {st : QSt} {ro : Int32} {so : QSt} (hf : xLoader_looksAtOneMore st = some (ro, so)) : q_Mi l y_Loader_looksAtOneMore b_Loader_looksAtOneMore 1 .boolean ({ frames := 0, cells := 0, slots := 0, locals := 0 } : Room) G.1 (xT G) (wX G) [.ref (G.2.2 5)] st ro so := by
  refine q_Mi_of (by decide) (Nat.le_of_ble_eq_true rfl) (wX_fst G) ?_
  intro p e s m args below meth c A ls hC hr hlk hT hD hA hP hS hl
  have hx := hC.1.1
  have hb := hC.1.2.1
  have hown := hC.1.2.2.2.1
  have hts := hC.1.2.2.2.2
  have hl : lv_has ls 1 [(0, .ref (G.2.2 5))] := hl
  unfold xLoader_looksAtOneMore at hf
  refine lv_aload_n hx hb d_Loader_looksAtOneMore_0 rfl (lv_at hl 0 rfl) ?_
  refine lv_dup hx hb d_Loader_looksAtOneMore_1 rfl ?_
  refine xg_5_lookedAt hC hP wq_19 d_Loader_looksAtOneMore_2 ?_
  refine lv_iconst (v := 1) hx hb d_Loader_looksAtOneMore_5 (by decide) ?_
  refine lv_iadd hx hb d_Loader_looksAtOneMore_6 ?_
  obtain ⟨s1, e_s1, hf⟩ := q_lt_some hf
  refine xp_5_lookedAt hC hP hD hS e_s1 wq_19 d_Loader_looksAtOneMore_7 (fun H locs hP hS => ?_)
  refine lv_aload_n hx hb d_Loader_looksAtOneMore_10 rfl (lv_at hl 0 rfl) ?_
  refine xg_5_lookedAt hC hP wq_19 d_Loader_looksAtOneMore_11 ?_
  refine lv_sipush (v := 20000) hx hb d_Loader_looksAtOneMore_14 (by decide) ?_
  refine lv_icmp_gt (tgt := 24) hx hb d_Loader_looksAtOneMore_17 (by decide) (fun c1 => ?_) (fun c1 => ?_)
  · rw [if_pos c1] at hf
    refine lv_iconst (v := 0) hx hb d_Loader_looksAtOneMore_24 (by decide) ?_
    exact q_iret hC hr hlk hf (by first | rfl | decide) hP hS d_Loader_looksAtOneMore_25
  rw [if_neg c1] at hf
  refine lv_iconst (v := 1) hx hb d_Loader_looksAtOneMore_20 (by decide) ?_
  refine lv_goto (tgt := 25) hx hb d_Loader_looksAtOneMore_21 (by decide) ?_
  exact q_iret hC hr hlk hf (by first | rfl | decide) hP hS d_Loader_looksAtOneMore_25
def xLoader_rangesRise_5 (N : Nat) (st : QSt) (x1_5 x2_5 : Int32) : Nat → Int32 → Int32 → Option Int32
  | 0, _, _ => none
  | n_5 + 1, x3_5, x4_5 => if x2_5 ≤ x4_5 then (some 1) else (q_bn (xTable_u16 (x1_5 + (6 * x4_5)) st) (fun r1 => q_bn (xTable_u16 ((x1_5 + (6 * x4_5)) + 2) st) (fun r2 => if r1 ≤ x3_5 then (some 0) else (if r1 ≤ r2 then (xLoader_rangesRise_5 N st x1_5 x2_5 n_5 r2 (x4_5 + 1)) else (some 0)))))
def xLoader_rangesRise (N : Nat) (x1 x2 : Int32) (st : QSt) : Option Int32 :=
  xLoader_rangesRise_5 N st x1 x2 N (-1) 0
set_option maxHeartbeats 4000000 in
set_option maxRecDepth 100000 in
theorem c_xLoader_rangesRise (l : Launch) (G : XG) {N : Nat} {x1 x2 : Int32} {st : QSt} {ro : Int32} (hf : xLoader_rangesRise N x1 x2 st = some ro) : q_Mp l y_Loader_rangesRise b_Loader_rangesRise 7 .boolean ({ frames := 1, cells := 0, slots := 0, locals := 21 } : Room) G.1 (xT G) (wX G) [.ref (G.2.2 5), .int x1, .int x2] st ro := by
  refine q_Mp_of (by decide) (Nat.le_of_ble_eq_true rfl) (wX_fst G) ?_
  intro p e s m args below meth c ls hC hr hlk hT hP hS hl
  have hx := hC.1.1
  have hb := hC.1.2.1
  have hown := hC.1.2.2.2.1
  have hts := hC.1.2.2.2.2
  have hl : lv_has ls 7 [(0, .ref (G.2.2 5)), (1, .int x1), (2, .int x2)] := hl
  have L_5 : ∀ (x1_5 x2_5 : Int32) (n_5 : Nat) (x3_5 x4_5 : Int32) (H : Heap) (locs : List Loc) (ls : Array Slot), xLoader_rangesRise_5 N st x1_5 x2_5 n_5 x3_5 x4_5 = some ro → va_P G.1 vwCl (wX G st) H → va_S (fun _ => False) s.heap H locs → lv_has ls 7 [(0, .ref (G.2.2 5)), (1, .int x1_5), (2, .int x2_5), (3, .int x3_5), (4, .int x4_5)] → W p l e ({ frames := 1, cells := 0, slots := 0, locals := 21 } : Room) s m args below meth c H locs 0 0 (q_Zp below args s ro) (F0 m 5 ls []) := by
    intro x1_5 x2_5 n_5
    induction n_5 with
    | zero => intro _ _ _ _ _ hf; exact absurd hf (by simp [xLoader_rangesRise_5])
    | succ n_5 ih_5 =>
      intro x3_5 x4_5 H locs ls hf hP hS hl
      rw [xLoader_rangesRise_5] at hf
      refine lv_iload hx hb d_Loader_rangesRise_5 (lv_at hl 4 rfl) ?_
      refine lv_iload_n hx hb d_Loader_rangesRise_7 rfl (lv_at hl 2 rfl) ?_
      refine lv_icmp_ge (tgt := 69) hx hb d_Loader_rangesRise_8 (by decide) (fun c1 => ?_) (fun c1 => ?_)
      · rw [if_pos c1] at hf
        refine lv_iconst (v := 1) hx hb d_Loader_rangesRise_69 (by decide) ?_
        exact q_iretP hC hr hlk hf (by first | rfl | decide) hS d_Loader_rangesRise_70
      rw [if_neg c1] at hf
      refine lv_aload_n hx hb d_Loader_rangesRise_11 rfl (lv_at hl 0 rfl) ?_
      refine xg_5_table hC hP wq_8 d_Loader_rangesRise_12 ?_
      refine lv_iload_n hx hb d_Loader_rangesRise_15 rfl (lv_at hl 1 rfl) ?_
      refine lv_bipush (v := 6) hx hb d_Loader_rangesRise_16 (by decide) ?_
      refine lv_iload hx hb d_Loader_rangesRise_18 (lv_at hl 4 rfl) ?_
      refine lv_imul hx hb d_Loader_rangesRise_20 ?_
      refine lv_iadd hx hb d_Loader_rangesRise_21 ?_
      obtain ⟨r1, h_r1, hf⟩ := q_bn_some hf
      refine q_callVp (As := [.int (x1_5 + (6 * x4_5))]) (rest := []) (q0 := 1) hC (c_xTable_u16 l G h_r1) cal_Table_u16 wq_10 ⟨rfl, rfl, Nat.le_of_ble_eq_true rfl, Nat.le_of_ble_eq_true rfl⟩ rfl rfl hP hT hS rfl hl.1 rfl (Nat.le_of_ble_eq_true rfl) d_Loader_rangesRise_22 (fun H locs hP hS => ?_)
      refine lv_istore (lv' := [(5, .int r1), (0, .ref (G.2.2 5)), (1, .int x1_5), (2, .int x2_5), (3, .int x3_5), (4, .int x4_5)]) hx hb d_Loader_rangesRise_25 hl (by decide) rfl (fun ls hl => ?_)
      refine lv_aload_n hx hb d_Loader_rangesRise_27 rfl (lv_at hl 1 rfl) ?_
      refine xg_5_table hC hP wq_8 d_Loader_rangesRise_28 ?_
      refine lv_iload_n hx hb d_Loader_rangesRise_31 rfl (lv_at hl 2 rfl) ?_
      refine lv_bipush (v := 6) hx hb d_Loader_rangesRise_32 (by decide) ?_
      refine lv_iload hx hb d_Loader_rangesRise_34 (lv_at hl 5 rfl) ?_
      refine lv_imul hx hb d_Loader_rangesRise_36 ?_
      refine lv_iadd hx hb d_Loader_rangesRise_37 ?_
      refine lv_iconst (v := 2) hx hb d_Loader_rangesRise_38 (by decide) ?_
      refine lv_iadd hx hb d_Loader_rangesRise_39 ?_
      obtain ⟨r2, h_r2, hf⟩ := q_bn_some hf
      refine q_callVp (As := [.int ((x1_5 + (6 * x4_5)) + 2)]) (rest := []) (q0 := 1) hC (c_xTable_u16 l G h_r2) cal_Table_u16 wq_10 ⟨rfl, rfl, Nat.le_of_ble_eq_true rfl, Nat.le_of_ble_eq_true rfl⟩ rfl rfl hP hT hS rfl hl.1 rfl (Nat.le_of_ble_eq_true rfl) d_Loader_rangesRise_40 (fun H locs hP hS => ?_)
      refine lv_istore (lv' := [(6, .int r2), (5, .int r1), (0, .ref (G.2.2 5)), (1, .int x1_5), (2, .int x2_5), (3, .int x3_5), (4, .int x4_5)]) hx hb d_Loader_rangesRise_43 hl (by decide) rfl (fun ls hl => ?_)
      refine lv_iload hx hb d_Loader_rangesRise_45 (lv_at hl 1 rfl) ?_
      refine lv_iload_n hx hb d_Loader_rangesRise_47 rfl (lv_at hl 5 rfl) ?_
      refine lv_icmp_le (tgt := 58) hx hb d_Loader_rangesRise_48 (by decide) (fun c1 => ?_) (fun c1 => ?_)
      · rw [if_pos c1] at hf
        refine lv_iconst (v := 0) hx hb d_Loader_rangesRise_58 (by decide) ?_
        exact q_iretP hC hr hlk hf (by first | rfl | decide) hS d_Loader_rangesRise_59
      rw [if_neg c1] at hf
      refine lv_iload hx hb d_Loader_rangesRise_51 (lv_at hl 1 rfl) ?_
      refine lv_iload hx hb d_Loader_rangesRise_53 (lv_at hl 0 rfl) ?_
      refine lv_icmp_le (tgt := 60) hx hb d_Loader_rangesRise_55 (by decide) (fun c1 => ?_) (fun c1 => ?_)
      rotate_left
      · rw [if_neg c1] at hf
        refine lv_iconst (v := 0) hx hb d_Loader_rangesRise_58 (by decide) ?_
        exact q_iretP hC hr hlk hf (by first | rfl | decide) hS d_Loader_rangesRise_59
      rw [if_pos c1] at hf
      refine lv_iload hx hb d_Loader_rangesRise_60 (lv_at hl 0 rfl) ?_
      refine lv_istore_n (lv' := [(3, .int r2), (6, .int r2), (5, .int r1), (0, .ref (G.2.2 5)), (1, .int x1_5), (2, .int x2_5), (4, .int x4_5)]) hx hb d_Loader_rangesRise_62 rfl hl (by decide) rfl (fun ls hl => ?_)
      refine lv_iinc (v := x4_5 + 1) (lv' := [(4, .int (x4_5 + 1)), (3, .int r2), (6, .int r2), (5, .int r1), (0, .ref (G.2.2 5)), (1, .int x1_5), (2, .int x2_5)]) hx hb d_Loader_rangesRise_63 hl (k := 6) rfl rfl (by decide) rfl (fun ls hl => ?_)
      refine lv_goto (tgt := 5) hx hb d_Loader_rangesRise_66 (by decide) ?_
      exact ih_5 _ _ _ _ _ hf hP hS (lv_sub hl [4, 5, 6, 1, 0] rfl)
  unfold xLoader_rangesRise at hf
  refine lv_iconst (v := (-1)) hx hb d_Loader_rangesRise_0 (by decide) ?_
  refine lv_istore_n (lv' := [(3, .int (-1)), (0, .ref (G.2.2 5)), (1, .int x1), (2, .int x2)]) hx hb d_Loader_rangesRise_1 rfl hl (by decide) rfl (fun ls hl => ?_)
  refine lv_iconst (v := 0) hx hb d_Loader_rangesRise_2 (by decide) ?_
  refine lv_istore (lv' := [(4, .int 0), (3, .int (-1)), (0, .ref (G.2.2 5)), (1, .int x1), (2, .int x2)]) hx hb d_Loader_rangesRise_3 hl (by decide) rfl (fun ls hl => ?_)
  exact L_5 _ _ _ _ _ _ _ _ hf hP hS (lv_sub hl [2, 3, 4, 1, 0] rfl)
def xLoader_glyphsRise_6 (N : Nat) (st : QSt) (x1_6 x2_6 x3_6 : Int32) : Nat → Int32 → Int32 → Option Int32
  | 0, _, _ => none
  | n_6 + 1, x4_6, x5_6 => if x2_6 ≤ x5_6 then (some 1) else (q_bn (xTable_u16 (x1_6 + (x3_6 * x5_6)) st) (fun r1 => if x4_6 < r1 then (xLoader_glyphsRise_6 N st x1_6 x2_6 x3_6 n_6 r1 (x5_6 + 1)) else (some 0)))
def xLoader_glyphsRise (N : Nat) (x1 x2 x3 : Int32) (st : QSt) : Option Int32 :=
  xLoader_glyphsRise_6 N st x1 x2 x3 N (-1) 0
set_option maxHeartbeats 4000000 in
set_option maxRecDepth 100000 in
theorem c_xLoader_glyphsRise (l : Launch) (G : XG) {N : Nat} {x1 x2 x3 : Int32} {st : QSt} {ro : Int32} (hf : xLoader_glyphsRise N x1 x2 x3 st = some ro) : q_Mp l y_Loader_glyphsRise b_Loader_glyphsRise 7 .boolean ({ frames := 1, cells := 0, slots := 0, locals := 21 } : Room) G.1 (xT G) (wX G) [.ref (G.2.2 5), .int x1, .int x2, .int x3] st ro := by
  refine q_Mp_of (by decide) (Nat.le_of_ble_eq_true rfl) (wX_fst G) ?_
  intro p e s m args below meth c ls hC hr hlk hT hP hS hl
  have hx := hC.1.1
  have hb := hC.1.2.1
  have hown := hC.1.2.2.2.1
  have hts := hC.1.2.2.2.2
  have hl : lv_has ls 7 [(0, .ref (G.2.2 5)), (1, .int x1), (2, .int x2), (3, .int x3)] := hl
  have L_6 : ∀ (x1_6 x2_6 x3_6 : Int32) (n_6 : Nat) (x4_6 x5_6 : Int32) (H : Heap) (locs : List Loc) (ls : Array Slot), xLoader_glyphsRise_6 N st x1_6 x2_6 x3_6 n_6 x4_6 x5_6 = some ro → va_P G.1 vwCl (wX G st) H → va_S (fun _ => False) s.heap H locs → lv_has ls 7 [(0, .ref (G.2.2 5)), (1, .int x1_6), (2, .int x2_6), (3, .int x3_6), (4, .int x4_6), (5, .int x5_6)] → W p l e ({ frames := 1, cells := 0, slots := 0, locals := 21 } : Room) s m args below meth c H locs 0 0 (q_Zp below args s ro) (F0 m 6 ls []) := by
    intro x1_6 x2_6 x3_6 n_6
    induction n_6 with
    | zero => intro _ _ _ _ _ hf; exact absurd hf (by simp [xLoader_glyphsRise_6])
    | succ n_6 ih_6 =>
      intro x4_6 x5_6 H locs ls hf hP hS hl
      rw [xLoader_glyphsRise_6] at hf
      refine lv_iload hx hb d_Loader_glyphsRise_6 (lv_at hl 5 rfl) ?_
      refine lv_iload_n hx hb d_Loader_glyphsRise_8 rfl (lv_at hl 2 rfl) ?_
      refine lv_icmp_ge (tgt := 46) hx hb d_Loader_glyphsRise_9 (by decide) (fun c1 => ?_) (fun c1 => ?_)
      · rw [if_pos c1] at hf
        refine lv_iconst (v := 1) hx hb d_Loader_glyphsRise_46 (by decide) ?_
        exact q_iretP hC hr hlk hf (by first | rfl | decide) hS d_Loader_glyphsRise_47
      rw [if_neg c1] at hf
      refine lv_aload_n hx hb d_Loader_glyphsRise_12 rfl (lv_at hl 0 rfl) ?_
      refine xg_5_table hC hP wq_8 d_Loader_glyphsRise_13 ?_
      refine lv_iload_n hx hb d_Loader_glyphsRise_16 rfl (lv_at hl 1 rfl) ?_
      refine lv_iload_n hx hb d_Loader_glyphsRise_17 rfl (lv_at hl 3 rfl) ?_
      refine lv_iload hx hb d_Loader_glyphsRise_18 (lv_at hl 5 rfl) ?_
      refine lv_imul hx hb d_Loader_glyphsRise_20 ?_
      refine lv_iadd hx hb d_Loader_glyphsRise_21 ?_
      obtain ⟨r1, h_r1, hf⟩ := q_bn_some hf
      refine q_callVp (As := [.int (x1_6 + (x3_6 * x5_6))]) (rest := []) (q0 := 1) hC (c_xTable_u16 l G h_r1) cal_Table_u16 wq_10 ⟨rfl, rfl, Nat.le_of_ble_eq_true rfl, Nat.le_of_ble_eq_true rfl⟩ rfl rfl hP hT hS rfl hl.1 rfl (Nat.le_of_ble_eq_true rfl) d_Loader_glyphsRise_22 (fun H locs hP hS => ?_)
      refine lv_istore (lv' := [(6, .int r1), (0, .ref (G.2.2 5)), (1, .int x1_6), (2, .int x2_6), (3, .int x3_6), (4, .int x4_6), (5, .int x5_6)]) hx hb d_Loader_glyphsRise_25 hl (by decide) rfl (fun ls hl => ?_)
      refine lv_iload hx hb d_Loader_glyphsRise_27 (lv_at hl 0 rfl) ?_
      refine lv_iload hx hb d_Loader_glyphsRise_29 (lv_at hl 5 rfl) ?_
      refine lv_icmp_gt (tgt := 36) hx hb d_Loader_glyphsRise_31 (by decide) (fun c1 => ?_) (fun c1 => ?_)
      rotate_left
      · rw [if_neg c1] at hf
        refine lv_iconst (v := 0) hx hb d_Loader_glyphsRise_34 (by decide) ?_
        exact q_iretP hC hr hlk hf (by first | rfl | decide) hS d_Loader_glyphsRise_35
      rw [if_pos c1] at hf
      refine lv_iload hx hb d_Loader_glyphsRise_36 (lv_at hl 0 rfl) ?_
      refine lv_istore (lv' := [(4, .int r1), (6, .int r1), (0, .ref (G.2.2 5)), (1, .int x1_6), (2, .int x2_6), (3, .int x3_6), (5, .int x5_6)]) hx hb d_Loader_glyphsRise_38 hl (by decide) rfl (fun ls hl => ?_)
      refine lv_iinc (v := x5_6 + 1) (lv' := [(5, .int (x5_6 + 1)), (4, .int r1), (6, .int r1), (0, .ref (G.2.2 5)), (1, .int x1_6), (2, .int x2_6), (3, .int x3_6)]) hx hb d_Loader_glyphsRise_40 hl (k := 6) rfl rfl (by decide) rfl (fun ls hl => ?_)
      refine lv_goto (tgt := 6) hx hb d_Loader_glyphsRise_43 (by decide) ?_
      exact ih_6 _ _ _ _ _ hf hP hS (lv_sub hl [3, 4, 5, 6, 1, 0] rfl)
  unfold xLoader_glyphsRise at hf
  refine lv_iconst (v := (-1)) hx hb d_Loader_glyphsRise_0 (by decide) ?_
  refine lv_istore (lv' := [(4, .int (-1)), (0, .ref (G.2.2 5)), (1, .int x1), (2, .int x2), (3, .int x3)]) hx hb d_Loader_glyphsRise_1 hl (by decide) rfl (fun ls hl => ?_)
  refine lv_iconst (v := 0) hx hb d_Loader_glyphsRise_3 (by decide) ?_
  refine lv_istore (lv' := [(5, .int 0), (4, .int (-1)), (0, .ref (G.2.2 5)), (1, .int x1), (2, .int x2), (3, .int x3)]) hx hb d_Loader_glyphsRise_4 hl (by decide) rfl (fun ls hl => ?_)
  exact L_6 _ _ _ _ _ _ _ _ _ hf hP hS (lv_sub hl [2, 3, 4, 5, 1, 0] rfl)
def xLoader_covered_123 (N : Nat) (x1_123 x3_123 : Int32) : Nat → Int32 → Int32 → QSt → Option (Int32 × QSt)
  | 0, _, _, _ => none
  | n_123 + 1, x4_123, x5_123, st_123 => if ((x1_123 + 4) + (6 * x3_123)) ≤ x5_123 then (some (x4_123, st_123)) else (q_bn (xTable_u16 (x5_123 + 4) st_123) (fun r8 => if r8 = x4_123 then (q_bn (xTable_u16 (x5_123 + 2) st_123) (fun r9 => q_bn (xTable_u16 x5_123 st_123) (fun r10 => q_lt (x4_123 + ((r9 - r10) + 1)) (fun x4_1011 => xLoader_covered_123 N x1_123 x3_123 n_123 x4_1011 (x5_123 + 6) st_123)))) else (some ((-1), st_123))))
def xLoader_covered (N : Nat) (x1 : Int32) (st : QSt) : Option (Int32 × QSt) :=
  q_bm (xLoader_looksAtOneMore st) (fun r1 sr1 => if r1 = 0 then (some ((-1), sr1)) else (q_bn (xTable_lies x1 4 sr1) (fun r2 => if r2 = 0 then (some ((-1), sr1)) else (q_bn (xTable_u16 x1 sr1) (fun r3 => q_bn (xTable_u16 (x1 + 2) sr1) (fun r4 => if r3 = 1 then (q_bn (xTable_lies (x1 + 4) (2 * r4) sr1) (fun r12 => if r12 = 0 then (some ((-1), sr1)) else (q_bn (xLoader_glyphsRise N (x1 + 4) r4 2 sr1) (fun r13 => if r13 = 0 then (some ((-1), sr1)) else (some (r4, sr1)))))) else (if r3 = 2 then (q_bn (xTable_lies (x1 + 4) (6 * r4) sr1) (fun r5 => if r5 = 0 then (some ((-1), sr1)) else (q_bn (xLoader_rangesRise N (x1 + 4) r4 sr1) (fun r6 => if r6 = 0 then (some ((-1), sr1)) else (q_lt (x1 + 4) (fun x5_1007 => xLoader_covered_123 N x1 r4 N 0 x5_1007 sr1)))))) else (some ((-1), sr1)))))))))
set_option maxHeartbeats 4000000 in
set_option maxRecDepth 100000 in
theorem c_xLoader_covered (l : Launch) (G : XG) {N : Nat} {x1 : Int32} {st : QSt} {ro : Int32} {so : QSt} (hf : xLoader_covered N x1 st = some (ro, so)) : q_Mi l y_Loader_covered b_Loader_covered 6 .int ({ frames := 2, cells := 0, slots := 0, locals := 47 } : Room) G.1 (xT G) (wX G) [.ref (G.2.2 5), .int x1] st ro so := by
  refine q_Mi_of (by decide) (Nat.le_of_ble_eq_true rfl) (wX_fst G) ?_
  intro p e s m args below meth c A ls hC hr hlk hT hD hA hP hS hl
  have hx := hC.1.1
  have hb := hC.1.2.1
  have hown := hC.1.2.2.2.1
  have hts := hC.1.2.2.2.2
  have hl : lv_has ls 6 [(0, .ref (G.2.2 5)), (1, .int x1)] := hl
  have L_123 : ∀ (x1_123 x3_123 : Int32) (n_123 : Nat) (x4_123 x5_123 : Int32) (st_123 : QSt) (H : Heap) (locs : List Loc) (ls : Array Slot), xLoader_covered_123 N x1_123 x3_123 n_123 x4_123 x5_123 st_123 = some (ro, so) → va_P G.1 vwCl (wX G st_123) H → va_S A s.heap H locs → lv_has ls 6 [(0, .ref (G.2.2 5)), (1, .int x1_123), (3, .int x3_123), (4, .int x4_123), (5, .int x5_123)] → W p l e ({ frames := 2, cells := 0, slots := 0, locals := 47 } : Room) s m args below meth c H locs 0 0 (q_Zi below args s G.1 (wX G) ro so A) (F0 m 123 ls []) := by
    intro x1_123 x3_123 n_123
    induction n_123 with
    | zero => intro _ _ _ _ _ _ hf; exact absurd hf (by simp [xLoader_covered_123])
    | succ n_123 ih_123 =>
      intro x4_123 x5_123 st_123 H locs ls hf hP hS hl
      rw [xLoader_covered_123] at hf
      refine lv_iload hx hb d_Loader_covered_123 (lv_at hl 4 rfl) ?_
      refine lv_iload_n hx hb d_Loader_covered_125 rfl (lv_at hl 1 rfl) ?_
      refine lv_iconst (v := 4) hx hb d_Loader_covered_126 (by decide) ?_
      refine lv_iadd hx hb d_Loader_covered_127 ?_
      refine lv_bipush (v := 6) hx hb d_Loader_covered_128 (by decide) ?_
      refine lv_iload_n hx hb d_Loader_covered_130 rfl (lv_at hl 2 rfl) ?_
      refine lv_imul hx hb d_Loader_covered_131 ?_
      refine lv_iadd hx hb d_Loader_covered_132 ?_
      refine lv_icmp_ge (tgt := 188) hx hb d_Loader_covered_133 (by decide) (fun c1 => ?_) (fun c1 => ?_)
      · rw [if_pos c1] at hf
        refine lv_iload hx hb d_Loader_covered_188 (lv_at hl 3 rfl) ?_
        exact q_iret hC hr hlk hf (by first | rfl | decide) hP hS d_Loader_covered_190
      rw [if_neg c1] at hf
      refine lv_aload_n hx hb d_Loader_covered_136 rfl (lv_at hl 0 rfl) ?_
      refine xg_5_table hC hP wq_8 d_Loader_covered_137 ?_
      refine lv_iload hx hb d_Loader_covered_140 (lv_at hl 4 rfl) ?_
      refine lv_iconst (v := 4) hx hb d_Loader_covered_142 (by decide) ?_
      refine lv_iadd hx hb d_Loader_covered_143 ?_
      obtain ⟨r8, h_r8, hf⟩ := q_bn_some hf
      refine q_callVp (As := [.int (x5_123 + 4)]) (rest := []) (q0 := 1) hC (c_xTable_u16 l G h_r8) cal_Table_u16 wq_10 ⟨rfl, rfl, Nat.le_of_ble_eq_true rfl, Nat.le_of_ble_eq_true rfl⟩ rfl rfl hP hT hS rfl hl.1 rfl (Nat.le_of_ble_eq_true rfl) d_Loader_covered_144 (fun H locs hP hS => ?_)
      refine lv_iload hx hb d_Loader_covered_147 (lv_at hl 3 rfl) ?_
      refine lv_icmp_eq (tgt := 154) hx hb d_Loader_covered_149 (by decide) (fun c1 => ?_) (fun c1 => ?_)
      rotate_left
      · rw [if_neg c1] at hf
        refine lv_iconst (v := (-1)) hx hb d_Loader_covered_152 (by decide) ?_
        exact q_iret hC hr hlk hf (by first | rfl | decide) hP hS d_Loader_covered_153
      rw [if_pos c1] at hf
      refine lv_iload hx hb d_Loader_covered_154 (lv_at hl 3 rfl) ?_
      refine lv_aload_n hx hb d_Loader_covered_156 rfl (lv_at hl 0 rfl) ?_
      refine xg_5_table hC hP wq_8 d_Loader_covered_157 ?_
      refine lv_iload hx hb d_Loader_covered_160 (lv_at hl 4 rfl) ?_
      refine lv_iconst (v := 2) hx hb d_Loader_covered_162 (by decide) ?_
      refine lv_iadd hx hb d_Loader_covered_163 ?_
      obtain ⟨r9, h_r9, hf⟩ := q_bn_some hf
      refine q_callVp (As := [.int (x5_123 + 2)]) (rest := [.int x4_123]) (q0 := 1) hC (c_xTable_u16 l G h_r9) cal_Table_u16 wq_10 ⟨rfl, rfl, Nat.le_of_ble_eq_true rfl, Nat.le_of_ble_eq_true rfl⟩ rfl rfl hP hT hS rfl hl.1 rfl (Nat.le_of_ble_eq_true rfl) d_Loader_covered_164 (fun H locs hP hS => ?_)
      refine lv_aload_n hx hb d_Loader_covered_167 rfl (lv_at hl 0 rfl) ?_
      refine xg_5_table hC hP wq_8 d_Loader_covered_168 ?_
      refine lv_iload hx hb d_Loader_covered_171 (lv_at hl 4 rfl) ?_
      obtain ⟨r10, h_r10, hf⟩ := q_bn_some hf
      refine q_callVp (As := [.int x5_123]) (rest := [.int r9, .int x4_123]) (q0 := 1) hC (c_xTable_u16 l G h_r10) cal_Table_u16 wq_10 ⟨rfl, rfl, Nat.le_of_ble_eq_true rfl, Nat.le_of_ble_eq_true rfl⟩ rfl rfl hP hT hS rfl hl.1 rfl (Nat.le_of_ble_eq_true rfl) d_Loader_covered_173 (fun H locs hP hS => ?_)
      refine lv_isub hx hb d_Loader_covered_176 ?_
      refine lv_iconst (v := 1) hx hb d_Loader_covered_177 (by decide) ?_
      refine lv_iadd hx hb d_Loader_covered_178 ?_
      refine lv_iadd hx hb d_Loader_covered_179 ?_
      obtain ⟨x4_1011, e_x4_1011, hf⟩ := q_lt_some hf
      refine q_topi e_x4_1011 ?_
      refine lv_istore (lv' := [(4, .int x4_1011), (0, .ref (G.2.2 5)), (1, .int x1_123), (3, .int x3_123), (5, .int x5_123)]) hx hb d_Loader_covered_180 hl (by decide) rfl (fun ls hl => ?_)
      refine lv_iinc (v := x5_123 + 6) (lv' := [(5, .int (x5_123 + 6)), (4, .int x4_1011), (0, .ref (G.2.2 5)), (1, .int x1_123), (3, .int x3_123)]) hx hb d_Loader_covered_182 hl (k := 4) rfl rfl (by decide) rfl (fun ls hl => ?_)
      refine lv_goto (tgt := 123) hx hb d_Loader_covered_185 (by decide) ?_
      exact ih_123 _ _ _ _ _ _ hf hP hS (lv_sub hl [2, 3, 4, 1, 0] rfl)
  unfold xLoader_covered at hf
  refine lv_aload_n hx hb d_Loader_covered_0 rfl (lv_at hl 0 rfl) ?_
  obtain ⟨r1, sr1, h_r1, hf⟩ := q_bm_some hf
  refine q_callVi (As := []) (rest := []) (q0 := 5) hC (c_xLoader_looksAtOneMore l G h_r1) cal_Loader_looksAtOneMore wq_20 ⟨rfl, rfl, Nat.le_of_ble_eq_true rfl, Nat.le_of_ble_eq_true rfl⟩ rfl rfl hP hD hA hS rfl hl.1 rfl (Nat.le_of_ble_eq_true rfl) d_Loader_covered_1 (fun H locs hP hS => ?_)
  refine lv_if_eq (tgt := 19) hx hb d_Loader_covered_4 (by decide) (fun c1 => ?_) (fun c1 => ?_)
  · rw [if_pos c1] at hf
    refine lv_iconst (v := (-1)) hx hb d_Loader_covered_19 (by decide) ?_
    exact q_iret hC hr hlk hf (by first | rfl | decide) hP hS d_Loader_covered_20
  rw [if_neg c1] at hf
  refine lv_aload_n hx hb d_Loader_covered_7 rfl (lv_at hl 0 rfl) ?_
  refine xg_5_table hC hP wq_8 d_Loader_covered_8 ?_
  refine lv_iload_n hx hb d_Loader_covered_11 rfl (lv_at hl 1 rfl) ?_
  refine lv_iconst (v := 4) hx hb d_Loader_covered_12 (by decide) ?_
  obtain ⟨r2, h_r2, hf⟩ := q_bn_some hf
  refine q_callVp (As := [.int x1, .int 4]) (rest := []) (q0 := 1) hC (c_xTable_lies l G h_r2) cal_Table_lies wq_9 ⟨rfl, rfl, Nat.le_of_ble_eq_true rfl, Nat.le_of_ble_eq_true rfl⟩ rfl rfl hP hT hS rfl hl.1 rfl (Nat.le_of_ble_eq_true rfl) d_Loader_covered_13 (fun H locs hP hS => ?_)
  refine lv_if_ne (tgt := 21) hx hb d_Loader_covered_16 (by decide) (fun c1 => ?_) (fun c1 => ?_)
  rotate_left
  · rw [if_pos c1] at hf
    refine lv_iconst (v := (-1)) hx hb d_Loader_covered_19 (by decide) ?_
    exact q_iret hC hr hlk hf (by first | rfl | decide) hP hS d_Loader_covered_20
  rw [if_neg c1] at hf
  refine lv_aload_n hx hb d_Loader_covered_21 rfl (lv_at hl 0 rfl) ?_
  refine xg_5_table hC hP wq_8 d_Loader_covered_22 ?_
  refine lv_iload_n hx hb d_Loader_covered_25 rfl (lv_at hl 1 rfl) ?_
  obtain ⟨r3, h_r3, hf⟩ := q_bn_some hf
  refine q_callVp (As := [.int x1]) (rest := []) (q0 := 1) hC (c_xTable_u16 l G h_r3) cal_Table_u16 wq_10 ⟨rfl, rfl, Nat.le_of_ble_eq_true rfl, Nat.le_of_ble_eq_true rfl⟩ rfl rfl hP hT hS rfl hl.1 rfl (Nat.le_of_ble_eq_true rfl) d_Loader_covered_26 (fun H locs hP hS => ?_)
  refine lv_istore_n (lv' := [(2, .int r3), (0, .ref (G.2.2 5)), (1, .int x1)]) hx hb d_Loader_covered_29 rfl hl (by decide) rfl (fun ls hl => ?_)
  refine lv_aload_n hx hb d_Loader_covered_30 rfl (lv_at hl 1 rfl) ?_
  refine xg_5_table hC hP wq_8 d_Loader_covered_31 ?_
  refine lv_iload_n hx hb d_Loader_covered_34 rfl (lv_at hl 2 rfl) ?_
  refine lv_iconst (v := 2) hx hb d_Loader_covered_35 (by decide) ?_
  refine lv_iadd hx hb d_Loader_covered_36 ?_
  obtain ⟨r4, h_r4, hf⟩ := q_bn_some hf
  refine q_callVp (As := [.int (x1 + 2)]) (rest := []) (q0 := 1) hC (c_xTable_u16 l G h_r4) cal_Table_u16 wq_10 ⟨rfl, rfl, Nat.le_of_ble_eq_true rfl, Nat.le_of_ble_eq_true rfl⟩ rfl rfl hP hT hS rfl hl.1 rfl (Nat.le_of_ble_eq_true rfl) d_Loader_covered_37 (fun H locs hP hS => ?_)
  refine lv_istore_n (lv' := [(3, .int r4), (2, .int r3), (0, .ref (G.2.2 5)), (1, .int x1)]) hx hb d_Loader_covered_40 rfl hl (by decide) rfl (fun ls hl => ?_)
  refine lv_iload_n hx hb d_Loader_covered_41 rfl (lv_at hl 1 rfl) ?_
  refine lv_iconst (v := 1) hx hb d_Loader_covered_42 (by decide) ?_
  refine lv_icmp_ne (tgt := 80) hx hb d_Loader_covered_43 (by decide) (fun c1 => ?_) (fun c1 => ?_)
  rotate_left
  · rw [if_pos c1] at hf
    refine lv_aload_n hx hb d_Loader_covered_46 rfl (lv_at hl 2 rfl) ?_
    refine xg_5_table hC hP wq_8 d_Loader_covered_47 ?_
    refine lv_iload_n hx hb d_Loader_covered_50 rfl (lv_at hl 3 rfl) ?_
    refine lv_iconst (v := 4) hx hb d_Loader_covered_51 (by decide) ?_
    refine lv_iadd hx hb d_Loader_covered_52 ?_
    refine lv_iconst (v := 2) hx hb d_Loader_covered_53 (by decide) ?_
    refine lv_iload_n hx hb d_Loader_covered_54 rfl (lv_at hl 0 rfl) ?_
    refine lv_imul hx hb d_Loader_covered_55 ?_
    obtain ⟨r12, h_r12, hf⟩ := q_bn_some hf
    refine q_callVp (As := [.int (x1 + 4), .int (2 * r4)]) (rest := []) (q0 := 1) hC (c_xTable_lies l G h_r12) cal_Table_lies wq_9 ⟨rfl, rfl, Nat.le_of_ble_eq_true rfl, Nat.le_of_ble_eq_true rfl⟩ rfl rfl hP hT hS rfl hl.1 rfl (Nat.le_of_ble_eq_true rfl) d_Loader_covered_56 (fun H locs hP hS => ?_)
    refine lv_if_eq (tgt := 78) hx hb d_Loader_covered_59 (by decide) (fun c1 => ?_) (fun c1 => ?_)
    · rw [if_pos c1] at hf
      refine lv_iconst (v := (-1)) hx hb d_Loader_covered_78 (by decide) ?_
      exact q_iret hC hr hlk hf (by first | rfl | decide) hP hS d_Loader_covered_79
    rw [if_neg c1] at hf
    refine lv_aload_n hx hb d_Loader_covered_62 rfl (lv_at hl 2 rfl) ?_
    refine lv_iload_n hx hb d_Loader_covered_63 rfl (lv_at hl 3 rfl) ?_
    refine lv_iconst (v := 4) hx hb d_Loader_covered_64 (by decide) ?_
    refine lv_iadd hx hb d_Loader_covered_65 ?_
    refine lv_iload_n hx hb d_Loader_covered_66 rfl (lv_at hl 0 rfl) ?_
    refine lv_iconst (v := 2) hx hb d_Loader_covered_67 (by decide) ?_
    obtain ⟨r13, h_r13, hf⟩ := q_bn_some hf
    refine q_callVp (As := [.int (x1 + 4), .int r4, .int 2]) (rest := []) (q0 := 5) hC (c_xLoader_glyphsRise l G h_r13) cal_Loader_glyphsRise wq_21 ⟨rfl, rfl, Nat.le_of_ble_eq_true rfl, Nat.le_of_ble_eq_true rfl⟩ rfl rfl hP hT hS rfl hl.1 rfl (Nat.le_of_ble_eq_true rfl) d_Loader_covered_68 (fun H locs hP hS => ?_)
    refine lv_if_eq (tgt := 78) hx hb d_Loader_covered_71 (by decide) (fun c1 => ?_) (fun c1 => ?_)
    · rw [if_pos c1] at hf
      refine lv_iconst (v := (-1)) hx hb d_Loader_covered_78 (by decide) ?_
      exact q_iret hC hr hlk hf (by first | rfl | decide) hP hS d_Loader_covered_79
    rw [if_neg c1] at hf
    refine lv_iload_n hx hb d_Loader_covered_74 rfl (lv_at hl 0 rfl) ?_
    refine lv_goto (tgt := 79) hx hb d_Loader_covered_75 (by decide) ?_
    exact q_iret hC hr hlk hf (by first | rfl | decide) hP hS d_Loader_covered_79
  rw [if_neg c1] at hf
  refine lv_iload_n hx hb d_Loader_covered_80 rfl (lv_at hl 1 rfl) ?_
  refine lv_iconst (v := 2) hx hb d_Loader_covered_81 (by decide) ?_
  refine lv_icmp_ne (tgt := 113) hx hb d_Loader_covered_82 (by decide) (fun c1 => ?_) (fun c1 => ?_)
  · rw [if_neg c1] at hf
    refine lv_iconst (v := (-1)) hx hb d_Loader_covered_113 (by decide) ?_
    exact q_iret hC hr hlk hf (by first | rfl | decide) hP hS d_Loader_covered_114
  rw [if_pos c1] at hf
  refine lv_aload_n hx hb d_Loader_covered_85 rfl (lv_at hl 2 rfl) ?_
  refine xg_5_table hC hP wq_8 d_Loader_covered_86 ?_
  refine lv_iload_n hx hb d_Loader_covered_89 rfl (lv_at hl 3 rfl) ?_
  refine lv_iconst (v := 4) hx hb d_Loader_covered_90 (by decide) ?_
  refine lv_iadd hx hb d_Loader_covered_91 ?_
  refine lv_bipush (v := 6) hx hb d_Loader_covered_92 (by decide) ?_
  refine lv_iload_n hx hb d_Loader_covered_94 rfl (lv_at hl 0 rfl) ?_
  refine lv_imul hx hb d_Loader_covered_95 ?_
  obtain ⟨r5, h_r5, hf⟩ := q_bn_some hf
  refine q_callVp (As := [.int (x1 + 4), .int (6 * r4)]) (rest := []) (q0 := 1) hC (c_xTable_lies l G h_r5) cal_Table_lies wq_9 ⟨rfl, rfl, Nat.le_of_ble_eq_true rfl, Nat.le_of_ble_eq_true rfl⟩ rfl rfl hP hT hS rfl hl.1 rfl (Nat.le_of_ble_eq_true rfl) d_Loader_covered_96 (fun H locs hP hS => ?_)
  refine lv_if_eq (tgt := 113) hx hb d_Loader_covered_99 (by decide) (fun c1 => ?_) (fun c1 => ?_)
  · rw [if_pos c1] at hf
    refine lv_iconst (v := (-1)) hx hb d_Loader_covered_113 (by decide) ?_
    exact q_iret hC hr hlk hf (by first | rfl | decide) hP hS d_Loader_covered_114
  rw [if_neg c1] at hf
  refine lv_aload_n hx hb d_Loader_covered_102 rfl (lv_at hl 2 rfl) ?_
  refine lv_iload_n hx hb d_Loader_covered_103 rfl (lv_at hl 3 rfl) ?_
  refine lv_iconst (v := 4) hx hb d_Loader_covered_104 (by decide) ?_
  refine lv_iadd hx hb d_Loader_covered_105 ?_
  refine lv_iload_n hx hb d_Loader_covered_106 rfl (lv_at hl 0 rfl) ?_
  obtain ⟨r6, h_r6, hf⟩ := q_bn_some hf
  refine q_callVp (As := [.int (x1 + 4), .int r4]) (rest := []) (q0 := 5) hC (c_xLoader_rangesRise l G h_r6) cal_Loader_rangesRise wq_22 ⟨rfl, rfl, Nat.le_of_ble_eq_true rfl, Nat.le_of_ble_eq_true rfl⟩ rfl rfl hP hT hS rfl hl.1 rfl (Nat.le_of_ble_eq_true rfl) d_Loader_covered_107 (fun H locs hP hS => ?_)
  refine lv_if_ne (tgt := 115) hx hb d_Loader_covered_110 (by decide) (fun c1 => ?_) (fun c1 => ?_)
  rotate_left
  · rw [if_pos c1] at hf
    refine lv_iconst (v := (-1)) hx hb d_Loader_covered_113 (by decide) ?_
    exact q_iret hC hr hlk hf (by first | rfl | decide) hP hS d_Loader_covered_114
  rw [if_neg c1] at hf
  refine lv_iconst (v := 0) hx hb d_Loader_covered_115 (by decide) ?_
  refine lv_istore (lv' := [(4, .int 0), (3, .int r4), (2, .int r3), (0, .ref (G.2.2 5)), (1, .int x1)]) hx hb d_Loader_covered_116 hl (by decide) rfl (fun ls hl => ?_)
  refine lv_iload_n hx hb d_Loader_covered_118 rfl (lv_at hl 4 rfl) ?_
  refine lv_iconst (v := 4) hx hb d_Loader_covered_119 (by decide) ?_
  refine lv_iadd hx hb d_Loader_covered_120 ?_
  obtain ⟨x5_1007, e_x5_1007, hf⟩ := q_lt_some hf
  refine q_topi e_x5_1007 ?_
  refine lv_istore (lv' := [(5, .int x5_1007), (4, .int 0), (3, .int r4), (2, .int r3), (0, .ref (G.2.2 5)), (1, .int x1)]) hx hb d_Loader_covered_121 hl (by decide) rfl (fun ls hl => ?_)
  exact L_123 _ _ _ _ _ _ _ _ _ hf hP hS (lv_sub hl [4, 5, 2, 1, 0] rfl)
def xLoader_listByIndexLies (x1 x2 x3 : Int32) (st : QSt) : Option Int32 :=
  q_bn (xLoader_listLies x1 256 x3 st) (fun r1 => if r1 = 0 then (some 0) else (q_bn (xTable_u16 x1 st) (fun r2 => if r2 = x2 then (some 1) else (some 0))))
set_option maxHeartbeats 4000000 in
set_option maxRecDepth 100000 in
theorem c_xLoader_listByIndexLies (l : Launch) (G : XG) {x1 x2 x3 : Int32} {st : QSt} {ro : Int32} (hf : xLoader_listByIndexLies x1 x2 x3 st = some ro) : q_Mp l y_Loader_listByIndexLies b_Loader_listByIndexLies 4 .boolean ({ frames := 2, cells := 0, slots := 0, locals := 46 } : Room) G.1 (xT G) (wX G) [.ref (G.2.2 5), .int x1, .int x2, .int x3] st ro := by
  refine q_Mp_of (by decide) (Nat.le_of_ble_eq_true rfl) (wX_fst G) ?_
  intro p e s m args below meth c ls hC hr hlk hT hP hS hl
  have hx := hC.1.1
  have hb := hC.1.2.1
  have hown := hC.1.2.2.2.1
  have hts := hC.1.2.2.2.2
  have hl : lv_has ls 4 [(0, .ref (G.2.2 5)), (1, .int x1), (2, .int x2), (3, .int x3)] := hl
  unfold xLoader_listByIndexLies at hf
  refine lv_aload_n hx hb d_Loader_listByIndexLies_0 rfl (lv_at hl 0 rfl) ?_
  refine lv_iload_n hx hb d_Loader_listByIndexLies_1 rfl (lv_at hl 1 rfl) ?_
  refine lv_sipush (v := 256) hx hb d_Loader_listByIndexLies_2 (by decide) ?_
  refine lv_iload_n hx hb d_Loader_listByIndexLies_5 rfl (lv_at hl 3 rfl) ?_
  obtain ⟨r1, h_r1, hf⟩ := q_bn_some hf
  refine q_callVp (As := [.int x1, .int 256, .int x3]) (rest := []) (q0 := 5) hC (c_xLoader_listLies l G h_r1) cal_Loader_listLies wq_13 ⟨rfl, rfl, Nat.le_of_ble_eq_true rfl, Nat.le_of_ble_eq_true rfl⟩ rfl rfl hP hT hS rfl hl.1 rfl (Nat.le_of_ble_eq_true rfl) d_Loader_listByIndexLies_6 (fun H locs hP hS => ?_)
  refine lv_if_eq (tgt := 28) hx hb d_Loader_listByIndexLies_9 (by decide) (fun c1 => ?_) (fun c1 => ?_)
  · rw [if_pos c1] at hf
    refine lv_iconst (v := 0) hx hb d_Loader_listByIndexLies_28 (by decide) ?_
    exact q_iretP hC hr hlk hf (by first | rfl | decide) hS d_Loader_listByIndexLies_29
  rw [if_neg c1] at hf
  refine lv_aload_n hx hb d_Loader_listByIndexLies_12 rfl (lv_at hl 0 rfl) ?_
  refine xg_5_table hC hP wq_8 d_Loader_listByIndexLies_13 ?_
  refine lv_iload_n hx hb d_Loader_listByIndexLies_16 rfl (lv_at hl 1 rfl) ?_
  obtain ⟨r2, h_r2, hf⟩ := q_bn_some hf
  refine q_callVp (As := [.int x1]) (rest := []) (q0 := 1) hC (c_xTable_u16 l G h_r2) cal_Table_u16 wq_10 ⟨rfl, rfl, Nat.le_of_ble_eq_true rfl, Nat.le_of_ble_eq_true rfl⟩ rfl rfl hP hT hS rfl hl.1 rfl (Nat.le_of_ble_eq_true rfl) d_Loader_listByIndexLies_17 (fun H locs hP hS => ?_)
  refine lv_iload_n hx hb d_Loader_listByIndexLies_20 rfl (lv_at hl 2 rfl) ?_
  refine lv_icmp_ne (tgt := 28) hx hb d_Loader_listByIndexLies_21 (by decide) (fun c1 => ?_) (fun c1 => ?_)
  · rw [if_neg c1] at hf
    refine lv_iconst (v := 0) hx hb d_Loader_listByIndexLies_28 (by decide) ?_
    exact q_iretP hC hr hlk hf (by first | rfl | decide) hS d_Loader_listByIndexLies_29
  rw [if_pos c1] at hf
  refine lv_iconst (v := 1) hx hb d_Loader_listByIndexLies_24 (by decide) ?_
  refine lv_goto (tgt := 29) hx hb d_Loader_listByIndexLies_25 (by decide) ?_
  exact q_iretP hC hr hlk hf (by first | rfl | decide) hS d_Loader_listByIndexLies_29
def xLoader_anchorAsSaid (x1 : Int32) (st : QSt) : Option (Int32 × QSt) :=
  q_bm (xLoader_looksAtOneMore st) (fun r1 sr1 => if r1 = 0 then (some (0, sr1)) else (q_bn (xTable_lies x1 6 sr1) (fun r2 => if r2 = 0 then (some (0, sr1)) else (q_bn (xTable_u16 x1 sr1) (fun r3 => if r3 < 1 then (some (0, sr1)) else (if 3 < r3 then (some (0, sr1)) else (some (1, sr1))))))))
set_option maxHeartbeats 4000000 in
set_option maxRecDepth 100000 in
theorem c_xLoader_anchorAsSaid (l : Launch) (G : XG) {x1 : Int32} {st : QSt} {ro : Int32} {so : QSt} (hf : xLoader_anchorAsSaid x1 st = some (ro, so)) : q_Mi l y_Loader_anchorAsSaid b_Loader_anchorAsSaid 3 .boolean ({ frames := 1, cells := 0, slots := 0, locals := 22 } : Room) G.1 (xT G) (wX G) [.ref (G.2.2 5), .int x1] st ro so := by
  refine q_Mi_of (by decide) (Nat.le_of_ble_eq_true rfl) (wX_fst G) ?_
  intro p e s m args below meth c A ls hC hr hlk hT hD hA hP hS hl
  have hx := hC.1.1
  have hb := hC.1.2.1
  have hown := hC.1.2.2.2.1
  have hts := hC.1.2.2.2.2
  have hl : lv_has ls 3 [(0, .ref (G.2.2 5)), (1, .int x1)] := hl
  unfold xLoader_anchorAsSaid at hf
  refine lv_aload_n hx hb d_Loader_anchorAsSaid_0 rfl (lv_at hl 0 rfl) ?_
  obtain ⟨r1, sr1, h_r1, hf⟩ := q_bm_some hf
  refine q_callVi (As := []) (rest := []) (q0 := 5) hC (c_xLoader_looksAtOneMore l G h_r1) cal_Loader_looksAtOneMore wq_20 ⟨rfl, rfl, Nat.le_of_ble_eq_true rfl, Nat.le_of_ble_eq_true rfl⟩ rfl rfl hP hD hA hS rfl hl.1 rfl (Nat.le_of_ble_eq_true rfl) d_Loader_anchorAsSaid_1 (fun H locs hP hS => ?_)
  refine lv_if_eq (tgt := 20) hx hb d_Loader_anchorAsSaid_4 (by decide) (fun c1 => ?_) (fun c1 => ?_)
  · rw [if_pos c1] at hf
    refine lv_iconst (v := 0) hx hb d_Loader_anchorAsSaid_20 (by decide) ?_
    exact q_iret hC hr hlk hf (by first | rfl | decide) hP hS d_Loader_anchorAsSaid_21
  rw [if_neg c1] at hf
  refine lv_aload_n hx hb d_Loader_anchorAsSaid_7 rfl (lv_at hl 0 rfl) ?_
  refine xg_5_table hC hP wq_8 d_Loader_anchorAsSaid_8 ?_
  refine lv_iload_n hx hb d_Loader_anchorAsSaid_11 rfl (lv_at hl 1 rfl) ?_
  refine lv_bipush (v := 6) hx hb d_Loader_anchorAsSaid_12 (by decide) ?_
  obtain ⟨r2, h_r2, hf⟩ := q_bn_some hf
  refine q_callVp (As := [.int x1, .int 6]) (rest := []) (q0 := 1) hC (c_xTable_lies l G h_r2) cal_Table_lies wq_9 ⟨rfl, rfl, Nat.le_of_ble_eq_true rfl, Nat.le_of_ble_eq_true rfl⟩ rfl rfl hP hT hS rfl hl.1 rfl (Nat.le_of_ble_eq_true rfl) d_Loader_anchorAsSaid_14 (fun H locs hP hS => ?_)
  refine lv_if_ne (tgt := 22) hx hb d_Loader_anchorAsSaid_17 (by decide) (fun c1 => ?_) (fun c1 => ?_)
  rotate_left
  · rw [if_pos c1] at hf
    refine lv_iconst (v := 0) hx hb d_Loader_anchorAsSaid_20 (by decide) ?_
    exact q_iret hC hr hlk hf (by first | rfl | decide) hP hS d_Loader_anchorAsSaid_21
  rw [if_neg c1] at hf
  refine lv_aload_n hx hb d_Loader_anchorAsSaid_22 rfl (lv_at hl 0 rfl) ?_
  refine xg_5_table hC hP wq_8 d_Loader_anchorAsSaid_23 ?_
  refine lv_iload_n hx hb d_Loader_anchorAsSaid_26 rfl (lv_at hl 1 rfl) ?_
  obtain ⟨r3, h_r3, hf⟩ := q_bn_some hf
  refine q_callVp (As := [.int x1]) (rest := []) (q0 := 1) hC (c_xTable_u16 l G h_r3) cal_Table_u16 wq_10 ⟨rfl, rfl, Nat.le_of_ble_eq_true rfl, Nat.le_of_ble_eq_true rfl⟩ rfl rfl hP hT hS rfl hl.1 rfl (Nat.le_of_ble_eq_true rfl) d_Loader_anchorAsSaid_27 (fun H locs hP hS => ?_)
  refine lv_istore_n (lv' := [(2, .int r3), (0, .ref (G.2.2 5)), (1, .int x1)]) hx hb d_Loader_anchorAsSaid_30 rfl hl (by decide) rfl (fun ls hl => ?_)
  refine lv_iload_n hx hb d_Loader_anchorAsSaid_31 rfl (lv_at hl 0 rfl) ?_
  refine lv_iconst (v := 1) hx hb d_Loader_anchorAsSaid_32 (by decide) ?_
  refine lv_icmp_lt (tgt := 45) hx hb d_Loader_anchorAsSaid_33 (by decide) (fun c1 => ?_) (fun c1 => ?_)
  · rw [if_pos c1] at hf
    refine lv_iconst (v := 0) hx hb d_Loader_anchorAsSaid_45 (by decide) ?_
    exact q_iret hC hr hlk hf (by first | rfl | decide) hP hS d_Loader_anchorAsSaid_46
  rw [if_neg c1] at hf
  refine lv_iload_n hx hb d_Loader_anchorAsSaid_36 rfl (lv_at hl 0 rfl) ?_
  refine lv_iconst (v := 3) hx hb d_Loader_anchorAsSaid_37 (by decide) ?_
  refine lv_icmp_gt (tgt := 45) hx hb d_Loader_anchorAsSaid_38 (by decide) (fun c1 => ?_) (fun c1 => ?_)
  · rw [if_pos c1] at hf
    refine lv_iconst (v := 0) hx hb d_Loader_anchorAsSaid_45 (by decide) ?_
    exact q_iret hC hr hlk hf (by first | rfl | decide) hP hS d_Loader_anchorAsSaid_46
  rw [if_neg c1] at hf
  refine lv_iconst (v := 1) hx hb d_Loader_anchorAsSaid_41 (by decide) ?_
  refine lv_goto (tgt := 46) hx hb d_Loader_anchorAsSaid_42 (by decide) ?_
  exact q_iret hC hr hlk hf (by first | rfl | decide) hP hS d_Loader_anchorAsSaid_46
def xLoader_marksAsSaid_15 (N : Nat) (x1_15 x2_15 x3_15 : Int32) : Nat → Int32 → QSt → Option (Int32 × QSt)
  | 0, _, _ => none
  | n_15 + 1, x4_15, st_15 => if x2_15 ≤ x4_15 then (some (1, st_15)) else (q_lt ((x1_15 + 2) + (4 * x4_15)) (fun x5_1002 => q_bn (xTable_u16 x5_1002 st_15) (fun r3 => if x3_15 ≤ r3 then (some (0, st_15)) else (q_bn (xTable_u16 (x5_1002 + 2) st_15) (fun r4 => q_bm (xLoader_anchorAsSaid (x1_15 + r4) st_15) (fun r5 sr5 => if r5 = 0 then (some (0, sr5)) else (xLoader_marksAsSaid_15 N x1_15 x2_15 x3_15 n_15 (x4_15 + 1) sr5)))))))
def xLoader_marksAsSaid (N : Nat) (x1 x2 x3 : Int32) (st : QSt) : Option (Int32 × QSt) :=
  q_bn (xLoader_listByIndexLies x1 x2 4 st) (fun r1 => if r1 = 0 then (some (0, st)) else (xLoader_marksAsSaid_15 N x1 x2 x3 N 0 st))
set_option maxHeartbeats 4000000 in
set_option maxRecDepth 100000 in
theorem c_xLoader_marksAsSaid (l : Launch) (G : XG) {N : Nat} {x1 x2 x3 : Int32} {st : QSt} {ro : Int32} {so : QSt} (hf : xLoader_marksAsSaid N x1 x2 x3 st = some (ro, so)) : q_Mi l y_Loader_marksAsSaid b_Loader_marksAsSaid 6 .boolean ({ frames := 3, cells := 0, slots := 0, locals := 69 } : Room) G.1 (xT G) (wX G) [.ref (G.2.2 5), .int x1, .int x2, .int x3] st ro so := by
  refine q_Mi_of (by decide) (Nat.le_of_ble_eq_true rfl) (wX_fst G) ?_
  intro p e s m args below meth c A ls hC hr hlk hT hD hA hP hS hl
  have hx := hC.1.1
  have hb := hC.1.2.1
  have hown := hC.1.2.2.2.1
  have hts := hC.1.2.2.2.2
  have hl : lv_has ls 6 [(0, .ref (G.2.2 5)), (1, .int x1), (2, .int x2), (3, .int x3)] := hl
  have L_15 : ∀ (x1_15 x2_15 x3_15 : Int32) (n_15 : Nat) (x4_15 : Int32) (st_15 : QSt) (H : Heap) (locs : List Loc) (ls : Array Slot), xLoader_marksAsSaid_15 N x1_15 x2_15 x3_15 n_15 x4_15 st_15 = some (ro, so) → va_P G.1 vwCl (wX G st_15) H → va_S A s.heap H locs → lv_has ls 6 [(0, .ref (G.2.2 5)), (1, .int x1_15), (2, .int x2_15), (3, .int x3_15), (4, .int x4_15)] → W p l e ({ frames := 3, cells := 0, slots := 0, locals := 69 } : Room) s m args below meth c H locs 0 0 (q_Zi below args s G.1 (wX G) ro so A) (F0 m 15 ls []) := by
    intro x1_15 x2_15 x3_15 n_15
    induction n_15 with
    | zero => intro _ _ _ _ _ hf; exact absurd hf (by simp [xLoader_marksAsSaid_15])
    | succ n_15 ih_15 =>
      intro x4_15 st_15 H locs ls hf hP hS hl
      rw [xLoader_marksAsSaid_15] at hf
      refine lv_iload hx hb d_Loader_marksAsSaid_15 (lv_at hl 4 rfl) ?_
      refine lv_iload_n hx hb d_Loader_marksAsSaid_17 rfl (lv_at hl 2 rfl) ?_
      refine lv_icmp_ge (tgt := 72) hx hb d_Loader_marksAsSaid_18 (by decide) (fun c1 => ?_) (fun c1 => ?_)
      · rw [if_pos c1] at hf
        refine lv_iconst (v := 1) hx hb d_Loader_marksAsSaid_72 (by decide) ?_
        exact q_iret hC hr hlk hf (by first | rfl | decide) hP hS d_Loader_marksAsSaid_73
      rw [if_neg c1] at hf
      refine lv_iload_n hx hb d_Loader_marksAsSaid_21 rfl (lv_at hl 1 rfl) ?_
      refine lv_iconst (v := 2) hx hb d_Loader_marksAsSaid_22 (by decide) ?_
      refine lv_iadd hx hb d_Loader_marksAsSaid_23 ?_
      refine lv_iconst (v := 4) hx hb d_Loader_marksAsSaid_24 (by decide) ?_
      refine lv_iload hx hb d_Loader_marksAsSaid_25 (lv_at hl 4 rfl) ?_
      refine lv_imul hx hb d_Loader_marksAsSaid_27 ?_
      refine lv_iadd hx hb d_Loader_marksAsSaid_28 ?_
      obtain ⟨x5_1002, e_x5_1002, hf⟩ := q_lt_some hf
      refine q_topi e_x5_1002 ?_
      refine lv_istore (lv' := [(5, .int x5_1002), (0, .ref (G.2.2 5)), (1, .int x1_15), (2, .int x2_15), (3, .int x3_15), (4, .int x4_15)]) hx hb d_Loader_marksAsSaid_29 hl (by decide) rfl (fun ls hl => ?_)
      refine lv_aload_n hx hb d_Loader_marksAsSaid_31 rfl (lv_at hl 1 rfl) ?_
      refine xg_5_table hC hP wq_8 d_Loader_marksAsSaid_32 ?_
      refine lv_iload hx hb d_Loader_marksAsSaid_35 (lv_at hl 0 rfl) ?_
      obtain ⟨r3, h_r3, hf⟩ := q_bn_some hf
      refine q_callVp (As := [.int x5_1002]) (rest := []) (q0 := 1) hC (c_xTable_u16 l G h_r3) cal_Table_u16 wq_10 ⟨rfl, rfl, Nat.le_of_ble_eq_true rfl, Nat.le_of_ble_eq_true rfl⟩ rfl rfl hP hT hS rfl hl.1 rfl (Nat.le_of_ble_eq_true rfl) d_Loader_marksAsSaid_37 (fun H locs hP hS => ?_)
      refine lv_iload_n hx hb d_Loader_marksAsSaid_40 rfl (lv_at hl 4 rfl) ?_
      refine lv_icmp_ge (tgt := 64) hx hb d_Loader_marksAsSaid_41 (by decide) (fun c1 => ?_) (fun c1 => ?_)
      · rw [if_pos c1] at hf
        refine lv_iconst (v := 0) hx hb d_Loader_marksAsSaid_64 (by decide) ?_
        exact q_iret hC hr hlk hf (by first | rfl | decide) hP hS d_Loader_marksAsSaid_65
      rw [if_neg c1] at hf
      refine lv_aload_n hx hb d_Loader_marksAsSaid_44 rfl (lv_at hl 1 rfl) ?_
      refine lv_iload_n hx hb d_Loader_marksAsSaid_45 rfl (lv_at hl 2 rfl) ?_
      refine lv_aload_n hx hb d_Loader_marksAsSaid_46 rfl (lv_at hl 1 rfl) ?_
      refine xg_5_table hC hP wq_8 d_Loader_marksAsSaid_47 ?_
      refine lv_iload hx hb d_Loader_marksAsSaid_50 (lv_at hl 0 rfl) ?_
      refine lv_iconst (v := 2) hx hb d_Loader_marksAsSaid_52 (by decide) ?_
      refine lv_iadd hx hb d_Loader_marksAsSaid_53 ?_
      obtain ⟨r4, h_r4, hf⟩ := q_bn_some hf
      refine q_callVp (As := [.int (x5_1002 + 2)]) (rest := [.int x1_15, .ref (G.2.2 5)]) (q0 := 1) hC (c_xTable_u16 l G h_r4) cal_Table_u16 wq_10 ⟨rfl, rfl, Nat.le_of_ble_eq_true rfl, Nat.le_of_ble_eq_true rfl⟩ rfl rfl hP hT hS rfl hl.1 rfl (Nat.le_of_ble_eq_true rfl) d_Loader_marksAsSaid_54 (fun H locs hP hS => ?_)
      refine lv_iadd hx hb d_Loader_marksAsSaid_57 ?_
      obtain ⟨r5, sr5, h_r5, hf⟩ := q_bm_some hf
      refine q_callVi (As := [.int (x1_15 + r4)]) (rest := []) (q0 := 5) hC (c_xLoader_anchorAsSaid l G h_r5) cal_Loader_anchorAsSaid wq_23 ⟨rfl, rfl, Nat.le_of_ble_eq_true rfl, Nat.le_of_ble_eq_true rfl⟩ rfl rfl hP hD hA hS rfl hl.1 rfl (Nat.le_of_ble_eq_true rfl) d_Loader_marksAsSaid_58 (fun H locs hP hS => ?_)
      refine lv_if_ne (tgt := 66) hx hb d_Loader_marksAsSaid_61 (by decide) (fun c1 => ?_) (fun c1 => ?_)
      rotate_left
      · rw [if_pos c1] at hf
        refine lv_iconst (v := 0) hx hb d_Loader_marksAsSaid_64 (by decide) ?_
        exact q_iret hC hr hlk hf (by first | rfl | decide) hP hS d_Loader_marksAsSaid_65
      rw [if_neg c1] at hf
      refine lv_iinc (v := x4_15 + 1) (lv' := [(4, .int (x4_15 + 1)), (5, .int x5_1002), (0, .ref (G.2.2 5)), (1, .int x1_15), (2, .int x2_15), (3, .int x3_15)]) hx hb d_Loader_marksAsSaid_66 hl (k := 5) rfl rfl (by decide) rfl (fun ls hl => ?_)
      refine lv_goto (tgt := 15) hx hb d_Loader_marksAsSaid_69 (by decide) ?_
      exact ih_15 _ _ _ _ _ hf hP hS (lv_sub hl [2, 3, 4, 5, 0] rfl)
  unfold xLoader_marksAsSaid at hf
  refine lv_aload_n hx hb d_Loader_marksAsSaid_0 rfl (lv_at hl 0 rfl) ?_
  refine lv_iload_n hx hb d_Loader_marksAsSaid_1 rfl (lv_at hl 1 rfl) ?_
  refine lv_iload_n hx hb d_Loader_marksAsSaid_2 rfl (lv_at hl 2 rfl) ?_
  refine lv_iconst (v := 4) hx hb d_Loader_marksAsSaid_3 (by decide) ?_
  obtain ⟨r1, h_r1, hf⟩ := q_bn_some hf
  refine q_callVp (As := [.int x1, .int x2, .int 4]) (rest := []) (q0 := 5) hC (c_xLoader_listByIndexLies l G h_r1) cal_Loader_listByIndexLies wq_24 ⟨rfl, rfl, Nat.le_of_ble_eq_true rfl, Nat.le_of_ble_eq_true rfl⟩ rfl rfl hP hT hS rfl hl.1 rfl (Nat.le_of_ble_eq_true rfl) d_Loader_marksAsSaid_4 (fun H locs hP hS => ?_)
  refine lv_if_ne (tgt := 12) hx hb d_Loader_marksAsSaid_7 (by decide) (fun c1 => ?_) (fun c1 => ?_)
  rotate_left
  · rw [if_pos c1] at hf
    refine lv_iconst (v := 0) hx hb d_Loader_marksAsSaid_10 (by decide) ?_
    exact q_iret hC hr hlk hf (by first | rfl | decide) hP hS d_Loader_marksAsSaid_11
  rw [if_neg c1] at hf
  refine lv_iconst (v := 0) hx hb d_Loader_marksAsSaid_12 (by decide) ?_
  refine lv_istore (lv' := [(4, .int 0), (0, .ref (G.2.2 5)), (1, .int x1), (2, .int x2), (3, .int x3)]) hx hb d_Loader_marksAsSaid_13 hl (by decide) rfl (fun ls hl => ?_)
  exact L_15 _ _ _ _ _ _ _ _ _ hf hP hS (lv_sub hl [1, 2, 3, 4, 0] rfl)
def xLoader_anchorsAsSaid_3 (N : Nat) (x1_3 x2_3 x3_3 : Int32) : Nat → Int32 → QSt → Option (Int32 × QSt)
  | 0, _, _ => none
  | n_3 + 1, x4_3, st_3 => if x3_3 ≤ x4_3 then (some (1, st_3)) else (q_bn (xTable_u16 (x2_3 + (2 * x4_3)) st_3) (fun r1 => if r1 = 0 then (xLoader_anchorsAsSaid_3 N x1_3 x2_3 x3_3 n_3 (x4_3 + 1) st_3) else (q_bm (xLoader_anchorAsSaid (x1_3 + r1) st_3) (fun r2 sr2 => if r2 = 0 then (some (0, sr2)) else (xLoader_anchorsAsSaid_3 N x1_3 x2_3 x3_3 n_3 (x4_3 + 1) sr2)))))
def xLoader_anchorsAsSaid (N : Nat) (x1 x2 x3 : Int32) (st : QSt) : Option (Int32 × QSt) :=
  xLoader_anchorsAsSaid_3 N x1 x2 x3 N 0 st
set_option maxHeartbeats 4000000 in
set_option maxRecDepth 100000 in
theorem c_xLoader_anchorsAsSaid (l : Launch) (G : XG) {N : Nat} {x1 x2 x3 : Int32} {st : QSt} {ro : Int32} {so : QSt} (hf : xLoader_anchorsAsSaid N x1 x2 x3 st = some (ro, so)) : q_Mi l y_Loader_anchorsAsSaid b_Loader_anchorsAsSaid 6 .boolean ({ frames := 2, cells := 0, slots := 0, locals := 44 } : Room) G.1 (xT G) (wX G) [.ref (G.2.2 5), .int x1, .int x2, .int x3] st ro so := by
  refine q_Mi_of (by decide) (Nat.le_of_ble_eq_true rfl) (wX_fst G) ?_
  intro p e s m args below meth c A ls hC hr hlk hT hD hA hP hS hl
  have hx := hC.1.1
  have hb := hC.1.2.1
  have hown := hC.1.2.2.2.1
  have hts := hC.1.2.2.2.2
  have hl : lv_has ls 6 [(0, .ref (G.2.2 5)), (1, .int x1), (2, .int x2), (3, .int x3)] := hl
  have L_3 : ∀ (x1_3 x2_3 x3_3 : Int32) (n_3 : Nat) (x4_3 : Int32) (st_3 : QSt) (H : Heap) (locs : List Loc) (ls : Array Slot), xLoader_anchorsAsSaid_3 N x1_3 x2_3 x3_3 n_3 x4_3 st_3 = some (ro, so) → va_P G.1 vwCl (wX G st_3) H → va_S A s.heap H locs → lv_has ls 6 [(0, .ref (G.2.2 5)), (1, .int x1_3), (2, .int x2_3), (3, .int x3_3), (4, .int x4_3)] → W p l e ({ frames := 2, cells := 0, slots := 0, locals := 44 } : Room) s m args below meth c H locs 0 0 (q_Zi below args s G.1 (wX G) ro so A) (F0 m 3 ls []) := by
    intro x1_3 x2_3 x3_3 n_3
    induction n_3 with
    | zero => intro _ _ _ _ _ hf; exact absurd hf (by simp [xLoader_anchorsAsSaid_3])
    | succ n_3 ih_3 =>
      intro x4_3 st_3 H locs ls hf hP hS hl
      rw [xLoader_anchorsAsSaid_3] at hf
      refine lv_iload hx hb d_Loader_anchorsAsSaid_3 (lv_at hl 4 rfl) ?_
      refine lv_iload_n hx hb d_Loader_anchorsAsSaid_5 rfl (lv_at hl 3 rfl) ?_
      refine lv_icmp_ge (tgt := 48) hx hb d_Loader_anchorsAsSaid_6 (by decide) (fun c1 => ?_) (fun c1 => ?_)
      · rw [if_pos c1] at hf
        refine lv_iconst (v := 1) hx hb d_Loader_anchorsAsSaid_48 (by decide) ?_
        exact q_iret hC hr hlk hf (by first | rfl | decide) hP hS d_Loader_anchorsAsSaid_49
      rw [if_neg c1] at hf
      refine lv_aload_n hx hb d_Loader_anchorsAsSaid_9 rfl (lv_at hl 0 rfl) ?_
      refine xg_5_table hC hP wq_8 d_Loader_anchorsAsSaid_10 ?_
      refine lv_iload_n hx hb d_Loader_anchorsAsSaid_13 rfl (lv_at hl 2 rfl) ?_
      refine lv_iconst (v := 2) hx hb d_Loader_anchorsAsSaid_14 (by decide) ?_
      refine lv_iload hx hb d_Loader_anchorsAsSaid_15 (lv_at hl 4 rfl) ?_
      refine lv_imul hx hb d_Loader_anchorsAsSaid_17 ?_
      refine lv_iadd hx hb d_Loader_anchorsAsSaid_18 ?_
      obtain ⟨r1, h_r1, hf⟩ := q_bn_some hf
      refine q_callVp (As := [.int (x2_3 + (2 * x4_3))]) (rest := []) (q0 := 1) hC (c_xTable_u16 l G h_r1) cal_Table_u16 wq_10 ⟨rfl, rfl, Nat.le_of_ble_eq_true rfl, Nat.le_of_ble_eq_true rfl⟩ rfl rfl hP hT hS rfl hl.1 rfl (Nat.le_of_ble_eq_true rfl) d_Loader_anchorsAsSaid_19 (fun H locs hP hS => ?_)
      refine lv_istore (lv' := [(5, .int r1), (0, .ref (G.2.2 5)), (1, .int x1_3), (2, .int x2_3), (3, .int x3_3), (4, .int x4_3)]) hx hb d_Loader_anchorsAsSaid_22 hl (by decide) rfl (fun ls hl => ?_)
      refine lv_iload hx hb d_Loader_anchorsAsSaid_24 (lv_at hl 0 rfl) ?_
      refine lv_if_eq (tgt := 42) hx hb d_Loader_anchorsAsSaid_26 (by decide) (fun c1 => ?_) (fun c1 => ?_)
      · rw [if_pos c1] at hf
        refine lv_iinc (v := x4_3 + 1) (lv' := [(4, .int (x4_3 + 1)), (5, .int r1), (0, .ref (G.2.2 5)), (1, .int x1_3), (2, .int x2_3), (3, .int x3_3)]) hx hb d_Loader_anchorsAsSaid_42 hl (k := 5) rfl rfl (by decide) rfl (fun ls hl => ?_)
        refine lv_goto (tgt := 3) hx hb d_Loader_anchorsAsSaid_45 (by decide) ?_
        exact ih_3 _ _ _ _ _ hf hP hS (lv_sub hl [2, 3, 4, 5, 0] rfl)
      rw [if_neg c1] at hf
      refine lv_aload_n hx hb d_Loader_anchorsAsSaid_29 rfl (lv_at hl 1 rfl) ?_
      refine lv_iload_n hx hb d_Loader_anchorsAsSaid_30 rfl (lv_at hl 2 rfl) ?_
      refine lv_iload hx hb d_Loader_anchorsAsSaid_31 (lv_at hl 0 rfl) ?_
      refine lv_iadd hx hb d_Loader_anchorsAsSaid_33 ?_
      obtain ⟨r2, sr2, h_r2, hf⟩ := q_bm_some hf
      refine q_callVi (As := [.int (x1_3 + r1)]) (rest := []) (q0 := 5) hC (c_xLoader_anchorAsSaid l G h_r2) cal_Loader_anchorAsSaid wq_23 ⟨rfl, rfl, Nat.le_of_ble_eq_true rfl, Nat.le_of_ble_eq_true rfl⟩ rfl rfl hP hD hA hS rfl hl.1 rfl (Nat.le_of_ble_eq_true rfl) d_Loader_anchorsAsSaid_34 (fun H locs hP hS => ?_)
      refine lv_if_ne (tgt := 42) hx hb d_Loader_anchorsAsSaid_37 (by decide) (fun c1 => ?_) (fun c1 => ?_)
      rotate_left
      · rw [if_pos c1] at hf
        refine lv_iconst (v := 0) hx hb d_Loader_anchorsAsSaid_40 (by decide) ?_
        exact q_iret hC hr hlk hf (by first | rfl | decide) hP hS d_Loader_anchorsAsSaid_41
      rw [if_neg c1] at hf
      refine lv_iinc (v := x4_3 + 1) (lv' := [(4, .int (x4_3 + 1)), (5, .int r1), (0, .ref (G.2.2 5)), (1, .int x1_3), (2, .int x2_3), (3, .int x3_3)]) hx hb d_Loader_anchorsAsSaid_42 hl (k := 5) rfl rfl (by decide) rfl (fun ls hl => ?_)
      refine lv_goto (tgt := 3) hx hb d_Loader_anchorsAsSaid_45 (by decide) ?_
      exact ih_3 _ _ _ _ _ hf hP hS (lv_sub hl [2, 3, 4, 5, 0] rfl)
  unfold xLoader_anchorsAsSaid at hf
  refine lv_iconst (v := 0) hx hb d_Loader_anchorsAsSaid_0 (by decide) ?_
  refine lv_istore (lv' := [(4, .int 0), (0, .ref (G.2.2 5)), (1, .int x1), (2, .int x2), (3, .int x3)]) hx hb d_Loader_anchorsAsSaid_1 hl (by decide) rfl (fun ls hl => ?_)
  exact L_3 _ _ _ _ _ _ _ _ _ hf hP hS (lv_sub hl [1, 2, 3, 4, 0] rfl)
def xLoader_ligaturesAsSaid_15 (N : Nat) (x1_15 x2_15 x3_15 : Int32) : Nat → Int32 → QSt → Option (Int32 × QSt)
  | 0, _, _ => none
  | n_15 + 1, x4_15, st_15 => if x2_15 ≤ x4_15 then (some (1, st_15)) else (q_bn (xTable_u16 ((x1_15 + 2) + (2 * x4_15)) st_15) (fun r2 => q_lt (x1_15 + r2) (fun x5_1003 => q_bm (xLoader_looksAtOneMore st_15) (fun r4 sr4 => if r4 = 0 then (some (0, sr4)) else (q_bn (xLoader_listLies x5_1003 16 (2 * x3_15) sr4) (fun r5 => if r5 = 0 then (some (0, sr4)) else (q_bn (xTable_u16 x5_1003 sr4) (fun r6 => if r6 = 0 then (some (0, sr4)) else (q_bm (xLoader_anchorsAsSaid N x5_1003 (x5_1003 + 2) (r6 * x3_15) sr4) (fun r7 sr7 => if r7 = 0 then (some (0, sr7)) else (xLoader_ligaturesAsSaid_15 N x1_15 x2_15 x3_15 n_15 (x4_15 + 1) sr7)))))))))))
def xLoader_ligaturesAsSaid (N : Nat) (x1 x2 x3 : Int32) (st : QSt) : Option (Int32 × QSt) :=
  q_bn (xLoader_listByIndexLies x1 x2 2 st) (fun r1 => if r1 = 0 then (some (0, st)) else (xLoader_ligaturesAsSaid_15 N x1 x2 x3 N 0 st))
set_option maxHeartbeats 4000000 in
set_option maxRecDepth 100000 in
theorem c_xLoader_ligaturesAsSaid (l : Launch) (G : XG) {N : Nat} {x1 x2 x3 : Int32} {st : QSt} {ro : Int32} {so : QSt} (hf : xLoader_ligaturesAsSaid N x1 x2 x3 st = some (ro, so)) : q_Mi l y_Loader_ligaturesAsSaid b_Loader_ligaturesAsSaid 7 .boolean ({ frames := 3, cells := 0, slots := 0, locals := 69 } : Room) G.1 (xT G) (wX G) [.ref (G.2.2 5), .int x1, .int x2, .int x3] st ro so := by
  refine q_Mi_of (by decide) (Nat.le_of_ble_eq_true rfl) (wX_fst G) ?_
  intro p e s m args below meth c A ls hC hr hlk hT hD hA hP hS hl
  have hx := hC.1.1
  have hb := hC.1.2.1
  have hown := hC.1.2.2.2.1
  have hts := hC.1.2.2.2.2
  have hl : lv_has ls 7 [(0, .ref (G.2.2 5)), (1, .int x1), (2, .int x2), (3, .int x3)] := hl
  have L_15 : ∀ (x1_15 x2_15 x3_15 : Int32) (n_15 : Nat) (x4_15 : Int32) (st_15 : QSt) (H : Heap) (locs : List Loc) (ls : Array Slot), xLoader_ligaturesAsSaid_15 N x1_15 x2_15 x3_15 n_15 x4_15 st_15 = some (ro, so) → va_P G.1 vwCl (wX G st_15) H → va_S A s.heap H locs → lv_has ls 7 [(0, .ref (G.2.2 5)), (1, .int x1_15), (2, .int x2_15), (3, .int x3_15), (4, .int x4_15)] → W p l e ({ frames := 3, cells := 0, slots := 0, locals := 69 } : Room) s m args below meth c H locs 0 0 (q_Zi below args s G.1 (wX G) ro so A) (F0 m 15 ls []) := by
    intro x1_15 x2_15 x3_15 n_15
    induction n_15 with
    | zero => intro _ _ _ _ _ hf; exact absurd hf (by simp [xLoader_ligaturesAsSaid_15])
    | succ n_15 ih_15 =>
      intro x4_15 st_15 H locs ls hf hP hS hl
      rw [xLoader_ligaturesAsSaid_15] at hf
      refine lv_iload hx hb d_Loader_ligaturesAsSaid_15 (lv_at hl 4 rfl) ?_
      refine lv_iload_n hx hb d_Loader_ligaturesAsSaid_17 rfl (lv_at hl 2 rfl) ?_
      refine lv_icmp_ge (tgt := 104) hx hb d_Loader_ligaturesAsSaid_18 (by decide) (fun c1 => ?_) (fun c1 => ?_)
      · rw [if_pos c1] at hf
        refine lv_iconst (v := 1) hx hb d_Loader_ligaturesAsSaid_104 (by decide) ?_
        exact q_iret hC hr hlk hf (by first | rfl | decide) hP hS d_Loader_ligaturesAsSaid_105
      rw [if_neg c1] at hf
      refine lv_iload_n hx hb d_Loader_ligaturesAsSaid_21 rfl (lv_at hl 1 rfl) ?_
      refine lv_aload_n hx hb d_Loader_ligaturesAsSaid_22 rfl (lv_at hl 0 rfl) ?_
      refine xg_5_table hC hP wq_8 d_Loader_ligaturesAsSaid_23 ?_
      refine lv_iload_n hx hb d_Loader_ligaturesAsSaid_26 rfl (lv_at hl 1 rfl) ?_
      refine lv_iconst (v := 2) hx hb d_Loader_ligaturesAsSaid_27 (by decide) ?_
      refine lv_iadd hx hb d_Loader_ligaturesAsSaid_28 ?_
      refine lv_iconst (v := 2) hx hb d_Loader_ligaturesAsSaid_29 (by decide) ?_
      refine lv_iload hx hb d_Loader_ligaturesAsSaid_30 (lv_at hl 4 rfl) ?_
      refine lv_imul hx hb d_Loader_ligaturesAsSaid_32 ?_
      refine lv_iadd hx hb d_Loader_ligaturesAsSaid_33 ?_
      obtain ⟨r2, h_r2, hf⟩ := q_bn_some hf
      refine q_callVp (As := [.int ((x1_15 + 2) + (2 * x4_15))]) (rest := [.int x1_15]) (q0 := 1) hC (c_xTable_u16 l G h_r2) cal_Table_u16 wq_10 ⟨rfl, rfl, Nat.le_of_ble_eq_true rfl, Nat.le_of_ble_eq_true rfl⟩ rfl rfl hP hT hS rfl hl.1 rfl (Nat.le_of_ble_eq_true rfl) d_Loader_ligaturesAsSaid_34 (fun H locs hP hS => ?_)
      refine lv_iadd hx hb d_Loader_ligaturesAsSaid_37 ?_
      obtain ⟨x5_1003, e_x5_1003, hf⟩ := q_lt_some hf
      refine q_topi e_x5_1003 ?_
      refine lv_istore (lv' := [(5, .int x5_1003), (0, .ref (G.2.2 5)), (1, .int x1_15), (2, .int x2_15), (3, .int x3_15), (4, .int x4_15)]) hx hb d_Loader_ligaturesAsSaid_38 hl (by decide) rfl (fun ls hl => ?_)
      refine lv_aload_n hx hb d_Loader_ligaturesAsSaid_40 rfl (lv_at hl 1 rfl) ?_
      obtain ⟨r4, sr4, h_r4, hf⟩ := q_bm_some hf
      refine q_callVi (As := []) (rest := []) (q0 := 5) hC (c_xLoader_looksAtOneMore l G h_r4) cal_Loader_looksAtOneMore wq_20 ⟨rfl, rfl, Nat.le_of_ble_eq_true rfl, Nat.le_of_ble_eq_true rfl⟩ rfl rfl hP hD hA hS rfl hl.1 rfl (Nat.le_of_ble_eq_true rfl) d_Loader_ligaturesAsSaid_41 (fun H locs hP hS => ?_)
      refine lv_if_eq (tgt := 61) hx hb d_Loader_ligaturesAsSaid_44 (by decide) (fun c1 => ?_) (fun c1 => ?_)
      · rw [if_pos c1] at hf
        refine lv_iconst (v := 0) hx hb d_Loader_ligaturesAsSaid_61 (by decide) ?_
        exact q_iret hC hr hlk hf (by first | rfl | decide) hP hS d_Loader_ligaturesAsSaid_62
      rw [if_neg c1] at hf
      refine lv_aload_n hx hb d_Loader_ligaturesAsSaid_47 rfl (lv_at hl 1 rfl) ?_
      refine lv_iload hx hb d_Loader_ligaturesAsSaid_48 (lv_at hl 0 rfl) ?_
      refine lv_bipush (v := 16) hx hb d_Loader_ligaturesAsSaid_50 (by decide) ?_
      refine lv_iconst (v := 2) hx hb d_Loader_ligaturesAsSaid_52 (by decide) ?_
      refine lv_iload_n hx hb d_Loader_ligaturesAsSaid_53 rfl (lv_at hl 4 rfl) ?_
      refine lv_imul hx hb d_Loader_ligaturesAsSaid_54 ?_
      obtain ⟨r5, h_r5, hf⟩ := q_bn_some hf
      refine q_callVp (As := [.int x5_1003, .int 16, .int (2 * x3_15)]) (rest := []) (q0 := 5) hC (c_xLoader_listLies l G h_r5) cal_Loader_listLies wq_13 ⟨rfl, rfl, Nat.le_of_ble_eq_true rfl, Nat.le_of_ble_eq_true rfl⟩ rfl rfl hP hT hS rfl hl.1 rfl (Nat.le_of_ble_eq_true rfl) d_Loader_ligaturesAsSaid_55 (fun H locs hP hS => ?_)
      refine lv_if_ne (tgt := 63) hx hb d_Loader_ligaturesAsSaid_58 (by decide) (fun c1 => ?_) (fun c1 => ?_)
      rotate_left
      · rw [if_pos c1] at hf
        refine lv_iconst (v := 0) hx hb d_Loader_ligaturesAsSaid_61 (by decide) ?_
        exact q_iret hC hr hlk hf (by first | rfl | decide) hP hS d_Loader_ligaturesAsSaid_62
      rw [if_neg c1] at hf
      refine lv_aload_n hx hb d_Loader_ligaturesAsSaid_63 rfl (lv_at hl 1 rfl) ?_
      refine xg_5_table hC hP wq_8 d_Loader_ligaturesAsSaid_64 ?_
      refine lv_iload hx hb d_Loader_ligaturesAsSaid_67 (lv_at hl 0 rfl) ?_
      obtain ⟨r6, h_r6, hf⟩ := q_bn_some hf
      refine q_callVp (As := [.int x5_1003]) (rest := []) (q0 := 1) hC (c_xTable_u16 l G h_r6) cal_Table_u16 wq_10 ⟨rfl, rfl, Nat.le_of_ble_eq_true rfl, Nat.le_of_ble_eq_true rfl⟩ rfl rfl hP hT hS rfl hl.1 rfl (Nat.le_of_ble_eq_true rfl) d_Loader_ligaturesAsSaid_69 (fun H locs hP hS => ?_)
      refine lv_istore (lv' := [(6, .int r6), (5, .int x5_1003), (0, .ref (G.2.2 5)), (1, .int x1_15), (2, .int x2_15), (3, .int x3_15), (4, .int x4_15)]) hx hb d_Loader_ligaturesAsSaid_72 hl (by decide) rfl (fun ls hl => ?_)
      refine lv_iload hx hb d_Loader_ligaturesAsSaid_74 (lv_at hl 0 rfl) ?_
      refine lv_if_eq (tgt := 96) hx hb d_Loader_ligaturesAsSaid_76 (by decide) (fun c1 => ?_) (fun c1 => ?_)
      · rw [if_pos c1] at hf
        refine lv_iconst (v := 0) hx hb d_Loader_ligaturesAsSaid_96 (by decide) ?_
        exact q_iret hC hr hlk hf (by first | rfl | decide) hP hS d_Loader_ligaturesAsSaid_97
      rw [if_neg c1] at hf
      refine lv_aload_n hx hb d_Loader_ligaturesAsSaid_79 rfl (lv_at hl 2 rfl) ?_
      refine lv_iload hx hb d_Loader_ligaturesAsSaid_80 (lv_at hl 1 rfl) ?_
      refine lv_iload hx hb d_Loader_ligaturesAsSaid_82 (lv_at hl 1 rfl) ?_
      refine lv_iconst (v := 2) hx hb d_Loader_ligaturesAsSaid_84 (by decide) ?_
      refine lv_iadd hx hb d_Loader_ligaturesAsSaid_85 ?_
      refine lv_iload hx hb d_Loader_ligaturesAsSaid_86 (lv_at hl 0 rfl) ?_
      refine lv_iload_n hx hb d_Loader_ligaturesAsSaid_88 rfl (lv_at hl 5 rfl) ?_
      refine lv_imul hx hb d_Loader_ligaturesAsSaid_89 ?_
      obtain ⟨r7, sr7, h_r7, hf⟩ := q_bm_some hf
      refine q_callVi (As := [.int x5_1003, .int (x5_1003 + 2), .int (r6 * x3_15)]) (rest := []) (q0 := 5) hC (c_xLoader_anchorsAsSaid l G h_r7) cal_Loader_anchorsAsSaid wq_25 ⟨rfl, rfl, Nat.le_of_ble_eq_true rfl, Nat.le_of_ble_eq_true rfl⟩ rfl rfl hP hD hA hS rfl hl.1 rfl (Nat.le_of_ble_eq_true rfl) d_Loader_ligaturesAsSaid_90 (fun H locs hP hS => ?_)
      refine lv_if_ne (tgt := 98) hx hb d_Loader_ligaturesAsSaid_93 (by decide) (fun c1 => ?_) (fun c1 => ?_)
      rotate_left
      · rw [if_pos c1] at hf
        refine lv_iconst (v := 0) hx hb d_Loader_ligaturesAsSaid_96 (by decide) ?_
        exact q_iret hC hr hlk hf (by first | rfl | decide) hP hS d_Loader_ligaturesAsSaid_97
      rw [if_neg c1] at hf
      refine lv_iinc (v := x4_15 + 1) (lv' := [(4, .int (x4_15 + 1)), (6, .int r6), (5, .int x5_1003), (0, .ref (G.2.2 5)), (1, .int x1_15), (2, .int x2_15), (3, .int x3_15)]) hx hb d_Loader_ligaturesAsSaid_98 hl (k := 6) rfl rfl (by decide) rfl (fun ls hl => ?_)
      refine lv_goto (tgt := 15) hx hb d_Loader_ligaturesAsSaid_101 (by decide) ?_
      exact ih_15 _ _ _ _ _ hf hP hS (lv_sub hl [3, 4, 5, 6, 0] rfl)
  unfold xLoader_ligaturesAsSaid at hf
  refine lv_aload_n hx hb d_Loader_ligaturesAsSaid_0 rfl (lv_at hl 0 rfl) ?_
  refine lv_iload_n hx hb d_Loader_ligaturesAsSaid_1 rfl (lv_at hl 1 rfl) ?_
  refine lv_iload_n hx hb d_Loader_ligaturesAsSaid_2 rfl (lv_at hl 2 rfl) ?_
  refine lv_iconst (v := 2) hx hb d_Loader_ligaturesAsSaid_3 (by decide) ?_
  obtain ⟨r1, h_r1, hf⟩ := q_bn_some hf
  refine q_callVp (As := [.int x1, .int x2, .int 2]) (rest := []) (q0 := 5) hC (c_xLoader_listByIndexLies l G h_r1) cal_Loader_listByIndexLies wq_24 ⟨rfl, rfl, Nat.le_of_ble_eq_true rfl, Nat.le_of_ble_eq_true rfl⟩ rfl rfl hP hT hS rfl hl.1 rfl (Nat.le_of_ble_eq_true rfl) d_Loader_ligaturesAsSaid_4 (fun H locs hP hS => ?_)
  refine lv_if_ne (tgt := 12) hx hb d_Loader_ligaturesAsSaid_7 (by decide) (fun c1 => ?_) (fun c1 => ?_)
  rotate_left
  · rw [if_pos c1] at hf
    refine lv_iconst (v := 0) hx hb d_Loader_ligaturesAsSaid_10 (by decide) ?_
    exact q_iret hC hr hlk hf (by first | rfl | decide) hP hS d_Loader_ligaturesAsSaid_11
  rw [if_neg c1] at hf
  refine lv_iconst (v := 0) hx hb d_Loader_ligaturesAsSaid_12 (by decide) ?_
  refine lv_istore (lv' := [(4, .int 0), (0, .ref (G.2.2 5)), (1, .int x1), (2, .int x2), (3, .int x3)]) hx hb d_Loader_ligaturesAsSaid_13 hl (by decide) rfl (fun ls hl => ?_)
  exact L_15 _ _ _ _ _ _ _ _ _ hf hP hS (lv_sub hl [1, 2, 3, 4, 0] rfl)
def xLoader_marksOnAsSaid (N : Nat) (x1 x2 : Int32) (st : QSt) : Option (Int32 × QSt) :=
  q_bn (xTable_lies x2 12 st) (fun r1 => if r1 = 0 then (some (0, st)) else (q_bn (xTable_u16 x2 st) (fun r2 => if r2 = 1 then (q_bn (xTable_u16 (x2 + 2) st) (fun r3 => q_bm (xLoader_covered N (x2 + r3) st) (fun r4 sr4 => q_bn (xTable_u16 (x2 + 4) sr4) (fun r5 => q_bm (xLoader_covered N (x2 + r5) sr4) (fun r6 sr6 => q_bn (xTable_u16 (x2 + 6) sr6) (fun r7 => if r4 = (-1) then (some (0, sr6)) else (if r6 = (-1) then (some (0, sr6)) else (if 16 < r7 then (some (0, sr6)) else (q_bn (xTable_u16 (x2 + 8) sr6) (fun r8 => q_bm (xLoader_marksAsSaid N (x2 + r8) r4 r7 sr6) (fun r9 sr9 => if r9 = 0 then (some (0, sr9)) else (q_bn (xTable_u16 (x2 + 10) sr9) (fun r10 => q_lt (x2 + r10) (fun x6_1011 => if x1 = 5 then (q_bm (xLoader_ligaturesAsSaid N x6_1011 r6 r7 sr9) (fun r14 sr14 => q_grd (q_isb r14) (some (r14, sr14)))) else (q_bn (xLoader_listByIndexLies x6_1011 r6 (2 * r7) sr9) (fun r12 => if r12 = 0 then (some (0, sr9)) else (q_bm (xLoader_anchorsAsSaid N x6_1011 (x6_1011 + 2) (r6 * r7) sr9) (fun r13 sr13 => if r13 = 0 then (some (0, sr13)) else (some (1, sr13)))))))))))))))))))) else (some (0, st)))))
set_option maxHeartbeats 4000000 in
set_option maxRecDepth 100000 in
theorem c_xLoader_marksOnAsSaid (l : Launch) (G : XG) {N : Nat} {x1 x2 : Int32} {st : QSt} {ro : Int32} {so : QSt} (hf : xLoader_marksOnAsSaid N x1 x2 st = some (ro, so)) : q_Mi l y_Loader_marksOnAsSaid b_Loader_marksOnAsSaid 7 .boolean ({ frames := 4, cells := 0, slots := 0, locals := 95 } : Room) G.1 (xT G) (wX G) [.ref (G.2.2 5), .int x1, .int x2] st ro so := by
  refine q_Mi_of (by decide) (Nat.le_of_ble_eq_true rfl) (wX_fst G) ?_
  intro p e s m args below meth c A ls hC hr hlk hT hD hA hP hS hl
  have hx := hC.1.1
  have hb := hC.1.2.1
  have hown := hC.1.2.2.2.1
  have hts := hC.1.2.2.2.2
  have hl : lv_has ls 7 [(0, .ref (G.2.2 5)), (1, .int x1), (2, .int x2)] := hl
  unfold xLoader_marksOnAsSaid at hf
  refine lv_aload_n hx hb d_Loader_marksOnAsSaid_0 rfl (lv_at hl 0 rfl) ?_
  refine xg_5_table hC hP wq_8 d_Loader_marksOnAsSaid_1 ?_
  refine lv_iload_n hx hb d_Loader_marksOnAsSaid_4 rfl (lv_at hl 2 rfl) ?_
  refine lv_bipush (v := 12) hx hb d_Loader_marksOnAsSaid_5 (by decide) ?_
  obtain ⟨r1, h_r1, hf⟩ := q_bn_some hf
  refine q_callVp (As := [.int x2, .int 12]) (rest := []) (q0 := 1) hC (c_xTable_lies l G h_r1) cal_Table_lies wq_9 ⟨rfl, rfl, Nat.le_of_ble_eq_true rfl, Nat.le_of_ble_eq_true rfl⟩ rfl rfl hP hT hS rfl hl.1 rfl (Nat.le_of_ble_eq_true rfl) d_Loader_marksOnAsSaid_7 (fun H locs hP hS => ?_)
  refine lv_if_eq (tgt := 25) hx hb d_Loader_marksOnAsSaid_10 (by decide) (fun c1 => ?_) (fun c1 => ?_)
  · rw [if_pos c1] at hf
    refine lv_iconst (v := 0) hx hb d_Loader_marksOnAsSaid_25 (by decide) ?_
    exact q_iret hC hr hlk hf (by first | rfl | decide) hP hS d_Loader_marksOnAsSaid_26
  rw [if_neg c1] at hf
  refine lv_aload_n hx hb d_Loader_marksOnAsSaid_13 rfl (lv_at hl 0 rfl) ?_
  refine xg_5_table hC hP wq_8 d_Loader_marksOnAsSaid_14 ?_
  refine lv_iload_n hx hb d_Loader_marksOnAsSaid_17 rfl (lv_at hl 2 rfl) ?_
  obtain ⟨r2, h_r2, hf⟩ := q_bn_some hf
  refine q_callVp (As := [.int x2]) (rest := []) (q0 := 1) hC (c_xTable_u16 l G h_r2) cal_Table_u16 wq_10 ⟨rfl, rfl, Nat.le_of_ble_eq_true rfl, Nat.le_of_ble_eq_true rfl⟩ rfl rfl hP hT hS rfl hl.1 rfl (Nat.le_of_ble_eq_true rfl) d_Loader_marksOnAsSaid_18 (fun H locs hP hS => ?_)
  refine lv_iconst (v := 1) hx hb d_Loader_marksOnAsSaid_21 (by decide) ?_
  refine lv_icmp_eq (tgt := 27) hx hb d_Loader_marksOnAsSaid_22 (by decide) (fun c1 => ?_) (fun c1 => ?_)
  rotate_left
  · rw [if_neg c1] at hf
    refine lv_iconst (v := 0) hx hb d_Loader_marksOnAsSaid_25 (by decide) ?_
    exact q_iret hC hr hlk hf (by first | rfl | decide) hP hS d_Loader_marksOnAsSaid_26
  rw [if_pos c1] at hf
  refine lv_aload_n hx hb d_Loader_marksOnAsSaid_27 rfl (lv_at hl 0 rfl) ?_
  refine lv_iload_n hx hb d_Loader_marksOnAsSaid_28 rfl (lv_at hl 2 rfl) ?_
  refine lv_aload_n hx hb d_Loader_marksOnAsSaid_29 rfl (lv_at hl 0 rfl) ?_
  refine xg_5_table hC hP wq_8 d_Loader_marksOnAsSaid_30 ?_
  refine lv_iload_n hx hb d_Loader_marksOnAsSaid_33 rfl (lv_at hl 2 rfl) ?_
  refine lv_iconst (v := 2) hx hb d_Loader_marksOnAsSaid_34 (by decide) ?_
  refine lv_iadd hx hb d_Loader_marksOnAsSaid_35 ?_
  obtain ⟨r3, h_r3, hf⟩ := q_bn_some hf
  refine q_callVp (As := [.int (x2 + 2)]) (rest := [.int x2, .ref (G.2.2 5)]) (q0 := 1) hC (c_xTable_u16 l G h_r3) cal_Table_u16 wq_10 ⟨rfl, rfl, Nat.le_of_ble_eq_true rfl, Nat.le_of_ble_eq_true rfl⟩ rfl rfl hP hT hS rfl hl.1 rfl (Nat.le_of_ble_eq_true rfl) d_Loader_marksOnAsSaid_36 (fun H locs hP hS => ?_)
  refine lv_iadd hx hb d_Loader_marksOnAsSaid_39 ?_
  obtain ⟨r4, sr4, h_r4, hf⟩ := q_bm_some hf
  refine q_callVi (As := [.int (x2 + r3)]) (rest := []) (q0 := 5) hC (c_xLoader_covered l G h_r4) cal_Loader_covered wq_26 ⟨rfl, rfl, Nat.le_of_ble_eq_true rfl, Nat.le_of_ble_eq_true rfl⟩ rfl rfl hP hD hA hS rfl hl.1 rfl (Nat.le_of_ble_eq_true rfl) d_Loader_marksOnAsSaid_40 (fun H locs hP hS => ?_)
  refine lv_istore_n (lv' := [(3, .int r4), (0, .ref (G.2.2 5)), (1, .int x1), (2, .int x2)]) hx hb d_Loader_marksOnAsSaid_43 rfl hl (by decide) rfl (fun ls hl => ?_)
  refine lv_aload_n hx hb d_Loader_marksOnAsSaid_44 rfl (lv_at hl 1 rfl) ?_
  refine lv_iload_n hx hb d_Loader_marksOnAsSaid_45 rfl (lv_at hl 3 rfl) ?_
  refine lv_aload_n hx hb d_Loader_marksOnAsSaid_46 rfl (lv_at hl 1 rfl) ?_
  refine xg_5_table hC hP wq_8 d_Loader_marksOnAsSaid_47 ?_
  refine lv_iload_n hx hb d_Loader_marksOnAsSaid_50 rfl (lv_at hl 3 rfl) ?_
  refine lv_iconst (v := 4) hx hb d_Loader_marksOnAsSaid_51 (by decide) ?_
  refine lv_iadd hx hb d_Loader_marksOnAsSaid_52 ?_
  obtain ⟨r5, h_r5, hf⟩ := q_bn_some hf
  refine q_callVp (As := [.int (x2 + 4)]) (rest := [.int x2, .ref (G.2.2 5)]) (q0 := 1) hC (c_xTable_u16 l G h_r5) cal_Table_u16 wq_10 ⟨rfl, rfl, Nat.le_of_ble_eq_true rfl, Nat.le_of_ble_eq_true rfl⟩ rfl rfl hP hT hS rfl hl.1 rfl (Nat.le_of_ble_eq_true rfl) d_Loader_marksOnAsSaid_53 (fun H locs hP hS => ?_)
  refine lv_iadd hx hb d_Loader_marksOnAsSaid_56 ?_
  obtain ⟨r6, sr6, h_r6, hf⟩ := q_bm_some hf
  refine q_callVi (As := [.int (x2 + r5)]) (rest := []) (q0 := 5) hC (c_xLoader_covered l G h_r6) cal_Loader_covered wq_26 ⟨rfl, rfl, Nat.le_of_ble_eq_true rfl, Nat.le_of_ble_eq_true rfl⟩ rfl rfl hP hD hA hS rfl hl.1 rfl (Nat.le_of_ble_eq_true rfl) d_Loader_marksOnAsSaid_57 (fun H locs hP hS => ?_)
  refine lv_istore (lv' := [(4, .int r6), (3, .int r4), (0, .ref (G.2.2 5)), (1, .int x1), (2, .int x2)]) hx hb d_Loader_marksOnAsSaid_60 hl (by decide) rfl (fun ls hl => ?_)
  refine lv_aload_n hx hb d_Loader_marksOnAsSaid_62 rfl (lv_at hl 2 rfl) ?_
  refine xg_5_table hC hP wq_8 d_Loader_marksOnAsSaid_63 ?_
  refine lv_iload_n hx hb d_Loader_marksOnAsSaid_66 rfl (lv_at hl 4 rfl) ?_
  refine lv_bipush (v := 6) hx hb d_Loader_marksOnAsSaid_67 (by decide) ?_
  refine lv_iadd hx hb d_Loader_marksOnAsSaid_69 ?_
  obtain ⟨r7, h_r7, hf⟩ := q_bn_some hf
  refine q_callVp (As := [.int (x2 + 6)]) (rest := []) (q0 := 1) hC (c_xTable_u16 l G h_r7) cal_Table_u16 wq_10 ⟨rfl, rfl, Nat.le_of_ble_eq_true rfl, Nat.le_of_ble_eq_true rfl⟩ rfl rfl hP hT hS rfl hl.1 rfl (Nat.le_of_ble_eq_true rfl) d_Loader_marksOnAsSaid_70 (fun H locs hP hS => ?_)
  refine lv_istore (lv' := [(5, .int r7), (4, .int r6), (3, .int r4), (0, .ref (G.2.2 5)), (1, .int x1), (2, .int x2)]) hx hb d_Loader_marksOnAsSaid_73 hl (by decide) rfl (fun ls hl => ?_)
  refine lv_iload_n hx hb d_Loader_marksOnAsSaid_75 rfl (lv_at hl 2 rfl) ?_
  refine lv_iconst (v := (-1)) hx hb d_Loader_marksOnAsSaid_76 (by decide) ?_
  refine lv_icmp_eq (tgt := 116) hx hb d_Loader_marksOnAsSaid_77 (by decide) (fun c1 => ?_) (fun c1 => ?_)
  · rw [if_pos c1] at hf
    refine lv_iconst (v := 0) hx hb d_Loader_marksOnAsSaid_116 (by decide) ?_
    exact q_iret hC hr hlk hf (by first | rfl | decide) hP hS d_Loader_marksOnAsSaid_117
  rw [if_neg c1] at hf
  refine lv_iload hx hb d_Loader_marksOnAsSaid_80 (lv_at hl 1 rfl) ?_
  refine lv_iconst (v := (-1)) hx hb d_Loader_marksOnAsSaid_82 (by decide) ?_
  refine lv_icmp_eq (tgt := 116) hx hb d_Loader_marksOnAsSaid_83 (by decide) (fun c1 => ?_) (fun c1 => ?_)
  · rw [if_pos c1] at hf
    refine lv_iconst (v := 0) hx hb d_Loader_marksOnAsSaid_116 (by decide) ?_
    exact q_iret hC hr hlk hf (by first | rfl | decide) hP hS d_Loader_marksOnAsSaid_117
  rw [if_neg c1] at hf
  refine lv_iload hx hb d_Loader_marksOnAsSaid_86 (lv_at hl 0 rfl) ?_
  refine lv_bipush (v := 16) hx hb d_Loader_marksOnAsSaid_88 (by decide) ?_
  refine lv_icmp_gt (tgt := 116) hx hb d_Loader_marksOnAsSaid_90 (by decide) (fun c1 => ?_) (fun c1 => ?_)
  · rw [if_pos c1] at hf
    refine lv_iconst (v := 0) hx hb d_Loader_marksOnAsSaid_116 (by decide) ?_
    exact q_iret hC hr hlk hf (by first | rfl | decide) hP hS d_Loader_marksOnAsSaid_117
  rw [if_neg c1] at hf
  refine lv_aload_n hx hb d_Loader_marksOnAsSaid_93 rfl (lv_at hl 3 rfl) ?_
  refine lv_iload_n hx hb d_Loader_marksOnAsSaid_94 rfl (lv_at hl 5 rfl) ?_
  refine lv_aload_n hx hb d_Loader_marksOnAsSaid_95 rfl (lv_at hl 3 rfl) ?_
  refine xg_5_table hC hP wq_8 d_Loader_marksOnAsSaid_96 ?_
  refine lv_iload_n hx hb d_Loader_marksOnAsSaid_99 rfl (lv_at hl 5 rfl) ?_
  refine lv_bipush (v := 8) hx hb d_Loader_marksOnAsSaid_100 (by decide) ?_
  refine lv_iadd hx hb d_Loader_marksOnAsSaid_102 ?_
  obtain ⟨r8, h_r8, hf⟩ := q_bn_some hf
  refine q_callVp (As := [.int (x2 + 8)]) (rest := [.int x2, .ref (G.2.2 5)]) (q0 := 1) hC (c_xTable_u16 l G h_r8) cal_Table_u16 wq_10 ⟨rfl, rfl, Nat.le_of_ble_eq_true rfl, Nat.le_of_ble_eq_true rfl⟩ rfl rfl hP hT hS rfl hl.1 rfl (Nat.le_of_ble_eq_true rfl) d_Loader_marksOnAsSaid_103 (fun H locs hP hS => ?_)
  refine lv_iadd hx hb d_Loader_marksOnAsSaid_106 ?_
  refine lv_iload_n hx hb d_Loader_marksOnAsSaid_107 rfl (lv_at hl 2 rfl) ?_
  refine lv_iload hx hb d_Loader_marksOnAsSaid_108 (lv_at hl 0 rfl) ?_
  obtain ⟨r9, sr9, h_r9, hf⟩ := q_bm_some hf
  refine q_callVi (As := [.int (x2 + r8), .int r4, .int r7]) (rest := []) (q0 := 5) hC (c_xLoader_marksAsSaid l G h_r9) cal_Loader_marksAsSaid wq_27 ⟨rfl, rfl, Nat.le_of_ble_eq_true rfl, Nat.le_of_ble_eq_true rfl⟩ rfl rfl hP hD hA hS rfl hl.1 rfl (Nat.le_of_ble_eq_true rfl) d_Loader_marksOnAsSaid_110 (fun H locs hP hS => ?_)
  refine lv_if_ne (tgt := 118) hx hb d_Loader_marksOnAsSaid_113 (by decide) (fun c1 => ?_) (fun c1 => ?_)
  rotate_left
  · rw [if_pos c1] at hf
    refine lv_iconst (v := 0) hx hb d_Loader_marksOnAsSaid_116 (by decide) ?_
    exact q_iret hC hr hlk hf (by first | rfl | decide) hP hS d_Loader_marksOnAsSaid_117
  rw [if_neg c1] at hf
  refine lv_iload_n hx hb d_Loader_marksOnAsSaid_118 rfl (lv_at hl 5 rfl) ?_
  refine lv_aload_n hx hb d_Loader_marksOnAsSaid_119 rfl (lv_at hl 3 rfl) ?_
  refine xg_5_table hC hP wq_8 d_Loader_marksOnAsSaid_120 ?_
  refine lv_iload_n hx hb d_Loader_marksOnAsSaid_123 rfl (lv_at hl 5 rfl) ?_
  refine lv_bipush (v := 10) hx hb d_Loader_marksOnAsSaid_124 (by decide) ?_
  refine lv_iadd hx hb d_Loader_marksOnAsSaid_126 ?_
  obtain ⟨r10, h_r10, hf⟩ := q_bn_some hf
  refine q_callVp (As := [.int (x2 + 10)]) (rest := [.int x2]) (q0 := 1) hC (c_xTable_u16 l G h_r10) cal_Table_u16 wq_10 ⟨rfl, rfl, Nat.le_of_ble_eq_true rfl, Nat.le_of_ble_eq_true rfl⟩ rfl rfl hP hT hS rfl hl.1 rfl (Nat.le_of_ble_eq_true rfl) d_Loader_marksOnAsSaid_127 (fun H locs hP hS => ?_)
  refine lv_iadd hx hb d_Loader_marksOnAsSaid_130 ?_
  obtain ⟨x6_1011, e_x6_1011, hf⟩ := q_lt_some hf
  refine q_topi e_x6_1011 ?_
  refine lv_istore (lv' := [(6, .int x6_1011), (5, .int r7), (4, .int r6), (3, .int r4), (0, .ref (G.2.2 5)), (1, .int x1), (2, .int x2)]) hx hb d_Loader_marksOnAsSaid_131 hl (by decide) rfl (fun ls hl => ?_)
  refine lv_iload_n hx hb d_Loader_marksOnAsSaid_133 rfl (lv_at hl 5 rfl) ?_
  refine lv_iconst (v := 5) hx hb d_Loader_marksOnAsSaid_134 (by decide) ?_
  refine lv_icmp_ne (tgt := 149) hx hb d_Loader_marksOnAsSaid_135 (by decide) (fun c1 => ?_) (fun c1 => ?_)
  rotate_left
  · rw [if_pos c1] at hf
    refine lv_aload_n hx hb d_Loader_marksOnAsSaid_138 rfl (lv_at hl 4 rfl) ?_
    refine lv_iload hx hb d_Loader_marksOnAsSaid_139 (lv_at hl 0 rfl) ?_
    refine lv_iload hx hb d_Loader_marksOnAsSaid_141 (lv_at hl 2 rfl) ?_
    refine lv_iload hx hb d_Loader_marksOnAsSaid_143 (lv_at hl 1 rfl) ?_
    obtain ⟨r14, sr14, h_r14, hf⟩ := q_bm_some hf
    refine q_callVi (As := [.int x6_1011, .int r6, .int r7]) (rest := []) (q0 := 5) hC (c_xLoader_ligaturesAsSaid l G h_r14) cal_Loader_ligaturesAsSaid wq_28 ⟨rfl, rfl, Nat.le_of_ble_eq_true rfl, Nat.le_of_ble_eq_true rfl⟩ rfl rfl hP hD hA hS rfl hl.1 rfl (Nat.le_of_ble_eq_true rfl) d_Loader_marksOnAsSaid_145 (fun H locs hP hS => ?_)
    obtain ⟨hi, hf⟩ := q_grd_some hf
    exact q_iret hC hr hlk hf (q_isb_nar hi) hP hS d_Loader_marksOnAsSaid_148
  rw [if_neg c1] at hf
  refine lv_aload_n hx hb d_Loader_marksOnAsSaid_149 rfl (lv_at hl 4 rfl) ?_
  refine lv_iload hx hb d_Loader_marksOnAsSaid_150 (lv_at hl 0 rfl) ?_
  refine lv_iload hx hb d_Loader_marksOnAsSaid_152 (lv_at hl 2 rfl) ?_
  refine lv_iconst (v := 2) hx hb d_Loader_marksOnAsSaid_154 (by decide) ?_
  refine lv_iload hx hb d_Loader_marksOnAsSaid_155 (lv_at hl 1 rfl) ?_
  refine lv_imul hx hb d_Loader_marksOnAsSaid_157 ?_
  obtain ⟨r12, h_r12, hf⟩ := q_bn_some hf
  refine q_callVp (As := [.int x6_1011, .int r6, .int (2 * r7)]) (rest := []) (q0 := 5) hC (c_xLoader_listByIndexLies l G h_r12) cal_Loader_listByIndexLies wq_24 ⟨rfl, rfl, Nat.le_of_ble_eq_true rfl, Nat.le_of_ble_eq_true rfl⟩ rfl rfl hP hT hS rfl hl.1 rfl (Nat.le_of_ble_eq_true rfl) d_Loader_marksOnAsSaid_158 (fun H locs hP hS => ?_)
  refine lv_if_eq (tgt := 186) hx hb d_Loader_marksOnAsSaid_161 (by decide) (fun c1 => ?_) (fun c1 => ?_)
  · rw [if_pos c1] at hf
    refine lv_iconst (v := 0) hx hb d_Loader_marksOnAsSaid_186 (by decide) ?_
    exact q_iret hC hr hlk hf (by first | rfl | decide) hP hS d_Loader_marksOnAsSaid_187
  rw [if_neg c1] at hf
  refine lv_aload_n hx hb d_Loader_marksOnAsSaid_164 rfl (lv_at hl 4 rfl) ?_
  refine lv_iload hx hb d_Loader_marksOnAsSaid_165 (lv_at hl 0 rfl) ?_
  refine lv_iload hx hb d_Loader_marksOnAsSaid_167 (lv_at hl 0 rfl) ?_
  refine lv_iconst (v := 2) hx hb d_Loader_marksOnAsSaid_169 (by decide) ?_
  refine lv_iadd hx hb d_Loader_marksOnAsSaid_170 ?_
  refine lv_iload hx hb d_Loader_marksOnAsSaid_171 (lv_at hl 2 rfl) ?_
  refine lv_iload hx hb d_Loader_marksOnAsSaid_173 (lv_at hl 1 rfl) ?_
  refine lv_imul hx hb d_Loader_marksOnAsSaid_175 ?_
  obtain ⟨r13, sr13, h_r13, hf⟩ := q_bm_some hf
  refine q_callVi (As := [.int x6_1011, .int (x6_1011 + 2), .int (r6 * r7)]) (rest := []) (q0 := 5) hC (c_xLoader_anchorsAsSaid l G h_r13) cal_Loader_anchorsAsSaid wq_25 ⟨rfl, rfl, Nat.le_of_ble_eq_true rfl, Nat.le_of_ble_eq_true rfl⟩ rfl rfl hP hD hA hS rfl hl.1 rfl (Nat.le_of_ble_eq_true rfl) d_Loader_marksOnAsSaid_176 (fun H locs hP hS => ?_)
  refine lv_if_eq (tgt := 186) hx hb d_Loader_marksOnAsSaid_179 (by decide) (fun c1 => ?_) (fun c1 => ?_)
  · rw [if_pos c1] at hf
    refine lv_iconst (v := 0) hx hb d_Loader_marksOnAsSaid_186 (by decide) ?_
    exact q_iret hC hr hlk hf (by first | rfl | decide) hP hS d_Loader_marksOnAsSaid_187
  rw [if_neg c1] at hf
  refine lv_iconst (v := 1) hx hb d_Loader_marksOnAsSaid_182 (by decide) ?_
  refine lv_goto (tgt := 187) hx hb d_Loader_marksOnAsSaid_183 (by decide) ?_
  exact q_iret hC hr hlk hf (by first | rfl | decide) hP hS d_Loader_marksOnAsSaid_187
def xLoader_cursiveAsSaid (N : Nat) (x1 : Int32) (st : QSt) : Option (Int32 × QSt) :=
  q_bn (xTable_lies x1 4 st) (fun r1 => if r1 = 0 then (some (0, st)) else (q_bn (xTable_u16 x1 st) (fun r2 => if r2 = 1 then (q_bn (xTable_u16 (x1 + 2) st) (fun r3 => q_bm (xLoader_covered N (x1 + r3) st) (fun r4 sr4 => if r4 = (-1) then (some (0, sr4)) else (q_bn (xLoader_listByIndexLies (x1 + 4) r4 4 sr4) (fun r5 => if r5 = 0 then (some (0, sr4)) else (q_bm (xLoader_anchorsAsSaid N x1 (x1 + 6) (2 * r4) sr4) (fun r6 sr6 => if r6 = 0 then (some (0, sr6)) else (some (1, sr6))))))))) else (some (0, st)))))
set_option maxHeartbeats 4000000 in
set_option maxRecDepth 100000 in
theorem c_xLoader_cursiveAsSaid (l : Launch) (G : XG) {N : Nat} {x1 : Int32} {st : QSt} {ro : Int32} {so : QSt} (hf : xLoader_cursiveAsSaid N x1 st = some (ro, so)) : q_Mi l y_Loader_cursiveAsSaid b_Loader_cursiveAsSaid 3 .boolean ({ frames := 3, cells := 0, slots := 0, locals := 72 } : Room) G.1 (xT G) (wX G) [.ref (G.2.2 5), .int x1] st ro so := by
  refine q_Mi_of (by decide) (Nat.le_of_ble_eq_true rfl) (wX_fst G) ?_
  intro p e s m args below meth c A ls hC hr hlk hT hD hA hP hS hl
  have hx := hC.1.1
  have hb := hC.1.2.1
  have hown := hC.1.2.2.2.1
  have hts := hC.1.2.2.2.2
  have hl : lv_has ls 3 [(0, .ref (G.2.2 5)), (1, .int x1)] := hl
  unfold xLoader_cursiveAsSaid at hf
  refine lv_aload_n hx hb d_Loader_cursiveAsSaid_0 rfl (lv_at hl 0 rfl) ?_
  refine xg_5_table hC hP wq_8 d_Loader_cursiveAsSaid_1 ?_
  refine lv_iload_n hx hb d_Loader_cursiveAsSaid_4 rfl (lv_at hl 1 rfl) ?_
  refine lv_iconst (v := 4) hx hb d_Loader_cursiveAsSaid_5 (by decide) ?_
  obtain ⟨r1, h_r1, hf⟩ := q_bn_some hf
  refine q_callVp (As := [.int x1, .int 4]) (rest := []) (q0 := 1) hC (c_xTable_lies l G h_r1) cal_Table_lies wq_9 ⟨rfl, rfl, Nat.le_of_ble_eq_true rfl, Nat.le_of_ble_eq_true rfl⟩ rfl rfl hP hT hS rfl hl.1 rfl (Nat.le_of_ble_eq_true rfl) d_Loader_cursiveAsSaid_6 (fun H locs hP hS => ?_)
  refine lv_if_eq (tgt := 24) hx hb d_Loader_cursiveAsSaid_9 (by decide) (fun c1 => ?_) (fun c1 => ?_)
  · rw [if_pos c1] at hf
    refine lv_iconst (v := 0) hx hb d_Loader_cursiveAsSaid_24 (by decide) ?_
    exact q_iret hC hr hlk hf (by first | rfl | decide) hP hS d_Loader_cursiveAsSaid_25
  rw [if_neg c1] at hf
  refine lv_aload_n hx hb d_Loader_cursiveAsSaid_12 rfl (lv_at hl 0 rfl) ?_
  refine xg_5_table hC hP wq_8 d_Loader_cursiveAsSaid_13 ?_
  refine lv_iload_n hx hb d_Loader_cursiveAsSaid_16 rfl (lv_at hl 1 rfl) ?_
  obtain ⟨r2, h_r2, hf⟩ := q_bn_some hf
  refine q_callVp (As := [.int x1]) (rest := []) (q0 := 1) hC (c_xTable_u16 l G h_r2) cal_Table_u16 wq_10 ⟨rfl, rfl, Nat.le_of_ble_eq_true rfl, Nat.le_of_ble_eq_true rfl⟩ rfl rfl hP hT hS rfl hl.1 rfl (Nat.le_of_ble_eq_true rfl) d_Loader_cursiveAsSaid_17 (fun H locs hP hS => ?_)
  refine lv_iconst (v := 1) hx hb d_Loader_cursiveAsSaid_20 (by decide) ?_
  refine lv_icmp_eq (tgt := 26) hx hb d_Loader_cursiveAsSaid_21 (by decide) (fun c1 => ?_) (fun c1 => ?_)
  rotate_left
  · rw [if_neg c1] at hf
    refine lv_iconst (v := 0) hx hb d_Loader_cursiveAsSaid_24 (by decide) ?_
    exact q_iret hC hr hlk hf (by first | rfl | decide) hP hS d_Loader_cursiveAsSaid_25
  rw [if_pos c1] at hf
  refine lv_aload_n hx hb d_Loader_cursiveAsSaid_26 rfl (lv_at hl 0 rfl) ?_
  refine lv_iload_n hx hb d_Loader_cursiveAsSaid_27 rfl (lv_at hl 1 rfl) ?_
  refine lv_aload_n hx hb d_Loader_cursiveAsSaid_28 rfl (lv_at hl 0 rfl) ?_
  refine xg_5_table hC hP wq_8 d_Loader_cursiveAsSaid_29 ?_
  refine lv_iload_n hx hb d_Loader_cursiveAsSaid_32 rfl (lv_at hl 1 rfl) ?_
  refine lv_iconst (v := 2) hx hb d_Loader_cursiveAsSaid_33 (by decide) ?_
  refine lv_iadd hx hb d_Loader_cursiveAsSaid_34 ?_
  obtain ⟨r3, h_r3, hf⟩ := q_bn_some hf
  refine q_callVp (As := [.int (x1 + 2)]) (rest := [.int x1, .ref (G.2.2 5)]) (q0 := 1) hC (c_xTable_u16 l G h_r3) cal_Table_u16 wq_10 ⟨rfl, rfl, Nat.le_of_ble_eq_true rfl, Nat.le_of_ble_eq_true rfl⟩ rfl rfl hP hT hS rfl hl.1 rfl (Nat.le_of_ble_eq_true rfl) d_Loader_cursiveAsSaid_35 (fun H locs hP hS => ?_)
  refine lv_iadd hx hb d_Loader_cursiveAsSaid_38 ?_
  obtain ⟨r4, sr4, h_r4, hf⟩ := q_bm_some hf
  refine q_callVi (As := [.int (x1 + r3)]) (rest := []) (q0 := 5) hC (c_xLoader_covered l G h_r4) cal_Loader_covered wq_26 ⟨rfl, rfl, Nat.le_of_ble_eq_true rfl, Nat.le_of_ble_eq_true rfl⟩ rfl rfl hP hD hA hS rfl hl.1 rfl (Nat.le_of_ble_eq_true rfl) d_Loader_cursiveAsSaid_39 (fun H locs hP hS => ?_)
  refine lv_istore_n (lv' := [(2, .int r4), (0, .ref (G.2.2 5)), (1, .int x1)]) hx hb d_Loader_cursiveAsSaid_42 rfl hl (by decide) rfl (fun ls hl => ?_)
  refine lv_iload_n hx hb d_Loader_cursiveAsSaid_43 rfl (lv_at hl 0 rfl) ?_
  refine lv_iconst (v := (-1)) hx hb d_Loader_cursiveAsSaid_44 (by decide) ?_
  refine lv_icmp_eq (tgt := 79) hx hb d_Loader_cursiveAsSaid_45 (by decide) (fun c1 => ?_) (fun c1 => ?_)
  · rw [if_pos c1] at hf
    refine lv_iconst (v := 0) hx hb d_Loader_cursiveAsSaid_79 (by decide) ?_
    exact q_iret hC hr hlk hf (by first | rfl | decide) hP hS d_Loader_cursiveAsSaid_80
  rw [if_neg c1] at hf
  refine lv_aload_n hx hb d_Loader_cursiveAsSaid_48 rfl (lv_at hl 1 rfl) ?_
  refine lv_iload_n hx hb d_Loader_cursiveAsSaid_49 rfl (lv_at hl 2 rfl) ?_
  refine lv_iconst (v := 4) hx hb d_Loader_cursiveAsSaid_50 (by decide) ?_
  refine lv_iadd hx hb d_Loader_cursiveAsSaid_51 ?_
  refine lv_iload_n hx hb d_Loader_cursiveAsSaid_52 rfl (lv_at hl 0 rfl) ?_
  refine lv_iconst (v := 4) hx hb d_Loader_cursiveAsSaid_53 (by decide) ?_
  obtain ⟨r5, h_r5, hf⟩ := q_bn_some hf
  refine q_callVp (As := [.int (x1 + 4), .int r4, .int 4]) (rest := []) (q0 := 5) hC (c_xLoader_listByIndexLies l G h_r5) cal_Loader_listByIndexLies wq_24 ⟨rfl, rfl, Nat.le_of_ble_eq_true rfl, Nat.le_of_ble_eq_true rfl⟩ rfl rfl hP hT hS rfl hl.1 rfl (Nat.le_of_ble_eq_true rfl) d_Loader_cursiveAsSaid_54 (fun H locs hP hS => ?_)
  refine lv_if_eq (tgt := 79) hx hb d_Loader_cursiveAsSaid_57 (by decide) (fun c1 => ?_) (fun c1 => ?_)
  · rw [if_pos c1] at hf
    refine lv_iconst (v := 0) hx hb d_Loader_cursiveAsSaid_79 (by decide) ?_
    exact q_iret hC hr hlk hf (by first | rfl | decide) hP hS d_Loader_cursiveAsSaid_80
  rw [if_neg c1] at hf
  refine lv_aload_n hx hb d_Loader_cursiveAsSaid_60 rfl (lv_at hl 1 rfl) ?_
  refine lv_iload_n hx hb d_Loader_cursiveAsSaid_61 rfl (lv_at hl 2 rfl) ?_
  refine lv_iload_n hx hb d_Loader_cursiveAsSaid_62 rfl (lv_at hl 2 rfl) ?_
  refine lv_bipush (v := 6) hx hb d_Loader_cursiveAsSaid_63 (by decide) ?_
  refine lv_iadd hx hb d_Loader_cursiveAsSaid_65 ?_
  refine lv_iconst (v := 2) hx hb d_Loader_cursiveAsSaid_66 (by decide) ?_
  refine lv_iload_n hx hb d_Loader_cursiveAsSaid_67 rfl (lv_at hl 0 rfl) ?_
  refine lv_imul hx hb d_Loader_cursiveAsSaid_68 ?_
  obtain ⟨r6, sr6, h_r6, hf⟩ := q_bm_some hf
  refine q_callVi (As := [.int x1, .int (x1 + 6), .int (2 * r4)]) (rest := []) (q0 := 5) hC (c_xLoader_anchorsAsSaid l G h_r6) cal_Loader_anchorsAsSaid wq_25 ⟨rfl, rfl, Nat.le_of_ble_eq_true rfl, Nat.le_of_ble_eq_true rfl⟩ rfl rfl hP hD hA hS rfl hl.1 rfl (Nat.le_of_ble_eq_true rfl) d_Loader_cursiveAsSaid_69 (fun H locs hP hS => ?_)
  refine lv_if_eq (tgt := 79) hx hb d_Loader_cursiveAsSaid_72 (by decide) (fun c1 => ?_) (fun c1 => ?_)
  · rw [if_pos c1] at hf
    refine lv_iconst (v := 0) hx hb d_Loader_cursiveAsSaid_79 (by decide) ?_
    exact q_iret hC hr hlk hf (by first | rfl | decide) hP hS d_Loader_cursiveAsSaid_80
  rw [if_neg c1] at hf
  refine lv_iconst (v := 1) hx hb d_Loader_cursiveAsSaid_75 (by decide) ?_
  refine lv_goto (tgt := 80) hx hb d_Loader_cursiveAsSaid_76 (by decide) ?_
  exact q_iret hC hr hlk hf (by first | rfl | decide) hP hS d_Loader_cursiveAsSaid_80
def xGlyphPositions_sizeOfValue (x0 : Int32) : Option Int32 :=
  q_bn (xInteger_bitCount x0) (fun r1 => some (2 * r1))
set_option maxHeartbeats 4000000 in
set_option maxRecDepth 100000 in
theorem c_xGlyphPositions_sizeOfValue (l : Launch) (G : XG) {x0 : Int32} {st : QSt} {ro : Int32} (hf : xGlyphPositions_sizeOfValue x0 = some ro) : q_Mp l y_GP_sizeOfValue b_GP_sizeOfValue 1 .int ({ frames := 1, cells := 0, slots := 0, locals := 20 } : Room) G.1 (xT G) (wX G) [.int x0] st ro := by
  refine q_Mp_of (by decide) (Nat.le_of_ble_eq_true rfl) (wX_fst G) ?_
  intro p e s m args below meth c ls hC hr hlk hT hP hS hl
  have hx := hC.1.1
  have hb := hC.1.2.1
  have hown := hC.1.2.2.2.1
  have hts := hC.1.2.2.2.2
  have hl : lv_has ls 1 [(0, .int x0)] := hl
  unfold xGlyphPositions_sizeOfValue at hf
  refine lv_iconst (v := 2) hx hb d_GP_sizeOfValue_0 (by decide) ?_
  refine lv_iload_n hx hb d_GP_sizeOfValue_1 rfl (lv_at hl 0 rfl) ?_
  obtain ⟨r1, h_r1, hf⟩ := q_bn_some hf
  refine q_callSp (As := [.int x0]) (rest := [.int 2]) hC (c_xInteger_bitCount l G h_r1) cal_Integer_bitCount wq_29 ⟨rfl, rfl, Nat.le_of_ble_eq_true rfl, Nat.le_of_ble_eq_true rfl⟩ hP hT hS rfl hl.1 rfl (Nat.le_of_ble_eq_true rfl) d_GP_sizeOfValue_2 (fun H locs hP hS => ?_)
  refine lv_imul hx hb d_GP_sizeOfValue_5 ?_
  exact q_iretP hC hr hlk hf (by first | rfl | decide) hS d_GP_sizeOfValue_6
def xLoader_classesAsSaid (N : Nat) (x1 : Int32) (st : QSt) : Option (Int32 × QSt) :=
  q_bm (xLoader_looksAtOneMore st) (fun r1 sr1 => if r1 = 0 then (some (0, sr1)) else (q_bn (xTable_lies x1 4 sr1) (fun r2 => if r2 = 0 then (some (0, sr1)) else (q_bn (xTable_u16 x1 sr1) (fun r3 => if r3 = 1 then (q_bn (xTable_u16 (x1 + 4) sr1) (fun r7 => q_bn (xTable_lies x1 6 sr1) (fun r8 => if r8 = 0 then (some (0, sr1)) else (q_bn (xTable_lies (x1 + 6) (2 * r7) sr1) (fun r9 => if r9 = 0 then (some (0, sr1)) else (q_bn (xTable_u16 (x1 + 2) sr1) (fun r10 => if 65536 < (r10 + r7) then (some (0, sr1)) else (some (1, sr1))))))))) else (q_bn (xTable_u16 (x1 + 2) sr1) (fun r4 => if r3 = 2 then (q_bn (xTable_lies (x1 + 4) (6 * r4) sr1) (fun r5 => if r5 = 0 then (some (0, sr1)) else (q_bn (xLoader_rangesRise N (x1 + 4) r4 sr1) (fun r6 => if r6 = 0 then (some (0, sr1)) else (some (1, sr1)))))) else (some (0, sr1)))))))))
set_option maxHeartbeats 4000000 in
set_option maxRecDepth 100000 in
theorem c_xLoader_classesAsSaid (l : Launch) (G : XG) {N : Nat} {x1 : Int32} {st : QSt} {ro : Int32} {so : QSt} (hf : xLoader_classesAsSaid N x1 st = some (ro, so)) : q_Mi l y_Loader_classesAsSaid b_Loader_classesAsSaid 4 .boolean ({ frames := 2, cells := 0, slots := 0, locals := 47 } : Room) G.1 (xT G) (wX G) [.ref (G.2.2 5), .int x1] st ro so := by
  refine q_Mi_of (by decide) (Nat.le_of_ble_eq_true rfl) (wX_fst G) ?_
  intro p e s m args below meth c A ls hC hr hlk hT hD hA hP hS hl
  have hx := hC.1.1
  have hb := hC.1.2.1
  have hown := hC.1.2.2.2.1
  have hts := hC.1.2.2.2.2
  have hl : lv_has ls 4 [(0, .ref (G.2.2 5)), (1, .int x1)] := hl
  unfold xLoader_classesAsSaid at hf
  refine lv_aload_n hx hb d_Loader_classesAsSaid_0 rfl (lv_at hl 0 rfl) ?_
  obtain ⟨r1, sr1, h_r1, hf⟩ := q_bm_some hf
  refine q_callVi (As := []) (rest := []) (q0 := 5) hC (c_xLoader_looksAtOneMore l G h_r1) cal_Loader_looksAtOneMore wq_20 ⟨rfl, rfl, Nat.le_of_ble_eq_true rfl, Nat.le_of_ble_eq_true rfl⟩ rfl rfl hP hD hA hS rfl hl.1 rfl (Nat.le_of_ble_eq_true rfl) d_Loader_classesAsSaid_1 (fun H locs hP hS => ?_)
  refine lv_if_eq (tgt := 19) hx hb d_Loader_classesAsSaid_4 (by decide) (fun c1 => ?_) (fun c1 => ?_)
  · rw [if_pos c1] at hf
    refine lv_iconst (v := 0) hx hb d_Loader_classesAsSaid_19 (by decide) ?_
    exact q_iret hC hr hlk hf (by first | rfl | decide) hP hS d_Loader_classesAsSaid_20
  rw [if_neg c1] at hf
  refine lv_aload_n hx hb d_Loader_classesAsSaid_7 rfl (lv_at hl 0 rfl) ?_
  refine xg_5_table hC hP wq_8 d_Loader_classesAsSaid_8 ?_
  refine lv_iload_n hx hb d_Loader_classesAsSaid_11 rfl (lv_at hl 1 rfl) ?_
  refine lv_iconst (v := 4) hx hb d_Loader_classesAsSaid_12 (by decide) ?_
  obtain ⟨r2, h_r2, hf⟩ := q_bn_some hf
  refine q_callVp (As := [.int x1, .int 4]) (rest := []) (q0 := 1) hC (c_xTable_lies l G h_r2) cal_Table_lies wq_9 ⟨rfl, rfl, Nat.le_of_ble_eq_true rfl, Nat.le_of_ble_eq_true rfl⟩ rfl rfl hP hT hS rfl hl.1 rfl (Nat.le_of_ble_eq_true rfl) d_Loader_classesAsSaid_13 (fun H locs hP hS => ?_)
  refine lv_if_ne (tgt := 21) hx hb d_Loader_classesAsSaid_16 (by decide) (fun c1 => ?_) (fun c1 => ?_)
  rotate_left
  · rw [if_pos c1] at hf
    refine lv_iconst (v := 0) hx hb d_Loader_classesAsSaid_19 (by decide) ?_
    exact q_iret hC hr hlk hf (by first | rfl | decide) hP hS d_Loader_classesAsSaid_20
  rw [if_neg c1] at hf
  refine lv_aload_n hx hb d_Loader_classesAsSaid_21 rfl (lv_at hl 0 rfl) ?_
  refine xg_5_table hC hP wq_8 d_Loader_classesAsSaid_22 ?_
  refine lv_iload_n hx hb d_Loader_classesAsSaid_25 rfl (lv_at hl 1 rfl) ?_
  obtain ⟨r3, h_r3, hf⟩ := q_bn_some hf
  refine q_callVp (As := [.int x1]) (rest := []) (q0 := 1) hC (c_xTable_u16 l G h_r3) cal_Table_u16 wq_10 ⟨rfl, rfl, Nat.le_of_ble_eq_true rfl, Nat.le_of_ble_eq_true rfl⟩ rfl rfl hP hT hS rfl hl.1 rfl (Nat.le_of_ble_eq_true rfl) d_Loader_classesAsSaid_26 (fun H locs hP hS => ?_)
  refine lv_istore_n (lv' := [(2, .int r3), (0, .ref (G.2.2 5)), (1, .int x1)]) hx hb d_Loader_classesAsSaid_29 rfl hl (by decide) rfl (fun ls hl => ?_)
  refine lv_iload_n hx hb d_Loader_classesAsSaid_30 rfl (lv_at hl 0 rfl) ?_
  refine lv_iconst (v := 1) hx hb d_Loader_classesAsSaid_31 (by decide) ?_
  refine lv_icmp_ne (tgt := 99) hx hb d_Loader_classesAsSaid_32 (by decide) (fun c1 => ?_) (fun c1 => ?_)
  · rw [if_neg c1] at hf
    refine lv_aload_n hx hb d_Loader_classesAsSaid_99 rfl (lv_at hl 1 rfl) ?_
    refine xg_5_table hC hP wq_8 d_Loader_classesAsSaid_100 ?_
    refine lv_iload_n hx hb d_Loader_classesAsSaid_103 rfl (lv_at hl 2 rfl) ?_
    refine lv_iconst (v := 2) hx hb d_Loader_classesAsSaid_104 (by decide) ?_
    refine lv_iadd hx hb d_Loader_classesAsSaid_105 ?_
    obtain ⟨r4, h_r4, hf⟩ := q_bn_some hf
    refine q_callVp (As := [.int (x1 + 2)]) (rest := []) (q0 := 1) hC (c_xTable_u16 l G h_r4) cal_Table_u16 wq_10 ⟨rfl, rfl, Nat.le_of_ble_eq_true rfl, Nat.le_of_ble_eq_true rfl⟩ rfl rfl hP hT hS rfl hl.1 rfl (Nat.le_of_ble_eq_true rfl) d_Loader_classesAsSaid_106 (fun H locs hP hS => ?_)
    refine lv_istore_n (lv' := [(3, .int r4), (2, .int r3), (0, .ref (G.2.2 5)), (1, .int x1)]) hx hb d_Loader_classesAsSaid_109 rfl hl (by decide) rfl (fun ls hl => ?_)
    refine lv_iload_n hx hb d_Loader_classesAsSaid_110 rfl (lv_at hl 1 rfl) ?_
    refine lv_iconst (v := 2) hx hb d_Loader_classesAsSaid_111 (by decide) ?_
    refine lv_icmp_ne (tgt := 147) hx hb d_Loader_classesAsSaid_112 (by decide) (fun c1 => ?_) (fun c1 => ?_)
    · rw [if_neg c1] at hf
      refine lv_iconst (v := 0) hx hb d_Loader_classesAsSaid_147 (by decide) ?_
      exact q_iret hC hr hlk hf (by first | rfl | decide) hP hS d_Loader_classesAsSaid_148
    rw [if_pos c1] at hf
    refine lv_aload_n hx hb d_Loader_classesAsSaid_115 rfl (lv_at hl 2 rfl) ?_
    refine xg_5_table hC hP wq_8 d_Loader_classesAsSaid_116 ?_
    refine lv_iload_n hx hb d_Loader_classesAsSaid_119 rfl (lv_at hl 3 rfl) ?_
    refine lv_iconst (v := 4) hx hb d_Loader_classesAsSaid_120 (by decide) ?_
    refine lv_iadd hx hb d_Loader_classesAsSaid_121 ?_
    refine lv_bipush (v := 6) hx hb d_Loader_classesAsSaid_122 (by decide) ?_
    refine lv_iload_n hx hb d_Loader_classesAsSaid_124 rfl (lv_at hl 0 rfl) ?_
    refine lv_imul hx hb d_Loader_classesAsSaid_125 ?_
    obtain ⟨r5, h_r5, hf⟩ := q_bn_some hf
    refine q_callVp (As := [.int (x1 + 4), .int (6 * r4)]) (rest := []) (q0 := 1) hC (c_xTable_lies l G h_r5) cal_Table_lies wq_9 ⟨rfl, rfl, Nat.le_of_ble_eq_true rfl, Nat.le_of_ble_eq_true rfl⟩ rfl rfl hP hT hS rfl hl.1 rfl (Nat.le_of_ble_eq_true rfl) d_Loader_classesAsSaid_126 (fun H locs hP hS => ?_)
    refine lv_if_eq (tgt := 147) hx hb d_Loader_classesAsSaid_129 (by decide) (fun c1 => ?_) (fun c1 => ?_)
    · rw [if_pos c1] at hf
      refine lv_iconst (v := 0) hx hb d_Loader_classesAsSaid_147 (by decide) ?_
      exact q_iret hC hr hlk hf (by first | rfl | decide) hP hS d_Loader_classesAsSaid_148
    rw [if_neg c1] at hf
    refine lv_aload_n hx hb d_Loader_classesAsSaid_132 rfl (lv_at hl 2 rfl) ?_
    refine lv_iload_n hx hb d_Loader_classesAsSaid_133 rfl (lv_at hl 3 rfl) ?_
    refine lv_iconst (v := 4) hx hb d_Loader_classesAsSaid_134 (by decide) ?_
    refine lv_iadd hx hb d_Loader_classesAsSaid_135 ?_
    refine lv_iload_n hx hb d_Loader_classesAsSaid_136 rfl (lv_at hl 0 rfl) ?_
    obtain ⟨r6, h_r6, hf⟩ := q_bn_some hf
    refine q_callVp (As := [.int (x1 + 4), .int r4]) (rest := []) (q0 := 5) hC (c_xLoader_rangesRise l G h_r6) cal_Loader_rangesRise wq_22 ⟨rfl, rfl, Nat.le_of_ble_eq_true rfl, Nat.le_of_ble_eq_true rfl⟩ rfl rfl hP hT hS rfl hl.1 rfl (Nat.le_of_ble_eq_true rfl) d_Loader_classesAsSaid_137 (fun H locs hP hS => ?_)
    refine lv_if_eq (tgt := 147) hx hb d_Loader_classesAsSaid_140 (by decide) (fun c1 => ?_) (fun c1 => ?_)
    · rw [if_pos c1] at hf
      refine lv_iconst (v := 0) hx hb d_Loader_classesAsSaid_147 (by decide) ?_
      exact q_iret hC hr hlk hf (by first | rfl | decide) hP hS d_Loader_classesAsSaid_148
    rw [if_neg c1] at hf
    refine lv_iconst (v := 1) hx hb d_Loader_classesAsSaid_143 (by decide) ?_
    refine lv_goto (tgt := 148) hx hb d_Loader_classesAsSaid_144 (by decide) ?_
    exact q_iret hC hr hlk hf (by first | rfl | decide) hP hS d_Loader_classesAsSaid_148
  rw [if_pos c1] at hf
  refine lv_aload_n hx hb d_Loader_classesAsSaid_35 rfl (lv_at hl 1 rfl) ?_
  refine xg_5_table hC hP wq_8 d_Loader_classesAsSaid_36 ?_
  refine lv_iload_n hx hb d_Loader_classesAsSaid_39 rfl (lv_at hl 2 rfl) ?_
  refine lv_iconst (v := 4) hx hb d_Loader_classesAsSaid_40 (by decide) ?_
  refine lv_iadd hx hb d_Loader_classesAsSaid_41 ?_
  obtain ⟨r7, h_r7, hf⟩ := q_bn_some hf
  refine q_callVp (As := [.int (x1 + 4)]) (rest := []) (q0 := 1) hC (c_xTable_u16 l G h_r7) cal_Table_u16 wq_10 ⟨rfl, rfl, Nat.le_of_ble_eq_true rfl, Nat.le_of_ble_eq_true rfl⟩ rfl rfl hP hT hS rfl hl.1 rfl (Nat.le_of_ble_eq_true rfl) d_Loader_classesAsSaid_42 (fun H locs hP hS => ?_)
  refine lv_istore_n (lv' := [(3, .int r7), (2, .int r3), (0, .ref (G.2.2 5)), (1, .int x1)]) hx hb d_Loader_classesAsSaid_45 rfl hl (by decide) rfl (fun ls hl => ?_)
  refine lv_aload_n hx hb d_Loader_classesAsSaid_46 rfl (lv_at hl 2 rfl) ?_
  refine xg_5_table hC hP wq_8 d_Loader_classesAsSaid_47 ?_
  refine lv_iload_n hx hb d_Loader_classesAsSaid_50 rfl (lv_at hl 3 rfl) ?_
  refine lv_bipush (v := 6) hx hb d_Loader_classesAsSaid_51 (by decide) ?_
  obtain ⟨r8, h_r8, hf⟩ := q_bn_some hf
  refine q_callVp (As := [.int x1, .int 6]) (rest := []) (q0 := 1) hC (c_xTable_lies l G h_r8) cal_Table_lies wq_9 ⟨rfl, rfl, Nat.le_of_ble_eq_true rfl, Nat.le_of_ble_eq_true rfl⟩ rfl rfl hP hT hS rfl hl.1 rfl (Nat.le_of_ble_eq_true rfl) d_Loader_classesAsSaid_53 (fun H locs hP hS => ?_)
  refine lv_if_eq (tgt := 97) hx hb d_Loader_classesAsSaid_56 (by decide) (fun c1 => ?_) (fun c1 => ?_)
  · rw [if_pos c1] at hf
    refine lv_iconst (v := 0) hx hb d_Loader_classesAsSaid_97 (by decide) ?_
    exact q_iret hC hr hlk hf (by first | rfl | decide) hP hS d_Loader_classesAsSaid_98
  rw [if_neg c1] at hf
  refine lv_aload_n hx hb d_Loader_classesAsSaid_59 rfl (lv_at hl 2 rfl) ?_
  refine xg_5_table hC hP wq_8 d_Loader_classesAsSaid_60 ?_
  refine lv_iload_n hx hb d_Loader_classesAsSaid_63 rfl (lv_at hl 3 rfl) ?_
  refine lv_bipush (v := 6) hx hb d_Loader_classesAsSaid_64 (by decide) ?_
  refine lv_iadd hx hb d_Loader_classesAsSaid_66 ?_
  refine lv_iconst (v := 2) hx hb d_Loader_classesAsSaid_67 (by decide) ?_
  refine lv_iload_n hx hb d_Loader_classesAsSaid_68 rfl (lv_at hl 0 rfl) ?_
  refine lv_imul hx hb d_Loader_classesAsSaid_69 ?_
  obtain ⟨r9, h_r9, hf⟩ := q_bn_some hf
  refine q_callVp (As := [.int (x1 + 6), .int (2 * r7)]) (rest := []) (q0 := 1) hC (c_xTable_lies l G h_r9) cal_Table_lies wq_9 ⟨rfl, rfl, Nat.le_of_ble_eq_true rfl, Nat.le_of_ble_eq_true rfl⟩ rfl rfl hP hT hS rfl hl.1 rfl (Nat.le_of_ble_eq_true rfl) d_Loader_classesAsSaid_70 (fun H locs hP hS => ?_)
  refine lv_if_eq (tgt := 97) hx hb d_Loader_classesAsSaid_73 (by decide) (fun c1 => ?_) (fun c1 => ?_)
  · rw [if_pos c1] at hf
    refine lv_iconst (v := 0) hx hb d_Loader_classesAsSaid_97 (by decide) ?_
    exact q_iret hC hr hlk hf (by first | rfl | decide) hP hS d_Loader_classesAsSaid_98
  rw [if_neg c1] at hf
  refine lv_aload_n hx hb d_Loader_classesAsSaid_76 rfl (lv_at hl 2 rfl) ?_
  refine xg_5_table hC hP wq_8 d_Loader_classesAsSaid_77 ?_
  refine lv_iload_n hx hb d_Loader_classesAsSaid_80 rfl (lv_at hl 3 rfl) ?_
  refine lv_iconst (v := 2) hx hb d_Loader_classesAsSaid_81 (by decide) ?_
  refine lv_iadd hx hb d_Loader_classesAsSaid_82 ?_
  obtain ⟨r10, h_r10, hf⟩ := q_bn_some hf
  refine q_callVp (As := [.int (x1 + 2)]) (rest := []) (q0 := 1) hC (c_xTable_u16 l G h_r10) cal_Table_u16 wq_10 ⟨rfl, rfl, Nat.le_of_ble_eq_true rfl, Nat.le_of_ble_eq_true rfl⟩ rfl rfl hP hT hS rfl hl.1 rfl (Nat.le_of_ble_eq_true rfl) d_Loader_classesAsSaid_83 (fun H locs hP hS => ?_)
  refine lv_iload_n hx hb d_Loader_classesAsSaid_86 rfl (lv_at hl 0 rfl) ?_
  refine lv_iadd hx hb d_Loader_classesAsSaid_87 ?_
  refine lv_ldc (v := 65536) hx hb hown (hts _ wq_30) d_Loader_classesAsSaid_88 ?_
  refine lv_icmp_gt (tgt := 97) hx hb d_Loader_classesAsSaid_90 (by decide) (fun c1 => ?_) (fun c1 => ?_)
  · rw [if_pos c1] at hf
    refine lv_iconst (v := 0) hx hb d_Loader_classesAsSaid_97 (by decide) ?_
    exact q_iret hC hr hlk hf (by first | rfl | decide) hP hS d_Loader_classesAsSaid_98
  rw [if_neg c1] at hf
  refine lv_iconst (v := 1) hx hb d_Loader_classesAsSaid_93 (by decide) ?_
  refine lv_goto (tgt := 98) hx hb d_Loader_classesAsSaid_94 (by decide) ?_
  exact q_iret hC hr hlk hf (by first | rfl | decide) hP hS d_Loader_classesAsSaid_98
def xLoader_pairClassesAsSaid (N : Nat) (x1 x2 : Int32) (st : QSt) : Option (Int32 × QSt) :=
  q_bn (xTable_lies x1 16 st) (fun r1 => if r1 = 0 then (some (0, st)) else (q_bn (xTable_u16 (x1 + 12) st) (fun r2 => q_bn (xTable_u16 (x1 + 14) st) (fun r3 => if 256 < r2 then (some (0, st)) else (if 256 < r3 then (some (0, st)) else (q_bn (xTable_lies (x1 + 16) ((r2 * r3) * x2) st) (fun r4 => if r4 = 0 then (some (0, st)) else (q_bn (xTable_u16 (x1 + 8) st) (fun r5 => q_bm (xLoader_classesAsSaid N (x1 + r5) st) (fun r6 sr6 => if r6 = 0 then (some (0, sr6)) else (q_bn (xTable_u16 (x1 + 10) sr6) (fun r7 => q_bm (xLoader_classesAsSaid N (x1 + r7) sr6) (fun r8 sr8 => if r8 = 0 then (some (0, sr8)) else (some (1, sr8)))))))))))))))
set_option maxHeartbeats 4000000 in
set_option maxRecDepth 100000 in
theorem c_xLoader_pairClassesAsSaid (l : Launch) (G : XG) {N : Nat} {x1 x2 : Int32} {st : QSt} {ro : Int32} {so : QSt} (hf : xLoader_pairClassesAsSaid N x1 x2 st = some (ro, so)) : q_Mi l y_Loader_pairClassesAsSaid b_Loader_pairClassesAsSaid 5 .boolean ({ frames := 3, cells := 0, slots := 0, locals := 70 } : Room) G.1 (xT G) (wX G) [.ref (G.2.2 5), .int x1, .int x2] st ro so := by
  refine q_Mi_of (by decide) (Nat.le_of_ble_eq_true rfl) (wX_fst G) ?_
  intro p e s m args below meth c A ls hC hr hlk hT hD hA hP hS hl
  have hx := hC.1.1
  have hb := hC.1.2.1
  have hown := hC.1.2.2.2.1
  have hts := hC.1.2.2.2.2
  have hl : lv_has ls 5 [(0, .ref (G.2.2 5)), (1, .int x1), (2, .int x2)] := hl
  unfold xLoader_pairClassesAsSaid at hf
  refine lv_aload_n hx hb d_Loader_pairClassesAsSaid_0 rfl (lv_at hl 0 rfl) ?_
  refine xg_5_table hC hP wq_8 d_Loader_pairClassesAsSaid_1 ?_
  refine lv_iload_n hx hb d_Loader_pairClassesAsSaid_4 rfl (lv_at hl 1 rfl) ?_
  refine lv_bipush (v := 16) hx hb d_Loader_pairClassesAsSaid_5 (by decide) ?_
  obtain ⟨r1, h_r1, hf⟩ := q_bn_some hf
  refine q_callVp (As := [.int x1, .int 16]) (rest := []) (q0 := 1) hC (c_xTable_lies l G h_r1) cal_Table_lies wq_9 ⟨rfl, rfl, Nat.le_of_ble_eq_true rfl, Nat.le_of_ble_eq_true rfl⟩ rfl rfl hP hT hS rfl hl.1 rfl (Nat.le_of_ble_eq_true rfl) d_Loader_pairClassesAsSaid_7 (fun H locs hP hS => ?_)
  refine lv_if_ne (tgt := 15) hx hb d_Loader_pairClassesAsSaid_10 (by decide) (fun c1 => ?_) (fun c1 => ?_)
  rotate_left
  · rw [if_pos c1] at hf
    refine lv_iconst (v := 0) hx hb d_Loader_pairClassesAsSaid_13 (by decide) ?_
    exact q_iret hC hr hlk hf (by first | rfl | decide) hP hS d_Loader_pairClassesAsSaid_14
  rw [if_neg c1] at hf
  refine lv_aload_n hx hb d_Loader_pairClassesAsSaid_15 rfl (lv_at hl 0 rfl) ?_
  refine xg_5_table hC hP wq_8 d_Loader_pairClassesAsSaid_16 ?_
  refine lv_iload_n hx hb d_Loader_pairClassesAsSaid_19 rfl (lv_at hl 1 rfl) ?_
  refine lv_bipush (v := 12) hx hb d_Loader_pairClassesAsSaid_20 (by decide) ?_
  refine lv_iadd hx hb d_Loader_pairClassesAsSaid_22 ?_
  obtain ⟨r2, h_r2, hf⟩ := q_bn_some hf
  refine q_callVp (As := [.int (x1 + 12)]) (rest := []) (q0 := 1) hC (c_xTable_u16 l G h_r2) cal_Table_u16 wq_10 ⟨rfl, rfl, Nat.le_of_ble_eq_true rfl, Nat.le_of_ble_eq_true rfl⟩ rfl rfl hP hT hS rfl hl.1 rfl (Nat.le_of_ble_eq_true rfl) d_Loader_pairClassesAsSaid_23 (fun H locs hP hS => ?_)
  refine lv_istore_n (lv' := [(3, .int r2), (0, .ref (G.2.2 5)), (1, .int x1), (2, .int x2)]) hx hb d_Loader_pairClassesAsSaid_26 rfl hl (by decide) rfl (fun ls hl => ?_)
  refine lv_aload_n hx hb d_Loader_pairClassesAsSaid_27 rfl (lv_at hl 1 rfl) ?_
  refine xg_5_table hC hP wq_8 d_Loader_pairClassesAsSaid_28 ?_
  refine lv_iload_n hx hb d_Loader_pairClassesAsSaid_31 rfl (lv_at hl 2 rfl) ?_
  refine lv_bipush (v := 14) hx hb d_Loader_pairClassesAsSaid_32 (by decide) ?_
  refine lv_iadd hx hb d_Loader_pairClassesAsSaid_34 ?_
  obtain ⟨r3, h_r3, hf⟩ := q_bn_some hf
  refine q_callVp (As := [.int (x1 + 14)]) (rest := []) (q0 := 1) hC (c_xTable_u16 l G h_r3) cal_Table_u16 wq_10 ⟨rfl, rfl, Nat.le_of_ble_eq_true rfl, Nat.le_of_ble_eq_true rfl⟩ rfl rfl hP hT hS rfl hl.1 rfl (Nat.le_of_ble_eq_true rfl) d_Loader_pairClassesAsSaid_35 (fun H locs hP hS => ?_)
  refine lv_istore (lv' := [(4, .int r3), (3, .int r2), (0, .ref (G.2.2 5)), (1, .int x1), (2, .int x2)]) hx hb d_Loader_pairClassesAsSaid_38 hl (by decide) rfl (fun ls hl => ?_)
  refine lv_iload_n hx hb d_Loader_pairClassesAsSaid_40 rfl (lv_at hl 1 rfl) ?_
  refine lv_sipush (v := 256) hx hb d_Loader_pairClassesAsSaid_41 (by decide) ?_
  refine lv_icmp_gt (tgt := 119) hx hb d_Loader_pairClassesAsSaid_44 (by decide) (fun c1 => ?_) (fun c1 => ?_)
  · rw [if_pos c1] at hf
    refine lv_iconst (v := 0) hx hb d_Loader_pairClassesAsSaid_119 (by decide) ?_
    exact q_iret hC hr hlk hf (by first | rfl | decide) hP hS d_Loader_pairClassesAsSaid_120
  rw [if_neg c1] at hf
  refine lv_iload hx hb d_Loader_pairClassesAsSaid_47 (lv_at hl 0 rfl) ?_
  refine lv_sipush (v := 256) hx hb d_Loader_pairClassesAsSaid_49 (by decide) ?_
  refine lv_icmp_gt (tgt := 119) hx hb d_Loader_pairClassesAsSaid_52 (by decide) (fun c1 => ?_) (fun c1 => ?_)
  · rw [if_pos c1] at hf
    refine lv_iconst (v := 0) hx hb d_Loader_pairClassesAsSaid_119 (by decide) ?_
    exact q_iret hC hr hlk hf (by first | rfl | decide) hP hS d_Loader_pairClassesAsSaid_120
  rw [if_neg c1] at hf
  refine lv_aload_n hx hb d_Loader_pairClassesAsSaid_55 rfl (lv_at hl 2 rfl) ?_
  refine xg_5_table hC hP wq_8 d_Loader_pairClassesAsSaid_56 ?_
  refine lv_iload_n hx hb d_Loader_pairClassesAsSaid_59 rfl (lv_at hl 3 rfl) ?_
  refine lv_bipush (v := 16) hx hb d_Loader_pairClassesAsSaid_60 (by decide) ?_
  refine lv_iadd hx hb d_Loader_pairClassesAsSaid_62 ?_
  refine lv_iload_n hx hb d_Loader_pairClassesAsSaid_63 rfl (lv_at hl 1 rfl) ?_
  refine lv_iload hx hb d_Loader_pairClassesAsSaid_64 (lv_at hl 0 rfl) ?_
  refine lv_imul hx hb d_Loader_pairClassesAsSaid_66 ?_
  refine lv_iload_n hx hb d_Loader_pairClassesAsSaid_67 rfl (lv_at hl 4 rfl) ?_
  refine lv_imul hx hb d_Loader_pairClassesAsSaid_68 ?_
  obtain ⟨r4, h_r4, hf⟩ := q_bn_some hf
  refine q_callVp (As := [.int (x1 + 16), .int ((r2 * r3) * x2)]) (rest := []) (q0 := 1) hC (c_xTable_lies l G h_r4) cal_Table_lies wq_9 ⟨rfl, rfl, Nat.le_of_ble_eq_true rfl, Nat.le_of_ble_eq_true rfl⟩ rfl rfl hP hT hS rfl hl.1 rfl (Nat.le_of_ble_eq_true rfl) d_Loader_pairClassesAsSaid_69 (fun H locs hP hS => ?_)
  refine lv_if_eq (tgt := 119) hx hb d_Loader_pairClassesAsSaid_72 (by decide) (fun c1 => ?_) (fun c1 => ?_)
  · rw [if_pos c1] at hf
    refine lv_iconst (v := 0) hx hb d_Loader_pairClassesAsSaid_119 (by decide) ?_
    exact q_iret hC hr hlk hf (by first | rfl | decide) hP hS d_Loader_pairClassesAsSaid_120
  rw [if_neg c1] at hf
  refine lv_aload_n hx hb d_Loader_pairClassesAsSaid_75 rfl (lv_at hl 2 rfl) ?_
  refine lv_iload_n hx hb d_Loader_pairClassesAsSaid_76 rfl (lv_at hl 3 rfl) ?_
  refine lv_aload_n hx hb d_Loader_pairClassesAsSaid_77 rfl (lv_at hl 2 rfl) ?_
  refine xg_5_table hC hP wq_8 d_Loader_pairClassesAsSaid_78 ?_
  refine lv_iload_n hx hb d_Loader_pairClassesAsSaid_81 rfl (lv_at hl 3 rfl) ?_
  refine lv_bipush (v := 8) hx hb d_Loader_pairClassesAsSaid_82 (by decide) ?_
  refine lv_iadd hx hb d_Loader_pairClassesAsSaid_84 ?_
  obtain ⟨r5, h_r5, hf⟩ := q_bn_some hf
  refine q_callVp (As := [.int (x1 + 8)]) (rest := [.int x1, .ref (G.2.2 5)]) (q0 := 1) hC (c_xTable_u16 l G h_r5) cal_Table_u16 wq_10 ⟨rfl, rfl, Nat.le_of_ble_eq_true rfl, Nat.le_of_ble_eq_true rfl⟩ rfl rfl hP hT hS rfl hl.1 rfl (Nat.le_of_ble_eq_true rfl) d_Loader_pairClassesAsSaid_85 (fun H locs hP hS => ?_)
  refine lv_iadd hx hb d_Loader_pairClassesAsSaid_88 ?_
  obtain ⟨r6, sr6, h_r6, hf⟩ := q_bm_some hf
  refine q_callVi (As := [.int (x1 + r5)]) (rest := []) (q0 := 5) hC (c_xLoader_classesAsSaid l G h_r6) cal_Loader_classesAsSaid wq_31 ⟨rfl, rfl, Nat.le_of_ble_eq_true rfl, Nat.le_of_ble_eq_true rfl⟩ rfl rfl hP hD hA hS rfl hl.1 rfl (Nat.le_of_ble_eq_true rfl) d_Loader_pairClassesAsSaid_89 (fun H locs hP hS => ?_)
  refine lv_if_eq (tgt := 119) hx hb d_Loader_pairClassesAsSaid_92 (by decide) (fun c1 => ?_) (fun c1 => ?_)
  · rw [if_pos c1] at hf
    refine lv_iconst (v := 0) hx hb d_Loader_pairClassesAsSaid_119 (by decide) ?_
    exact q_iret hC hr hlk hf (by first | rfl | decide) hP hS d_Loader_pairClassesAsSaid_120
  rw [if_neg c1] at hf
  refine lv_aload_n hx hb d_Loader_pairClassesAsSaid_95 rfl (lv_at hl 2 rfl) ?_
  refine lv_iload_n hx hb d_Loader_pairClassesAsSaid_96 rfl (lv_at hl 3 rfl) ?_
  refine lv_aload_n hx hb d_Loader_pairClassesAsSaid_97 rfl (lv_at hl 2 rfl) ?_
  refine xg_5_table hC hP wq_8 d_Loader_pairClassesAsSaid_98 ?_
  refine lv_iload_n hx hb d_Loader_pairClassesAsSaid_101 rfl (lv_at hl 3 rfl) ?_
  refine lv_bipush (v := 10) hx hb d_Loader_pairClassesAsSaid_102 (by decide) ?_
  refine lv_iadd hx hb d_Loader_pairClassesAsSaid_104 ?_
  obtain ⟨r7, h_r7, hf⟩ := q_bn_some hf
  refine q_callVp (As := [.int (x1 + 10)]) (rest := [.int x1, .ref (G.2.2 5)]) (q0 := 1) hC (c_xTable_u16 l G h_r7) cal_Table_u16 wq_10 ⟨rfl, rfl, Nat.le_of_ble_eq_true rfl, Nat.le_of_ble_eq_true rfl⟩ rfl rfl hP hT hS rfl hl.1 rfl (Nat.le_of_ble_eq_true rfl) d_Loader_pairClassesAsSaid_105 (fun H locs hP hS => ?_)
  refine lv_iadd hx hb d_Loader_pairClassesAsSaid_108 ?_
  obtain ⟨r8, sr8, h_r8, hf⟩ := q_bm_some hf
  refine q_callVi (As := [.int (x1 + r7)]) (rest := []) (q0 := 5) hC (c_xLoader_classesAsSaid l G h_r8) cal_Loader_classesAsSaid wq_31 ⟨rfl, rfl, Nat.le_of_ble_eq_true rfl, Nat.le_of_ble_eq_true rfl⟩ rfl rfl hP hD hA hS rfl hl.1 rfl (Nat.le_of_ble_eq_true rfl) d_Loader_pairClassesAsSaid_109 (fun H locs hP hS => ?_)
  refine lv_if_eq (tgt := 119) hx hb d_Loader_pairClassesAsSaid_112 (by decide) (fun c1 => ?_) (fun c1 => ?_)
  · rw [if_pos c1] at hf
    refine lv_iconst (v := 0) hx hb d_Loader_pairClassesAsSaid_119 (by decide) ?_
    exact q_iret hC hr hlk hf (by first | rfl | decide) hP hS d_Loader_pairClassesAsSaid_120
  rw [if_neg c1] at hf
  refine lv_iconst (v := 1) hx hb d_Loader_pairClassesAsSaid_115 (by decide) ?_
  refine lv_goto (tgt := 120) hx hb d_Loader_pairClassesAsSaid_116 (by decide) ?_
  exact q_iret hC hr hlk hf (by first | rfl | decide) hP hS d_Loader_pairClassesAsSaid_120
def xLoader_pairRowsAsSaid_18 (N : Nat) (x1_18 x2_18 x3_18 : Int32) : Nat → Int32 → QSt → Option (Int32 × QSt)
  | 0, _, _ => none
  | n_18 + 1, x4_18, st_18 => if x2_18 ≤ x4_18 then (some (1, st_18)) else (q_bn (xTable_u16 ((x1_18 + 10) + (2 * x4_18)) st_18) (fun r2 => q_lt (x1_18 + r2) (fun x5_1003 => q_bm (xLoader_looksAtOneMore st_18) (fun r4 sr4 => if r4 = 0 then (some (0, sr4)) else (q_bn (xLoader_listLies x5_1003 256 x3_18 sr4) (fun r5 => if r5 = 0 then (some (0, sr4)) else (q_bn (xTable_u16 x5_1003 sr4) (fun r6 => q_bn (xLoader_glyphsRise N (x5_1003 + 2) r6 x3_18 sr4) (fun r7 => if r7 = 0 then (some (0, sr4)) else (xLoader_pairRowsAsSaid_18 N x1_18 x2_18 x3_18 n_18 (x4_18 + 1) sr4))))))))))
def xLoader_pairRowsAsSaid (N : Nat) (x1 x2 x3 : Int32) (st : QSt) : Option (Int32 × QSt) :=
  q_bn (xLoader_listByIndexLies (x1 + 8) x2 2 st) (fun r1 => if r1 = 0 then (some (0, st)) else (xLoader_pairRowsAsSaid_18 N x1 x2 x3 N 0 st))
set_option maxHeartbeats 4000000 in
set_option maxRecDepth 100000 in
theorem c_xLoader_pairRowsAsSaid (l : Launch) (G : XG) {N : Nat} {x1 x2 x3 : Int32} {st : QSt} {ro : Int32} {so : QSt} (hf : xLoader_pairRowsAsSaid N x1 x2 x3 st = some (ro, so)) : q_Mi l y_Loader_pairRowsAsSaid b_Loader_pairRowsAsSaid 6 .boolean ({ frames := 3, cells := 0, slots := 0, locals := 69 } : Room) G.1 (xT G) (wX G) [.ref (G.2.2 5), .int x1, .int x2, .int x3] st ro so := by
  refine q_Mi_of (by decide) (Nat.le_of_ble_eq_true rfl) (wX_fst G) ?_
  intro p e s m args below meth c A ls hC hr hlk hT hD hA hP hS hl
  have hx := hC.1.1
  have hb := hC.1.2.1
  have hown := hC.1.2.2.2.1
  have hts := hC.1.2.2.2.2
  have hl : lv_has ls 6 [(0, .ref (G.2.2 5)), (1, .int x1), (2, .int x2), (3, .int x3)] := hl
  have L_18 : ∀ (x1_18 x2_18 x3_18 : Int32) (n_18 : Nat) (x4_18 : Int32) (st_18 : QSt) (H : Heap) (locs : List Loc) (ls : Array Slot), xLoader_pairRowsAsSaid_18 N x1_18 x2_18 x3_18 n_18 x4_18 st_18 = some (ro, so) → va_P G.1 vwCl (wX G st_18) H → va_S A s.heap H locs → lv_has ls 6 [(0, .ref (G.2.2 5)), (1, .int x1_18), (2, .int x2_18), (3, .int x3_18), (4, .int x4_18)] → W p l e ({ frames := 3, cells := 0, slots := 0, locals := 69 } : Room) s m args below meth c H locs 0 0 (q_Zi below args s G.1 (wX G) ro so A) (F0 m 18 ls []) := by
    intro x1_18 x2_18 x3_18 n_18
    induction n_18 with
    | zero => intro _ _ _ _ _ hf; exact absurd hf (by simp [xLoader_pairRowsAsSaid_18])
    | succ n_18 ih_18 =>
      intro x4_18 st_18 H locs ls hf hP hS hl
      rw [xLoader_pairRowsAsSaid_18] at hf
      refine lv_iload hx hb d_Loader_pairRowsAsSaid_18 (lv_at hl 4 rfl) ?_
      refine lv_iload_n hx hb d_Loader_pairRowsAsSaid_20 rfl (lv_at hl 2 rfl) ?_
      refine lv_icmp_ge (tgt := 93) hx hb d_Loader_pairRowsAsSaid_21 (by decide) (fun c1 => ?_) (fun c1 => ?_)
      · rw [if_pos c1] at hf
        refine lv_iconst (v := 1) hx hb d_Loader_pairRowsAsSaid_93 (by decide) ?_
        exact q_iret hC hr hlk hf (by first | rfl | decide) hP hS d_Loader_pairRowsAsSaid_94
      rw [if_neg c1] at hf
      refine lv_iload_n hx hb d_Loader_pairRowsAsSaid_24 rfl (lv_at hl 1 rfl) ?_
      refine lv_aload_n hx hb d_Loader_pairRowsAsSaid_25 rfl (lv_at hl 0 rfl) ?_
      refine xg_5_table hC hP wq_8 d_Loader_pairRowsAsSaid_26 ?_
      refine lv_iload_n hx hb d_Loader_pairRowsAsSaid_29 rfl (lv_at hl 1 rfl) ?_
      refine lv_bipush (v := 10) hx hb d_Loader_pairRowsAsSaid_30 (by decide) ?_
      refine lv_iadd hx hb d_Loader_pairRowsAsSaid_32 ?_
      refine lv_iconst (v := 2) hx hb d_Loader_pairRowsAsSaid_33 (by decide) ?_
      refine lv_iload hx hb d_Loader_pairRowsAsSaid_34 (lv_at hl 4 rfl) ?_
      refine lv_imul hx hb d_Loader_pairRowsAsSaid_36 ?_
      refine lv_iadd hx hb d_Loader_pairRowsAsSaid_37 ?_
      obtain ⟨r2, h_r2, hf⟩ := q_bn_some hf
      refine q_callVp (As := [.int ((x1_18 + 10) + (2 * x4_18))]) (rest := [.int x1_18]) (q0 := 1) hC (c_xTable_u16 l G h_r2) cal_Table_u16 wq_10 ⟨rfl, rfl, Nat.le_of_ble_eq_true rfl, Nat.le_of_ble_eq_true rfl⟩ rfl rfl hP hT hS rfl hl.1 rfl (Nat.le_of_ble_eq_true rfl) d_Loader_pairRowsAsSaid_38 (fun H locs hP hS => ?_)
      refine lv_iadd hx hb d_Loader_pairRowsAsSaid_41 ?_
      obtain ⟨x5_1003, e_x5_1003, hf⟩ := q_lt_some hf
      refine q_topi e_x5_1003 ?_
      refine lv_istore (lv' := [(5, .int x5_1003), (0, .ref (G.2.2 5)), (1, .int x1_18), (2, .int x2_18), (3, .int x3_18), (4, .int x4_18)]) hx hb d_Loader_pairRowsAsSaid_42 hl (by decide) rfl (fun ls hl => ?_)
      refine lv_aload_n hx hb d_Loader_pairRowsAsSaid_44 rfl (lv_at hl 1 rfl) ?_
      obtain ⟨r4, sr4, h_r4, hf⟩ := q_bm_some hf
      refine q_callVi (As := []) (rest := []) (q0 := 5) hC (c_xLoader_looksAtOneMore l G h_r4) cal_Loader_looksAtOneMore wq_20 ⟨rfl, rfl, Nat.le_of_ble_eq_true rfl, Nat.le_of_ble_eq_true rfl⟩ rfl rfl hP hD hA hS rfl hl.1 rfl (Nat.le_of_ble_eq_true rfl) d_Loader_pairRowsAsSaid_45 (fun H locs hP hS => ?_)
      refine lv_if_eq (tgt := 85) hx hb d_Loader_pairRowsAsSaid_48 (by decide) (fun c1 => ?_) (fun c1 => ?_)
      · rw [if_pos c1] at hf
        refine lv_iconst (v := 0) hx hb d_Loader_pairRowsAsSaid_85 (by decide) ?_
        exact q_iret hC hr hlk hf (by first | rfl | decide) hP hS d_Loader_pairRowsAsSaid_86
      rw [if_neg c1] at hf
      refine lv_aload_n hx hb d_Loader_pairRowsAsSaid_51 rfl (lv_at hl 1 rfl) ?_
      refine lv_iload hx hb d_Loader_pairRowsAsSaid_52 (lv_at hl 0 rfl) ?_
      refine lv_sipush (v := 256) hx hb d_Loader_pairRowsAsSaid_54 (by decide) ?_
      refine lv_iload_n hx hb d_Loader_pairRowsAsSaid_57 rfl (lv_at hl 4 rfl) ?_
      obtain ⟨r5, h_r5, hf⟩ := q_bn_some hf
      refine q_callVp (As := [.int x5_1003, .int 256, .int x3_18]) (rest := []) (q0 := 5) hC (c_xLoader_listLies l G h_r5) cal_Loader_listLies wq_13 ⟨rfl, rfl, Nat.le_of_ble_eq_true rfl, Nat.le_of_ble_eq_true rfl⟩ rfl rfl hP hT hS rfl hl.1 rfl (Nat.le_of_ble_eq_true rfl) d_Loader_pairRowsAsSaid_58 (fun H locs hP hS => ?_)
      refine lv_if_eq (tgt := 85) hx hb d_Loader_pairRowsAsSaid_61 (by decide) (fun c1 => ?_) (fun c1 => ?_)
      · rw [if_pos c1] at hf
        refine lv_iconst (v := 0) hx hb d_Loader_pairRowsAsSaid_85 (by decide) ?_
        exact q_iret hC hr hlk hf (by first | rfl | decide) hP hS d_Loader_pairRowsAsSaid_86
      rw [if_neg c1] at hf
      refine lv_aload_n hx hb d_Loader_pairRowsAsSaid_64 rfl (lv_at hl 1 rfl) ?_
      refine lv_iload hx hb d_Loader_pairRowsAsSaid_65 (lv_at hl 0 rfl) ?_
      refine lv_iconst (v := 2) hx hb d_Loader_pairRowsAsSaid_67 (by decide) ?_
      refine lv_iadd hx hb d_Loader_pairRowsAsSaid_68 ?_
      refine lv_aload_n hx hb d_Loader_pairRowsAsSaid_69 rfl (lv_at hl 1 rfl) ?_
      refine xg_5_table hC hP wq_8 d_Loader_pairRowsAsSaid_70 ?_
      refine lv_iload hx hb d_Loader_pairRowsAsSaid_73 (lv_at hl 0 rfl) ?_
      obtain ⟨r6, h_r6, hf⟩ := q_bn_some hf
      refine q_callVp (As := [.int x5_1003]) (rest := [.int (x5_1003 + 2), .ref (G.2.2 5)]) (q0 := 1) hC (c_xTable_u16 l G h_r6) cal_Table_u16 wq_10 ⟨rfl, rfl, Nat.le_of_ble_eq_true rfl, Nat.le_of_ble_eq_true rfl⟩ rfl rfl hP hT hS rfl hl.1 rfl (Nat.le_of_ble_eq_true rfl) d_Loader_pairRowsAsSaid_75 (fun H locs hP hS => ?_)
      refine lv_iload_n hx hb d_Loader_pairRowsAsSaid_78 rfl (lv_at hl 4 rfl) ?_
      obtain ⟨r7, h_r7, hf⟩ := q_bn_some hf
      refine q_callVp (As := [.int (x5_1003 + 2), .int r6, .int x3_18]) (rest := []) (q0 := 5) hC (c_xLoader_glyphsRise l G h_r7) cal_Loader_glyphsRise wq_21 ⟨rfl, rfl, Nat.le_of_ble_eq_true rfl, Nat.le_of_ble_eq_true rfl⟩ rfl rfl hP hT hS rfl hl.1 rfl (Nat.le_of_ble_eq_true rfl) d_Loader_pairRowsAsSaid_79 (fun H locs hP hS => ?_)
      refine lv_if_ne (tgt := 87) hx hb d_Loader_pairRowsAsSaid_82 (by decide) (fun c1 => ?_) (fun c1 => ?_)
      rotate_left
      · rw [if_pos c1] at hf
        refine lv_iconst (v := 0) hx hb d_Loader_pairRowsAsSaid_85 (by decide) ?_
        exact q_iret hC hr hlk hf (by first | rfl | decide) hP hS d_Loader_pairRowsAsSaid_86
      rw [if_neg c1] at hf
      refine lv_iinc (v := x4_18 + 1) (lv' := [(4, .int (x4_18 + 1)), (5, .int x5_1003), (0, .ref (G.2.2 5)), (1, .int x1_18), (2, .int x2_18), (3, .int x3_18)]) hx hb d_Loader_pairRowsAsSaid_87 hl (k := 5) rfl rfl (by decide) rfl (fun ls hl => ?_)
      refine lv_goto (tgt := 18) hx hb d_Loader_pairRowsAsSaid_90 (by decide) ?_
      exact ih_18 _ _ _ _ _ hf hP hS (lv_sub hl [2, 3, 4, 5, 0] rfl)
  unfold xLoader_pairRowsAsSaid at hf
  refine lv_aload_n hx hb d_Loader_pairRowsAsSaid_0 rfl (lv_at hl 0 rfl) ?_
  refine lv_iload_n hx hb d_Loader_pairRowsAsSaid_1 rfl (lv_at hl 1 rfl) ?_
  refine lv_bipush (v := 8) hx hb d_Loader_pairRowsAsSaid_2 (by decide) ?_
  refine lv_iadd hx hb d_Loader_pairRowsAsSaid_4 ?_
  refine lv_iload_n hx hb d_Loader_pairRowsAsSaid_5 rfl (lv_at hl 2 rfl) ?_
  refine lv_iconst (v := 2) hx hb d_Loader_pairRowsAsSaid_6 (by decide) ?_
  obtain ⟨r1, h_r1, hf⟩ := q_bn_some hf
  refine q_callVp (As := [.int (x1 + 8), .int x2, .int 2]) (rest := []) (q0 := 5) hC (c_xLoader_listByIndexLies l G h_r1) cal_Loader_listByIndexLies wq_24 ⟨rfl, rfl, Nat.le_of_ble_eq_true rfl, Nat.le_of_ble_eq_true rfl⟩ rfl rfl hP hT hS rfl hl.1 rfl (Nat.le_of_ble_eq_true rfl) d_Loader_pairRowsAsSaid_7 (fun H locs hP hS => ?_)
  refine lv_if_ne (tgt := 15) hx hb d_Loader_pairRowsAsSaid_10 (by decide) (fun c1 => ?_) (fun c1 => ?_)
  rotate_left
  · rw [if_pos c1] at hf
    refine lv_iconst (v := 0) hx hb d_Loader_pairRowsAsSaid_13 (by decide) ?_
    exact q_iret hC hr hlk hf (by first | rfl | decide) hP hS d_Loader_pairRowsAsSaid_14
  rw [if_neg c1] at hf
  refine lv_iconst (v := 0) hx hb d_Loader_pairRowsAsSaid_15 (by decide) ?_
  refine lv_istore (lv' := [(4, .int 0), (0, .ref (G.2.2 5)), (1, .int x1), (2, .int x2), (3, .int x3)]) hx hb d_Loader_pairRowsAsSaid_16 hl (by decide) rfl (fun ls hl => ?_)
  exact L_18 _ _ _ _ _ _ _ _ _ hf hP hS (lv_sub hl [1, 2, 3, 4, 0] rfl)
def xLoader_pairAsSaid (N : Nat) (x1 : Int32) (st : QSt) : Option (Int32 × QSt) :=
  q_bn (xTable_lies x1 8 st) (fun r1 => if r1 = 0 then (some (0, st)) else (q_bn (xTable_u16 x1 st) (fun r2 => q_bn (xTable_u16 (x1 + 4) st) (fun r3 => q_bn (xTable_u16 (x1 + 6) st) (fun r4 => q_bn (xTable_u16 (x1 + 2) st) (fun r5 => q_bm (xLoader_covered N (x1 + r5) st) (fun r6 sr6 => if 255 < r3 then (some (0, sr6)) else (if 255 < r4 then (some (0, sr6)) else (if r6 = (-1) then (some (0, sr6)) else (q_bn (xGlyphPositions_sizeOfValue r3) (fun r7 => q_bn (xGlyphPositions_sizeOfValue r4) (fun r8 => q_lt (r7 + r8) (fun x6_1009 => if r2 = 1 then (q_bm (xLoader_pairRowsAsSaid N x1 r6 (2 + x6_1009) sr6) (fun r11 sr11 => q_grd (q_isb r11) (some (r11, sr11)))) else (if r2 = 2 then (q_bm (xLoader_pairClassesAsSaid N x1 x6_1009 sr6) (fun r10 sr10 => if r10 = 0 then (some (0, sr10)) else (some (1, sr10)))) else (some (0, sr6))))))))))))))))
set_option maxHeartbeats 4000000 in
set_option maxRecDepth 100000 in
theorem c_xLoader_pairAsSaid (l : Launch) (G : XG) {N : Nat} {x1 : Int32} {st : QSt} {ro : Int32} {so : QSt} (hf : xLoader_pairAsSaid N x1 st = some (ro, so)) : q_Mi l y_Loader_pairAsSaid b_Loader_pairAsSaid 7 .boolean ({ frames := 4, cells := 0, slots := 0, locals := 94 } : Room) G.1 (xT G) (wX G) [.ref (G.2.2 5), .int x1] st ro so := by
  refine q_Mi_of (by decide) (Nat.le_of_ble_eq_true rfl) (wX_fst G) ?_
  intro p e s m args below meth c A ls hC hr hlk hT hD hA hP hS hl
  have hx := hC.1.1
  have hb := hC.1.2.1
  have hown := hC.1.2.2.2.1
  have hts := hC.1.2.2.2.2
  have hl : lv_has ls 7 [(0, .ref (G.2.2 5)), (1, .int x1)] := hl
  unfold xLoader_pairAsSaid at hf
  refine lv_aload_n hx hb d_Loader_pairAsSaid_0 rfl (lv_at hl 0 rfl) ?_
  refine xg_5_table hC hP wq_8 d_Loader_pairAsSaid_1 ?_
  refine lv_iload_n hx hb d_Loader_pairAsSaid_4 rfl (lv_at hl 1 rfl) ?_
  refine lv_bipush (v := 8) hx hb d_Loader_pairAsSaid_5 (by decide) ?_
  obtain ⟨r1, h_r1, hf⟩ := q_bn_some hf
  refine q_callVp (As := [.int x1, .int 8]) (rest := []) (q0 := 1) hC (c_xTable_lies l G h_r1) cal_Table_lies wq_9 ⟨rfl, rfl, Nat.le_of_ble_eq_true rfl, Nat.le_of_ble_eq_true rfl⟩ rfl rfl hP hT hS rfl hl.1 rfl (Nat.le_of_ble_eq_true rfl) d_Loader_pairAsSaid_7 (fun H locs hP hS => ?_)
  refine lv_if_ne (tgt := 15) hx hb d_Loader_pairAsSaid_10 (by decide) (fun c1 => ?_) (fun c1 => ?_)
  rotate_left
  · rw [if_pos c1] at hf
    refine lv_iconst (v := 0) hx hb d_Loader_pairAsSaid_13 (by decide) ?_
    exact q_iret hC hr hlk hf (by first | rfl | decide) hP hS d_Loader_pairAsSaid_14
  rw [if_neg c1] at hf
  refine lv_aload_n hx hb d_Loader_pairAsSaid_15 rfl (lv_at hl 0 rfl) ?_
  refine xg_5_table hC hP wq_8 d_Loader_pairAsSaid_16 ?_
  refine lv_iload_n hx hb d_Loader_pairAsSaid_19 rfl (lv_at hl 1 rfl) ?_
  obtain ⟨r2, h_r2, hf⟩ := q_bn_some hf
  refine q_callVp (As := [.int x1]) (rest := []) (q0 := 1) hC (c_xTable_u16 l G h_r2) cal_Table_u16 wq_10 ⟨rfl, rfl, Nat.le_of_ble_eq_true rfl, Nat.le_of_ble_eq_true rfl⟩ rfl rfl hP hT hS rfl hl.1 rfl (Nat.le_of_ble_eq_true rfl) d_Loader_pairAsSaid_20 (fun H locs hP hS => ?_)
  refine lv_istore_n (lv' := [(2, .int r2), (0, .ref (G.2.2 5)), (1, .int x1)]) hx hb d_Loader_pairAsSaid_23 rfl hl (by decide) rfl (fun ls hl => ?_)
  refine lv_aload_n hx hb d_Loader_pairAsSaid_24 rfl (lv_at hl 1 rfl) ?_
  refine xg_5_table hC hP wq_8 d_Loader_pairAsSaid_25 ?_
  refine lv_iload_n hx hb d_Loader_pairAsSaid_28 rfl (lv_at hl 2 rfl) ?_
  refine lv_iconst (v := 4) hx hb d_Loader_pairAsSaid_29 (by decide) ?_
  refine lv_iadd hx hb d_Loader_pairAsSaid_30 ?_
  obtain ⟨r3, h_r3, hf⟩ := q_bn_some hf
  refine q_callVp (As := [.int (x1 + 4)]) (rest := []) (q0 := 1) hC (c_xTable_u16 l G h_r3) cal_Table_u16 wq_10 ⟨rfl, rfl, Nat.le_of_ble_eq_true rfl, Nat.le_of_ble_eq_true rfl⟩ rfl rfl hP hT hS rfl hl.1 rfl (Nat.le_of_ble_eq_true rfl) d_Loader_pairAsSaid_31 (fun H locs hP hS => ?_)
  refine lv_istore_n (lv' := [(3, .int r3), (2, .int r2), (0, .ref (G.2.2 5)), (1, .int x1)]) hx hb d_Loader_pairAsSaid_34 rfl hl (by decide) rfl (fun ls hl => ?_)
  refine lv_aload_n hx hb d_Loader_pairAsSaid_35 rfl (lv_at hl 2 rfl) ?_
  refine xg_5_table hC hP wq_8 d_Loader_pairAsSaid_36 ?_
  refine lv_iload_n hx hb d_Loader_pairAsSaid_39 rfl (lv_at hl 3 rfl) ?_
  refine lv_bipush (v := 6) hx hb d_Loader_pairAsSaid_40 (by decide) ?_
  refine lv_iadd hx hb d_Loader_pairAsSaid_42 ?_
  obtain ⟨r4, h_r4, hf⟩ := q_bn_some hf
  refine q_callVp (As := [.int (x1 + 6)]) (rest := []) (q0 := 1) hC (c_xTable_u16 l G h_r4) cal_Table_u16 wq_10 ⟨rfl, rfl, Nat.le_of_ble_eq_true rfl, Nat.le_of_ble_eq_true rfl⟩ rfl rfl hP hT hS rfl hl.1 rfl (Nat.le_of_ble_eq_true rfl) d_Loader_pairAsSaid_43 (fun H locs hP hS => ?_)
  refine lv_istore (lv' := [(4, .int r4), (3, .int r3), (2, .int r2), (0, .ref (G.2.2 5)), (1, .int x1)]) hx hb d_Loader_pairAsSaid_46 hl (by decide) rfl (fun ls hl => ?_)
  refine lv_aload_n hx hb d_Loader_pairAsSaid_48 rfl (lv_at hl 3 rfl) ?_
  refine lv_iload_n hx hb d_Loader_pairAsSaid_49 rfl (lv_at hl 4 rfl) ?_
  refine lv_aload_n hx hb d_Loader_pairAsSaid_50 rfl (lv_at hl 3 rfl) ?_
  refine xg_5_table hC hP wq_8 d_Loader_pairAsSaid_51 ?_
  refine lv_iload_n hx hb d_Loader_pairAsSaid_54 rfl (lv_at hl 4 rfl) ?_
  refine lv_iconst (v := 2) hx hb d_Loader_pairAsSaid_55 (by decide) ?_
  refine lv_iadd hx hb d_Loader_pairAsSaid_56 ?_
  obtain ⟨r5, h_r5, hf⟩ := q_bn_some hf
  refine q_callVp (As := [.int (x1 + 2)]) (rest := [.int x1, .ref (G.2.2 5)]) (q0 := 1) hC (c_xTable_u16 l G h_r5) cal_Table_u16 wq_10 ⟨rfl, rfl, Nat.le_of_ble_eq_true rfl, Nat.le_of_ble_eq_true rfl⟩ rfl rfl hP hT hS rfl hl.1 rfl (Nat.le_of_ble_eq_true rfl) d_Loader_pairAsSaid_57 (fun H locs hP hS => ?_)
  refine lv_iadd hx hb d_Loader_pairAsSaid_60 ?_
  obtain ⟨r6, sr6, h_r6, hf⟩ := q_bm_some hf
  refine q_callVi (As := [.int (x1 + r5)]) (rest := []) (q0 := 5) hC (c_xLoader_covered l G h_r6) cal_Loader_covered wq_26 ⟨rfl, rfl, Nat.le_of_ble_eq_true rfl, Nat.le_of_ble_eq_true rfl⟩ rfl rfl hP hD hA hS rfl hl.1 rfl (Nat.le_of_ble_eq_true rfl) d_Loader_pairAsSaid_61 (fun H locs hP hS => ?_)
  refine lv_istore (lv' := [(5, .int r6), (4, .int r4), (3, .int r3), (2, .int r2), (0, .ref (G.2.2 5)), (1, .int x1)]) hx hb d_Loader_pairAsSaid_64 hl (by decide) rfl (fun ls hl => ?_)
  refine lv_iload_n hx hb d_Loader_pairAsSaid_66 rfl (lv_at hl 2 rfl) ?_
  refine lv_sipush (v := 255) hx hb d_Loader_pairAsSaid_67 (by decide) ?_
  refine lv_icmp_gt (tgt := 87) hx hb d_Loader_pairAsSaid_70 (by decide) (fun c1 => ?_) (fun c1 => ?_)
  · rw [if_pos c1] at hf
    refine lv_iconst (v := 0) hx hb d_Loader_pairAsSaid_87 (by decide) ?_
    exact q_iret hC hr hlk hf (by first | rfl | decide) hP hS d_Loader_pairAsSaid_88
  rw [if_neg c1] at hf
  refine lv_iload hx hb d_Loader_pairAsSaid_73 (lv_at hl 1 rfl) ?_
  refine lv_sipush (v := 255) hx hb d_Loader_pairAsSaid_75 (by decide) ?_
  refine lv_icmp_gt (tgt := 87) hx hb d_Loader_pairAsSaid_78 (by decide) (fun c1 => ?_) (fun c1 => ?_)
  · rw [if_pos c1] at hf
    refine lv_iconst (v := 0) hx hb d_Loader_pairAsSaid_87 (by decide) ?_
    exact q_iret hC hr hlk hf (by first | rfl | decide) hP hS d_Loader_pairAsSaid_88
  rw [if_neg c1] at hf
  refine lv_iload hx hb d_Loader_pairAsSaid_81 (lv_at hl 0 rfl) ?_
  refine lv_iconst (v := (-1)) hx hb d_Loader_pairAsSaid_83 (by decide) ?_
  refine lv_icmp_ne (tgt := 89) hx hb d_Loader_pairAsSaid_84 (by decide) (fun c1 => ?_) (fun c1 => ?_)
  rotate_left
  · rw [if_pos c1] at hf
    refine lv_iconst (v := 0) hx hb d_Loader_pairAsSaid_87 (by decide) ?_
    exact q_iret hC hr hlk hf (by first | rfl | decide) hP hS d_Loader_pairAsSaid_88
  rw [if_neg c1] at hf
  refine lv_iload_n hx hb d_Loader_pairAsSaid_89 rfl (lv_at hl 2 rfl) ?_
  obtain ⟨r7, h_r7, hf⟩ := q_bn_some hf
  refine q_callSNp (As := [.int r3]) (rest := []) hC (c_xGlyphPositions_sizeOfValue l G h_r7) cal_GP_sizeOfValue wq_32 ⟨rfl, rfl, Nat.le_of_ble_eq_true rfl, Nat.le_of_ble_eq_true rfl⟩ hP hT hS rfl hl.1 rfl (Nat.le_of_ble_eq_true rfl) d_Loader_pairAsSaid_90 (fun H locs hP hS => ?_)
  refine lv_iload hx hb d_Loader_pairAsSaid_93 (lv_at hl 1 rfl) ?_
  obtain ⟨r8, h_r8, hf⟩ := q_bn_some hf
  refine q_callSNp (As := [.int r4]) (rest := [.int r7]) hC (c_xGlyphPositions_sizeOfValue l G h_r8) cal_GP_sizeOfValue wq_32 ⟨rfl, rfl, Nat.le_of_ble_eq_true rfl, Nat.le_of_ble_eq_true rfl⟩ hP hT hS rfl hl.1 rfl (Nat.le_of_ble_eq_true rfl) d_Loader_pairAsSaid_95 (fun H locs hP hS => ?_)
  refine lv_iadd hx hb d_Loader_pairAsSaid_98 ?_
  obtain ⟨x6_1009, e_x6_1009, hf⟩ := q_lt_some hf
  refine q_topi e_x6_1009 ?_
  refine lv_istore (lv' := [(6, .int x6_1009), (5, .int r6), (4, .int r4), (3, .int r3), (2, .int r2), (0, .ref (G.2.2 5)), (1, .int x1)]) hx hb d_Loader_pairAsSaid_99 hl (by decide) rfl (fun ls hl => ?_)
  refine lv_iload_n hx hb d_Loader_pairAsSaid_101 rfl (lv_at hl 4 rfl) ?_
  refine lv_iconst (v := 1) hx hb d_Loader_pairAsSaid_102 (by decide) ?_
  refine lv_icmp_ne (tgt := 118) hx hb d_Loader_pairAsSaid_103 (by decide) (fun c1 => ?_) (fun c1 => ?_)
  rotate_left
  · rw [if_pos c1] at hf
    refine lv_aload_n hx hb d_Loader_pairAsSaid_106 rfl (lv_at hl 5 rfl) ?_
    refine lv_iload_n hx hb d_Loader_pairAsSaid_107 rfl (lv_at hl 6 rfl) ?_
    refine lv_iload hx hb d_Loader_pairAsSaid_108 (lv_at hl 1 rfl) ?_
    refine lv_iconst (v := 2) hx hb d_Loader_pairAsSaid_110 (by decide) ?_
    refine lv_iload hx hb d_Loader_pairAsSaid_111 (lv_at hl 0 rfl) ?_
    refine lv_iadd hx hb d_Loader_pairAsSaid_113 ?_
    obtain ⟨r11, sr11, h_r11, hf⟩ := q_bm_some hf
    refine q_callVi (As := [.int x1, .int r6, .int (2 + x6_1009)]) (rest := []) (q0 := 5) hC (c_xLoader_pairRowsAsSaid l G h_r11) cal_Loader_pairRowsAsSaid wq_33 ⟨rfl, rfl, Nat.le_of_ble_eq_true rfl, Nat.le_of_ble_eq_true rfl⟩ rfl rfl hP hD hA hS rfl hl.1 rfl (Nat.le_of_ble_eq_true rfl) d_Loader_pairAsSaid_114 (fun H locs hP hS => ?_)
    obtain ⟨hi, hf⟩ := q_grd_some hf
    exact q_iret hC hr hlk hf (q_isb_nar hi) hP hS d_Loader_pairAsSaid_117
  rw [if_neg c1] at hf
  refine lv_iload_n hx hb d_Loader_pairAsSaid_118 rfl (lv_at hl 4 rfl) ?_
  refine lv_iconst (v := 2) hx hb d_Loader_pairAsSaid_119 (by decide) ?_
  refine lv_icmp_ne (tgt := 137) hx hb d_Loader_pairAsSaid_120 (by decide) (fun c1 => ?_) (fun c1 => ?_)
  · rw [if_neg c1] at hf
    refine lv_iconst (v := 0) hx hb d_Loader_pairAsSaid_137 (by decide) ?_
    exact q_iret hC hr hlk hf (by first | rfl | decide) hP hS d_Loader_pairAsSaid_138
  rw [if_pos c1] at hf
  refine lv_aload_n hx hb d_Loader_pairAsSaid_123 rfl (lv_at hl 5 rfl) ?_
  refine lv_iload_n hx hb d_Loader_pairAsSaid_124 rfl (lv_at hl 6 rfl) ?_
  refine lv_iload hx hb d_Loader_pairAsSaid_125 (lv_at hl 0 rfl) ?_
  obtain ⟨r10, sr10, h_r10, hf⟩ := q_bm_some hf
  refine q_callVi (As := [.int x1, .int x6_1009]) (rest := []) (q0 := 5) hC (c_xLoader_pairClassesAsSaid l G h_r10) cal_Loader_pairClassesAsSaid wq_34 ⟨rfl, rfl, Nat.le_of_ble_eq_true rfl, Nat.le_of_ble_eq_true rfl⟩ rfl rfl hP hD hA hS rfl hl.1 rfl (Nat.le_of_ble_eq_true rfl) d_Loader_pairAsSaid_127 (fun H locs hP hS => ?_)
  refine lv_if_eq (tgt := 137) hx hb d_Loader_pairAsSaid_130 (by decide) (fun c1 => ?_) (fun c1 => ?_)
  · rw [if_pos c1] at hf
    refine lv_iconst (v := 0) hx hb d_Loader_pairAsSaid_137 (by decide) ?_
    exact q_iret hC hr hlk hf (by first | rfl | decide) hP hS d_Loader_pairAsSaid_138
  rw [if_neg c1] at hf
  refine lv_iconst (v := 1) hx hb d_Loader_pairAsSaid_133 (by decide) ?_
  refine lv_goto (tgt := 138) hx hb d_Loader_pairAsSaid_134 (by decide) ?_
  exact q_iret hC hr hlk hf (by first | rfl | decide) hP hS d_Loader_pairAsSaid_138
def xLoader_singleAsSaid (N : Nat) (x1 : Int32) (st : QSt) : Option (Int32 × QSt) :=
  q_bn (xTable_lies x1 6 st) (fun r1 => if r1 = 0 then (some (0, st)) else (q_bn (xTable_u16 x1 st) (fun r2 => q_bn (xTable_u16 (x1 + 4) st) (fun r3 => q_bn (xTable_u16 (x1 + 2) st) (fun r4 => q_bm (xLoader_covered N (x1 + r4) st) (fun r5 sr5 => if 255 < r3 then (some (0, sr5)) else (if r5 = (-1) then (some (0, sr5)) else (if r2 = 1 then (q_bn (xGlyphPositions_sizeOfValue r3) (fun r8 => q_bn (xTable_lies (x1 + 6) r8 sr5) (fun r9 => q_grd (q_isb r9) (some (r9, sr5))))) else (if r2 = 2 then (q_bn (xGlyphPositions_sizeOfValue r3) (fun r6 => q_bn (xLoader_listByIndexLies (x1 + 6) r5 r6 sr5) (fun r7 => if r7 = 0 then (some (0, sr5)) else (some (1, sr5))))) else (some (0, sr5)))))))))))
set_option maxHeartbeats 4000000 in
set_option maxRecDepth 100000 in
theorem c_xLoader_singleAsSaid (l : Launch) (G : XG) {N : Nat} {x1 : Int32} {st : QSt} {ro : Int32} {so : QSt} (hf : xLoader_singleAsSaid N x1 st = some (ro, so)) : q_Mi l y_Loader_singleAsSaid b_Loader_singleAsSaid 5 .boolean ({ frames := 3, cells := 0, slots := 0, locals := 72 } : Room) G.1 (xT G) (wX G) [.ref (G.2.2 5), .int x1] st ro so := by
  refine q_Mi_of (by decide) (Nat.le_of_ble_eq_true rfl) (wX_fst G) ?_
  intro p e s m args below meth c A ls hC hr hlk hT hD hA hP hS hl
  have hx := hC.1.1
  have hb := hC.1.2.1
  have hown := hC.1.2.2.2.1
  have hts := hC.1.2.2.2.2
  have hl : lv_has ls 5 [(0, .ref (G.2.2 5)), (1, .int x1)] := hl
  unfold xLoader_singleAsSaid at hf
  refine lv_aload_n hx hb d_Loader_singleAsSaid_0 rfl (lv_at hl 0 rfl) ?_
  refine xg_5_table hC hP wq_8 d_Loader_singleAsSaid_1 ?_
  refine lv_iload_n hx hb d_Loader_singleAsSaid_4 rfl (lv_at hl 1 rfl) ?_
  refine lv_bipush (v := 6) hx hb d_Loader_singleAsSaid_5 (by decide) ?_
  obtain ⟨r1, h_r1, hf⟩ := q_bn_some hf
  refine q_callVp (As := [.int x1, .int 6]) (rest := []) (q0 := 1) hC (c_xTable_lies l G h_r1) cal_Table_lies wq_9 ⟨rfl, rfl, Nat.le_of_ble_eq_true rfl, Nat.le_of_ble_eq_true rfl⟩ rfl rfl hP hT hS rfl hl.1 rfl (Nat.le_of_ble_eq_true rfl) d_Loader_singleAsSaid_7 (fun H locs hP hS => ?_)
  refine lv_if_ne (tgt := 15) hx hb d_Loader_singleAsSaid_10 (by decide) (fun c1 => ?_) (fun c1 => ?_)
  rotate_left
  · rw [if_pos c1] at hf
    refine lv_iconst (v := 0) hx hb d_Loader_singleAsSaid_13 (by decide) ?_
    exact q_iret hC hr hlk hf (by first | rfl | decide) hP hS d_Loader_singleAsSaid_14
  rw [if_neg c1] at hf
  refine lv_aload_n hx hb d_Loader_singleAsSaid_15 rfl (lv_at hl 0 rfl) ?_
  refine xg_5_table hC hP wq_8 d_Loader_singleAsSaid_16 ?_
  refine lv_iload_n hx hb d_Loader_singleAsSaid_19 rfl (lv_at hl 1 rfl) ?_
  obtain ⟨r2, h_r2, hf⟩ := q_bn_some hf
  refine q_callVp (As := [.int x1]) (rest := []) (q0 := 1) hC (c_xTable_u16 l G h_r2) cal_Table_u16 wq_10 ⟨rfl, rfl, Nat.le_of_ble_eq_true rfl, Nat.le_of_ble_eq_true rfl⟩ rfl rfl hP hT hS rfl hl.1 rfl (Nat.le_of_ble_eq_true rfl) d_Loader_singleAsSaid_20 (fun H locs hP hS => ?_)
  refine lv_istore_n (lv' := [(2, .int r2), (0, .ref (G.2.2 5)), (1, .int x1)]) hx hb d_Loader_singleAsSaid_23 rfl hl (by decide) rfl (fun ls hl => ?_)
  refine lv_aload_n hx hb d_Loader_singleAsSaid_24 rfl (lv_at hl 1 rfl) ?_
  refine xg_5_table hC hP wq_8 d_Loader_singleAsSaid_25 ?_
  refine lv_iload_n hx hb d_Loader_singleAsSaid_28 rfl (lv_at hl 2 rfl) ?_
  refine lv_iconst (v := 4) hx hb d_Loader_singleAsSaid_29 (by decide) ?_
  refine lv_iadd hx hb d_Loader_singleAsSaid_30 ?_
  obtain ⟨r3, h_r3, hf⟩ := q_bn_some hf
  refine q_callVp (As := [.int (x1 + 4)]) (rest := []) (q0 := 1) hC (c_xTable_u16 l G h_r3) cal_Table_u16 wq_10 ⟨rfl, rfl, Nat.le_of_ble_eq_true rfl, Nat.le_of_ble_eq_true rfl⟩ rfl rfl hP hT hS rfl hl.1 rfl (Nat.le_of_ble_eq_true rfl) d_Loader_singleAsSaid_31 (fun H locs hP hS => ?_)
  refine lv_istore_n (lv' := [(3, .int r3), (2, .int r2), (0, .ref (G.2.2 5)), (1, .int x1)]) hx hb d_Loader_singleAsSaid_34 rfl hl (by decide) rfl (fun ls hl => ?_)
  refine lv_aload_n hx hb d_Loader_singleAsSaid_35 rfl (lv_at hl 2 rfl) ?_
  refine lv_iload_n hx hb d_Loader_singleAsSaid_36 rfl (lv_at hl 3 rfl) ?_
  refine lv_aload_n hx hb d_Loader_singleAsSaid_37 rfl (lv_at hl 2 rfl) ?_
  refine xg_5_table hC hP wq_8 d_Loader_singleAsSaid_38 ?_
  refine lv_iload_n hx hb d_Loader_singleAsSaid_41 rfl (lv_at hl 3 rfl) ?_
  refine lv_iconst (v := 2) hx hb d_Loader_singleAsSaid_42 (by decide) ?_
  refine lv_iadd hx hb d_Loader_singleAsSaid_43 ?_
  obtain ⟨r4, h_r4, hf⟩ := q_bn_some hf
  refine q_callVp (As := [.int (x1 + 2)]) (rest := [.int x1, .ref (G.2.2 5)]) (q0 := 1) hC (c_xTable_u16 l G h_r4) cal_Table_u16 wq_10 ⟨rfl, rfl, Nat.le_of_ble_eq_true rfl, Nat.le_of_ble_eq_true rfl⟩ rfl rfl hP hT hS rfl hl.1 rfl (Nat.le_of_ble_eq_true rfl) d_Loader_singleAsSaid_44 (fun H locs hP hS => ?_)
  refine lv_iadd hx hb d_Loader_singleAsSaid_47 ?_
  obtain ⟨r5, sr5, h_r5, hf⟩ := q_bm_some hf
  refine q_callVi (As := [.int (x1 + r4)]) (rest := []) (q0 := 5) hC (c_xLoader_covered l G h_r5) cal_Loader_covered wq_26 ⟨rfl, rfl, Nat.le_of_ble_eq_true rfl, Nat.le_of_ble_eq_true rfl⟩ rfl rfl hP hD hA hS rfl hl.1 rfl (Nat.le_of_ble_eq_true rfl) d_Loader_singleAsSaid_48 (fun H locs hP hS => ?_)
  refine lv_istore (lv' := [(4, .int r5), (3, .int r3), (2, .int r2), (0, .ref (G.2.2 5)), (1, .int x1)]) hx hb d_Loader_singleAsSaid_51 hl (by decide) rfl (fun ls hl => ?_)
  refine lv_iload_n hx hb d_Loader_singleAsSaid_53 rfl (lv_at hl 1 rfl) ?_
  refine lv_sipush (v := 255) hx hb d_Loader_singleAsSaid_54 (by decide) ?_
  refine lv_icmp_gt (tgt := 66) hx hb d_Loader_singleAsSaid_57 (by decide) (fun c1 => ?_) (fun c1 => ?_)
  · rw [if_pos c1] at hf
    refine lv_iconst (v := 0) hx hb d_Loader_singleAsSaid_66 (by decide) ?_
    exact q_iret hC hr hlk hf (by first | rfl | decide) hP hS d_Loader_singleAsSaid_67
  rw [if_neg c1] at hf
  refine lv_iload hx hb d_Loader_singleAsSaid_60 (lv_at hl 0 rfl) ?_
  refine lv_iconst (v := (-1)) hx hb d_Loader_singleAsSaid_62 (by decide) ?_
  refine lv_icmp_ne (tgt := 68) hx hb d_Loader_singleAsSaid_63 (by decide) (fun c1 => ?_) (fun c1 => ?_)
  rotate_left
  · rw [if_pos c1] at hf
    refine lv_iconst (v := 0) hx hb d_Loader_singleAsSaid_66 (by decide) ?_
    exact q_iret hC hr hlk hf (by first | rfl | decide) hP hS d_Loader_singleAsSaid_67
  rw [if_neg c1] at hf
  refine lv_iload_n hx hb d_Loader_singleAsSaid_68 rfl (lv_at hl 2 rfl) ?_
  refine lv_iconst (v := 1) hx hb d_Loader_singleAsSaid_69 (by decide) ?_
  refine lv_icmp_ne (tgt := 89) hx hb d_Loader_singleAsSaid_70 (by decide) (fun c1 => ?_) (fun c1 => ?_)
  rotate_left
  · rw [if_pos c1] at hf
    refine lv_aload_n hx hb d_Loader_singleAsSaid_73 rfl (lv_at hl 3 rfl) ?_
    refine xg_5_table hC hP wq_8 d_Loader_singleAsSaid_74 ?_
    refine lv_iload_n hx hb d_Loader_singleAsSaid_77 rfl (lv_at hl 4 rfl) ?_
    refine lv_bipush (v := 6) hx hb d_Loader_singleAsSaid_78 (by decide) ?_
    refine lv_iadd hx hb d_Loader_singleAsSaid_80 ?_
    refine lv_iload_n hx hb d_Loader_singleAsSaid_81 rfl (lv_at hl 1 rfl) ?_
    obtain ⟨r8, h_r8, hf⟩ := q_bn_some hf
    refine q_callSNp (As := [.int r3]) (rest := [.int (x1 + 6), .ref (G.2.2 1)]) hC (c_xGlyphPositions_sizeOfValue l G h_r8) cal_GP_sizeOfValue wq_32 ⟨rfl, rfl, Nat.le_of_ble_eq_true rfl, Nat.le_of_ble_eq_true rfl⟩ hP hT hS rfl hl.1 rfl (Nat.le_of_ble_eq_true rfl) d_Loader_singleAsSaid_82 (fun H locs hP hS => ?_)
    obtain ⟨r9, h_r9, hf⟩ := q_bn_some hf
    refine q_callVp (As := [.int (x1 + 6), .int r8]) (rest := []) (q0 := 1) hC (c_xTable_lies l G h_r9) cal_Table_lies wq_9 ⟨rfl, rfl, Nat.le_of_ble_eq_true rfl, Nat.le_of_ble_eq_true rfl⟩ rfl rfl hP hT hS rfl hl.1 rfl (Nat.le_of_ble_eq_true rfl) d_Loader_singleAsSaid_85 (fun H locs hP hS => ?_)
    obtain ⟨hi, hf⟩ := q_grd_some hf
    exact q_iret hC hr hlk hf (q_isb_nar hi) hP hS d_Loader_singleAsSaid_88
  rw [if_neg c1] at hf
  refine lv_iload_n hx hb d_Loader_singleAsSaid_89 rfl (lv_at hl 2 rfl) ?_
  refine lv_iconst (v := 2) hx hb d_Loader_singleAsSaid_90 (by decide) ?_
  refine lv_icmp_ne (tgt := 115) hx hb d_Loader_singleAsSaid_91 (by decide) (fun c1 => ?_) (fun c1 => ?_)
  · rw [if_neg c1] at hf
    refine lv_iconst (v := 0) hx hb d_Loader_singleAsSaid_115 (by decide) ?_
    exact q_iret hC hr hlk hf (by first | rfl | decide) hP hS d_Loader_singleAsSaid_116
  rw [if_pos c1] at hf
  refine lv_aload_n hx hb d_Loader_singleAsSaid_94 rfl (lv_at hl 3 rfl) ?_
  refine lv_iload_n hx hb d_Loader_singleAsSaid_95 rfl (lv_at hl 4 rfl) ?_
  refine lv_bipush (v := 6) hx hb d_Loader_singleAsSaid_96 (by decide) ?_
  refine lv_iadd hx hb d_Loader_singleAsSaid_98 ?_
  refine lv_iload hx hb d_Loader_singleAsSaid_99 (lv_at hl 0 rfl) ?_
  refine lv_iload_n hx hb d_Loader_singleAsSaid_101 rfl (lv_at hl 1 rfl) ?_
  obtain ⟨r6, h_r6, hf⟩ := q_bn_some hf
  refine q_callSNp (As := [.int r3]) (rest := [.int r5, .int (x1 + 6), .ref (G.2.2 5)]) hC (c_xGlyphPositions_sizeOfValue l G h_r6) cal_GP_sizeOfValue wq_32 ⟨rfl, rfl, Nat.le_of_ble_eq_true rfl, Nat.le_of_ble_eq_true rfl⟩ hP hT hS rfl hl.1 rfl (Nat.le_of_ble_eq_true rfl) d_Loader_singleAsSaid_102 (fun H locs hP hS => ?_)
  obtain ⟨r7, h_r7, hf⟩ := q_bn_some hf
  refine q_callVp (As := [.int (x1 + 6), .int r5, .int r6]) (rest := []) (q0 := 5) hC (c_xLoader_listByIndexLies l G h_r7) cal_Loader_listByIndexLies wq_24 ⟨rfl, rfl, Nat.le_of_ble_eq_true rfl, Nat.le_of_ble_eq_true rfl⟩ rfl rfl hP hT hS rfl hl.1 rfl (Nat.le_of_ble_eq_true rfl) d_Loader_singleAsSaid_105 (fun H locs hP hS => ?_)
  refine lv_if_eq (tgt := 115) hx hb d_Loader_singleAsSaid_108 (by decide) (fun c1 => ?_) (fun c1 => ?_)
  · rw [if_pos c1] at hf
    refine lv_iconst (v := 0) hx hb d_Loader_singleAsSaid_115 (by decide) ?_
    exact q_iret hC hr hlk hf (by first | rfl | decide) hP hS d_Loader_singleAsSaid_116
  rw [if_neg c1] at hf
  refine lv_iconst (v := 1) hx hb d_Loader_singleAsSaid_111 (by decide) ?_
  refine lv_goto (tgt := 116) hx hb d_Loader_singleAsSaid_112 (by decide) ?_
  exact q_iret hC hr hlk hf (by first | rfl | decide) hP hS d_Loader_singleAsSaid_116
def xLoader_extensionAsSaid (x1 x2 : Int32) (st : QSt) : Option Int32 :=
  q_bn (xTable_lies x1 8 st) (fun r1 => if r1 = 0 then (some 0) else (q_bn (xTable_u16 x1 st) (fun r2 => if r2 = 1 then (q_bn (xTable_u16 (x1 + 2) st) (fun r3 => q_bn (xTable_u32 (x1 + 4) st) (fun r4 => if r3 < 1 then (some 0) else (if 6 < r3 then (some 0) else (q_bn (xTable_u16 (x2 + 2) st) (fun r5 => if r3 = r5 then (if r4 < 0 then (some 0) else (if 8192 < r4 then (some 0) else (some 1))) else (some 0))))))) else (some 0))))
set_option maxHeartbeats 4000000 in
set_option maxRecDepth 100000 in
theorem c_xLoader_extensionAsSaid (l : Launch) (G : XG) {x1 x2 : Int32} {st : QSt} {ro : Int32} (hf : xLoader_extensionAsSaid x1 x2 st = some ro) : q_Mp l y_Loader_extensionAsSaid b_Loader_extensionAsSaid 5 .boolean ({ frames := 2, cells := 0, slots := 0, locals := 42 } : Room) G.1 (xT G) (wX G) [.ref (G.2.2 5), .int x1, .int x2] st ro := by
  refine q_Mp_of (by decide) (Nat.le_of_ble_eq_true rfl) (wX_fst G) ?_
  intro p e s m args below meth c ls hC hr hlk hT hP hS hl
  have hx := hC.1.1
  have hb := hC.1.2.1
  have hown := hC.1.2.2.2.1
  have hts := hC.1.2.2.2.2
  have hl : lv_has ls 5 [(0, .ref (G.2.2 5)), (1, .int x1), (2, .int x2)] := hl
  unfold xLoader_extensionAsSaid at hf
  refine lv_aload_n hx hb d_Loader_extensionAsSaid_0 rfl (lv_at hl 0 rfl) ?_
  refine xg_5_table hC hP wq_8 d_Loader_extensionAsSaid_1 ?_
  refine lv_iload_n hx hb d_Loader_extensionAsSaid_4 rfl (lv_at hl 1 rfl) ?_
  refine lv_bipush (v := 8) hx hb d_Loader_extensionAsSaid_5 (by decide) ?_
  obtain ⟨r1, h_r1, hf⟩ := q_bn_some hf
  refine q_callVp (As := [.int x1, .int 8]) (rest := []) (q0 := 1) hC (c_xTable_lies l G h_r1) cal_Table_lies wq_9 ⟨rfl, rfl, Nat.le_of_ble_eq_true rfl, Nat.le_of_ble_eq_true rfl⟩ rfl rfl hP hT hS rfl hl.1 rfl (Nat.le_of_ble_eq_true rfl) d_Loader_extensionAsSaid_7 (fun H locs hP hS => ?_)
  refine lv_if_eq (tgt := 25) hx hb d_Loader_extensionAsSaid_10 (by decide) (fun c1 => ?_) (fun c1 => ?_)
  · rw [if_pos c1] at hf
    refine lv_iconst (v := 0) hx hb d_Loader_extensionAsSaid_25 (by decide) ?_
    exact q_iretP hC hr hlk hf (by first | rfl | decide) hS d_Loader_extensionAsSaid_26
  rw [if_neg c1] at hf
  refine lv_aload_n hx hb d_Loader_extensionAsSaid_13 rfl (lv_at hl 0 rfl) ?_
  refine xg_5_table hC hP wq_8 d_Loader_extensionAsSaid_14 ?_
  refine lv_iload_n hx hb d_Loader_extensionAsSaid_17 rfl (lv_at hl 1 rfl) ?_
  obtain ⟨r2, h_r2, hf⟩ := q_bn_some hf
  refine q_callVp (As := [.int x1]) (rest := []) (q0 := 1) hC (c_xTable_u16 l G h_r2) cal_Table_u16 wq_10 ⟨rfl, rfl, Nat.le_of_ble_eq_true rfl, Nat.le_of_ble_eq_true rfl⟩ rfl rfl hP hT hS rfl hl.1 rfl (Nat.le_of_ble_eq_true rfl) d_Loader_extensionAsSaid_18 (fun H locs hP hS => ?_)
  refine lv_iconst (v := 1) hx hb d_Loader_extensionAsSaid_21 (by decide) ?_
  refine lv_icmp_eq (tgt := 27) hx hb d_Loader_extensionAsSaid_22 (by decide) (fun c1 => ?_) (fun c1 => ?_)
  rotate_left
  · rw [if_neg c1] at hf
    refine lv_iconst (v := 0) hx hb d_Loader_extensionAsSaid_25 (by decide) ?_
    exact q_iretP hC hr hlk hf (by first | rfl | decide) hS d_Loader_extensionAsSaid_26
  rw [if_pos c1] at hf
  refine lv_aload_n hx hb d_Loader_extensionAsSaid_27 rfl (lv_at hl 0 rfl) ?_
  refine xg_5_table hC hP wq_8 d_Loader_extensionAsSaid_28 ?_
  refine lv_iload_n hx hb d_Loader_extensionAsSaid_31 rfl (lv_at hl 1 rfl) ?_
  refine lv_iconst (v := 2) hx hb d_Loader_extensionAsSaid_32 (by decide) ?_
  refine lv_iadd hx hb d_Loader_extensionAsSaid_33 ?_
  obtain ⟨r3, h_r3, hf⟩ := q_bn_some hf
  refine q_callVp (As := [.int (x1 + 2)]) (rest := []) (q0 := 1) hC (c_xTable_u16 l G h_r3) cal_Table_u16 wq_10 ⟨rfl, rfl, Nat.le_of_ble_eq_true rfl, Nat.le_of_ble_eq_true rfl⟩ rfl rfl hP hT hS rfl hl.1 rfl (Nat.le_of_ble_eq_true rfl) d_Loader_extensionAsSaid_34 (fun H locs hP hS => ?_)
  refine lv_istore_n (lv' := [(3, .int r3), (0, .ref (G.2.2 5)), (1, .int x1), (2, .int x2)]) hx hb d_Loader_extensionAsSaid_37 rfl hl (by decide) rfl (fun ls hl => ?_)
  refine lv_aload_n hx hb d_Loader_extensionAsSaid_38 rfl (lv_at hl 1 rfl) ?_
  refine xg_5_table hC hP wq_8 d_Loader_extensionAsSaid_39 ?_
  refine lv_iload_n hx hb d_Loader_extensionAsSaid_42 rfl (lv_at hl 2 rfl) ?_
  refine lv_iconst (v := 4) hx hb d_Loader_extensionAsSaid_43 (by decide) ?_
  refine lv_iadd hx hb d_Loader_extensionAsSaid_44 ?_
  obtain ⟨r4, h_r4, hf⟩ := q_bn_some hf
  refine q_callVp (As := [.int (x1 + 4)]) (rest := []) (q0 := 1) hC (c_xTable_u32 l G h_r4) cal_Table_u32 wq_11 ⟨rfl, rfl, Nat.le_of_ble_eq_true rfl, Nat.le_of_ble_eq_true rfl⟩ rfl rfl hP hT hS rfl hl.1 rfl (Nat.le_of_ble_eq_true rfl) d_Loader_extensionAsSaid_45 (fun H locs hP hS => ?_)
  refine lv_istore (lv' := [(4, .int r4), (3, .int r3), (0, .ref (G.2.2 5)), (1, .int x1), (2, .int x2)]) hx hb d_Loader_extensionAsSaid_48 hl (by decide) rfl (fun ls hl => ?_)
  refine lv_iload_n hx hb d_Loader_extensionAsSaid_50 rfl (lv_at hl 1 rfl) ?_
  refine lv_iconst (v := 1) hx hb d_Loader_extensionAsSaid_51 (by decide) ?_
  refine lv_icmp_lt (tgt := 92) hx hb d_Loader_extensionAsSaid_52 (by decide) (fun c1 => ?_) (fun c1 => ?_)
  · rw [if_pos c1] at hf
    refine lv_iconst (v := 0) hx hb d_Loader_extensionAsSaid_92 (by decide) ?_
    exact q_iretP hC hr hlk hf (by first | rfl | decide) hS d_Loader_extensionAsSaid_93
  rw [if_neg c1] at hf
  refine lv_iload_n hx hb d_Loader_extensionAsSaid_55 rfl (lv_at hl 1 rfl) ?_
  refine lv_bipush (v := 6) hx hb d_Loader_extensionAsSaid_56 (by decide) ?_
  refine lv_icmp_gt (tgt := 92) hx hb d_Loader_extensionAsSaid_58 (by decide) (fun c1 => ?_) (fun c1 => ?_)
  · rw [if_pos c1] at hf
    refine lv_iconst (v := 0) hx hb d_Loader_extensionAsSaid_92 (by decide) ?_
    exact q_iretP hC hr hlk hf (by first | rfl | decide) hS d_Loader_extensionAsSaid_93
  rw [if_neg c1] at hf
  refine lv_iload_n hx hb d_Loader_extensionAsSaid_61 rfl (lv_at hl 1 rfl) ?_
  refine lv_aload_n hx hb d_Loader_extensionAsSaid_62 rfl (lv_at hl 2 rfl) ?_
  refine xg_5_table hC hP wq_8 d_Loader_extensionAsSaid_63 ?_
  refine lv_iload_n hx hb d_Loader_extensionAsSaid_66 rfl (lv_at hl 4 rfl) ?_
  refine lv_iconst (v := 2) hx hb d_Loader_extensionAsSaid_67 (by decide) ?_
  refine lv_iadd hx hb d_Loader_extensionAsSaid_68 ?_
  obtain ⟨r5, h_r5, hf⟩ := q_bn_some hf
  refine q_callVp (As := [.int (x2 + 2)]) (rest := [.int r3]) (q0 := 1) hC (c_xTable_u16 l G h_r5) cal_Table_u16 wq_10 ⟨rfl, rfl, Nat.le_of_ble_eq_true rfl, Nat.le_of_ble_eq_true rfl⟩ rfl rfl hP hT hS rfl hl.1 rfl (Nat.le_of_ble_eq_true rfl) d_Loader_extensionAsSaid_69 (fun H locs hP hS => ?_)
  refine lv_icmp_ne (tgt := 92) hx hb d_Loader_extensionAsSaid_72 (by decide) (fun c1 => ?_) (fun c1 => ?_)
  · rw [if_neg c1] at hf
    refine lv_iconst (v := 0) hx hb d_Loader_extensionAsSaid_92 (by decide) ?_
    exact q_iretP hC hr hlk hf (by first | rfl | decide) hS d_Loader_extensionAsSaid_93
  rw [if_pos c1] at hf
  refine lv_iload hx hb d_Loader_extensionAsSaid_75 (lv_at hl 0 rfl) ?_
  refine lv_if_lt (tgt := 92) hx hb d_Loader_extensionAsSaid_77 (by decide) (fun c1 => ?_) (fun c1 => ?_)
  · rw [if_pos c1] at hf
    refine lv_iconst (v := 0) hx hb d_Loader_extensionAsSaid_92 (by decide) ?_
    exact q_iretP hC hr hlk hf (by first | rfl | decide) hS d_Loader_extensionAsSaid_93
  rw [if_neg c1] at hf
  refine lv_iload hx hb d_Loader_extensionAsSaid_80 (lv_at hl 0 rfl) ?_
  refine lv_sipush (v := 8192) hx hb d_Loader_extensionAsSaid_82 (by decide) ?_
  refine lv_icmp_gt (tgt := 92) hx hb d_Loader_extensionAsSaid_85 (by decide) (fun c1 => ?_) (fun c1 => ?_)
  · rw [if_pos c1] at hf
    refine lv_iconst (v := 0) hx hb d_Loader_extensionAsSaid_92 (by decide) ?_
    exact q_iretP hC hr hlk hf (by first | rfl | decide) hS d_Loader_extensionAsSaid_93
  rw [if_neg c1] at hf
  refine lv_iconst (v := 1) hx hb d_Loader_extensionAsSaid_88 (by decide) ?_
  refine lv_goto (tgt := 93) hx hb d_Loader_extensionAsSaid_89 (by decide) ?_
  exact q_iretP hC hr hlk hf (by first | rfl | decide) hS d_Loader_extensionAsSaid_93
def xLoader_subtableAsSaid_86 (N : Nat) (x3_86 x4_86 : Int32) (st_86 : QSt) : Option (Int32 × QSt) :=
  if x3_86 = 1 then (q_bm (xLoader_singleAsSaid N x4_86 st_86) (fun r7 sr7 => q_grd (q_isb r7) (some (r7, sr7)))) else (if x3_86 = 2 then (q_bm (xLoader_pairAsSaid N x4_86 st_86) (fun r6 sr6 => q_grd (q_isb r6) (some (r6, sr6)))) else (if x3_86 = 3 then (q_bm (xLoader_cursiveAsSaid N x4_86 st_86) (fun r5 sr5 => q_grd (q_isb r5) (some (r5, sr5)))) else (q_bm (xLoader_marksOnAsSaid N x3_86 x4_86 st_86) (fun r4 sr4 => q_grd (q_isb r4) (some (r4, sr4))))))
def xLoader_subtableAsSaid (N : Nat) (x1 x2 : Int32) (st : QSt) : Option (Int32 × QSt) :=
  q_bn (xTable_u16 x1 st) (fun r1 => q_bn (xTable_u16 ((x1 + 6) + (2 * x2)) st) (fun r2 => q_lt (x1 + r2) (fun x4_1003 => if r1 = 9 then (q_bn (xTable_u16 (x1 + 6) st) (fun r8 => q_bn (xLoader_extensionAsSaid x4_1003 (x1 + r8) st) (fun r9 => if r9 = 0 then (some (0, st)) else (q_bn (xTable_u16 (x4_1003 + 2) st) (fun r10 => q_bn (xTable_u32 (x4_1003 + 4) st) (fun r11 => q_lt (x4_1003 + r11) (fun x4_1012 => xLoader_subtableAsSaid_86 N r10 x4_1012 st))))))) else (xLoader_subtableAsSaid_86 N r1 x4_1003 st))))
set_option maxHeartbeats 4000000 in
set_option maxRecDepth 100000 in
theorem c_xLoader_subtableAsSaid (l : Launch) (G : XG) {N : Nat} {x1 x2 : Int32} {st : QSt} {ro : Int32} {so : QSt} (hf : xLoader_subtableAsSaid N x1 x2 st = some (ro, so)) : q_Mi l y_Loader_subtableAsSaid b_Loader_subtableAsSaid 5 .boolean ({ frames := 5, cells := 0, slots := 0, locals := 121 } : Room) G.1 (xT G) (wX G) [.ref (G.2.2 5), .int x1, .int x2] st ro so := by
  refine q_Mi_of (by decide) (Nat.le_of_ble_eq_true rfl) (wX_fst G) ?_
  intro p e s m args below meth c A ls hC hr hlk hT hD hA hP hS hl
  have hx := hC.1.1
  have hb := hC.1.2.1
  have hown := hC.1.2.2.2.1
  have hts := hC.1.2.2.2.2
  have hl : lv_has ls 5 [(0, .ref (G.2.2 5)), (1, .int x1), (2, .int x2)] := hl
  have J_86 : ∀ (x3_86 x4_86 : Int32) (st_86 : QSt) (H : Heap) (locs : List Loc) (ls : Array Slot), xLoader_subtableAsSaid_86 N x3_86 x4_86 st_86 = some (ro, so) → va_P G.1 vwCl (wX G st_86) H → va_S A s.heap H locs → lv_has ls 5 [(0, .ref (G.2.2 5)), (3, .int x3_86), (4, .int x4_86)] → W p l e ({ frames := 5, cells := 0, slots := 0, locals := 121 } : Room) s m args below meth c H locs 0 0 (q_Zi below args s G.1 (wX G) ro so A) (F0 m 86 ls []) := by
    intro x3_86 x4_86 st_86 H locs ls hf hP hS hl
    unfold xLoader_subtableAsSaid_86 at hf
    refine lv_iload_n hx hb d_Loader_subtableAsSaid_86 rfl (lv_at hl 1 rfl) ?_
    by_cases c1 : x3_86 = 1
    · rw [if_pos c1] at hf
      refine lv_tableIn (tgt := 112) hx hb d_Loader_subtableAsSaid_87 (by rw [c1]; decide) (by rw [c1]; decide) (by rw [c1]; rfl) (by decide) ?_
      refine lv_aload_n hx hb d_Loader_subtableAsSaid_112 rfl (lv_at hl 0 rfl) ?_
      refine lv_iload hx hb d_Loader_subtableAsSaid_113 (lv_at hl 2 rfl) ?_
      obtain ⟨r7, sr7, h_r7, hf⟩ := q_bm_some hf
      refine q_callVi (As := [.int x4_86]) (rest := []) (q0 := 5) hC (c_xLoader_singleAsSaid l G h_r7) cal_Loader_singleAsSaid wq_35 ⟨rfl, rfl, Nat.le_of_ble_eq_true rfl, Nat.le_of_ble_eq_true rfl⟩ rfl rfl hP hD hA hS rfl hl.1 rfl (Nat.le_of_ble_eq_true rfl) d_Loader_subtableAsSaid_115 (fun H locs hP hS => ?_)
      obtain ⟨hi, hf⟩ := q_grd_some hf
      exact q_iret hC hr hlk hf (q_isb_nar hi) hP hS d_Loader_subtableAsSaid_118
    rw [if_neg c1] at hf
    by_cases c2 : x3_86 = 2
    · rw [if_pos c2] at hf
      refine lv_tableIn (tgt := 119) hx hb d_Loader_subtableAsSaid_87 (by rw [c2]; decide) (by rw [c2]; decide) (by rw [c2]; rfl) (by decide) ?_
      refine lv_aload_n hx hb d_Loader_subtableAsSaid_119 rfl (lv_at hl 0 rfl) ?_
      refine lv_iload hx hb d_Loader_subtableAsSaid_120 (lv_at hl 2 rfl) ?_
      obtain ⟨r6, sr6, h_r6, hf⟩ := q_bm_some hf
      refine q_callVi (As := [.int x4_86]) (rest := []) (q0 := 5) hC (c_xLoader_pairAsSaid l G h_r6) cal_Loader_pairAsSaid wq_36 ⟨rfl, rfl, Nat.le_of_ble_eq_true rfl, Nat.le_of_ble_eq_true rfl⟩ rfl rfl hP hD hA hS rfl hl.1 rfl (Nat.le_of_ble_eq_true rfl) d_Loader_subtableAsSaid_122 (fun H locs hP hS => ?_)
      obtain ⟨hi, hf⟩ := q_grd_some hf
      exact q_iret hC hr hlk hf (q_isb_nar hi) hP hS d_Loader_subtableAsSaid_125
    rw [if_neg c2] at hf
    by_cases c3 : x3_86 = 3
    · rw [if_pos c3] at hf
      refine lv_tableIn (tgt := 126) hx hb d_Loader_subtableAsSaid_87 (by rw [c3]; decide) (by rw [c3]; decide) (by rw [c3]; rfl) (by decide) ?_
      refine lv_aload_n hx hb d_Loader_subtableAsSaid_126 rfl (lv_at hl 0 rfl) ?_
      refine lv_iload hx hb d_Loader_subtableAsSaid_127 (lv_at hl 2 rfl) ?_
      obtain ⟨r5, sr5, h_r5, hf⟩ := q_bm_some hf
      refine q_callVi (As := [.int x4_86]) (rest := []) (q0 := 5) hC (c_xLoader_cursiveAsSaid l G h_r5) cal_Loader_cursiveAsSaid wq_37 ⟨rfl, rfl, Nat.le_of_ble_eq_true rfl, Nat.le_of_ble_eq_true rfl⟩ rfl rfl hP hD hA hS rfl hl.1 rfl (Nat.le_of_ble_eq_true rfl) d_Loader_subtableAsSaid_129 (fun H locs hP hS => ?_)
      obtain ⟨hi, hf⟩ := q_grd_some hf
      exact q_iret hC hr hlk hf (q_isb_nar hi) hP hS d_Loader_subtableAsSaid_132
    rw [if_neg c3] at hf
    refine lv_tableOut (tgt := 133) hx hb d_Loader_subtableAsSaid_87 (by have z0 := True.intro; have z2 : (x3_86).toInt ≠ 1 := q_ine c1; have z3 : (x3_86).toInt ≠ 2 := q_ine c2; have z4 : (x3_86).toInt ≠ 3 := q_ine c3; omega) (by decide) ?_
    refine lv_aload_n hx hb d_Loader_subtableAsSaid_133 rfl (lv_at hl 0 rfl) ?_
    refine lv_iload_n hx hb d_Loader_subtableAsSaid_134 rfl (lv_at hl 1 rfl) ?_
    refine lv_iload hx hb d_Loader_subtableAsSaid_135 (lv_at hl 2 rfl) ?_
    obtain ⟨r4, sr4, h_r4, hf⟩ := q_bm_some hf
    refine q_callVi (As := [.int x3_86, .int x4_86]) (rest := []) (q0 := 5) hC (c_xLoader_marksOnAsSaid l G h_r4) cal_Loader_marksOnAsSaid wq_38 ⟨rfl, rfl, Nat.le_of_ble_eq_true rfl, Nat.le_of_ble_eq_true rfl⟩ rfl rfl hP hD hA hS rfl hl.1 rfl (Nat.le_of_ble_eq_true rfl) d_Loader_subtableAsSaid_137 (fun H locs hP hS => ?_)
    obtain ⟨hi, hf⟩ := q_grd_some hf
    exact q_iret hC hr hlk hf (q_isb_nar hi) hP hS d_Loader_subtableAsSaid_140
  unfold xLoader_subtableAsSaid at hf
  refine lv_aload_n hx hb d_Loader_subtableAsSaid_0 rfl (lv_at hl 0 rfl) ?_
  refine xg_5_table hC hP wq_8 d_Loader_subtableAsSaid_1 ?_
  refine lv_iload_n hx hb d_Loader_subtableAsSaid_4 rfl (lv_at hl 1 rfl) ?_
  obtain ⟨r1, h_r1, hf⟩ := q_bn_some hf
  refine q_callVp (As := [.int x1]) (rest := []) (q0 := 1) hC (c_xTable_u16 l G h_r1) cal_Table_u16 wq_10 ⟨rfl, rfl, Nat.le_of_ble_eq_true rfl, Nat.le_of_ble_eq_true rfl⟩ rfl rfl hP hT hS rfl hl.1 rfl (Nat.le_of_ble_eq_true rfl) d_Loader_subtableAsSaid_5 (fun H locs hP hS => ?_)
  refine lv_istore_n (lv' := [(3, .int r1), (0, .ref (G.2.2 5)), (1, .int x1), (2, .int x2)]) hx hb d_Loader_subtableAsSaid_8 rfl hl (by decide) rfl (fun ls hl => ?_)
  refine lv_iload_n hx hb d_Loader_subtableAsSaid_9 rfl (lv_at hl 2 rfl) ?_
  refine lv_aload_n hx hb d_Loader_subtableAsSaid_10 rfl (lv_at hl 1 rfl) ?_
  refine xg_5_table hC hP wq_8 d_Loader_subtableAsSaid_11 ?_
  refine lv_iload_n hx hb d_Loader_subtableAsSaid_14 rfl (lv_at hl 2 rfl) ?_
  refine lv_bipush (v := 6) hx hb d_Loader_subtableAsSaid_15 (by decide) ?_
  refine lv_iadd hx hb d_Loader_subtableAsSaid_17 ?_
  refine lv_iconst (v := 2) hx hb d_Loader_subtableAsSaid_18 (by decide) ?_
  refine lv_iload_n hx hb d_Loader_subtableAsSaid_19 rfl (lv_at hl 3 rfl) ?_
  refine lv_imul hx hb d_Loader_subtableAsSaid_20 ?_
  refine lv_iadd hx hb d_Loader_subtableAsSaid_21 ?_
  obtain ⟨r2, h_r2, hf⟩ := q_bn_some hf
  refine q_callVp (As := [.int ((x1 + 6) + (2 * x2))]) (rest := [.int x1]) (q0 := 1) hC (c_xTable_u16 l G h_r2) cal_Table_u16 wq_10 ⟨rfl, rfl, Nat.le_of_ble_eq_true rfl, Nat.le_of_ble_eq_true rfl⟩ rfl rfl hP hT hS rfl hl.1 rfl (Nat.le_of_ble_eq_true rfl) d_Loader_subtableAsSaid_22 (fun H locs hP hS => ?_)
  refine lv_iadd hx hb d_Loader_subtableAsSaid_25 ?_
  obtain ⟨x4_1003, e_x4_1003, hf⟩ := q_lt_some hf
  refine q_topi e_x4_1003 ?_
  refine lv_istore (lv' := [(4, .int x4_1003), (3, .int r1), (0, .ref (G.2.2 5)), (1, .int x1), (2, .int x2)]) hx hb d_Loader_subtableAsSaid_26 hl (by decide) rfl (fun ls hl => ?_)
  refine lv_iload_n hx hb d_Loader_subtableAsSaid_28 rfl (lv_at hl 1 rfl) ?_
  refine lv_bipush (v := 9) hx hb d_Loader_subtableAsSaid_29 (by decide) ?_
  refine lv_icmp_ne (tgt := 86) hx hb d_Loader_subtableAsSaid_31 (by decide) (fun c1 => ?_) (fun c1 => ?_)
  · rw [if_neg c1] at hf
    exact J_86 _ _ _ _ _ _ hf hP hS (lv_sub hl [2, 1, 0] rfl)
  rw [if_pos c1] at hf
  refine lv_aload_n hx hb d_Loader_subtableAsSaid_34 rfl (lv_at hl 2 rfl) ?_
  refine lv_iload hx hb d_Loader_subtableAsSaid_35 (lv_at hl 0 rfl) ?_
  refine lv_iload_n hx hb d_Loader_subtableAsSaid_37 rfl (lv_at hl 3 rfl) ?_
  refine lv_aload_n hx hb d_Loader_subtableAsSaid_38 rfl (lv_at hl 2 rfl) ?_
  refine xg_5_table hC hP wq_8 d_Loader_subtableAsSaid_39 ?_
  refine lv_iload_n hx hb d_Loader_subtableAsSaid_42 rfl (lv_at hl 3 rfl) ?_
  refine lv_bipush (v := 6) hx hb d_Loader_subtableAsSaid_43 (by decide) ?_
  refine lv_iadd hx hb d_Loader_subtableAsSaid_45 ?_
  obtain ⟨r8, h_r8, hf⟩ := q_bn_some hf
  refine q_callVp (As := [.int (x1 + 6)]) (rest := [.int x1, .int x4_1003, .ref (G.2.2 5)]) (q0 := 1) hC (c_xTable_u16 l G h_r8) cal_Table_u16 wq_10 ⟨rfl, rfl, Nat.le_of_ble_eq_true rfl, Nat.le_of_ble_eq_true rfl⟩ rfl rfl hP hT hS rfl hl.1 rfl (Nat.le_of_ble_eq_true rfl) d_Loader_subtableAsSaid_46 (fun H locs hP hS => ?_)
  refine lv_iadd hx hb d_Loader_subtableAsSaid_49 ?_
  obtain ⟨r9, h_r9, hf⟩ := q_bn_some hf
  refine q_callVp (As := [.int x4_1003, .int (x1 + r8)]) (rest := []) (q0 := 5) hC (c_xLoader_extensionAsSaid l G h_r9) cal_Loader_extensionAsSaid wq_39 ⟨rfl, rfl, Nat.le_of_ble_eq_true rfl, Nat.le_of_ble_eq_true rfl⟩ rfl rfl hP hT hS rfl hl.1 rfl (Nat.le_of_ble_eq_true rfl) d_Loader_subtableAsSaid_50 (fun H locs hP hS => ?_)
  refine lv_if_ne (tgt := 58) hx hb d_Loader_subtableAsSaid_53 (by decide) (fun c1 => ?_) (fun c1 => ?_)
  rotate_left
  · rw [if_pos c1] at hf
    refine lv_iconst (v := 0) hx hb d_Loader_subtableAsSaid_56 (by decide) ?_
    exact q_iret hC hr hlk hf (by first | rfl | decide) hP hS d_Loader_subtableAsSaid_57
  rw [if_neg c1] at hf
  refine lv_aload_n hx hb d_Loader_subtableAsSaid_58 rfl (lv_at hl 2 rfl) ?_
  refine xg_5_table hC hP wq_8 d_Loader_subtableAsSaid_59 ?_
  refine lv_iload hx hb d_Loader_subtableAsSaid_62 (lv_at hl 0 rfl) ?_
  refine lv_iconst (v := 2) hx hb d_Loader_subtableAsSaid_64 (by decide) ?_
  refine lv_iadd hx hb d_Loader_subtableAsSaid_65 ?_
  obtain ⟨r10, h_r10, hf⟩ := q_bn_some hf
  refine q_callVp (As := [.int (x4_1003 + 2)]) (rest := []) (q0 := 1) hC (c_xTable_u16 l G h_r10) cal_Table_u16 wq_10 ⟨rfl, rfl, Nat.le_of_ble_eq_true rfl, Nat.le_of_ble_eq_true rfl⟩ rfl rfl hP hT hS rfl hl.1 rfl (Nat.le_of_ble_eq_true rfl) d_Loader_subtableAsSaid_66 (fun H locs hP hS => ?_)
  refine lv_istore_n (lv' := [(3, .int r10), (4, .int x4_1003), (0, .ref (G.2.2 5)), (1, .int x1), (2, .int x2)]) hx hb d_Loader_subtableAsSaid_69 rfl hl (by decide) rfl (fun ls hl => ?_)
  refine lv_iload hx hb d_Loader_subtableAsSaid_70 (lv_at hl 1 rfl) ?_
  refine lv_aload_n hx hb d_Loader_subtableAsSaid_72 rfl (lv_at hl 2 rfl) ?_
  refine xg_5_table hC hP wq_8 d_Loader_subtableAsSaid_73 ?_
  refine lv_iload hx hb d_Loader_subtableAsSaid_76 (lv_at hl 1 rfl) ?_
  refine lv_iconst (v := 4) hx hb d_Loader_subtableAsSaid_78 (by decide) ?_
  refine lv_iadd hx hb d_Loader_subtableAsSaid_79 ?_
  obtain ⟨r11, h_r11, hf⟩ := q_bn_some hf
  refine q_callVp (As := [.int (x4_1003 + 4)]) (rest := [.int x4_1003]) (q0 := 1) hC (c_xTable_u32 l G h_r11) cal_Table_u32 wq_11 ⟨rfl, rfl, Nat.le_of_ble_eq_true rfl, Nat.le_of_ble_eq_true rfl⟩ rfl rfl hP hT hS rfl hl.1 rfl (Nat.le_of_ble_eq_true rfl) d_Loader_subtableAsSaid_80 (fun H locs hP hS => ?_)
  refine lv_iadd hx hb d_Loader_subtableAsSaid_83 ?_
  obtain ⟨x4_1012, e_x4_1012, hf⟩ := q_lt_some hf
  refine q_topi e_x4_1012 ?_
  refine lv_istore (lv' := [(4, .int x4_1012), (3, .int r10), (0, .ref (G.2.2 5)), (1, .int x1), (2, .int x2)]) hx hb d_Loader_subtableAsSaid_84 hl (by decide) rfl (fun ls hl => ?_)
  exact J_86 _ _ _ _ _ _ hf hP hS (lv_sub hl [2, 1, 0] rfl)
def xLoader_lookupsAsSaid_89 (N : Nat) (rec_39 : Int32 → QSt → Option (Int32 × QSt)) (x1_39 x2_39 x3_89 x4_89 x5_89 : Int32) : Nat → Int32 → QSt → Option (Int32 × QSt)
  | 0, _, _ => none
  | n_89 + 1, x6_89, st_89 => if x5_89 ≤ x6_89 then (rec_39 (x3_89 + 1) st_89) else (q_bm (xLoader_subtableAsSaid N x4_89 x6_89 st_89) (fun r9 sr9 => if r9 = 0 then (some (0, sr9)) else (xLoader_lookupsAsSaid_89 N rec_39 x1_39 x2_39 x3_89 x4_89 x5_89 n_89 (x6_89 + 1) sr9)))
def xLoader_lookupsAsSaid_39 (N : Nat) (x1_39 x2_39 : Int32) : Nat → Int32 → QSt → Option (Int32 × QSt)
  | 0, _, _ => none
  | n_39 + 1, x3_39, st_39 => if x2_39 ≤ x3_39 then (some (1, st_39)) else (q_bn (xTable_u16 ((x1_39 + 2) + (2 * x3_39)) st_39) (fun r5 => q_lt (x1_39 + r5) (fun x4_1006 => q_bn (xLoader_lookupHeadAsSaid x4_1006 st_39) (fun r7 => if r7 = 0 then (some (0, st_39)) else (q_bn (xTable_u16 (x4_1006 + 4) st_39) (fun r8 => xLoader_lookupsAsSaid_89 N (xLoader_lookupsAsSaid_39 N x1_39 x2_39 n_39) x1_39 x2_39 x3_39 x4_1006 r8 N 0 st_39))))))
def xLoader_lookupsAsSaid (N : Nat) (st : QSt) : Option (Int32 × QSt) :=
  q_lt (q_ps st 5 0) (fun s1 => q_bn (xTable_u16 8 s1) (fun r2 => q_bn (xLoader_listLies r2 64 2 s1) (fun r3 => if r3 = 0 then (some (0, s1)) else (q_bn (xTable_u16 r2 s1) (fun r4 => xLoader_lookupsAsSaid_39 N r2 r4 N 0 s1)))))
set_option maxHeartbeats 4000000 in
set_option maxRecDepth 100000 in
theorem c_xLoader_lookupsAsSaid (l : Launch) (G : XG) {N : Nat} {st : QSt} {ro : Int32} {so : QSt} (hf : xLoader_lookupsAsSaid N st = some (ro, so)) : q_Mi l y_Loader_lookupsAsSaid b_Loader_lookupsAsSaid 7 .boolean ({ frames := 6, cells := 0, slots := 0, locals := 145 } : Room) G.1 (xT G) (wX G) [.ref (G.2.2 5)] st ro so := by
  refine q_Mi_of (by decide) (Nat.le_of_ble_eq_true rfl) (wX_fst G) ?_
  intro p e s m args below meth c A ls hC hr hlk hT hD hA hP hS hl
  have hx := hC.1.1
  have hb := hC.1.2.1
  have hown := hC.1.2.2.2.1
  have hts := hC.1.2.2.2.2
  have hl : lv_has ls 7 [(0, .ref (G.2.2 5))] := hl
  have L_39 : ∀ (x1_39 x2_39 : Int32) (n_39 : Nat) (x3_39 : Int32) (st_39 : QSt) (H : Heap) (locs : List Loc) (ls : Array Slot), xLoader_lookupsAsSaid_39 N x1_39 x2_39 n_39 x3_39 st_39 = some (ro, so) → va_P G.1 vwCl (wX G st_39) H → va_S A s.heap H locs → lv_has ls 7 [(0, .ref (G.2.2 5)), (1, .int x1_39), (2, .int x2_39), (3, .int x3_39)] → W p l e ({ frames := 6, cells := 0, slots := 0, locals := 145 } : Room) s m args below meth c H locs 0 0 (q_Zi below args s G.1 (wX G) ro so A) (F0 m 39 ls []) := by
    intro x1_39 x2_39 n_39
    induction n_39 with
    | zero => intro _ _ _ _ _ hf; exact absurd hf (by simp [xLoader_lookupsAsSaid_39])
    | succ n_39 ih_39 =>
      have L_89 : ∀ (x3_89 x4_89 x5_89 : Int32) (n_89 : Nat) (x6_89 : Int32) (st_89 : QSt) (H : Heap) (locs : List Loc) (ls : Array Slot), xLoader_lookupsAsSaid_89 N (xLoader_lookupsAsSaid_39 N x1_39 x2_39 n_39) x1_39 x2_39 x3_89 x4_89 x5_89 n_89 x6_89 st_89 = some (ro, so) → va_P G.1 vwCl (wX G st_89) H → va_S A s.heap H locs → lv_has ls 7 [(0, .ref (G.2.2 5)), (1, .int x1_39), (2, .int x2_39), (3, .int x3_89), (4, .int x4_89), (5, .int x5_89), (6, .int x6_89)] → W p l e ({ frames := 6, cells := 0, slots := 0, locals := 145 } : Room) s m args below meth c H locs 0 0 (q_Zi below args s G.1 (wX G) ro so A) (F0 m 89 ls []) := by
        intro x3_89 x4_89 x5_89 n_89
        induction n_89 with
        | zero => intro _ _ _ _ _ hf; exact absurd hf (by simp [xLoader_lookupsAsSaid_89])
        | succ n_89 ih_89 =>
          intro x6_89 st_89 H locs ls hf hP hS hl
          rw [xLoader_lookupsAsSaid_89] at hf
          refine lv_iload hx hb d_Loader_lookupsAsSaid_89 (lv_at hl 6 rfl) ?_
          refine lv_iload hx hb d_Loader_lookupsAsSaid_91 (lv_at hl 5 rfl) ?_
          refine lv_icmp_ge (tgt := 115) hx hb d_Loader_lookupsAsSaid_93 (by decide) (fun c1 => ?_) (fun c1 => ?_)
          · rw [if_pos c1] at hf
            refine lv_iinc (v := x3_89 + 1) (lv' := [(3, .int (x3_89 + 1)), (0, .ref (G.2.2 5)), (1, .int x1_39), (2, .int x2_39), (4, .int x4_89), (5, .int x5_89), (6, .int x6_89)]) hx hb d_Loader_lookupsAsSaid_115 hl (k := 3) rfl rfl (by decide) rfl (fun ls hl => ?_)
            refine lv_goto (tgt := 39) hx hb d_Loader_lookupsAsSaid_118 (by decide) ?_
            exact ih_39 _ _ _ _ _ hf hP hS (lv_sub hl [1, 2, 3, 0] rfl)
          rw [if_neg c1] at hf
          refine lv_aload_n hx hb d_Loader_lookupsAsSaid_96 rfl (lv_at hl 0 rfl) ?_
          refine lv_iload hx hb d_Loader_lookupsAsSaid_97 (lv_at hl 4 rfl) ?_
          refine lv_iload hx hb d_Loader_lookupsAsSaid_99 (lv_at hl 6 rfl) ?_
          obtain ⟨r9, sr9, h_r9, hf⟩ := q_bm_some hf
          refine q_callVi (As := [.int x4_89, .int x6_89]) (rest := []) (q0 := 5) hC (c_xLoader_subtableAsSaid l G h_r9) cal_Loader_subtableAsSaid wq_40 ⟨rfl, rfl, Nat.le_of_ble_eq_true rfl, Nat.le_of_ble_eq_true rfl⟩ rfl rfl hP hD hA hS rfl hl.1 rfl (Nat.le_of_ble_eq_true rfl) d_Loader_lookupsAsSaid_101 (fun H locs hP hS => ?_)
          refine lv_if_ne (tgt := 109) hx hb d_Loader_lookupsAsSaid_104 (by decide) (fun c1 => ?_) (fun c1 => ?_)
          rotate_left
          · rw [if_pos c1] at hf
            refine lv_iconst (v := 0) hx hb d_Loader_lookupsAsSaid_107 (by decide) ?_
            exact q_iret hC hr hlk hf (by first | rfl | decide) hP hS d_Loader_lookupsAsSaid_108
          rw [if_neg c1] at hf
          refine lv_iinc (v := x6_89 + 1) (lv' := [(6, .int (x6_89 + 1)), (0, .ref (G.2.2 5)), (1, .int x1_39), (2, .int x2_39), (3, .int x3_89), (4, .int x4_89), (5, .int x5_89)]) hx hb d_Loader_lookupsAsSaid_109 hl (k := 6) rfl rfl (by decide) rfl (fun ls hl => ?_)
          refine lv_goto (tgt := 89) hx hb d_Loader_lookupsAsSaid_112 (by decide) ?_
          exact ih_89 _ _ _ _ _ hf hP hS (lv_sub hl [1, 2, 3, 4, 5, 6, 0] rfl)
      intro x3_39 st_39 H locs ls hf hP hS hl
      rw [xLoader_lookupsAsSaid_39] at hf
      refine lv_iload_n hx hb d_Loader_lookupsAsSaid_39 rfl (lv_at hl 3 rfl) ?_
      refine lv_iload_n hx hb d_Loader_lookupsAsSaid_40 rfl (lv_at hl 2 rfl) ?_
      refine lv_icmp_ge (tgt := 121) hx hb d_Loader_lookupsAsSaid_41 (by decide) (fun c1 => ?_) (fun c1 => ?_)
      · rw [if_pos c1] at hf
        refine lv_iconst (v := 1) hx hb d_Loader_lookupsAsSaid_121 (by decide) ?_
        exact q_iret hC hr hlk hf (by first | rfl | decide) hP hS d_Loader_lookupsAsSaid_122
      rw [if_neg c1] at hf
      refine lv_iload_n hx hb d_Loader_lookupsAsSaid_44 rfl (lv_at hl 1 rfl) ?_
      refine lv_aload_n hx hb d_Loader_lookupsAsSaid_45 rfl (lv_at hl 0 rfl) ?_
      refine xg_5_table hC hP wq_8 d_Loader_lookupsAsSaid_46 ?_
      refine lv_iload_n hx hb d_Loader_lookupsAsSaid_49 rfl (lv_at hl 1 rfl) ?_
      refine lv_iconst (v := 2) hx hb d_Loader_lookupsAsSaid_50 (by decide) ?_
      refine lv_iadd hx hb d_Loader_lookupsAsSaid_51 ?_
      refine lv_iconst (v := 2) hx hb d_Loader_lookupsAsSaid_52 (by decide) ?_
      refine lv_iload_n hx hb d_Loader_lookupsAsSaid_53 rfl (lv_at hl 3 rfl) ?_
      refine lv_imul hx hb d_Loader_lookupsAsSaid_54 ?_
      refine lv_iadd hx hb d_Loader_lookupsAsSaid_55 ?_
      obtain ⟨r5, h_r5, hf⟩ := q_bn_some hf
      refine q_callVp (As := [.int ((x1_39 + 2) + (2 * x3_39))]) (rest := [.int x1_39]) (q0 := 1) hC (c_xTable_u16 l G h_r5) cal_Table_u16 wq_10 ⟨rfl, rfl, Nat.le_of_ble_eq_true rfl, Nat.le_of_ble_eq_true rfl⟩ rfl rfl hP hT hS rfl hl.1 rfl (Nat.le_of_ble_eq_true rfl) d_Loader_lookupsAsSaid_56 (fun H locs hP hS => ?_)
      refine lv_iadd hx hb d_Loader_lookupsAsSaid_59 ?_
      obtain ⟨x4_1006, e_x4_1006, hf⟩ := q_lt_some hf
      refine q_topi e_x4_1006 ?_
      refine lv_istore (lv' := [(4, .int x4_1006), (0, .ref (G.2.2 5)), (1, .int x1_39), (2, .int x2_39), (3, .int x3_39)]) hx hb d_Loader_lookupsAsSaid_60 hl (by decide) rfl (fun ls hl => ?_)
      refine lv_aload_n hx hb d_Loader_lookupsAsSaid_62 rfl (lv_at hl 1 rfl) ?_
      refine lv_iload hx hb d_Loader_lookupsAsSaid_63 (lv_at hl 0 rfl) ?_
      obtain ⟨r7, h_r7, hf⟩ := q_bn_some hf
      refine q_callVp (As := [.int x4_1006]) (rest := []) (q0 := 5) hC (c_xLoader_lookupHeadAsSaid l G h_r7) cal_Loader_lookupHeadAsSaid wq_41 ⟨rfl, rfl, Nat.le_of_ble_eq_true rfl, Nat.le_of_ble_eq_true rfl⟩ rfl rfl hP hT hS rfl hl.1 rfl (Nat.le_of_ble_eq_true rfl) d_Loader_lookupsAsSaid_65 (fun H locs hP hS => ?_)
      refine lv_if_ne (tgt := 73) hx hb d_Loader_lookupsAsSaid_68 (by decide) (fun c1 => ?_) (fun c1 => ?_)
      rotate_left
      · rw [if_pos c1] at hf
        refine lv_iconst (v := 0) hx hb d_Loader_lookupsAsSaid_71 (by decide) ?_
        exact q_iret hC hr hlk hf (by first | rfl | decide) hP hS d_Loader_lookupsAsSaid_72
      rw [if_neg c1] at hf
      refine lv_aload_n hx hb d_Loader_lookupsAsSaid_73 rfl (lv_at hl 1 rfl) ?_
      refine xg_5_table hC hP wq_8 d_Loader_lookupsAsSaid_74 ?_
      refine lv_iload hx hb d_Loader_lookupsAsSaid_77 (lv_at hl 0 rfl) ?_
      refine lv_iconst (v := 4) hx hb d_Loader_lookupsAsSaid_79 (by decide) ?_
      refine lv_iadd hx hb d_Loader_lookupsAsSaid_80 ?_
      obtain ⟨r8, h_r8, hf⟩ := q_bn_some hf
      refine q_callVp (As := [.int (x4_1006 + 4)]) (rest := []) (q0 := 1) hC (c_xTable_u16 l G h_r8) cal_Table_u16 wq_10 ⟨rfl, rfl, Nat.le_of_ble_eq_true rfl, Nat.le_of_ble_eq_true rfl⟩ rfl rfl hP hT hS rfl hl.1 rfl (Nat.le_of_ble_eq_true rfl) d_Loader_lookupsAsSaid_81 (fun H locs hP hS => ?_)
      refine lv_istore (lv' := [(5, .int r8), (4, .int x4_1006), (0, .ref (G.2.2 5)), (1, .int x1_39), (2, .int x2_39), (3, .int x3_39)]) hx hb d_Loader_lookupsAsSaid_84 hl (by decide) rfl (fun ls hl => ?_)
      refine lv_iconst (v := 0) hx hb d_Loader_lookupsAsSaid_86 (by decide) ?_
      refine lv_istore (lv' := [(6, .int 0), (5, .int r8), (4, .int x4_1006), (0, .ref (G.2.2 5)), (1, .int x1_39), (2, .int x2_39), (3, .int x3_39)]) hx hb d_Loader_lookupsAsSaid_87 hl (by decide) rfl (fun ls hl => ?_)
      exact L_89 _ _ _ _ _ _ _ _ _ hf hP hS (lv_sub hl [3, 4, 5, 6, 2, 1, 0] rfl)
  unfold xLoader_lookupsAsSaid at hf
  refine lv_aload_n hx hb d_Loader_lookupsAsSaid_0 rfl (lv_at hl 0 rfl) ?_
  refine lv_iconst (v := 0) hx hb d_Loader_lookupsAsSaid_1 (by decide) ?_
  obtain ⟨s1, e_s1, hf⟩ := q_lt_some hf
  refine xp_5_lookedAt hC hP hD hS e_s1 wq_19 d_Loader_lookupsAsSaid_2 (fun H locs hP hS => ?_)
  refine lv_aload_n hx hb d_Loader_lookupsAsSaid_5 rfl (lv_at hl 0 rfl) ?_
  refine xg_5_table hC hP wq_8 d_Loader_lookupsAsSaid_6 ?_
  refine lv_bipush (v := 8) hx hb d_Loader_lookupsAsSaid_9 (by decide) ?_
  obtain ⟨r2, h_r2, hf⟩ := q_bn_some hf
  refine q_callVp (As := [.int 8]) (rest := []) (q0 := 1) hC (c_xTable_u16 l G h_r2) cal_Table_u16 wq_10 ⟨rfl, rfl, Nat.le_of_ble_eq_true rfl, Nat.le_of_ble_eq_true rfl⟩ rfl rfl hP hT hS rfl hl.1 rfl (Nat.le_of_ble_eq_true rfl) d_Loader_lookupsAsSaid_11 (fun H locs hP hS => ?_)
  refine lv_istore_n (lv' := [(1, .int r2), (0, .ref (G.2.2 5))]) hx hb d_Loader_lookupsAsSaid_14 rfl hl (by decide) rfl (fun ls hl => ?_)
  refine lv_aload_n hx hb d_Loader_lookupsAsSaid_15 rfl (lv_at hl 1 rfl) ?_
  refine lv_iload_n hx hb d_Loader_lookupsAsSaid_16 rfl (lv_at hl 0 rfl) ?_
  refine lv_bipush (v := 64) hx hb d_Loader_lookupsAsSaid_17 (by decide) ?_
  refine lv_iconst (v := 2) hx hb d_Loader_lookupsAsSaid_19 (by decide) ?_
  obtain ⟨r3, h_r3, hf⟩ := q_bn_some hf
  refine q_callVp (As := [.int r2, .int 64, .int 2]) (rest := []) (q0 := 5) hC (c_xLoader_listLies l G h_r3) cal_Loader_listLies wq_13 ⟨rfl, rfl, Nat.le_of_ble_eq_true rfl, Nat.le_of_ble_eq_true rfl⟩ rfl rfl hP hT hS rfl hl.1 rfl (Nat.le_of_ble_eq_true rfl) d_Loader_lookupsAsSaid_20 (fun H locs hP hS => ?_)
  refine lv_if_ne (tgt := 28) hx hb d_Loader_lookupsAsSaid_23 (by decide) (fun c1 => ?_) (fun c1 => ?_)
  rotate_left
  · rw [if_pos c1] at hf
    refine lv_iconst (v := 0) hx hb d_Loader_lookupsAsSaid_26 (by decide) ?_
    exact q_iret hC hr hlk hf (by first | rfl | decide) hP hS d_Loader_lookupsAsSaid_27
  rw [if_neg c1] at hf
  refine lv_aload_n hx hb d_Loader_lookupsAsSaid_28 rfl (lv_at hl 1 rfl) ?_
  refine xg_5_table hC hP wq_8 d_Loader_lookupsAsSaid_29 ?_
  refine lv_iload_n hx hb d_Loader_lookupsAsSaid_32 rfl (lv_at hl 0 rfl) ?_
  obtain ⟨r4, h_r4, hf⟩ := q_bn_some hf
  refine q_callVp (As := [.int r2]) (rest := []) (q0 := 1) hC (c_xTable_u16 l G h_r4) cal_Table_u16 wq_10 ⟨rfl, rfl, Nat.le_of_ble_eq_true rfl, Nat.le_of_ble_eq_true rfl⟩ rfl rfl hP hT hS rfl hl.1 rfl (Nat.le_of_ble_eq_true rfl) d_Loader_lookupsAsSaid_33 (fun H locs hP hS => ?_)
  refine lv_istore_n (lv' := [(2, .int r4), (1, .int r2), (0, .ref (G.2.2 5))]) hx hb d_Loader_lookupsAsSaid_36 rfl hl (by decide) rfl (fun ls hl => ?_)
  refine lv_iconst (v := 0) hx hb d_Loader_lookupsAsSaid_37 (by decide) ?_
  refine lv_istore_n (lv' := [(3, .int 0), (2, .int r4), (1, .int r2), (0, .ref (G.2.2 5))]) hx hb d_Loader_lookupsAsSaid_38 rfl hl (by decide) rfl (fun ls hl => ?_)
  exact L_39 _ _ _ _ _ _ _ _ hf hP hS (lv_sub hl [3, 2, 1, 0] rfl)
