def xTable_replace_p (x1 x2 : Int32) (st : QSt) : Option Int32 :=
  if x1 < 0 then (some 0) else (if x1 < (st.1 3) then (q_grd (q_vpb x1 8192) (q_lt (st.2 0 x1.toNatClampNeg) (fun v1 => q_lt (v1 &&& 255) (fun x3_1002 => none)))) else (some 0))
set_option maxHeartbeats 4000000 in
set_option maxRecDepth 100000 in
theorem c_xTable_replace_p (l : Launch) (G : XG) {x1 x2 : Int32} {st : QSt} {ro : Int32} (hf : xTable_replace_p x1 x2 st = some ro) : q_Mp l y_Table_replace b_Table_replace 4 .int ({ frames := 0, cells := 0, slots := 0, locals := 0 } : Room) G.1 (xT G) (wX G) [.ref (G.2.2 1), .int x1, .int x2] st ro := by
  refine q_Mp_of (by decide) (Nat.le_of_ble_eq_true rfl) (wX_fst G) ?_
  intro p e s m args below meth c ls hC hr hlk hT hP hS hl
  have hx := hC.1.1
  have hb := hC.1.2.1
  have hown := hC.1.2.2.2.1
  have hts := hC.1.2.2.2.2
  have hl : lv_has ls 4 [(0, .ref (G.2.2 1)), (1, .int x1), (2, .int x2)] := hl
  unfold xTable_replace_p at hf
  refine lv_iload_n hx hb d_Table_replace_0 rfl (lv_at hl 1 rfl) ?_
  refine lv_if_lt (tgt := 12) hx hb d_Table_replace_1 (by decide) (fun c1 => ?_) (fun c1 => ?_)
  · rw [if_pos c1] at hf
    refine lv_iconst (v := 0) hx hb d_Table_replace_12 (by decide) ?_
    exact q_iretP hC hr hlk hf (by first | rfl | decide) hS d_Table_replace_13
  rw [if_neg c1] at hf
  refine lv_iload_n hx hb d_Table_replace_4 rfl (lv_at hl 1 rfl) ?_
  refine lv_aload_n hx hb d_Table_replace_5 rfl (lv_at hl 0 rfl) ?_
  refine xg_1_size hC hP wq_0 d_Table_replace_6 ?_
  refine lv_icmp_lt (tgt := 14) hx hb d_Table_replace_9 (by decide) (fun c1 => ?_) (fun c1 => ?_)
  rotate_left
  · rw [if_neg c1] at hf
    refine lv_iconst (v := 0) hx hb d_Table_replace_12 (by decide) ?_
    exact q_iretP hC hr hlk hf (by first | rfl | decide) hS d_Table_replace_13
  rw [if_pos c1] at hf
  refine lv_aload_n hx hb d_Table_replace_14 rfl (lv_at hl 0 rfl) ?_
  refine xg_1_bytes hC hP wq_1 d_Table_replace_15 ?_
  refine lv_iload_n hx hb d_Table_replace_18 rfl (lv_at hl 1 rfl) ?_
  obtain ⟨hi, hf⟩ := q_grd_some hf
  obtain ⟨v1, e_v1, hf⟩ := q_lt_some hf
  refine xl_2 hC hP e_v1 hi d_Table_replace_19 ?_
  refine lv_sipush (v := 255) hx hb d_Table_replace_20 (by decide) ?_
  refine lv_iand hx hb d_Table_replace_23 ?_
  obtain ⟨x3_1002, e_x3_1002, hf⟩ := q_lt_some hf
  refine q_topi e_x3_1002 ?_
  refine lv_istore_n (lv' := [(3, .int x3_1002), (0, .ref (G.2.2 1)), (1, .int x1), (2, .int x2)]) hx hb d_Table_replace_24 rfl hl (by decide) rfl (fun ls hl => ?_)
  refine lv_aload_n hx hb d_Table_replace_25 rfl (lv_at hl 1 rfl) ?_
  refine xg_1_bytes hC hP wq_1 d_Table_replace_26 ?_
  refine lv_iload_n hx hb d_Table_replace_29 rfl (lv_at hl 2 rfl) ?_
  refine lv_iload_n hx hb d_Table_replace_30 rfl (lv_at hl 3 rfl) ?_
  refine lv_i2b (v := x2.toInt8.toInt32) hx hb d_Table_replace_31 rfl ?_
  cases hf
def xGlyphPositions_put_t_33 (st : QSt) : Option Nat :=
  some 2
def xGlyphPositions_put_t (x1 x2 : Int32) (st : QSt) : Option Nat :=
  q_bn (xTable_lies x1 1 st) (fun r1 => if r1 = 0 then (some 1) else (if x2 < 0 then (xGlyphPositions_put_t_33 st) else (if x2 ≤ 255 then (q_bn (xTable_replace_p x1 x2 st) (fun r2 => none)) else (xGlyphPositions_put_t_33 st))))
set_option maxHeartbeats 4000000 in
set_option maxRecDepth 100000 in
theorem c_xGlyphPositions_put_t (l : Launch) (hl0 : l.stackTraces = false) (G : XG) {x1 x2 : Int32} {st : QSt} {ro : Nat} (hf : xGlyphPositions_put_t x1 x2 st = some ro) : q_Mx l y_GP_put b_GP_put 3 (some .int) ({ frames := 7, cells := 1, slots := 6, locals := 120 } : Room) G.1 (xT G) (wX G) [.ref (G.2.2 0), .int x1, .int x2] st (q_exn ro) := by
  refine q_Mx_of (by decide) (Nat.le_of_ble_eq_true rfl) (wX_fst G) ?_
  intro p e s m args below meth c ls hC hlk hex hZ hT hP hS hl
  have hx := hC.1.1
  have hb := hC.1.2.1
  have hown := hC.1.2.2.2.1
  have hts := hC.1.2.2.2.2
  have hl : lv_has ls 3 [(0, .ref (G.2.2 0)), (1, .int x1), (2, .int x2)] := hl
  have J_33 : ∀ (H : Heap) (locs : List Loc) (ls : Array Slot), xGlyphPositions_put_t_33 st = some ro → va_P G.1 vwCl (wX G st) H → va_S (fun _ => False) s.heap H locs → lv_has ls 3 [] → W p l e ({ frames := 7, cells := 1, slots := 6, locals := 120 } : Room) s m args below meth c H locs 0 0 (q_Zx below args s (q_exn ro)) (F0 m 33 ls []) := by
    intro H locs ls hf hP hS hl
    unfold xGlyphPositions_put_t_33 at hf
    exact q_throw (tx := "a byte is 0 .. 255") hC hlk hl0 hex hZ hf rfl ex_IllegalArgumentException_93_97 (by decide +kernel) hS hl.1 (Nat.le_of_ble_eq_true rfl) (Nat.le_of_ble_eq_true rfl) (Nat.le_of_ble_eq_true rfl) (Nat.le_of_ble_eq_true rfl) d_GP_put_33 d_GP_put_36 d_GP_put_37 d_GP_put_39 d_GP_put_42
  unfold xGlyphPositions_put_t at hf
  refine lv_aload_n hx hb d_GP_put_0 rfl (lv_at hl 0 rfl) ?_
  refine xg_0_fed hC hP wq_497 d_GP_put_1 ?_
  refine lv_iload_n hx hb d_GP_put_4 rfl (lv_at hl 1 rfl) ?_
  refine lv_iconst (v := 1) hx hb d_GP_put_5 (by decide) ?_
  obtain ⟨r1, h_r1, hf⟩ := q_bn_some hf
  refine q_callVp (As := [.int x1, .int 1]) (rest := []) (q0 := 1) hC (c_xTable_lies l G h_r1) cal_Table_lies wq_500 ⟨rfl, rfl, Nat.le_of_ble_eq_true rfl, Nat.le_of_ble_eq_true rfl⟩ rfl rfl hP hT hS rfl hl.1 rfl (Nat.le_of_ble_eq_true rfl) d_GP_put_6 (fun H locs hP hS => ?_)
  refine lv_if_ne (tgt := 22) hx hb d_GP_put_9 (by decide) (fun c1 => ?_) (fun c1 => ?_)
  rotate_left
  · rw [if_pos c1] at hf
    exact q_throw (tx := "the table has no such byte") hC hlk hl0 hex hZ hf rfl ex_IndexOutOfBoundsException_86_90 (by decide +kernel) hS hl.1 (Nat.le_of_ble_eq_true rfl) (Nat.le_of_ble_eq_true rfl) (Nat.le_of_ble_eq_true rfl) (Nat.le_of_ble_eq_true rfl) d_GP_put_12 d_GP_put_15 d_GP_put_16 d_GP_put_18 d_GP_put_21
  rw [if_neg c1] at hf
  refine lv_iload_n hx hb d_GP_put_22 rfl (lv_at hl 2 rfl) ?_
  refine lv_if_lt (tgt := 33) hx hb d_GP_put_23 (by decide) (fun c1 => ?_) (fun c1 => ?_)
  · rw [if_pos c1] at hf
    exact J_33 _ _ _ hf hP hS (lv_sub hl [] rfl)
  rw [if_neg c1] at hf
  refine lv_iload_n hx hb d_GP_put_26 rfl (lv_at hl 2 rfl) ?_
  refine lv_sipush (v := 255) hx hb d_GP_put_27 (by decide) ?_
  refine lv_icmp_le (tgt := 43) hx hb d_GP_put_30 (by decide) (fun c1 => ?_) (fun c1 => ?_)
  rotate_left
  · rw [if_neg c1] at hf
    exact J_33 _ _ _ hf hP hS (lv_sub hl [] rfl)
  rw [if_pos c1] at hf
  refine lv_aload_n hx hb d_GP_put_43 rfl (lv_at hl 0 rfl) ?_
  refine xg_0_fed hC hP wq_497 d_GP_put_44 ?_
  refine lv_iload_n hx hb d_GP_put_47 rfl (lv_at hl 1 rfl) ?_
  refine lv_iload_n hx hb d_GP_put_48 rfl (lv_at hl 2 rfl) ?_
  obtain ⟨r2, h_r2, hf⟩ := q_bn_some hf
  refine q_callVp (As := [.int x1, .int x2]) (rest := []) (q0 := 1) hC (c_xTable_replace_p l G h_r2) cal_Table_replace wq_501 ⟨rfl, rfl, Nat.le_of_ble_eq_true rfl, Nat.le_of_ble_eq_true rfl⟩ rfl rfl hP hT hS rfl hl.1 rfl (Nat.le_of_ble_eq_true rfl) d_GP_put_49 (fun H locs hP hS => ?_)
  cases hf
def xTable_shorten_p_22 (st : QSt) (w0_22 : Int32) : Option Int32 :=
  none
def xTable_shorten_p_21 (st : QSt) : Option Int32 :=
  xTable_shorten_p_22 st 0
def xTable_shorten_p (x1 : Int32) (st : QSt) : Option Int32 :=
  if x1 < 0 then (xTable_shorten_p_21 st) else (if (st.1 3) ≤ x1 then (xTable_shorten_p_21 st) else (xTable_shorten_p_22 st ((st.1 3) - x1)))
set_option maxHeartbeats 4000000 in
set_option maxRecDepth 100000 in
theorem c_xTable_shorten_p (l : Launch) (G : XG) {x1 : Int32} {st : QSt} {ro : Int32} (hf : xTable_shorten_p x1 st = some ro) : q_Mp l y_Table_shorten b_Table_shorten 3 .int ({ frames := 0, cells := 0, slots := 0, locals := 0 } : Room) G.1 (xT G) (wX G) [.ref (G.2.2 1), .int x1] st ro := by
  refine q_Mp_of (by decide) (Nat.le_of_ble_eq_true rfl) (wX_fst G) ?_
  intro p e s m args below meth c ls hC hr hlk hT hP hS hl
  have hx := hC.1.1
  have hb := hC.1.2.1
  have hown := hC.1.2.2.2.1
  have hts := hC.1.2.2.2.2
  have hl : lv_has ls 3 [(0, .ref (G.2.2 1)), (1, .int x1)] := hl
  have J_22 : ∀ (w0_22 : Int32) (H : Heap) (locs : List Loc) (ls : Array Slot), xTable_shorten_p_22 st w0_22 = some ro → va_P G.1 vwCl (wX G st) H → va_S (fun _ => False) s.heap H locs → lv_has ls 3 [(0, .ref (G.2.2 1))] → W p l e ({ frames := 0, cells := 0, slots := 0, locals := 0 } : Room) s m args below meth c H locs 0 0 (q_Zp below args s ro) (F0 m 22 ls [.int w0_22]) := by
    intro w0_22 H locs ls hf hP hS hl
    unfold xTable_shorten_p_22 at hf
    refine lv_istore_n (lv' := [(2, .int w0_22), (0, .ref (G.2.2 1))]) hx hb d_Table_shorten_22 rfl hl (by decide) rfl (fun ls hl => ?_)
    refine lv_aload_n hx hb d_Table_shorten_23 rfl (lv_at hl 1 rfl) ?_
    refine lv_dup hx hb d_Table_shorten_24 rfl ?_
    refine xg_1_size hC hP wq_0 d_Table_shorten_25 ?_
    refine lv_iload_n hx hb d_Table_shorten_28 rfl (lv_at hl 0 rfl) ?_
    refine lv_isub hx hb d_Table_shorten_29 ?_
    cases hf
  have J_21 : ∀ (H : Heap) (locs : List Loc) (ls : Array Slot), xTable_shorten_p_21 st = some ro → va_P G.1 vwCl (wX G st) H → va_S (fun _ => False) s.heap H locs → lv_has ls 3 [(0, .ref (G.2.2 1))] → W p l e ({ frames := 0, cells := 0, slots := 0, locals := 0 } : Room) s m args below meth c H locs 0 0 (q_Zp below args s ro) (F0 m 21 ls []) := by
    intro H locs ls hf hP hS hl
    unfold xTable_shorten_p_21 at hf
    refine lv_iconst (v := 0) hx hb d_Table_shorten_21 (by decide) ?_
    exact J_22 _ _ _ _ hf hP hS hl
  unfold xTable_shorten_p at hf
  refine lv_iload_n hx hb d_Table_shorten_0 rfl (lv_at hl 1 rfl) ?_
  refine lv_if_lt (tgt := 21) hx hb d_Table_shorten_1 (by decide) (fun c1 => ?_) (fun c1 => ?_)
  · rw [if_pos c1] at hf
    exact J_21 _ _ _ hf hP hS (lv_sub hl [0] rfl)
  rw [if_neg c1] at hf
  refine lv_iload_n hx hb d_Table_shorten_4 rfl (lv_at hl 1 rfl) ?_
  refine lv_aload_n hx hb d_Table_shorten_5 rfl (lv_at hl 0 rfl) ?_
  refine xg_1_size hC hP wq_0 d_Table_shorten_6 ?_
  refine lv_icmp_ge (tgt := 21) hx hb d_Table_shorten_9 (by decide) (fun c1 => ?_) (fun c1 => ?_)
  · rw [if_pos c1] at hf
    exact J_21 _ _ _ hf hP hS (lv_sub hl [0] rfl)
  rw [if_neg c1] at hf
  refine lv_aload_n hx hb d_Table_shorten_12 rfl (lv_at hl 0 rfl) ?_
  refine xg_1_size hC hP wq_0 d_Table_shorten_13 ?_
  refine lv_iload_n hx hb d_Table_shorten_16 rfl (lv_at hl 1 rfl) ?_
  refine lv_isub hx hb d_Table_shorten_17 ?_
  refine lv_goto (tgt := 22) hx hb d_Table_shorten_18 (by decide) ?_
  exact J_22 _ _ _ _ hf hP hS (lv_sub hl [0] rfl)
def xGlyphPositions_cut_t (x1 : Int32) (st : QSt) : Option Nat :=
  if 0 ≤ x1 then (q_bn (xTable_shorten_p x1 st) (fun r1 => none)) else (some 2)
set_option maxHeartbeats 4000000 in
set_option maxRecDepth 100000 in
theorem c_xGlyphPositions_cut_t (l : Launch) (hl0 : l.stackTraces = false) (G : XG) {x1 : Int32} {st : QSt} {ro : Nat} (hf : xGlyphPositions_cut_t x1 st = some ro) : q_Mx l y_GP_cut b_GP_cut 2 (some .int) ({ frames := 7, cells := 1, slots := 6, locals := 120 } : Room) G.1 (xT G) (wX G) [.ref (G.2.2 0), .int x1] st (q_exn ro) := by
  refine q_Mx_of (by decide) (Nat.le_of_ble_eq_true rfl) (wX_fst G) ?_
  intro p e s m args below meth c ls hC hlk hex hZ hT hP hS hl
  have hx := hC.1.1
  have hb := hC.1.2.1
  have hown := hC.1.2.2.2.1
  have hts := hC.1.2.2.2.2
  have hl : lv_has ls 2 [(0, .ref (G.2.2 0)), (1, .int x1)] := hl
  unfold xGlyphPositions_cut_t at hf
  refine lv_iload_n hx hb d_GP_cut_0 rfl (lv_at hl 1 rfl) ?_
  refine lv_if_ge (tgt := 14) hx hb d_GP_cut_1 (by decide) (fun c1 => ?_) (fun c1 => ?_)
  rotate_left
  · rw [if_neg c1] at hf
    exact q_throw (tx := "less than no bytes cannot be left") hC hlk hl0 hex hZ hf rfl ex_IllegalArgumentException_93_97 (by decide +kernel) hS hl.1 (Nat.le_of_ble_eq_true rfl) (Nat.le_of_ble_eq_true rfl) (Nat.le_of_ble_eq_true rfl) (Nat.le_of_ble_eq_true rfl) d_GP_cut_4 d_GP_cut_7 d_GP_cut_8 d_GP_cut_10 d_GP_cut_13
  rw [if_pos c1] at hf
  refine lv_aload_n hx hb d_GP_cut_14 rfl (lv_at hl 0 rfl) ?_
  refine xg_0_fed hC hP wq_497 d_GP_cut_15 ?_
  refine lv_iload_n hx hb d_GP_cut_18 rfl (lv_at hl 1 rfl) ?_
  obtain ⟨r1, h_r1, hf⟩ := q_bn_some hf
  refine q_callVp (As := [.int x1]) (rest := []) (q0 := 1) hC (c_xTable_shorten_p l G h_r1) cal_Table_shorten wq_502 ⟨rfl, rfl, Nat.le_of_ble_eq_true rfl, Nat.le_of_ble_eq_true rfl⟩ rfl rfl hP hT hS rfl hl.1 rfl (Nat.le_of_ble_eq_true rfl) d_GP_cut_19 (fun H locs hP hS => ?_)
  cases hf
def xKinds_tell_p (x1 x2 x3 x4 : Int32) (st : QSt) : Option Int32 :=
  if (st.1 6) < 256 then (none) else (some 0)
set_option maxHeartbeats 4000000 in
set_option maxRecDepth 100000 in
theorem c_xKinds_tell_p (l : Launch) (G : XG) {x1 x2 x3 x4 : Int32} {st : QSt} {ro : Int32} (hf : xKinds_tell_p x1 x2 x3 x4 st = some ro) : q_Mp l y_Kinds_tell b_Kinds_tell 5 .boolean ({ frames := 0, cells := 0, slots := 0, locals := 0 } : Room) G.1 (xT G) (wX G) [.ref (G.2.2 6), .int x1, .int x2, .int x3, .int x4] st ro := by
  refine q_Mp_of (by decide) (Nat.le_of_ble_eq_true rfl) (wX_fst G) ?_
  intro p e s m args below meth c ls hC hr hlk hT hP hS hl
  have hx := hC.1.1
  have hb := hC.1.2.1
  have hown := hC.1.2.2.2.1
  have hts := hC.1.2.2.2.2
  have hl : lv_has ls 5 [(0, .ref (G.2.2 6)), (1, .int x1), (2, .int x2), (3, .int x3), (4, .int x4)] := hl
  unfold xKinds_tell_p at hf
  refine lv_aload_n hx hb d_Kinds_tell_0 rfl (lv_at hl 0 rfl) ?_
  refine xg_6_count hC hP wq_42 d_Kinds_tell_1 ?_
  refine lv_sipush (v := 256) hx hb d_Kinds_tell_4 (by decide) ?_
  refine lv_icmp_lt (tgt := 12) hx hb d_Kinds_tell_7 (by decide) (fun c1 => ?_) (fun c1 => ?_)
  rotate_left
  · rw [if_neg c1] at hf
    refine lv_iconst (v := 0) hx hb d_Kinds_tell_10 (by decide) ?_
    exact q_iretP hC hr hlk hf (by first | rfl | decide) hS d_Kinds_tell_11
  rw [if_pos c1] at hf
  refine lv_aload_n hx hb d_Kinds_tell_12 rfl (lv_at hl 0 rfl) ?_
  refine xg_6_first hC hP wq_43 d_Kinds_tell_13 ?_
  refine lv_aload_n hx hb d_Kinds_tell_16 rfl (lv_at hl 0 rfl) ?_
  refine xg_6_count hC hP wq_42 d_Kinds_tell_17 ?_
  refine lv_iload_n hx hb d_Kinds_tell_20 rfl (lv_at hl 1 rfl) ?_
  cases hf
def xGlyphPositions_kind_t_19 (st : QSt) : Option Nat :=
  some 2
def xGlyphPositions_kind_t_51 (st : QSt) : Option Nat :=
  some 2
def xGlyphPositions_kind_t (x1 x2 x3 x4 : Int32) (st : QSt) : Option Nat :=
  q_bn (xGlyphPositions_isU16 x1) (fun r1 => if r1 = 0 then (xGlyphPositions_kind_t_19 st) else (q_bn (xGlyphPositions_isU16 x2) (fun r2 => if r2 = 0 then (xGlyphPositions_kind_t_19 st) else (if x1 ≤ x2 then (if x3 < 0 then (xGlyphPositions_kind_t_51 st) else (if 3 < x3 then (xGlyphPositions_kind_t_51 st) else (if x4 < 0 then (xGlyphPositions_kind_t_51 st) else (if x4 ≤ 255 then (q_bn (xKinds_tell_p x1 x2 x3 x4 st) (fun r3 => if r3 = 0 then (some 3) else (none))) else (xGlyphPositions_kind_t_51 st))))) else (xGlyphPositions_kind_t_19 st)))))
set_option maxHeartbeats 4000000 in
set_option maxRecDepth 100000 in
theorem c_xGlyphPositions_kind_t (l : Launch) (hl0 : l.stackTraces = false) (G : XG) {x1 x2 x3 x4 : Int32} {st : QSt} {ro : Nat} (hf : xGlyphPositions_kind_t x1 x2 x3 x4 st = some ro) : q_Mx l y_GP_kind b_GP_kind 5 none ({ frames := 7, cells := 1, slots := 6, locals := 120 } : Room) G.1 (xT G) (wX G) [.ref (G.2.2 0), .int x1, .int x2, .int x3, .int x4] st (q_exn ro) := by
  refine q_Mx_of (by decide) (Nat.le_of_ble_eq_true rfl) (wX_fst G) ?_
  intro p e s m args below meth c ls hC hlk hex hZ hT hP hS hl
  have hx := hC.1.1
  have hb := hC.1.2.1
  have hown := hC.1.2.2.2.1
  have hts := hC.1.2.2.2.2
  have hl : lv_has ls 5 [(0, .ref (G.2.2 0)), (1, .int x1), (2, .int x2), (3, .int x3), (4, .int x4)] := hl
  have J_19 : ∀ (H : Heap) (locs : List Loc) (ls : Array Slot), xGlyphPositions_kind_t_19 st = some ro → va_P G.1 vwCl (wX G st) H → va_S (fun _ => False) s.heap H locs → lv_has ls 5 [] → W p l e ({ frames := 7, cells := 1, slots := 6, locals := 120 } : Room) s m args below meth c H locs 0 0 (q_Zx below args s (q_exn ro)) (F0 m 19 ls []) := by
    intro H locs ls hf hP hS hl
    unfold xGlyphPositions_kind_t_19 at hf
    exact q_throw (tx := "no range of glyphs") hC hlk hl0 hex hZ hf rfl ex_IllegalArgumentException_93_97 (by decide +kernel) hS hl.1 (Nat.le_of_ble_eq_true rfl) (Nat.le_of_ble_eq_true rfl) (Nat.le_of_ble_eq_true rfl) (Nat.le_of_ble_eq_true rfl) d_GP_kind_19 d_GP_kind_22 d_GP_kind_23 d_GP_kind_25 d_GP_kind_28
  have J_51 : ∀ (H : Heap) (locs : List Loc) (ls : Array Slot), xGlyphPositions_kind_t_51 st = some ro → va_P G.1 vwCl (wX G st) H → va_S (fun _ => False) s.heap H locs → lv_has ls 5 [] → W p l e ({ frames := 7, cells := 1, slots := 6, locals := 120 } : Room) s m args below meth c H locs 0 0 (q_Zx below args s (q_exn ro)) (F0 m 51 ls []) := by
    intro H locs ls hf hP hS hl
    unfold xGlyphPositions_kind_t_51 at hf
    exact q_throw (tx := "no kind, or no class of marks") hC hlk hl0 hex hZ hf rfl ex_IllegalArgumentException_93_97 (by decide +kernel) hS hl.1 (Nat.le_of_ble_eq_true rfl) (Nat.le_of_ble_eq_true rfl) (Nat.le_of_ble_eq_true rfl) (Nat.le_of_ble_eq_true rfl) d_GP_kind_51 d_GP_kind_54 d_GP_kind_55 d_GP_kind_57 d_GP_kind_60
  unfold xGlyphPositions_kind_t at hf
  refine lv_iload_n hx hb d_GP_kind_0 rfl (lv_at hl 1 rfl) ?_
  obtain ⟨r1, h_r1, hf⟩ := q_bn_some hf
  refine q_callSp (As := [.int x1]) (rest := []) hC (c_xGlyphPositions_isU16 l G h_r1) cal_GP_isU16 wq_513 ⟨rfl, rfl, Nat.le_of_ble_eq_true rfl, Nat.le_of_ble_eq_true rfl⟩ hP hT hS rfl hl.1 rfl (Nat.le_of_ble_eq_true rfl) d_GP_kind_1 (fun H locs hP hS => ?_)
  refine lv_if_eq (tgt := 19) hx hb d_GP_kind_4 (by decide) (fun c1 => ?_) (fun c1 => ?_)
  · rw [if_pos c1] at hf
    exact J_19 _ _ _ hf hP hS (lv_sub hl [] rfl)
  rw [if_neg c1] at hf
  refine lv_iload_n hx hb d_GP_kind_7 rfl (lv_at hl 2 rfl) ?_
  obtain ⟨r2, h_r2, hf⟩ := q_bn_some hf
  refine q_callSp (As := [.int x2]) (rest := []) hC (c_xGlyphPositions_isU16 l G h_r2) cal_GP_isU16 wq_513 ⟨rfl, rfl, Nat.le_of_ble_eq_true rfl, Nat.le_of_ble_eq_true rfl⟩ hP hT hS rfl hl.1 rfl (Nat.le_of_ble_eq_true rfl) d_GP_kind_8 (fun H locs hP hS => ?_)
  refine lv_if_eq (tgt := 19) hx hb d_GP_kind_11 (by decide) (fun c1 => ?_) (fun c1 => ?_)
  · rw [if_pos c1] at hf
    exact J_19 _ _ _ hf hP hS (lv_sub hl [] rfl)
  rw [if_neg c1] at hf
  refine lv_iload_n hx hb d_GP_kind_14 rfl (lv_at hl 1 rfl) ?_
  refine lv_iload_n hx hb d_GP_kind_15 rfl (lv_at hl 2 rfl) ?_
  refine lv_icmp_le (tgt := 29) hx hb d_GP_kind_16 (by decide) (fun c1 => ?_) (fun c1 => ?_)
  rotate_left
  · rw [if_neg c1] at hf
    exact J_19 _ _ _ hf hP hS (lv_sub hl [] rfl)
  rw [if_pos c1] at hf
  refine lv_iload_n hx hb d_GP_kind_29 rfl (lv_at hl 3 rfl) ?_
  refine lv_if_lt (tgt := 51) hx hb d_GP_kind_30 (by decide) (fun c1 => ?_) (fun c1 => ?_)
  · rw [if_pos c1] at hf
    exact J_51 _ _ _ hf hP hS (lv_sub hl [] rfl)
  rw [if_neg c1] at hf
  refine lv_iload_n hx hb d_GP_kind_33 rfl (lv_at hl 3 rfl) ?_
  refine lv_iconst (v := 3) hx hb d_GP_kind_34 (by decide) ?_
  refine lv_icmp_gt (tgt := 51) hx hb d_GP_kind_35 (by decide) (fun c1 => ?_) (fun c1 => ?_)
  · rw [if_pos c1] at hf
    exact J_51 _ _ _ hf hP hS (lv_sub hl [] rfl)
  rw [if_neg c1] at hf
  refine lv_iload hx hb d_GP_kind_38 (lv_at hl 4 rfl) ?_
  refine lv_if_lt (tgt := 51) hx hb d_GP_kind_40 (by decide) (fun c1 => ?_) (fun c1 => ?_)
  · rw [if_pos c1] at hf
    exact J_51 _ _ _ hf hP hS (lv_sub hl [] rfl)
  rw [if_neg c1] at hf
  refine lv_iload hx hb d_GP_kind_43 (lv_at hl 4 rfl) ?_
  refine lv_sipush (v := 255) hx hb d_GP_kind_45 (by decide) ?_
  refine lv_icmp_le (tgt := 61) hx hb d_GP_kind_48 (by decide) (fun c1 => ?_) (fun c1 => ?_)
  rotate_left
  · rw [if_neg c1] at hf
    exact J_51 _ _ _ hf hP hS (lv_sub hl [] rfl)
  rw [if_pos c1] at hf
  refine lv_aload_n hx hb d_GP_kind_61 rfl (lv_at hl 0 rfl) ?_
  refine xg_0_kinds hC hP wq_514 d_GP_kind_62 ?_
  refine lv_iload_n hx hb d_GP_kind_65 rfl (lv_at hl 1 rfl) ?_
  refine lv_iload_n hx hb d_GP_kind_66 rfl (lv_at hl 2 rfl) ?_
  refine lv_iload_n hx hb d_GP_kind_67 rfl (lv_at hl 3 rfl) ?_
  refine lv_iload hx hb d_GP_kind_68 (lv_at hl 4 rfl) ?_
  obtain ⟨r3, h_r3, hf⟩ := q_bn_some hf
  refine q_callVp (As := [.int x1, .int x2, .int x3, .int x4]) (rest := []) (q0 := 6) hC (c_xKinds_tell_p l G h_r3) cal_Kinds_tell wq_515 ⟨rfl, rfl, Nat.le_of_ble_eq_true rfl, Nat.le_of_ble_eq_true rfl⟩ rfl rfl hP hT hS rfl hl.1 rfl (Nat.le_of_ble_eq_true rfl) d_GP_kind_70 (fun H locs hP hS => ?_)
  refine lv_if_ne (tgt := 86) hx hb d_GP_kind_73 (by decide) (fun c1 => ?_) (fun c1 => ?_)
  · rw [if_neg c1] at hf
    cases hf
  rw [if_pos c1] at hf
  exact q_throw (tx := "there are 256 ranges already") hC hlk hl0 hex hZ hf rfl ex_IllegalStateException_142_146 (by decide +kernel) hS hl.1 (Nat.le_of_ble_eq_true rfl) (Nat.le_of_ble_eq_true rfl) (Nat.le_of_ble_eq_true rfl) (Nat.le_of_ble_eq_true rfl) d_GP_kind_76 d_GP_kind_79 d_GP_kind_80 d_GP_kind_82 d_GP_kind_85
def xTags_tell_p_37 (N : Nat) (st : QSt) (x1_37 x2_37 x3_37 : Int32) : Option Int32 :=
  none
def xTags_tell_p (N : Nat) (x1 x2 : Int32) (st : QSt) : Option Int32 :=
  q_bn (xTags_find N x1 st) (fun r1 => if r1 = (-1) then (if (st.1 7) < 20 then (q_lt (st.1 7) (fun x3_1002 => none)) else (some 0)) else (xTags_tell_p_37 N st x1 x2 r1))
set_option maxHeartbeats 4000000 in
set_option maxRecDepth 100000 in
theorem c_xTags_tell_p (l : Launch) (G : XG) {N : Nat} {x1 x2 : Int32} {st : QSt} {ro : Int32} (hf : xTags_tell_p N x1 x2 st = some ro) : q_Mp l y_Tags_tell b_Tags_tell 4 .boolean ({ frames := 1, cells := 0, slots := 0, locals := 22 } : Room) G.1 (xT G) (wX G) [.ref (G.2.2 11), .int x1, .int x2] st ro := by
  refine q_Mp_of (by decide) (Nat.le_of_ble_eq_true rfl) (wX_fst G) ?_
  intro p e s m args below meth c ls hC hr hlk hT hP hS hl
  have hx := hC.1.1
  have hb := hC.1.2.1
  have hown := hC.1.2.2.2.1
  have hts := hC.1.2.2.2.2
  have hl : lv_has ls 4 [(0, .ref (G.2.2 11)), (1, .int x1), (2, .int x2)] := hl
  have J_37 : ∀ (x1_37 x2_37 x3_37 : Int32) (H : Heap) (locs : List Loc) (ls : Array Slot), xTags_tell_p_37 N st x1_37 x2_37 x3_37 = some ro → va_P G.1 vwCl (wX G st) H → va_S (fun _ => False) s.heap H locs → lv_has ls 4 [(0, .ref (G.2.2 11)), (1, .int x1_37), (2, .int x2_37), (3, .int x3_37)] → W p l e ({ frames := 1, cells := 0, slots := 0, locals := 22 } : Room) s m args below meth c H locs 0 0 (q_Zp below args s ro) (F0 m 37 ls []) := by
    intro x1_37 x2_37 x3_37 H locs ls hf hP hS hl
    unfold xTags_tell_p_37 at hf
    refine lv_aload_n hx hb d_Tags_tell_37 rfl (lv_at hl 0 rfl) ?_
    refine xg_11_tag hC hP wq_48 d_Tags_tell_38 ?_
    refine lv_iload_n hx hb d_Tags_tell_41 rfl (lv_at hl 3 rfl) ?_
    refine lv_iload_n hx hb d_Tags_tell_42 rfl (lv_at hl 1 rfl) ?_
    cases hf
  unfold xTags_tell_p at hf
  refine lv_aload_n hx hb d_Tags_tell_0 rfl (lv_at hl 0 rfl) ?_
  refine lv_iload_n hx hb d_Tags_tell_1 rfl (lv_at hl 1 rfl) ?_
  obtain ⟨r1, h_r1, hf⟩ := q_bn_some hf
  refine q_callVp (As := [.int x1]) (rest := []) (q0 := 11) hC (c_xTags_find l G h_r1) cal_Tags_find wq_50 ⟨rfl, rfl, Nat.le_of_ble_eq_true rfl, Nat.le_of_ble_eq_true rfl⟩ rfl rfl hP hT hS rfl hl.1 rfl (Nat.le_of_ble_eq_true rfl) d_Tags_tell_2 (fun H locs hP hS => ?_)
  refine lv_istore_n (lv' := [(3, .int r1), (0, .ref (G.2.2 11)), (1, .int x1), (2, .int x2)]) hx hb d_Tags_tell_5 rfl hl (by decide) rfl (fun ls hl => ?_)
  refine lv_iload_n hx hb d_Tags_tell_6 rfl (lv_at hl 0 rfl) ?_
  refine lv_iconst (v := (-1)) hx hb d_Tags_tell_7 (by decide) ?_
  refine lv_icmp_ne (tgt := 37) hx hb d_Tags_tell_8 (by decide) (fun c1 => ?_) (fun c1 => ?_)
  · rw [if_neg c1] at hf
    exact J_37 _ _ _ _ _ _ hf hP hS (lv_sub hl [1, 2, 3, 0] rfl)
  rw [if_pos c1] at hf
  refine lv_aload_n hx hb d_Tags_tell_11 rfl (lv_at hl 1 rfl) ?_
  refine xg_11_count hC hP wq_47 d_Tags_tell_12 ?_
  refine lv_bipush (v := 20) hx hb d_Tags_tell_15 (by decide) ?_
  refine lv_icmp_lt (tgt := 22) hx hb d_Tags_tell_17 (by decide) (fun c1 => ?_) (fun c1 => ?_)
  rotate_left
  · rw [if_neg c1] at hf
    refine lv_iconst (v := 0) hx hb d_Tags_tell_20 (by decide) ?_
    exact q_iretP hC hr hlk hf (by first | rfl | decide) hS d_Tags_tell_21
  rw [if_pos c1] at hf
  refine lv_aload_n hx hb d_Tags_tell_22 rfl (lv_at hl 1 rfl) ?_
  refine xg_11_count hC hP wq_47 d_Tags_tell_23 ?_
  obtain ⟨x3_1002, e_x3_1002, hf⟩ := q_lt_some hf
  refine q_topi e_x3_1002 ?_
  refine lv_istore_n (lv' := [(3, .int x3_1002), (0, .ref (G.2.2 11)), (1, .int x1), (2, .int x2)]) hx hb d_Tags_tell_26 rfl hl (by decide) rfl (fun ls hl => ?_)
  refine lv_aload_n hx hb d_Tags_tell_27 rfl (lv_at hl 1 rfl) ?_
  refine lv_dup hx hb d_Tags_tell_28 rfl ?_
  refine xg_11_count hC hP wq_47 d_Tags_tell_29 ?_
  refine lv_iconst (v := 1) hx hb d_Tags_tell_32 (by decide) ?_
  refine lv_iadd hx hb d_Tags_tell_33 ?_
  cases hf
def xGlyphPositions_feature_t (N : Nat) (x1 x2 : Int32) (st : QSt) : Option Nat :=
  q_bn (xTags_tell_p N x1 x2 st) (fun r1 => if r1 = 0 then (some 3) else (none))
set_option maxHeartbeats 4000000 in
set_option maxRecDepth 100000 in
theorem c_xGlyphPositions_feature_t (l : Launch) (hl0 : l.stackTraces = false) (G : XG) {N : Nat} {x1 x2 : Int32} {st : QSt} {ro : Nat} (hf : xGlyphPositions_feature_t N x1 x2 st = some ro) : q_Mx l y_GP_feature b_GP_feature 3 none ({ frames := 7, cells := 1, slots := 6, locals := 120 } : Room) G.1 (xT G) (wX G) [.ref (G.2.2 0), .int x1, .int x2] st (q_exn ro) := by
  refine q_Mx_of (by decide) (Nat.le_of_ble_eq_true rfl) (wX_fst G) ?_
  intro p e s m args below meth c ls hC hlk hex hZ hT hP hS hl
  have hx := hC.1.1
  have hb := hC.1.2.1
  have hown := hC.1.2.2.2.1
  have hts := hC.1.2.2.2.2
  have hl : lv_has ls 3 [(0, .ref (G.2.2 0)), (1, .int x1), (2, .int x2)] := hl
  unfold xGlyphPositions_feature_t at hf
  refine lv_aload_n hx hb d_GP_feature_0 rfl (lv_at hl 0 rfl) ?_
  refine xg_0_tags hC hP wq_519 d_GP_feature_1 ?_
  refine lv_iload_n hx hb d_GP_feature_4 rfl (lv_at hl 1 rfl) ?_
  refine lv_iload_n hx hb d_GP_feature_5 rfl (lv_at hl 2 rfl) ?_
  obtain ⟨r1, h_r1, hf⟩ := q_bn_some hf
  refine q_callVp (As := [.int x1, .int x2]) (rest := []) (q0 := 11) hC (c_xTags_tell_p l G h_r1) cal_Tags_tell wq_520 ⟨rfl, rfl, Nat.le_of_ble_eq_true rfl, Nat.le_of_ble_eq_true rfl⟩ rfl rfl hP hT hS rfl hl.1 rfl (Nat.le_of_ble_eq_true rfl) d_GP_feature_6 (fun H locs hP hS => ?_)
  refine lv_if_ne (tgt := 22) hx hb d_GP_feature_9 (by decide) (fun c1 => ?_) (fun c1 => ?_)
  · rw [if_neg c1] at hf
    cases hf
  rw [if_pos c1] at hf
  exact q_throw (tx := "20 tags were told already") hC hlk hl0 hex hZ hf rfl ex_IllegalStateException_142_146 (by decide +kernel) hS hl.1 (Nat.le_of_ble_eq_true rfl) (Nat.le_of_ble_eq_true rfl) (Nat.le_of_ble_eq_true rfl) (Nat.le_of_ble_eq_true rfl) d_GP_feature_12 d_GP_feature_15 d_GP_feature_16 d_GP_feature_18 d_GP_feature_21
def xTold_append_p (x1 x2 x3 : Int32) (st : QSt) : Option Int32 :=
  if (st.1 8) < 800 then (none) else (some 0)
set_option maxHeartbeats 4000000 in
set_option maxRecDepth 100000 in
theorem c_xTold_append_p (l : Launch) (G : XG) {x1 x2 x3 : Int32} {st : QSt} {ro : Int32} (hf : xTold_append_p x1 x2 x3 st = some ro) : q_Mp l y_Told_append b_Told_append 4 .boolean ({ frames := 0, cells := 0, slots := 0, locals := 0 } : Room) G.1 (xT G) (wX G) [.ref (G.2.2 14), .int x1, .int x2, .int x3] st ro := by
  refine q_Mp_of (by decide) (Nat.le_of_ble_eq_true rfl) (wX_fst G) ?_
  intro p e s m args below meth c ls hC hr hlk hT hP hS hl
  have hx := hC.1.1
  have hb := hC.1.2.1
  have hown := hC.1.2.2.2.1
  have hts := hC.1.2.2.2.2
  have hl : lv_has ls 4 [(0, .ref (G.2.2 14)), (1, .int x1), (2, .int x2), (3, .int x3)] := hl
  unfold xTold_append_p at hf
  refine lv_aload_n hx hb d_Told_append_0 rfl (lv_at hl 0 rfl) ?_
  refine xg_14_count hC hP wq_51 d_Told_append_1 ?_
  refine lv_sipush (v := 800) hx hb d_Told_append_4 (by decide) ?_
  refine lv_icmp_lt (tgt := 12) hx hb d_Told_append_7 (by decide) (fun c1 => ?_) (fun c1 => ?_)
  rotate_left
  · rw [if_neg c1] at hf
    refine lv_iconst (v := 0) hx hb d_Told_append_10 (by decide) ?_
    exact q_iretP hC hr hlk hf (by first | rfl | decide) hS d_Told_append_11
  rw [if_pos c1] at hf
  refine lv_aload_n hx hb d_Told_append_12 rfl (lv_at hl 0 rfl) ?_
  refine xg_14_glyph hC hP wq_52 d_Told_append_13 ?_
  refine lv_aload_n hx hb d_Told_append_16 rfl (lv_at hl 0 rfl) ?_
  refine xg_14_count hC hP wq_51 d_Told_append_17 ?_
  refine lv_iload_n hx hb d_Told_append_20 rfl (lv_at hl 1 rfl) ?_
  cases hf
def xGlyphPositions_add_t_24 (st : QSt) : Option Nat :=
  some 2
def xGlyphPositions_add_t (x1 x2 x3 : Int32) (st : QSt) : Option Nat :=
  q_bn (xGlyphPositions_isU16 x1) (fun r1 => if r1 = 0 then (xGlyphPositions_add_t_24 st) else (q_bn (xGlyphPositions_isU16 x2) (fun r2 => if r2 = 0 then (xGlyphPositions_add_t_24 st) else (if x3 < 0 then (xGlyphPositions_add_t_24 st) else (if x3 ≤ 16 then (q_bn (xTold_append_p x1 x2 x3 st) (fun r3 => if r3 = 0 then (some 3) else (none))) else (xGlyphPositions_add_t_24 st))))))
set_option maxHeartbeats 4000000 in
set_option maxRecDepth 100000 in
theorem c_xGlyphPositions_add_t (l : Launch) (hl0 : l.stackTraces = false) (G : XG) {x1 x2 x3 : Int32} {st : QSt} {ro : Nat} (hf : xGlyphPositions_add_t x1 x2 x3 st = some ro) : q_Mx l y_GP_add b_GP_add 4 (some .int) ({ frames := 7, cells := 1, slots := 6, locals := 120 } : Room) G.1 (xT G) (wX G) [.ref (G.2.2 0), .int x1, .int x2, .int x3] st (q_exn ro) := by
  refine q_Mx_of (by decide) (Nat.le_of_ble_eq_true rfl) (wX_fst G) ?_
  intro p e s m args below meth c ls hC hlk hex hZ hT hP hS hl
  have hx := hC.1.1
  have hb := hC.1.2.1
  have hown := hC.1.2.2.2.1
  have hts := hC.1.2.2.2.2
  have hl : lv_has ls 4 [(0, .ref (G.2.2 0)), (1, .int x1), (2, .int x2), (3, .int x3)] := hl
  have J_24 : ∀ (H : Heap) (locs : List Loc) (ls : Array Slot), xGlyphPositions_add_t_24 st = some ro → va_P G.1 vwCl (wX G st) H → va_S (fun _ => False) s.heap H locs → lv_has ls 4 [] → W p l e ({ frames := 7, cells := 1, slots := 6, locals := 120 } : Room) s m args below meth c H locs 0 0 (q_Zx below args s (q_exn ro)) (F0 m 24 ls []) := by
    intro H locs ls hf hP hS hl
    unfold xGlyphPositions_add_t_24 at hf
    exact q_throw (tx := "no glyph, no width, or no part") hC hlk hl0 hex hZ hf rfl ex_IllegalArgumentException_93_97 (by decide +kernel) hS hl.1 (Nat.le_of_ble_eq_true rfl) (Nat.le_of_ble_eq_true rfl) (Nat.le_of_ble_eq_true rfl) (Nat.le_of_ble_eq_true rfl) d_GP_add_24 d_GP_add_27 d_GP_add_28 d_GP_add_30 d_GP_add_33
  unfold xGlyphPositions_add_t at hf
  refine lv_iload_n hx hb d_GP_add_0 rfl (lv_at hl 1 rfl) ?_
  obtain ⟨r1, h_r1, hf⟩ := q_bn_some hf
  refine q_callSp (As := [.int x1]) (rest := []) hC (c_xGlyphPositions_isU16 l G h_r1) cal_GP_isU16 wq_513 ⟨rfl, rfl, Nat.le_of_ble_eq_true rfl, Nat.le_of_ble_eq_true rfl⟩ hP hT hS rfl hl.1 rfl (Nat.le_of_ble_eq_true rfl) d_GP_add_1 (fun H locs hP hS => ?_)
  refine lv_if_eq (tgt := 24) hx hb d_GP_add_4 (by decide) (fun c1 => ?_) (fun c1 => ?_)
  · rw [if_pos c1] at hf
    exact J_24 _ _ _ hf hP hS (lv_sub hl [] rfl)
  rw [if_neg c1] at hf
  refine lv_iload_n hx hb d_GP_add_7 rfl (lv_at hl 2 rfl) ?_
  obtain ⟨r2, h_r2, hf⟩ := q_bn_some hf
  refine q_callSp (As := [.int x2]) (rest := []) hC (c_xGlyphPositions_isU16 l G h_r2) cal_GP_isU16 wq_513 ⟨rfl, rfl, Nat.le_of_ble_eq_true rfl, Nat.le_of_ble_eq_true rfl⟩ hP hT hS rfl hl.1 rfl (Nat.le_of_ble_eq_true rfl) d_GP_add_8 (fun H locs hP hS => ?_)
  refine lv_if_eq (tgt := 24) hx hb d_GP_add_11 (by decide) (fun c1 => ?_) (fun c1 => ?_)
  · rw [if_pos c1] at hf
    exact J_24 _ _ _ hf hP hS (lv_sub hl [] rfl)
  rw [if_neg c1] at hf
  refine lv_iload_n hx hb d_GP_add_14 rfl (lv_at hl 3 rfl) ?_
  refine lv_if_lt (tgt := 24) hx hb d_GP_add_15 (by decide) (fun c1 => ?_) (fun c1 => ?_)
  · rw [if_pos c1] at hf
    exact J_24 _ _ _ hf hP hS (lv_sub hl [] rfl)
  rw [if_neg c1] at hf
  refine lv_iload_n hx hb d_GP_add_18 rfl (lv_at hl 3 rfl) ?_
  refine lv_bipush (v := 16) hx hb d_GP_add_19 (by decide) ?_
  refine lv_icmp_le (tgt := 34) hx hb d_GP_add_21 (by decide) (fun c1 => ?_) (fun c1 => ?_)
  rotate_left
  · rw [if_neg c1] at hf
    exact J_24 _ _ _ hf hP hS (lv_sub hl [] rfl)
  rw [if_pos c1] at hf
  refine lv_aload_n hx hb d_GP_add_34 rfl (lv_at hl 0 rfl) ?_
  refine xg_0_told hC hP wq_521 d_GP_add_35 ?_
  refine lv_iload_n hx hb d_GP_add_38 rfl (lv_at hl 1 rfl) ?_
  refine lv_iload_n hx hb d_GP_add_39 rfl (lv_at hl 2 rfl) ?_
  refine lv_iload_n hx hb d_GP_add_40 rfl (lv_at hl 3 rfl) ?_
  obtain ⟨r3, h_r3, hf⟩ := q_bn_some hf
  refine q_callVp (As := [.int x1, .int x2, .int x3]) (rest := []) (q0 := 14) hC (c_xTold_append_p l G h_r3) cal_Told_append wq_522 ⟨rfl, rfl, Nat.le_of_ble_eq_true rfl, Nat.le_of_ble_eq_true rfl⟩ rfl rfl hP hT hS rfl hl.1 rfl (Nat.le_of_ble_eq_true rfl) d_GP_add_41 (fun H locs hP hS => ?_)
  refine lv_if_ne (tgt := 57) hx hb d_GP_add_44 (by decide) (fun c1 => ?_) (fun c1 => ?_)
  rotate_left
  · rw [if_pos c1] at hf
    exact q_throw (tx := "there are 800 glyphs already") hC hlk hl0 hex hZ hf rfl ex_IllegalStateException_142_146 (by decide +kernel) hS hl.1 (Nat.le_of_ble_eq_true rfl) (Nat.le_of_ble_eq_true rfl) (Nat.le_of_ble_eq_true rfl) (Nat.le_of_ble_eq_true rfl) d_GP_add_47 d_GP_add_50 d_GP_add_51 d_GP_add_53 d_GP_add_56
  rw [if_neg c1] at hf
  refine lv_aload_n hx hb d_GP_add_57 rfl (lv_at hl 0 rfl) ?_
  refine xg_0_told hC hP wq_521 d_GP_add_58 ?_
  refine xgN_14_count hC hP wq_523 d_GP_add_61 ?_
  cases hf
def xGlyphPositions_set_t (N : Nat) (x1 : Int32) (st : QSt) : Option Nat :=
  if (st.1 0) = 0 then (some 3) else (none)
set_option maxHeartbeats 4000000 in
set_option maxRecDepth 100000 in
theorem c_xGlyphPositions_set_t (l : Launch) (hl0 : l.stackTraces = false) (G : XG) {N : Nat} {x1 : Int32} {st : QSt} {ro : Nat} (hf : xGlyphPositions_set_t N x1 st = some ro) : q_Mx l y_GP_set b_GP_set 3 (some .int) ({ frames := 7, cells := 1, slots := 6, locals := 120 } : Room) G.1 (xT G) (wX G) [.ref (G.2.2 0), .int x1] st (q_exn ro) := by
  refine q_Mx_of (by decide) (Nat.le_of_ble_eq_true rfl) (wX_fst G) ?_
  intro p e s m args below meth c ls hC hlk hex hZ hT hP hS hl
  have hx := hC.1.1
  have hb := hC.1.2.1
  have hown := hC.1.2.2.2.1
  have hts := hC.1.2.2.2.2
  have hl : lv_has ls 3 [(0, .ref (G.2.2 0)), (1, .int x1)] := hl
  unfold xGlyphPositions_set_t at hf
  refine lv_aload_n hx hb d_GP_set_0 rfl (lv_at hl 0 rfl) ?_
  refine xg_0_loaded hC hP wq_510 d_GP_set_1 ?_
  refine lv_if_ne (tgt := 17) hx hb d_GP_set_4 (by decide) (fun c1 => ?_) (fun c1 => ?_)
  rotate_left
  · rw [if_pos c1] at hf
    exact q_throw (tx := "no table is loaded") hC hlk hl0 hex hZ hf rfl ex_IllegalStateException_142_146 (by decide +kernel) hS hl.1 (Nat.le_of_ble_eq_true rfl) (Nat.le_of_ble_eq_true rfl) (Nat.le_of_ble_eq_true rfl) (Nat.le_of_ble_eq_true rfl) d_GP_set_7 d_GP_set_10 d_GP_set_11 d_GP_set_13 d_GP_set_16
  rw [if_neg c1] at hf
  refine lv_aload_n hx hb d_GP_set_17 rfl (lv_at hl 0 rfl) ?_
  refine xg_0_run hC hP wq_525 d_GP_set_18 ?_
  refine lv_aload_n hx hb d_GP_set_21 rfl (lv_at hl 0 rfl) ?_
  refine xg_0_told hC hP wq_521 d_GP_set_22 ?_
  cases hf
def xGlyphPositions_place_t_15 (N : Nat) (st : QSt) : Option Nat :=
  some 1
def xGlyphPositions_place_t (N : Nat) (x1 x2 : Int32) (st : QSt) : Option Nat :=
  if x1 < 0 then (xGlyphPositions_place_t_15 N st) else (if x1 < (st.1 9) then (if x2 = 0 then (q_grd (q_vpb x1 800) (q_lt (st.2 12 x1.toNatClampNeg) (fun v7 => none))) else (if x2 = 1 then (q_grd (q_vpb x1 800) (q_lt (st.2 13 x1.toNatClampNeg) (fun v6 => none))) else (if x2 = 2 then (q_grd (q_vpb x1 800) (q_lt (st.2 14 x1.toNatClampNeg) (fun v5 => none))) else (if x2 = 3 then (q_grd (q_vpb x1 800) (q_lt (st.2 15 x1.toNatClampNeg) (fun v4 => none))) else (if x2 = 4 then (q_bn (xRun_widthsBefore N x1 st) (fun r2 => q_grd (q_vpb x1 800) (q_lt (st.2 14 x1.toNatClampNeg) (fun v3 => none)))) else (if x2 = 5 then (q_grd (q_vpb x1 800) (q_lt (st.2 16 x1.toNatClampNeg) (fun v1 => none))) else (some 1))))))) else (xGlyphPositions_place_t_15 N st))
set_option maxHeartbeats 4000000 in
set_option maxRecDepth 100000 in
theorem c_xGlyphPositions_place_t (l : Launch) (hl0 : l.stackTraces = false) (G : XG) {N : Nat} {x1 x2 : Int32} {st : QSt} {ro : Nat} (hf : xGlyphPositions_place_t N x1 x2 st = some ro) : q_Mx l y_GP_place b_GP_place 3 (some .int) ({ frames := 7, cells := 1, slots := 6, locals := 120 } : Room) G.1 (xT G) (wX G) [.ref (G.2.2 0), .int x1, .int x2] st (q_exn ro) := by
  refine q_Mx_of (by decide) (Nat.le_of_ble_eq_true rfl) (wX_fst G) ?_
  intro p e s m args below meth c ls hC hlk hex hZ hT hP hS hl
  have hx := hC.1.1
  have hb := hC.1.2.1
  have hown := hC.1.2.2.2.1
  have hts := hC.1.2.2.2.2
  have hl : lv_has ls 3 [(0, .ref (G.2.2 0)), (1, .int x1), (2, .int x2)] := hl
  have J_15 : ∀ (H : Heap) (locs : List Loc) (ls : Array Slot), xGlyphPositions_place_t_15 N st = some ro → va_P G.1 vwCl (wX G st) H → va_S (fun _ => False) s.heap H locs → lv_has ls 3 [] → W p l e ({ frames := 7, cells := 1, slots := 6, locals := 120 } : Room) s m args below meth c H locs 0 0 (q_Zx below args s (q_exn ro)) (F0 m 15 ls []) := by
    intro H locs ls hf hP hS hl
    unfold xGlyphPositions_place_t_15 at hf
    exact q_throw (tx := "the run set last has no such glyph") hC hlk hl0 hex hZ hf rfl ex_IndexOutOfBoundsException_86_90 (by decide +kernel) hS hl.1 (Nat.le_of_ble_eq_true rfl) (Nat.le_of_ble_eq_true rfl) (Nat.le_of_ble_eq_true rfl) (Nat.le_of_ble_eq_true rfl) d_GP_place_15 d_GP_place_18 d_GP_place_19 d_GP_place_21 d_GP_place_24
  unfold xGlyphPositions_place_t at hf
  refine lv_iload_n hx hb d_GP_place_0 rfl (lv_at hl 1 rfl) ?_
  refine lv_if_lt (tgt := 15) hx hb d_GP_place_1 (by decide) (fun c1 => ?_) (fun c1 => ?_)
  · rw [if_pos c1] at hf
    exact J_15 _ _ _ hf hP hS (lv_sub hl [] rfl)
  rw [if_neg c1] at hf
  refine lv_iload_n hx hb d_GP_place_4 rfl (lv_at hl 1 rfl) ?_
  refine lv_aload_n hx hb d_GP_place_5 rfl (lv_at hl 0 rfl) ?_
  refine xg_0_run hC hP wq_525 d_GP_place_6 ?_
  refine xgN_20_count hC hP wq_527 d_GP_place_9 ?_
  refine lv_icmp_lt (tgt := 25) hx hb d_GP_place_12 (by decide) (fun c1 => ?_) (fun c1 => ?_)
  rotate_left
  · rw [if_neg c1] at hf
    exact J_15 _ _ _ hf hP hS (lv_sub hl [] rfl)
  rw [if_pos c1] at hf
  refine lv_iload_n hx hb d_GP_place_25 rfl (lv_at hl 2 rfl) ?_
  by_cases c0 : x2 = 0
  · rw [if_pos c0] at hf
    refine lv_tableIn (tgt := 64) hx hb d_GP_place_26 (by rw [c0]; decide) (by rw [c0]; decide) (by rw [c0]; rfl) (by decide) ?_
    refine lv_aload_n hx hb d_GP_place_64 rfl (lv_at hl 0 rfl) ?_
    refine xg_0_run hC hP wq_525 d_GP_place_65 ?_
    refine xgN_20_width hC hP wq_535 d_GP_place_68 ?_
    refine lv_iload_n hx hb d_GP_place_71 rfl (lv_at hl 1 rfl) ?_
    obtain ⟨hi, hf⟩ := q_grd_some hf
    obtain ⟨v7, e_v7, hf⟩ := q_lt_some hf
    refine xl_21 hC hP e_v7 hi d_GP_place_72 ?_
    cases hf
  rw [if_neg c0] at hf
  by_cases c1 : x2 = 1
  · rw [if_pos c1] at hf
    refine lv_tableIn (tgt := 74) hx hb d_GP_place_26 (by rw [c1]; decide) (by rw [c1]; decide) (by rw [c1]; rfl) (by decide) ?_
    refine lv_aload_n hx hb d_GP_place_74 rfl (lv_at hl 0 rfl) ?_
    refine xg_0_run hC hP wq_525 d_GP_place_75 ?_
    refine xgN_20_higher hC hP wq_536 d_GP_place_78 ?_
    refine lv_iload_n hx hb d_GP_place_81 rfl (lv_at hl 1 rfl) ?_
    obtain ⟨hi, hf⟩ := q_grd_some hf
    obtain ⟨v6, e_v6, hf⟩ := q_lt_some hf
    refine xl_22 hC hP e_v6 hi d_GP_place_82 ?_
    cases hf
  rw [if_neg c1] at hf
  by_cases c2 : x2 = 2
  · rw [if_pos c2] at hf
    refine lv_tableIn (tgt := 84) hx hb d_GP_place_26 (by rw [c2]; decide) (by rw [c2]; decide) (by rw [c2]; rfl) (by decide) ?_
    refine lv_aload_n hx hb d_GP_place_84 rfl (lv_at hl 0 rfl) ?_
    refine xg_0_run hC hP wq_525 d_GP_place_85 ?_
    refine xgN_20_right hC hP wq_537 d_GP_place_88 ?_
    refine lv_iload_n hx hb d_GP_place_91 rfl (lv_at hl 1 rfl) ?_
    obtain ⟨hi, hf⟩ := q_grd_some hf
    obtain ⟨v5, e_v5, hf⟩ := q_lt_some hf
    refine xl_23 hC hP e_v5 hi d_GP_place_92 ?_
    cases hf
  rw [if_neg c2] at hf
  by_cases c3 : x2 = 3
  · rw [if_pos c3] at hf
    refine lv_tableIn (tgt := 94) hx hb d_GP_place_26 (by rw [c3]; decide) (by rw [c3]; decide) (by rw [c3]; rfl) (by decide) ?_
    refine lv_aload_n hx hb d_GP_place_94 rfl (lv_at hl 0 rfl) ?_
    refine xg_0_run hC hP wq_525 d_GP_place_95 ?_
    refine xgN_20_up hC hP wq_538 d_GP_place_98 ?_
    refine lv_iload_n hx hb d_GP_place_101 rfl (lv_at hl 1 rfl) ?_
    obtain ⟨hi, hf⟩ := q_grd_some hf
    obtain ⟨v4, e_v4, hf⟩ := q_lt_some hf
    refine xl_24 hC hP e_v4 hi d_GP_place_102 ?_
    cases hf
  rw [if_neg c3] at hf
  by_cases c4 : x2 = 4
  · rw [if_pos c4] at hf
    refine lv_tableIn (tgt := 104) hx hb d_GP_place_26 (by rw [c4]; decide) (by rw [c4]; decide) (by rw [c4]; rfl) (by decide) ?_
    refine lv_aload_n hx hb d_GP_place_104 rfl (lv_at hl 0 rfl) ?_
    refine xg_0_run hC hP wq_525 d_GP_place_105 ?_
    refine lv_iload_n hx hb d_GP_place_108 rfl (lv_at hl 1 rfl) ?_
    obtain ⟨r2, h_r2, hf⟩ := q_bn_some hf
    refine q_callVp (As := [.int x1]) (rest := []) (q0 := 20) hC (c_xRun_widthsBefore l G h_r2) cal_Run_widthsBefore wq_539 ⟨rfl, rfl, Nat.le_of_ble_eq_true rfl, Nat.le_of_ble_eq_true rfl⟩ rfl rfl hP hT hS rfl hl.1 rfl (Nat.le_of_ble_eq_true rfl) d_GP_place_109 (fun H locs hP hS => ?_)
    refine lv_aload_n hx hb d_GP_place_112 rfl (lv_at hl 0 rfl) ?_
    refine xg_0_run hC hP wq_525 d_GP_place_113 ?_
    refine xgN_20_right hC hP wq_537 d_GP_place_116 ?_
    refine lv_iload_n hx hb d_GP_place_119 rfl (lv_at hl 1 rfl) ?_
    obtain ⟨hi, hf⟩ := q_grd_some hf
    obtain ⟨v3, e_v3, hf⟩ := q_lt_some hf
    refine xl_23 hC hP e_v3 hi d_GP_place_120 ?_
    refine lv_iadd hx hb d_GP_place_121 ?_
    cases hf
  rw [if_neg c4] at hf
  by_cases c5 : x2 = 5
  · rw [if_pos c5] at hf
    refine lv_tableIn (tgt := 123) hx hb d_GP_place_26 (by rw [c5]; decide) (by rw [c5]; decide) (by rw [c5]; rfl) (by decide) ?_
    refine lv_aload_n hx hb d_GP_place_123 rfl (lv_at hl 0 rfl) ?_
    refine xg_0_run hC hP wq_525 d_GP_place_124 ?_
    refine xgN_20_hangsOn hC hP wq_540 d_GP_place_127 ?_
    refine lv_iload_n hx hb d_GP_place_130 rfl (lv_at hl 1 rfl) ?_
    obtain ⟨hi, hf⟩ := q_grd_some hf
    obtain ⟨v1, e_v1, hf⟩ := q_lt_some hf
    refine xl_25 hC hP e_v1 hi d_GP_place_131 ?_
    cases hf
  rw [if_neg c5] at hf
  refine lv_tableOut (tgt := 133) hx hb d_GP_place_26 (by have z0 := True.intro; have z1 : (x2).toInt ≠ 0 := q_ine c0; have z2 : (x2).toInt ≠ 1 := q_ine c1; have z3 : (x2).toInt ≠ 2 := q_ine c2; have z4 : (x2).toInt ≠ 3 := q_ine c3; have z5 : (x2).toInt ≠ 4 := q_ine c4; have z6 : (x2).toInt ≠ 5 := q_ine c5; omega) (by decide) ?_
  exact q_throw (tx := "what is asked is 0 .. 5") hC hlk hl0 hex hZ hf rfl ex_IndexOutOfBoundsException_86_90 (by decide +kernel) hS hl.1 (Nat.le_of_ble_eq_true rfl) (Nat.le_of_ble_eq_true rfl) (Nat.le_of_ble_eq_true rfl) (Nat.le_of_ble_eq_true rfl) d_GP_place_133 d_GP_place_136 d_GP_place_137 d_GP_place_139 d_GP_place_142
