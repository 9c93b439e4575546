def xGlyphPositionsModel_need_17 (w1_17 : Int32) (st_17 : QSt) : Option QSt :=
  q_grd (q_isb w1_17) (q_lt (q_ps st_17 14 w1_17) (fun s1 => some s1))
def xGlyphPositionsModel_need_12 (st_12 : QSt) : Option QSt :=
  xGlyphPositionsModel_need_17 1 st_12
def xGlyphPositionsModel_need (x1 : Int32) (st : QSt) : Option QSt :=
  if (st.1 14) = 0 then (if x1 = 0 then (xGlyphPositionsModel_need_12 st) else (xGlyphPositionsModel_need_17 0 st)) else (xGlyphPositionsModel_need_12 st)
set_option maxHeartbeats 4000000 in
set_option maxRecDepth 100000 in
theorem c_xGlyphPositionsModel_need (l : Launch) (G : XG) {x1 : Int32} {st : QSt} {so : QSt} (hf : xGlyphPositionsModel_need x1 st = some so) : q_Mv l y_GlyphPositionsModel_need b_GlyphPositionsModel_need 2 ({ frames := 0, cells := 0, slots := 0, locals := 0 } : Room) G.1 (xT G) (wX G) [.ref (G.2.2 36), .int x1] st so := by
  refine q_Mv_of (by decide) (Nat.le_of_ble_eq_true rfl) (wX_fst G) ?_
  intro p e s m args below meth c A ls hC hr hlk hT hD hA hP hS hl
  have hx := hC.1.1
  have hb := hC.1.2.1
  have hown := hC.1.2.2.2.1
  have hts := hC.1.2.2.2.2
  have hl : lv_has ls 2 [(0, .ref (G.2.2 36)), (1, .int x1)] := hl
  have J_17 : ∀ (w1_17 : Int32) (st_17 : QSt) (H : Heap) (locs : List Loc) (ls : Array Slot), xGlyphPositionsModel_need_17 w1_17 st_17 = some so → va_P G.1 vwCl (wX G st_17) H → va_S A s.heap H locs → lv_has ls 2 [] → W p l e ({ frames := 0, cells := 0, slots := 0, locals := 0 } : Room) s m args below meth c H locs 0 0 (q_Zv below args s G.1 (wX G) so A) (F0 m 17 ls [.int w1_17, .ref (G.2.2 36)]) := by
    intro w1_17 st_17 H locs ls hf hP hS hl
    unfold xGlyphPositionsModel_need_17 at hf
    obtain ⟨hi, hf⟩ := q_grd_some hf
    obtain ⟨s1, e_s1, hf⟩ := q_lt_some hf
    refine xp_36_bad hC hP hD hS e_s1 hi wq_147 d_GlyphPositionsModel_need_17 (fun H locs hP hS => ?_)
    exact q_vret hC hr hlk hf hP hS d_GlyphPositionsModel_need_20
  have J_12 : ∀ (st_12 : QSt) (H : Heap) (locs : List Loc) (ls : Array Slot), xGlyphPositionsModel_need_12 st_12 = some so → va_P G.1 vwCl (wX G st_12) H → va_S A s.heap H locs → lv_has ls 2 [] → W p l e ({ frames := 0, cells := 0, slots := 0, locals := 0 } : Room) s m args below meth c H locs 0 0 (q_Zv below args s G.1 (wX G) so A) (F0 m 12 ls [.ref (G.2.2 36)]) := by
    intro st_12 H locs ls hf hP hS hl
    unfold xGlyphPositionsModel_need_12 at hf
    refine lv_iconst (v := 1) hx hb d_GlyphPositionsModel_need_12 (by decide) ?_
    refine lv_goto (tgt := 17) hx hb d_GlyphPositionsModel_need_13 (by decide) ?_
    exact J_17 _ _ _ _ _ hf hP hS hl
  unfold xGlyphPositionsModel_need at hf
  refine lv_aload_n hx hb d_GlyphPositionsModel_need_0 rfl (lv_at hl 0 rfl) ?_
  refine lv_aload_n hx hb d_GlyphPositionsModel_need_1 rfl (lv_at hl 0 rfl) ?_
  refine xg_36_bad hC hP wq_147 d_GlyphPositionsModel_need_2 ?_
  refine lv_if_ne (tgt := 12) hx hb d_GlyphPositionsModel_need_5 (by decide) (fun c1 => ?_) (fun c1 => ?_)
  · rw [if_neg c1] at hf
    exact J_12 _ _ _ _ hf hP hS (lv_sub hl [] rfl)
  rw [if_pos c1] at hf
  refine lv_iload_n hx hb d_GlyphPositionsModel_need_8 rfl (lv_at hl 1 rfl) ?_
  refine lv_if_ne (tgt := 16) hx hb d_GlyphPositionsModel_need_9 (by decide) (fun c1 => ?_) (fun c1 => ?_)
  rotate_left
  · rw [if_pos c1] at hf
    exact J_12 _ _ _ _ hf hP hS (lv_sub hl [] rfl)
  rw [if_neg c1] at hf
  refine lv_iconst (v := 0) hx hb d_GlyphPositionsModel_need_16 (by decide) ?_
  exact J_17 _ _ _ _ _ hf hP hS (lv_sub hl [] rfl)
def xGlyphPositionsModel_u16_25 (x1_25 : Int64) (w0_25 : Int32) (st_25 : QSt) : Option (Int32 × QSt) :=
  q_bv (xGlyphPositionsModel_need w0_25 st_25) (fun sr1 => if w0_25 = 0 then (some (0, sr1)) else (q_grd (q_vpb x1_25.toInt32 8192) (q_lt (sr1.2 26 x1_25.toInt32.toNatClampNeg) (fun v2 => q_grd (q_vpb (x1_25.toInt32 + 1) 8192) (q_lt (sr1.2 26 (x1_25.toInt32 + 1).toNatClampNeg) (fun v3 => some ((256 * v2) + v3, sr1)))))))
def xGlyphPositionsModel_u16_24 (x1_24 : Int64) (st_24 : QSt) : Option (Int32 × QSt) :=
  xGlyphPositionsModel_u16_25 x1_24 0 st_24
def xGlyphPositionsModel_u16 (x1 : Int64) (st : QSt) : Option (Int32 × QSt) :=
  if (lg_cmp x1 0) < 0 then (xGlyphPositionsModel_u16_24 x1 st) else (if 0 < (lg_cmp (x1 + 2) ((st.1 12).toInt64)) then (xGlyphPositionsModel_u16_24 x1 st) else (xGlyphPositionsModel_u16_25 x1 1 st))
set_option maxHeartbeats 4000000 in
set_option maxRecDepth 100000 in
theorem c_xGlyphPositionsModel_u16 (l : Launch) (G : XG) {x1 : Int64} {st : QSt} {ro : Int32} {so : QSt} (hf : xGlyphPositionsModel_u16 x1 st = some (ro, so)) : q_Mi l y_GlyphPositionsModel_u16 b_GlyphPositionsModel_u16 4 .int ({ frames := 1, cells := 0, slots := 0, locals := 21 } : Room) G.1 (xT G) (wX G) [.ref (G.2.2 36), .long x1] st ro so := by
  refine q_Mi_of (by decide) (Nat.le_of_ble_eq_true rfl) (wX_fst G) ?_
  intro p e s m args below meth c A ls hC hr hlk hT hD hA hP hS hl
  have hx := hC.1.1
  have hb := hC.1.2.1
  have hown := hC.1.2.2.2.1
  have hts := hC.1.2.2.2.2
  have hl : lv_has ls 4 [(0, .ref (G.2.2 36)), (1, .long x1)] := hl
  have J_25 : ∀ (x1_25 : Int64) (w0_25 : Int32) (st_25 : QSt) (H : Heap) (locs : List Loc) (ls : Array Slot), xGlyphPositionsModel_u16_25 x1_25 w0_25 st_25 = some (ro, so) → va_P G.1 vwCl (wX G st_25) H → va_S A s.heap H locs → lv_has ls 4 [(0, .ref (G.2.2 36)), (1, .long x1_25)] → W p l e ({ frames := 1, cells := 0, slots := 0, locals := 21 } : Room) s m args below meth c H locs 0 0 (q_Zi below args s G.1 (wX G) ro so A) (F0 m 25 ls [.int w0_25]) := by
    intro x1_25 w0_25 st_25 H locs ls hf hP hS hl
    unfold xGlyphPositionsModel_u16_25 at hf
    refine lv_istore_n (lv' := [(3, .int w0_25), (0, .ref (G.2.2 36)), (1, .long x1_25)]) hx hb d_GlyphPositionsModel_u16_25 rfl hl (by decide) rfl (fun ls hl => ?_)
    refine lv_aload_n hx hb d_GlyphPositionsModel_u16_26 rfl (lv_at hl 1 rfl) ?_
    refine lv_iload_n hx hb d_GlyphPositionsModel_u16_27 rfl (lv_at hl 0 rfl) ?_
    obtain ⟨sr1, h_r1, hf⟩ := q_bv_some hf
    refine q_callVv (As := [.int w0_25]) (rest := []) (q0 := 36) hC (c_xGlyphPositionsModel_need l G h_r1) cal_GlyphPositionsModel_need wq_148 ⟨rfl, rfl, Nat.le_of_ble_eq_true rfl, Nat.le_of_ble_eq_true rfl⟩ rfl rfl hP hD hA hS rfl hl.1 rfl (Nat.le_of_ble_eq_true rfl) d_GlyphPositionsModel_u16_28 (fun H locs hP hS => ?_)
    refine lv_iload_n hx hb d_GlyphPositionsModel_u16_31 rfl (lv_at hl 0 rfl) ?_
    refine lv_if_eq (tgt := 59) hx hb d_GlyphPositionsModel_u16_32 (by decide) (fun c1 => ?_) (fun c1 => ?_)
    · rw [if_pos c1] at hf
      refine lv_iconst (v := 0) hx hb d_GlyphPositionsModel_u16_59 (by decide) ?_
      exact q_iret hC hr hlk hf (by first | rfl | decide) hP hS d_GlyphPositionsModel_u16_60
    rw [if_neg c1] at hf
    refine lv_sipush (v := 256) hx hb d_GlyphPositionsModel_u16_35 (by decide) ?_
    refine lv_aload_n hx hb d_GlyphPositionsModel_u16_38 rfl (lv_at hl 1 rfl) ?_
    refine xg_36_tape hC hP wq_123 d_GlyphPositionsModel_u16_39 ?_
    refine lv_lload_n hx hb d_GlyphPositionsModel_u16_42 rfl (lv_at hl 2 rfl) ?_
    refine lv_l2i (v := x1_25.toInt32) hx hb d_GlyphPositionsModel_u16_43 rfl ?_
    obtain ⟨hi, hf⟩ := q_grd_some hf
    obtain ⟨v2, e_v2, hf⟩ := q_lt_some hf
    refine xl_37 hC hP e_v2 hi d_GlyphPositionsModel_u16_44 ?_
    refine lv_imul hx hb d_GlyphPositionsModel_u16_45 ?_
    refine lv_aload_n hx hb d_GlyphPositionsModel_u16_46 rfl (lv_at hl 1 rfl) ?_
    refine xg_36_tape hC hP wq_123 d_GlyphPositionsModel_u16_47 ?_
    refine lv_lload_n hx hb d_GlyphPositionsModel_u16_50 rfl (lv_at hl 2 rfl) ?_
    refine lv_l2i (v := x1_25.toInt32) hx hb d_GlyphPositionsModel_u16_51 rfl ?_
    refine lv_iconst (v := 1) hx hb d_GlyphPositionsModel_u16_52 (by decide) ?_
    refine lv_iadd hx hb d_GlyphPositionsModel_u16_53 ?_
    obtain ⟨hi, hf⟩ := q_grd_some hf
    obtain ⟨v3, e_v3, hf⟩ := q_lt_some hf
    refine xl_37 hC hP e_v3 hi d_GlyphPositionsModel_u16_54 ?_
    refine lv_iadd hx hb d_GlyphPositionsModel_u16_55 ?_
    refine lv_goto (tgt := 60) hx hb d_GlyphPositionsModel_u16_56 (by decide) ?_
    exact q_iret hC hr hlk hf (by first | rfl | decide) hP hS d_GlyphPositionsModel_u16_60
  have J_24 : ∀ (x1_24 : Int64) (st_24 : QSt) (H : Heap) (locs : List Loc) (ls : Array Slot), xGlyphPositionsModel_u16_24 x1_24 st_24 = some (ro, so) → va_P G.1 vwCl (wX G st_24) H → va_S A s.heap H locs → lv_has ls 4 [(0, .ref (G.2.2 36)), (1, .long x1_24)] → W p l e ({ frames := 1, cells := 0, slots := 0, locals := 21 } : Room) s m args below meth c H locs 0 0 (q_Zi below args s G.1 (wX G) ro so A) (F0 m 24 ls []) := by
    intro x1_24 st_24 H locs ls hf hP hS hl
    unfold xGlyphPositionsModel_u16_24 at hf
    refine lv_iconst (v := 0) hx hb d_GlyphPositionsModel_u16_24 (by decide) ?_
    exact J_25 _ _ _ _ _ _ hf hP hS hl
  unfold xGlyphPositionsModel_u16 at hf
  refine lv_lload_n hx hb d_GlyphPositionsModel_u16_0 rfl (lv_at hl 1 rfl) ?_
  refine lv_lconst (v := 0) hx hb d_GlyphPositionsModel_u16_1 (by decide) ?_
  refine W.lcmp hx hb d_GlyphPositionsModel_u16_2 ?_
  refine lv_if_lt (tgt := 24) hx hb d_GlyphPositionsModel_u16_3 (by decide) (fun c1 => ?_) (fun c1 => ?_)
  · rw [if_pos c1] at hf
    exact J_24 _ _ _ _ _ hf hP hS hl
  rw [if_neg c1] at hf
  refine lv_lload_n hx hb d_GlyphPositionsModel_u16_6 rfl (lv_at hl 1 rfl) ?_
  refine lv_ldc2 (v := 2) hx hb hown (hts _ wq_149) d_GlyphPositionsModel_u16_7 ?_
  refine lv_ladd hx hb d_GlyphPositionsModel_u16_10 ?_
  refine lv_aload_n hx hb d_GlyphPositionsModel_u16_11 rfl (lv_at hl 0 rfl) ?_
  refine xg_36_size hC hP wq_122 d_GlyphPositionsModel_u16_12 ?_
  refine lv_i2l (v := (st.1 12).toInt64) hx hb d_GlyphPositionsModel_u16_15 rfl ?_
  refine W.lcmp hx hb d_GlyphPositionsModel_u16_16 ?_
  refine lv_if_gt (tgt := 24) hx hb d_GlyphPositionsModel_u16_17 (by decide) (fun c1 => ?_) (fun c1 => ?_)
  · rw [if_pos c1] at hf
    exact J_24 _ _ _ _ _ hf hP hS hl
  rw [if_neg c1] at hf
  refine lv_iconst (v := 1) hx hb d_GlyphPositionsModel_u16_20 (by decide) ?_
  refine lv_goto (tgt := 25) hx hb d_GlyphPositionsModel_u16_21 (by decide) ?_
  exact J_25 _ _ _ _ _ _ hf hP hS hl
def xGlyphPositionsModel_checkHead_64 (w1_64 : Int32) (st_64 : QSt) : Option QSt :=
  q_bv (xGlyphPositionsModel_need w1_64 st_64) (fun sr4 => some sr4)
def xGlyphPositionsModel_checkHead_63 (st_63 : QSt) : Option QSt :=
  xGlyphPositionsModel_checkHead_64 0 st_63
def xGlyphPositionsModel_checkHead_25 (w1_25 : Int32) (st_25 : QSt) : Option QSt :=
  q_bv (xGlyphPositionsModel_need w1_25 st_25) (fun sr2 => q_bm (xGlyphPositionsModel_u16 4 sr2) (fun r3 sr3 => if r3 ≤ 0 then (xGlyphPositionsModel_checkHead_63 sr3) else (q_bm (xGlyphPositionsModel_u16 6 sr3) (fun r5 sr5 => if r5 ≤ 0 then (xGlyphPositionsModel_checkHead_63 sr5) else (q_bm (xGlyphPositionsModel_u16 8 sr5) (fun r6 sr6 => if r6 ≤ 0 then (xGlyphPositionsModel_checkHead_63 sr6) else (xGlyphPositionsModel_checkHead_64 1 sr6)))))))
def xGlyphPositionsModel_checkHead_24 (st_24 : QSt) : Option QSt :=
  xGlyphPositionsModel_checkHead_25 0 st_24
def xGlyphPositionsModel_checkHead (st : QSt) : Option QSt :=
  q_bm (xGlyphPositionsModel_u16 0 st) (fun r1 sr1 => if r1 = 1 then (q_bm (xGlyphPositionsModel_u16 2 sr1) (fun r7 sr7 => if r7 = 0 then (xGlyphPositionsModel_checkHead_25 1 sr7) else (xGlyphPositionsModel_checkHead_24 sr7))) else (xGlyphPositionsModel_checkHead_24 sr1))
set_option maxHeartbeats 4000000 in
set_option maxRecDepth 100000 in
theorem c_xGlyphPositionsModel_checkHead (l : Launch) (G : XG) {st : QSt} {so : QSt} (hf : xGlyphPositionsModel_checkHead st = some so) : q_Mv l y_GlyphPositionsModel_checkHead b_GlyphPositionsModel_checkHead 1 ({ frames := 2, cells := 0, slots := 0, locals := 44 } : Room) G.1 (xT G) (wX G) [.ref (G.2.2 36)] st so := by
  refine q_Mv_of (by decide) (Nat.le_of_ble_eq_true rfl) (wX_fst G) ?_
  intro p e s m args below meth c A ls hC hr hlk hT hD hA hP hS hl
  have hx := hC.1.1
  have hb := hC.1.2.1
  have hown := hC.1.2.2.2.1
  have hts := hC.1.2.2.2.2
  have hl : lv_has ls 1 [(0, .ref (G.2.2 36))] := hl
  have J_64 : ∀ (w1_64 : Int32) (st_64 : QSt) (H : Heap) (locs : List Loc) (ls : Array Slot), xGlyphPositionsModel_checkHead_64 w1_64 st_64 = some so → va_P G.1 vwCl (wX G st_64) H → va_S A s.heap H locs → lv_has ls 1 [] → W p l e ({ frames := 2, cells := 0, slots := 0, locals := 44 } : Room) s m args below meth c H locs 0 0 (q_Zv below args s G.1 (wX G) so A) (F0 m 64 ls [.int w1_64, .ref (G.2.2 36)]) := by
    intro w1_64 st_64 H locs ls hf hP hS hl
    unfold xGlyphPositionsModel_checkHead_64 at hf
    obtain ⟨sr4, h_r4, hf⟩ := q_bv_some hf
    refine q_callVv (As := [.int w1_64]) (rest := []) (q0 := 36) hC (c_xGlyphPositionsModel_need l G h_r4) cal_GlyphPositionsModel_need wq_148 ⟨rfl, rfl, Nat.le_of_ble_eq_true rfl, Nat.le_of_ble_eq_true rfl⟩ rfl rfl hP hD hA hS rfl hl.1 rfl (Nat.le_of_ble_eq_true rfl) d_GlyphPositionsModel_checkHead_64 (fun H locs hP hS => ?_)
    exact q_vret hC hr hlk hf hP hS d_GlyphPositionsModel_checkHead_67
  have J_63 : ∀ (st_63 : QSt) (H : Heap) (locs : List Loc) (ls : Array Slot), xGlyphPositionsModel_checkHead_63 st_63 = some so → va_P G.1 vwCl (wX G st_63) H → va_S A s.heap H locs → lv_has ls 1 [] → W p l e ({ frames := 2, cells := 0, slots := 0, locals := 44 } : Room) s m args below meth c H locs 0 0 (q_Zv below args s G.1 (wX G) so A) (F0 m 63 ls [.ref (G.2.2 36)]) := by
    intro st_63 H locs ls hf hP hS hl
    unfold xGlyphPositionsModel_checkHead_63 at hf
    refine lv_iconst (v := 0) hx hb d_GlyphPositionsModel_checkHead_63 (by decide) ?_
    exact J_64 _ _ _ _ _ hf hP hS hl
  have J_25 : ∀ (w1_25 : Int32) (st_25 : QSt) (H : Heap) (locs : List Loc) (ls : Array Slot), xGlyphPositionsModel_checkHead_25 w1_25 st_25 = some so → va_P G.1 vwCl (wX G st_25) H → va_S A s.heap H locs → lv_has ls 1 [(0, .ref (G.2.2 36))] → W p l e ({ frames := 2, cells := 0, slots := 0, locals := 44 } : Room) s m args below meth c H locs 0 0 (q_Zv below args s G.1 (wX G) so A) (F0 m 25 ls [.int w1_25, .ref (G.2.2 36)]) := by
    intro w1_25 st_25 H locs ls hf hP hS hl
    unfold xGlyphPositionsModel_checkHead_25 at hf
    obtain ⟨sr2, h_r2, hf⟩ := q_bv_some hf
    refine q_callVv (As := [.int w1_25]) (rest := []) (q0 := 36) hC (c_xGlyphPositionsModel_need l G h_r2) cal_GlyphPositionsModel_need wq_148 ⟨rfl, rfl, Nat.le_of_ble_eq_true rfl, Nat.le_of_ble_eq_true rfl⟩ rfl rfl hP hD hA hS rfl hl.1 rfl (Nat.le_of_ble_eq_true rfl) d_GlyphPositionsModel_checkHead_25 (fun H locs hP hS => ?_)
    refine lv_aload_n hx hb d_GlyphPositionsModel_checkHead_28 rfl (lv_at hl 0 rfl) ?_
    refine lv_aload_n hx hb d_GlyphPositionsModel_checkHead_29 rfl (lv_at hl 0 rfl) ?_
    refine lv_ldc2 (v := 4) hx hb hown (hts _ wq_150) d_GlyphPositionsModel_checkHead_30 ?_
    obtain ⟨r3, sr3, h_r3, hf⟩ := q_bm_some hf
    refine q_callVi (As := [.long 4]) (rest := [.ref (G.2.2 36)]) (q0 := 36) hC (c_xGlyphPositionsModel_u16 l G h_r3) cal_GlyphPositionsModel_u16 wq_151 ⟨rfl, rfl, Nat.le_of_ble_eq_true rfl, Nat.le_of_ble_eq_true rfl⟩ rfl rfl hP hD hA hS rfl hl.1 rfl (Nat.le_of_ble_eq_true rfl) d_GlyphPositionsModel_checkHead_33 (fun H locs hP hS => ?_)
    refine lv_if_le (tgt := 63) hx hb d_GlyphPositionsModel_checkHead_36 (by decide) (fun c1 => ?_) (fun c1 => ?_)
    · rw [if_pos c1] at hf
      exact J_63 _ _ _ _ hf hP hS (lv_sub hl [] rfl)
    rw [if_neg c1] at hf
    refine lv_aload_n hx hb d_GlyphPositionsModel_checkHead_39 rfl (lv_at hl 0 rfl) ?_
    refine lv_ldc2 (v := 6) hx hb hown (hts _ wq_152) d_GlyphPositionsModel_checkHead_40 ?_
    obtain ⟨r5, sr5, h_r5, hf⟩ := q_bm_some hf
    refine q_callVi (As := [.long 6]) (rest := [.ref (G.2.2 36)]) (q0 := 36) hC (c_xGlyphPositionsModel_u16 l G h_r5) cal_GlyphPositionsModel_u16 wq_151 ⟨rfl, rfl, Nat.le_of_ble_eq_true rfl, Nat.le_of_ble_eq_true rfl⟩ rfl rfl hP hD hA hS rfl hl.1 rfl (Nat.le_of_ble_eq_true rfl) d_GlyphPositionsModel_checkHead_43 (fun H locs hP hS => ?_)
    refine lv_if_le (tgt := 63) hx hb d_GlyphPositionsModel_checkHead_46 (by decide) (fun c1 => ?_) (fun c1 => ?_)
    · rw [if_pos c1] at hf
      exact J_63 _ _ _ _ hf hP hS (lv_sub hl [] rfl)
    rw [if_neg c1] at hf
    refine lv_aload_n hx hb d_GlyphPositionsModel_checkHead_49 rfl (lv_at hl 0 rfl) ?_
    refine lv_ldc2 (v := 8) hx hb hown (hts _ wq_153) d_GlyphPositionsModel_checkHead_50 ?_
    obtain ⟨r6, sr6, h_r6, hf⟩ := q_bm_some hf
    refine q_callVi (As := [.long 8]) (rest := [.ref (G.2.2 36)]) (q0 := 36) hC (c_xGlyphPositionsModel_u16 l G h_r6) cal_GlyphPositionsModel_u16 wq_151 ⟨rfl, rfl, Nat.le_of_ble_eq_true rfl, Nat.le_of_ble_eq_true rfl⟩ rfl rfl hP hD hA hS rfl hl.1 rfl (Nat.le_of_ble_eq_true rfl) d_GlyphPositionsModel_checkHead_53 (fun H locs hP hS => ?_)
    refine lv_if_le (tgt := 63) hx hb d_GlyphPositionsModel_checkHead_56 (by decide) (fun c1 => ?_) (fun c1 => ?_)
    · rw [if_pos c1] at hf
      exact J_63 _ _ _ _ hf hP hS (lv_sub hl [] rfl)
    rw [if_neg c1] at hf
    refine lv_iconst (v := 1) hx hb d_GlyphPositionsModel_checkHead_59 (by decide) ?_
    refine lv_goto (tgt := 64) hx hb d_GlyphPositionsModel_checkHead_60 (by decide) ?_
    exact J_64 _ _ _ _ _ hf hP hS (lv_sub hl [] rfl)
  have J_24 : ∀ (st_24 : QSt) (H : Heap) (locs : List Loc) (ls : Array Slot), xGlyphPositionsModel_checkHead_24 st_24 = some so → va_P G.1 vwCl (wX G st_24) H → va_S A s.heap H locs → lv_has ls 1 [(0, .ref (G.2.2 36))] → W p l e ({ frames := 2, cells := 0, slots := 0, locals := 44 } : Room) s m args below meth c H locs 0 0 (q_Zv below args s G.1 (wX G) so A) (F0 m 24 ls [.ref (G.2.2 36)]) := by
    intro st_24 H locs ls hf hP hS hl
    unfold xGlyphPositionsModel_checkHead_24 at hf
    refine lv_iconst (v := 0) hx hb d_GlyphPositionsModel_checkHead_24 (by decide) ?_
    exact J_25 _ _ _ _ _ hf hP hS hl
  unfold xGlyphPositionsModel_checkHead at hf
  refine lv_aload_n hx hb d_GlyphPositionsModel_checkHead_0 rfl (lv_at hl 0 rfl) ?_
  refine lv_aload_n hx hb d_GlyphPositionsModel_checkHead_1 rfl (lv_at hl 0 rfl) ?_
  refine lv_lconst (v := 0) hx hb d_GlyphPositionsModel_checkHead_2 (by decide) ?_
  obtain ⟨r1, sr1, h_r1, hf⟩ := q_bm_some hf
  refine q_callVi (As := [.long 0]) (rest := [.ref (G.2.2 36)]) (q0 := 36) hC (c_xGlyphPositionsModel_u16 l G h_r1) cal_GlyphPositionsModel_u16 wq_151 ⟨rfl, rfl, Nat.le_of_ble_eq_true rfl, Nat.le_of_ble_eq_true rfl⟩ rfl rfl hP hD hA hS rfl hl.1 rfl (Nat.le_of_ble_eq_true rfl) d_GlyphPositionsModel_checkHead_3 (fun H locs hP hS => ?_)
  refine lv_iconst (v := 1) hx hb d_GlyphPositionsModel_checkHead_6 (by decide) ?_
  refine lv_icmp_ne (tgt := 24) hx hb d_GlyphPositionsModel_checkHead_7 (by decide) (fun c1 => ?_) (fun c1 => ?_)
  · rw [if_neg c1] at hf
    exact J_24 _ _ _ _ hf hP hS hl
  rw [if_pos c1] at hf
  refine lv_aload_n hx hb d_GlyphPositionsModel_checkHead_10 rfl (lv_at hl 0 rfl) ?_
  refine lv_ldc2 (v := 2) hx hb hown (hts _ wq_149) d_GlyphPositionsModel_checkHead_11 ?_
  obtain ⟨r7, sr7, h_r7, hf⟩ := q_bm_some hf
  refine q_callVi (As := [.long 2]) (rest := [.ref (G.2.2 36)]) (q0 := 36) hC (c_xGlyphPositionsModel_u16 l G h_r7) cal_GlyphPositionsModel_u16 wq_151 ⟨rfl, rfl, Nat.le_of_ble_eq_true rfl, Nat.le_of_ble_eq_true rfl⟩ rfl rfl hP hD hA hS rfl hl.1 rfl (Nat.le_of_ble_eq_true rfl) d_GlyphPositionsModel_checkHead_14 (fun H locs hP hS => ?_)
  refine lv_if_ne (tgt := 24) hx hb d_GlyphPositionsModel_checkHead_17 (by decide) (fun c1 => ?_) (fun c1 => ?_)
  · rw [if_neg c1] at hf
    exact J_24 _ _ _ _ hf hP hS hl
  rw [if_pos c1] at hf
  refine lv_iconst (v := 1) hx hb d_GlyphPositionsModel_checkHead_20 (by decide) ?_
  refine lv_goto (tgt := 25) hx hb d_GlyphPositionsModel_checkHead_21 (by decide) ?_
  exact J_25 _ _ _ _ _ hf hP hS hl
def xGlyphPositionsModel_atMost_19 (x4_19 : Int32) (w1_19 : Int32) (st_19 : QSt) : Option (Int32 × QSt) :=
  q_bv (xGlyphPositionsModel_need w1_19 st_19) (fun sr2 => if (sr2.1 14) = 0 then (some (x4_19, sr2)) else (some (0, sr2)))
def xGlyphPositionsModel_atMost (x1 : Int64) (x3 : Int32) (st : QSt) : Option (Int32 × QSt) :=
  q_bm (xGlyphPositionsModel_u16 x1 st) (fun r1 sr1 => if x3 < r1 then (xGlyphPositionsModel_atMost_19 r1 0 sr1) else (xGlyphPositionsModel_atMost_19 r1 1 sr1))
set_option maxHeartbeats 4000000 in
set_option maxRecDepth 100000 in
theorem c_xGlyphPositionsModel_atMost (l : Launch) (G : XG) {x1 : Int64} {x3 : Int32} {st : QSt} {ro : Int32} {so : QSt} (hf : xGlyphPositionsModel_atMost x1 x3 st = some (ro, so)) : q_Mi l y_GlyphPositionsModel_atMost b_GlyphPositionsModel_atMost 5 .int ({ frames := 2, cells := 0, slots := 0, locals := 44 } : Room) G.1 (xT G) (wX G) [.ref (G.2.2 36), .long x1, .int x3] st ro so := by
  refine q_Mi_of (by decide) (Nat.le_of_ble_eq_true rfl) (wX_fst G) ?_
  intro p e s m args below meth c A ls hC hr hlk hT hD hA hP hS hl
  have hx := hC.1.1
  have hb := hC.1.2.1
  have hown := hC.1.2.2.2.1
  have hts := hC.1.2.2.2.2
  have hl : lv_has ls 5 [(0, .ref (G.2.2 36)), (1, .long x1), (3, .int x3)] := hl
  have J_19 : ∀ (x4_19 w1_19 : Int32) (st_19 : QSt) (H : Heap) (locs : List Loc) (ls : Array Slot), xGlyphPositionsModel_atMost_19 x4_19 w1_19 st_19 = some (ro, so) → va_P G.1 vwCl (wX G st_19) H → va_S A s.heap H locs → lv_has ls 5 [(0, .ref (G.2.2 36)), (4, .int x4_19)] → W p l e ({ frames := 2, cells := 0, slots := 0, locals := 44 } : Room) s m args below meth c H locs 0 0 (q_Zi below args s G.1 (wX G) ro so A) (F0 m 19 ls [.int w1_19, .ref (G.2.2 36)]) := by
    intro x4_19 w1_19 st_19 H locs ls hf hP hS hl
    unfold xGlyphPositionsModel_atMost_19 at hf
    obtain ⟨sr2, h_r2, hf⟩ := q_bv_some hf
    refine q_callVv (As := [.int w1_19]) (rest := []) (q0 := 36) hC (c_xGlyphPositionsModel_need l G h_r2) cal_GlyphPositionsModel_need wq_148 ⟨rfl, rfl, Nat.le_of_ble_eq_true rfl, Nat.le_of_ble_eq_true rfl⟩ rfl rfl hP hD hA hS rfl hl.1 rfl (Nat.le_of_ble_eq_true rfl) d_GlyphPositionsModel_atMost_19 (fun H locs hP hS => ?_)
    refine lv_aload_n hx hb d_GlyphPositionsModel_atMost_22 rfl (lv_at hl 0 rfl) ?_
    refine xg_36_bad hC hP wq_147 d_GlyphPositionsModel_atMost_23 ?_
    refine lv_if_eq (tgt := 33) hx hb d_GlyphPositionsModel_atMost_26 (by decide) (fun c1 => ?_) (fun c1 => ?_)
    · rw [if_pos c1] at hf
      refine lv_iload hx hb d_GlyphPositionsModel_atMost_33 (lv_at hl 1 rfl) ?_
      exact q_iret hC hr hlk hf (by first | rfl | decide) hP hS d_GlyphPositionsModel_atMost_35
    rw [if_neg c1] at hf
    refine lv_iconst (v := 0) hx hb d_GlyphPositionsModel_atMost_29 (by decide) ?_
    refine lv_goto (tgt := 35) hx hb d_GlyphPositionsModel_atMost_30 (by decide) ?_
    exact q_iret hC hr hlk hf (by first | rfl | decide) hP hS d_GlyphPositionsModel_atMost_35
  unfold xGlyphPositionsModel_atMost at hf
  refine lv_aload_n hx hb d_GlyphPositionsModel_atMost_0 rfl (lv_at hl 0 rfl) ?_
  refine lv_lload_n hx hb d_GlyphPositionsModel_atMost_1 rfl (lv_at hl 1 rfl) ?_
  obtain ⟨r1, sr1, h_r1, hf⟩ := q_bm_some hf
  refine q_callVi (As := [.long x1]) (rest := []) (q0 := 36) hC (c_xGlyphPositionsModel_u16 l G h_r1) cal_GlyphPositionsModel_u16 wq_151 ⟨rfl, rfl, Nat.le_of_ble_eq_true rfl, Nat.le_of_ble_eq_true rfl⟩ rfl rfl hP hD hA hS rfl hl.1 rfl (Nat.le_of_ble_eq_true rfl) d_GlyphPositionsModel_atMost_2 (fun H locs hP hS => ?_)
  refine lv_istore (lv' := [(4, .int r1), (0, .ref (G.2.2 36)), (1, .long x1), (3, .int x3)]) hx hb d_GlyphPositionsModel_atMost_5 hl (by decide) rfl (fun ls hl => ?_)
  refine lv_aload_n hx hb d_GlyphPositionsModel_atMost_7 rfl (lv_at hl 1 rfl) ?_
  refine lv_iload hx hb d_GlyphPositionsModel_atMost_8 (lv_at hl 0 rfl) ?_
  refine lv_iload_n hx hb d_GlyphPositionsModel_atMost_10 rfl (lv_at hl 3 rfl) ?_
  refine lv_icmp_gt (tgt := 18) hx hb d_GlyphPositionsModel_atMost_11 (by decide) (fun c1 => ?_) (fun c1 => ?_)
  · rw [if_pos c1] at hf
    refine lv_iconst (v := 0) hx hb d_GlyphPositionsModel_atMost_18 (by decide) ?_
    exact J_19 _ _ _ _ _ _ hf hP hS (lv_sub hl [1, 0] rfl)
  rw [if_neg c1] at hf
  refine lv_iconst (v := 1) hx hb d_GlyphPositionsModel_atMost_14 (by decide) ?_
  refine lv_goto (tgt := 19) hx hb d_GlyphPositionsModel_atMost_15 (by decide) ?_
  exact J_19 _ _ _ _ _ _ hf hP hS (lv_sub hl [1, 0] rfl)
def xGlyphPositionsModel_u32 (x1 : Int64) (st : QSt) : Option (Int64 × QSt) :=
  q_bm (xGlyphPositionsModel_u16 x1 st) (fun r1 sr1 => q_bm (xGlyphPositionsModel_u16 (x1 + 2) sr1) (fun r2 sr2 => some (((65536 : Int64) * r1.toInt64) + r2.toInt64, sr2)))
set_option maxHeartbeats 4000000 in
set_option maxRecDepth 100000 in
theorem c_xGlyphPositionsModel_u32 (l : Launch) (G : XG) {x1 : Int64} {st : QSt} {ro : Int64} {so : QSt} (hf : xGlyphPositionsModel_u32 x1 st = some (ro, so)) : q_Ml l y_GlyphPositionsModel_u32 b_GlyphPositionsModel_u32 3 ({ frames := 2, cells := 0, slots := 0, locals := 44 } : Room) G.1 (xT G) (wX G) [.ref (G.2.2 36), .long x1] st ro so := by
  refine q_Ml_of (by decide) (Nat.le_of_ble_eq_true rfl) (wX_fst G) ?_
  intro p e s m args below meth c A ls hC hr hlk hT hD hA hP hS hl
  have hx := hC.1.1
  have hb := hC.1.2.1
  have hown := hC.1.2.2.2.1
  have hts := hC.1.2.2.2.2
  have hl : lv_has ls 3 [(0, .ref (G.2.2 36)), (1, .long x1)] := hl
  unfold xGlyphPositionsModel_u32 at hf
  refine lv_ldc2 (v := 65536) hx hb hown (hts _ wq_154) d_GlyphPositionsModel_u32_0 ?_
  refine lv_aload_n hx hb d_GlyphPositionsModel_u32_3 rfl (lv_at hl 0 rfl) ?_
  refine lv_lload_n hx hb d_GlyphPositionsModel_u32_4 rfl (lv_at hl 1 rfl) ?_
  obtain ⟨r1, sr1, h_r1, hf⟩ := q_bm_some hf
  refine q_callVi (As := [.long x1]) (rest := [.long 65536]) (q0 := 36) hC (c_xGlyphPositionsModel_u16 l G h_r1) cal_GlyphPositionsModel_u16 wq_151 ⟨rfl, rfl, Nat.le_of_ble_eq_true rfl, Nat.le_of_ble_eq_true rfl⟩ rfl rfl hP hD hA hS rfl hl.1 rfl (Nat.le_of_ble_eq_true rfl) d_GlyphPositionsModel_u32_5 (fun H locs hP hS => ?_)
  refine lv_i2l (v := r1.toInt64) hx hb d_GlyphPositionsModel_u32_8 rfl ?_
  refine lv_lmul hx hb d_GlyphPositionsModel_u32_9 ?_
  refine lv_aload_n hx hb d_GlyphPositionsModel_u32_10 rfl (lv_at hl 0 rfl) ?_
  refine lv_lload_n hx hb d_GlyphPositionsModel_u32_11 rfl (lv_at hl 1 rfl) ?_
  refine lv_ldc2 (v := 2) hx hb hown (hts _ wq_149) d_GlyphPositionsModel_u32_12 ?_
  refine lv_ladd hx hb d_GlyphPositionsModel_u32_15 ?_
  obtain ⟨r2, sr2, h_r2, hf⟩ := q_bm_some hf
  refine q_callVi (As := [.long (x1 + 2)]) (rest := [.long ((65536 : Int64) * r1.toInt64)]) (q0 := 36) hC (c_xGlyphPositionsModel_u16 l G h_r2) cal_GlyphPositionsModel_u16 wq_151 ⟨rfl, rfl, Nat.le_of_ble_eq_true rfl, Nat.le_of_ble_eq_true rfl⟩ rfl rfl hP hD hA hS rfl hl.1 rfl (Nat.le_of_ble_eq_true rfl) d_GlyphPositionsModel_u32_16 (fun H locs hP hS => ?_)
  refine lv_i2l (v := r2.toInt64) hx hb d_GlyphPositionsModel_u32_19 rfl ?_
  refine lv_ladd hx hb d_GlyphPositionsModel_u32_20 ?_
  exact q_lret hC hr hlk hf hP hS d_GlyphPositionsModel_u32_21
def xGlyphPositionsModel_featureCount (st : QSt) : Option (Int32 × QSt) :=
  q_bm (xGlyphPositionsModel_u16 6 st) (fun r1 sr1 => q_bm (xGlyphPositionsModel_u16 r1.toInt64 sr1) (fun r2 sr2 => some (r2, sr2)))
set_option maxHeartbeats 4000000 in
set_option maxRecDepth 100000 in
theorem c_xGlyphPositionsModel_featureCount (l : Launch) (G : XG) {st : QSt} {ro : Int32} {so : QSt} (hf : xGlyphPositionsModel_featureCount st = some (ro, so)) : q_Mi l y_GlyphPositionsModel_featureCount b_GlyphPositionsModel_featureCount 1 .int ({ frames := 2, cells := 0, slots := 0, locals := 44 } : Room) G.1 (xT G) (wX G) [.ref (G.2.2 36)] st ro so := by
  refine q_Mi_of (by decide) (Nat.le_of_ble_eq_true rfl) (wX_fst G) ?_
  intro p e s m args below meth c A ls hC hr hlk hT hD hA hP hS hl
  have hx := hC.1.1
  have hb := hC.1.2.1
  have hown := hC.1.2.2.2.1
  have hts := hC.1.2.2.2.2
  have hl : lv_has ls 1 [(0, .ref (G.2.2 36))] := hl
  unfold xGlyphPositionsModel_featureCount at hf
  refine lv_aload_n hx hb d_GlyphPositionsModel_featureCount_0 rfl (lv_at hl 0 rfl) ?_
  refine lv_aload_n hx hb d_GlyphPositionsModel_featureCount_1 rfl (lv_at hl 0 rfl) ?_
  refine lv_ldc2 (v := 6) hx hb hown (hts _ wq_152) d_GlyphPositionsModel_featureCount_2 ?_
  obtain ⟨r1, sr1, h_r1, hf⟩ := q_bm_some hf
  refine q_callVi (As := [.long 6]) (rest := [.ref (G.2.2 36)]) (q0 := 36) hC (c_xGlyphPositionsModel_u16 l G h_r1) cal_GlyphPositionsModel_u16 wq_151 ⟨rfl, rfl, Nat.le_of_ble_eq_true rfl, Nat.le_of_ble_eq_true rfl⟩ rfl rfl hP hD hA hS rfl hl.1 rfl (Nat.le_of_ble_eq_true rfl) d_GlyphPositionsModel_featureCount_5 (fun H locs hP hS => ?_)
  refine lv_i2l (v := r1.toInt64) hx hb d_GlyphPositionsModel_featureCount_8 rfl ?_
  obtain ⟨r2, sr2, h_r2, hf⟩ := q_bm_some hf
  refine q_callVi (As := [.long r1.toInt64]) (rest := []) (q0 := 36) hC (c_xGlyphPositionsModel_u16 l G h_r2) cal_GlyphPositionsModel_u16 wq_151 ⟨rfl, rfl, Nat.le_of_ble_eq_true rfl, Nat.le_of_ble_eq_true rfl⟩ rfl rfl hP hD hA hS rfl hl.1 rfl (Nat.le_of_ble_eq_true rfl) d_GlyphPositionsModel_featureCount_9 (fun H locs hP hS => ?_)
  exact q_iret hC hr hlk hf (by first | rfl | decide) hP hS d_GlyphPositionsModel_featureCount_12
def xGlyphPositionsModel_checkLanguage_99 (N : Nat) (rec_55 : Int32 → QSt → Option QSt) (x1_55 : Int64) (x4_55 x5_99 : Int32) (w1_99 : Int32) (st_99 : QSt) : Option QSt :=
  q_bv (xGlyphPositionsModel_need w1_99 st_99) (fun sr6 => rec_55 (x5_99 + 1) sr6)
def xGlyphPositionsModel_checkLanguage_55 (N : Nat) (x1_55 : Int64) (x4_55 : Int32) : Nat → Int32 → QSt → Option QSt
  | 0, _, _ => none
  | n_55 + 1, x5_55, st_55 => if x4_55 ≤ x5_55 then (some st_55) else (if (st_55.1 14) = 0 then (q_bm (xGlyphPositionsModel_u16 ((x1_55 + 6) + ((2 : Int64) * x5_55.toInt64)) st_55) (fun r4 sr4 => q_bm (xGlyphPositionsModel_featureCount sr4) (fun r5 sr5 => if r5 ≤ r4 then (xGlyphPositionsModel_checkLanguage_99 N (xGlyphPositionsModel_checkLanguage_55 N x1_55 x4_55 n_55) x1_55 x4_55 x5_55 0 sr5) else (xGlyphPositionsModel_checkLanguage_99 N (xGlyphPositionsModel_checkLanguage_55 N x1_55 x4_55 n_55) x1_55 x4_55 x5_55 1 sr5)))) else (some st_55))
def xGlyphPositionsModel_checkLanguage_39 (N : Nat) (x1_39 : Int64) (st_39 : QSt) : Option QSt :=
  q_bm (xGlyphPositionsModel_atMost (x1_39 + 4) 64 st_39) (fun r3 sr3 => xGlyphPositionsModel_checkLanguage_55 N x1_39 r3 N 0 sr3)
def xGlyphPositionsModel_checkLanguage_36 (N : Nat) (x1_36 : Int64) (w1_36 : Int32) (st_36 : QSt) : Option QSt :=
  q_bv (xGlyphPositionsModel_need w1_36 st_36) (fun sr8 => xGlyphPositionsModel_checkLanguage_39 N x1_36 sr8)
def xGlyphPositionsModel_checkLanguage (N : Nat) (x1 : Int64) (st : QSt) : Option QSt :=
  q_bm (xGlyphPositionsModel_u16 (x1 + 2) st) (fun r1 sr1 => q_bm (xGlyphPositionsModel_u16 x1 sr1) (fun r2 sr2 => if r1 = 65535 then (xGlyphPositionsModel_checkLanguage_39 N x1 sr2) else (q_bm (xGlyphPositionsModel_featureCount sr2) (fun r7 sr7 => if r7 ≤ r1 then (xGlyphPositionsModel_checkLanguage_36 N x1 0 sr7) else (xGlyphPositionsModel_checkLanguage_36 N x1 1 sr7)))))
set_option maxHeartbeats 4000000 in
set_option maxRecDepth 100000 in
theorem c_xGlyphPositionsModel_checkLanguage (l : Launch) (G : XG) {N : Nat} {x1 : Int64} {st : QSt} {so : QSt} (hf : xGlyphPositionsModel_checkLanguage N x1 st = some so) : q_Mv l y_GlyphPositionsModel_checkLanguage b_GlyphPositionsModel_checkLanguage 6 ({ frames := 3, cells := 0, slots := 0, locals := 68 } : Room) G.1 (xT G) (wX G) [.ref (G.2.2 36), .long x1] st so := by
  refine q_Mv_of (by decide) (Nat.le_of_ble_eq_true rfl) (wX_fst G) ?_
  intro p e s m args below meth c A ls hC hr hlk hT hD hA hP hS hl
  have hx := hC.1.1
  have hb := hC.1.2.1
  have hown := hC.1.2.2.2.1
  have hts := hC.1.2.2.2.2
  have hl : lv_has ls 6 [(0, .ref (G.2.2 36)), (1, .long x1)] := hl
  have L_55 : ∀ (x1_55 : Int64) (x4_55 : Int32) (n_55 : Nat) (x5_55 : Int32) (st_55 : QSt) (H : Heap) (locs : List Loc) (ls : Array Slot), xGlyphPositionsModel_checkLanguage_55 N x1_55 x4_55 n_55 x5_55 st_55 = some so → va_P G.1 vwCl (wX G st_55) H → va_S A s.heap H locs → lv_has ls 6 [(0, .ref (G.2.2 36)), (1, .long x1_55), (4, .int x4_55), (5, .int x5_55)] → W p l e ({ frames := 3, cells := 0, slots := 0, locals := 68 } : Room) s m args below meth c H locs 0 0 (q_Zv below args s G.1 (wX G) so A) (F0 m 55 ls []) := by
    intro x1_55 x4_55 n_55
    induction n_55 with
    | zero => intro _ _ _ _ _ hf; exact absurd hf (by simp [xGlyphPositionsModel_checkLanguage_55])
    | succ n_55 ih_55 =>
      have J_99 : ∀ (x5_99 w1_99 : Int32) (st_99 : QSt) (H : Heap) (locs : List Loc) (ls : Array Slot), xGlyphPositionsModel_checkLanguage_99 N (xGlyphPositionsModel_checkLanguage_55 N x1_55 x4_55 n_55) x1_55 x4_55 x5_99 w1_99 st_99 = some so → va_P G.1 vwCl (wX G st_99) H → va_S A s.heap H locs → lv_has ls 6 [(0, .ref (G.2.2 36)), (1, .long x1_55), (4, .int x4_55), (5, .int x5_99)] → W p l e ({ frames := 3, cells := 0, slots := 0, locals := 68 } : Room) s m args below meth c H locs 0 0 (q_Zv below args s G.1 (wX G) so A) (F0 m 99 ls [.int w1_99, .ref (G.2.2 36)]) := by
        intro x5_99 w1_99 st_99 H locs ls hf hP hS hl
        unfold xGlyphPositionsModel_checkLanguage_99 at hf
        obtain ⟨sr6, h_r6, hf⟩ := q_bv_some hf
        refine q_callVv (As := [.int w1_99]) (rest := []) (q0 := 36) hC (c_xGlyphPositionsModel_need l G h_r6) cal_GlyphPositionsModel_need wq_148 ⟨rfl, rfl, Nat.le_of_ble_eq_true rfl, Nat.le_of_ble_eq_true rfl⟩ rfl rfl hP hD hA hS rfl hl.1 rfl (Nat.le_of_ble_eq_true rfl) d_GlyphPositionsModel_checkLanguage_99 (fun H locs hP hS => ?_)
        refine lv_iinc (v := x5_99 + 1) (lv' := [(5, .int (x5_99 + 1)), (0, .ref (G.2.2 36)), (1, .long x1_55), (4, .int x4_55)]) hx hb d_GlyphPositionsModel_checkLanguage_102 hl (k := 3) rfl rfl (by decide) rfl (fun ls hl => ?_)
        refine lv_goto (tgt := 55) hx hb d_GlyphPositionsModel_checkLanguage_105 (by decide) ?_
        exact ih_55 _ _ _ _ _ hf hP hS (lv_sub hl [1, 2, 3, 0] rfl)
      intro x5_55 st_55 H locs ls hf hP hS hl
      rw [xGlyphPositionsModel_checkLanguage_55] at hf
      refine lv_iload hx hb d_GlyphPositionsModel_checkLanguage_55 (lv_at hl 3 rfl) ?_
      refine lv_iload hx hb d_GlyphPositionsModel_checkLanguage_57 (lv_at hl 2 rfl) ?_
      refine lv_icmp_ge (tgt := 108) hx hb d_GlyphPositionsModel_checkLanguage_59 (by decide) (fun c1 => ?_) (fun c1 => ?_)
      · rw [if_pos c1] at hf
        exact q_vret hC hr hlk hf hP hS d_GlyphPositionsModel_checkLanguage_108
      rw [if_neg c1] at hf
      refine lv_aload_n hx hb d_GlyphPositionsModel_checkLanguage_62 rfl (lv_at hl 0 rfl) ?_
      refine xg_36_bad hC hP wq_147 d_GlyphPositionsModel_checkLanguage_63 ?_
      refine lv_if_ne (tgt := 108) hx hb d_GlyphPositionsModel_checkLanguage_66 (by decide) (fun c1 => ?_) (fun c1 => ?_)
      · rw [if_neg c1] at hf
        exact q_vret hC hr hlk hf hP hS d_GlyphPositionsModel_checkLanguage_108
      rw [if_pos c1] at hf
      refine lv_aload_n hx hb d_GlyphPositionsModel_checkLanguage_69 rfl (lv_at hl 0 rfl) ?_
      refine lv_aload_n hx hb d_GlyphPositionsModel_checkLanguage_70 rfl (lv_at hl 0 rfl) ?_
      refine lv_lload_n hx hb d_GlyphPositionsModel_checkLanguage_71 rfl (lv_at hl 1 rfl) ?_
      refine lv_ldc2 (v := 6) hx hb hown (hts _ wq_152) d_GlyphPositionsModel_checkLanguage_72 ?_
      refine lv_ladd hx hb d_GlyphPositionsModel_checkLanguage_75 ?_
      refine lv_ldc2 (v := 2) hx hb hown (hts _ wq_149) d_GlyphPositionsModel_checkLanguage_76 ?_
      refine lv_iload hx hb d_GlyphPositionsModel_checkLanguage_79 (lv_at hl 3 rfl) ?_
      refine lv_i2l (v := x5_55.toInt64) hx hb d_GlyphPositionsModel_checkLanguage_81 rfl ?_
      refine lv_lmul hx hb d_GlyphPositionsModel_checkLanguage_82 ?_
      refine lv_ladd hx hb d_GlyphPositionsModel_checkLanguage_83 ?_
      obtain ⟨r4, sr4, h_r4, hf⟩ := q_bm_some hf
      refine q_callVi (As := [.long ((x1_55 + 6) + ((2 : Int64) * x5_55.toInt64))]) (rest := [.ref (G.2.2 36)]) (q0 := 36) hC (c_xGlyphPositionsModel_u16 l G h_r4) cal_GlyphPositionsModel_u16 wq_151 ⟨rfl, rfl, Nat.le_of_ble_eq_true rfl, Nat.le_of_ble_eq_true rfl⟩ rfl rfl hP hD hA hS rfl hl.1 rfl (Nat.le_of_ble_eq_true rfl) d_GlyphPositionsModel_checkLanguage_84 (fun H locs hP hS => ?_)
      refine lv_aload_n hx hb d_GlyphPositionsModel_checkLanguage_87 rfl (lv_at hl 0 rfl) ?_
      obtain ⟨r5, sr5, h_r5, hf⟩ := q_bm_some hf
      refine q_callVi (As := []) (rest := [.int r4, .ref (G.2.2 36)]) (q0 := 36) hC (c_xGlyphPositionsModel_featureCount l G h_r5) cal_GlyphPositionsModel_featureCount wq_155 ⟨rfl, rfl, Nat.le_of_ble_eq_true rfl, Nat.le_of_ble_eq_true rfl⟩ rfl rfl hP hD hA hS rfl hl.1 rfl (Nat.le_of_ble_eq_true rfl) d_GlyphPositionsModel_checkLanguage_88 (fun H locs hP hS => ?_)
      refine lv_icmp_ge (tgt := 98) hx hb d_GlyphPositionsModel_checkLanguage_91 (by decide) (fun c1 => ?_) (fun c1 => ?_)
      · rw [if_pos c1] at hf
        refine lv_iconst (v := 0) hx hb d_GlyphPositionsModel_checkLanguage_98 (by decide) ?_
        exact J_99 _ _ _ _ _ _ hf hP hS hl
      rw [if_neg c1] at hf
      refine lv_iconst (v := 1) hx hb d_GlyphPositionsModel_checkLanguage_94 (by decide) ?_
      refine lv_goto (tgt := 99) hx hb d_GlyphPositionsModel_checkLanguage_95 (by decide) ?_
      exact J_99 _ _ _ _ _ _ hf hP hS hl
  have J_39 : ∀ (x1_39 : Int64) (st_39 : QSt) (H : Heap) (locs : List Loc) (ls : Array Slot), xGlyphPositionsModel_checkLanguage_39 N x1_39 st_39 = some so → va_P G.1 vwCl (wX G st_39) H → va_S A s.heap H locs → lv_has ls 6 [(0, .ref (G.2.2 36)), (1, .long x1_39)] → W p l e ({ frames := 3, cells := 0, slots := 0, locals := 68 } : Room) s m args below meth c H locs 0 0 (q_Zv below args s G.1 (wX G) so A) (F0 m 39 ls []) := by
    intro x1_39 st_39 H locs ls hf hP hS hl
    unfold xGlyphPositionsModel_checkLanguage_39 at hf
    refine lv_aload_n hx hb d_GlyphPositionsModel_checkLanguage_39 rfl (lv_at hl 0 rfl) ?_
    refine lv_lload_n hx hb d_GlyphPositionsModel_checkLanguage_40 rfl (lv_at hl 1 rfl) ?_
    refine lv_ldc2 (v := 4) hx hb hown (hts _ wq_150) d_GlyphPositionsModel_checkLanguage_41 ?_
    refine lv_ladd hx hb d_GlyphPositionsModel_checkLanguage_44 ?_
    refine lv_bipush (v := 64) hx hb d_GlyphPositionsModel_checkLanguage_45 (by decide) ?_
    obtain ⟨r3, sr3, h_r3, hf⟩ := q_bm_some hf
    refine q_callVi (As := [.long (x1_39 + 4), .int 64]) (rest := []) (q0 := 36) hC (c_xGlyphPositionsModel_atMost l G h_r3) cal_GlyphPositionsModel_atMost wq_156 ⟨rfl, rfl, Nat.le_of_ble_eq_true rfl, Nat.le_of_ble_eq_true rfl⟩ rfl rfl hP hD hA hS rfl hl.1 rfl (Nat.le_of_ble_eq_true rfl) d_GlyphPositionsModel_checkLanguage_47 (fun H locs hP hS => ?_)
    refine lv_istore (lv' := [(4, .int r3), (0, .ref (G.2.2 36)), (1, .long x1_39)]) hx hb d_GlyphPositionsModel_checkLanguage_50 hl (by decide) rfl (fun ls hl => ?_)
    refine lv_iconst (v := 0) hx hb d_GlyphPositionsModel_checkLanguage_52 (by decide) ?_
    refine lv_istore (lv' := [(5, .int 0), (4, .int r3), (0, .ref (G.2.2 36)), (1, .long x1_39)]) hx hb d_GlyphPositionsModel_checkLanguage_53 hl (by decide) rfl (fun ls hl => ?_)
    exact L_55 _ _ _ _ _ _ _ _ hf hP hS (lv_sub hl [2, 3, 1, 0] rfl)
  have J_36 : ∀ (x1_36 : Int64) (w1_36 : Int32) (st_36 : QSt) (H : Heap) (locs : List Loc) (ls : Array Slot), xGlyphPositionsModel_checkLanguage_36 N x1_36 w1_36 st_36 = some so → va_P G.1 vwCl (wX G st_36) H → va_S A s.heap H locs → lv_has ls 6 [(0, .ref (G.2.2 36)), (1, .long x1_36)] → W p l e ({ frames := 3, cells := 0, slots := 0, locals := 68 } : Room) s m args below meth c H locs 0 0 (q_Zv below args s G.1 (wX G) so A) (F0 m 36 ls [.int w1_36, .ref (G.2.2 36)]) := by
    intro x1_36 w1_36 st_36 H locs ls hf hP hS hl
    unfold xGlyphPositionsModel_checkLanguage_36 at hf
    obtain ⟨sr8, h_r8, hf⟩ := q_bv_some hf
    refine q_callVv (As := [.int w1_36]) (rest := []) (q0 := 36) hC (c_xGlyphPositionsModel_need l G h_r8) cal_GlyphPositionsModel_need wq_148 ⟨rfl, rfl, Nat.le_of_ble_eq_true rfl, Nat.le_of_ble_eq_true rfl⟩ rfl rfl hP hD hA hS rfl hl.1 rfl (Nat.le_of_ble_eq_true rfl) d_GlyphPositionsModel_checkLanguage_36 (fun H locs hP hS => ?_)
    exact J_39 _ _ _ _ _ hf hP hS hl
  unfold xGlyphPositionsModel_checkLanguage at hf
  refine lv_aload_n hx hb d_GlyphPositionsModel_checkLanguage_0 rfl (lv_at hl 0 rfl) ?_
  refine lv_lload_n hx hb d_GlyphPositionsModel_checkLanguage_1 rfl (lv_at hl 1 rfl) ?_
  refine lv_ldc2 (v := 2) hx hb hown (hts _ wq_149) d_GlyphPositionsModel_checkLanguage_2 ?_
  refine lv_ladd hx hb d_GlyphPositionsModel_checkLanguage_5 ?_
  obtain ⟨r1, sr1, h_r1, hf⟩ := q_bm_some hf
  refine q_callVi (As := [.long (x1 + 2)]) (rest := []) (q0 := 36) hC (c_xGlyphPositionsModel_u16 l G h_r1) cal_GlyphPositionsModel_u16 wq_151 ⟨rfl, rfl, Nat.le_of_ble_eq_true rfl, Nat.le_of_ble_eq_true rfl⟩ rfl rfl hP hD hA hS rfl hl.1 rfl (Nat.le_of_ble_eq_true rfl) d_GlyphPositionsModel_checkLanguage_6 (fun H locs hP hS => ?_)
  refine lv_istore_n (lv' := [(3, .int r1), (0, .ref (G.2.2 36)), (1, .long x1)]) hx hb d_GlyphPositionsModel_checkLanguage_9 rfl hl (by decide) rfl (fun ls hl => ?_)
  refine lv_aload_n hx hb d_GlyphPositionsModel_checkLanguage_10 rfl (lv_at hl 1 rfl) ?_
  refine lv_lload_n hx hb d_GlyphPositionsModel_checkLanguage_11 rfl (lv_at hl 2 rfl) ?_
  obtain ⟨r2, sr2, h_r2, hf⟩ := q_bm_some hf
  refine q_callVi (As := [.long x1]) (rest := []) (q0 := 36) hC (c_xGlyphPositionsModel_u16 l G h_r2) cal_GlyphPositionsModel_u16 wq_151 ⟨rfl, rfl, Nat.le_of_ble_eq_true rfl, Nat.le_of_ble_eq_true rfl⟩ rfl rfl hP hD hA hS rfl hl.1 rfl (Nat.le_of_ble_eq_true rfl) d_GlyphPositionsModel_checkLanguage_12 (fun H locs hP hS => ?_)
  refine lv_pop hx hb d_GlyphPositionsModel_checkLanguage_15 rfl ?_
  refine lv_iload_n hx hb d_GlyphPositionsModel_checkLanguage_16 rfl (lv_at hl 0 rfl) ?_
  refine lv_ldc (v := 65535) hx hb hown (hts _ wq_130) d_GlyphPositionsModel_checkLanguage_17 ?_
  refine lv_icmp_eq (tgt := 39) hx hb d_GlyphPositionsModel_checkLanguage_19 (by decide) (fun c1 => ?_) (fun c1 => ?_)
  · rw [if_pos c1] at hf
    exact J_39 _ _ _ _ _ hf hP hS (lv_sub hl [1, 2] rfl)
  rw [if_neg c1] at hf
  refine lv_aload_n hx hb d_GlyphPositionsModel_checkLanguage_22 rfl (lv_at hl 1 rfl) ?_
  refine lv_iload_n hx hb d_GlyphPositionsModel_checkLanguage_23 rfl (lv_at hl 0 rfl) ?_
  refine lv_aload_n hx hb d_GlyphPositionsModel_checkLanguage_24 rfl (lv_at hl 1 rfl) ?_
  obtain ⟨r7, sr7, h_r7, hf⟩ := q_bm_some hf
  refine q_callVi (As := []) (rest := [.int r1, .ref (G.2.2 36)]) (q0 := 36) hC (c_xGlyphPositionsModel_featureCount l G h_r7) cal_GlyphPositionsModel_featureCount wq_155 ⟨rfl, rfl, Nat.le_of_ble_eq_true rfl, Nat.le_of_ble_eq_true rfl⟩ rfl rfl hP hD hA hS rfl hl.1 rfl (Nat.le_of_ble_eq_true rfl) d_GlyphPositionsModel_checkLanguage_25 (fun H locs hP hS => ?_)
  refine lv_icmp_ge (tgt := 35) hx hb d_GlyphPositionsModel_checkLanguage_28 (by decide) (fun c1 => ?_) (fun c1 => ?_)
  · rw [if_pos c1] at hf
    refine lv_iconst (v := 0) hx hb d_GlyphPositionsModel_checkLanguage_35 (by decide) ?_
    exact J_36 _ _ _ _ _ _ hf hP hS (lv_sub hl [1, 2] rfl)
  rw [if_neg c1] at hf
  refine lv_iconst (v := 1) hx hb d_GlyphPositionsModel_checkLanguage_31 (by decide) ?_
  refine lv_goto (tgt := 36) hx hb d_GlyphPositionsModel_checkLanguage_32 (by decide) ?_
  exact J_36 _ _ _ _ _ _ hf hP hS (lv_sub hl [1, 2] rfl)
def xGlyphPositionsModel_checkScript_86 (N : Nat) (rec_39 : Int64 → Int32 → QSt → Option QSt) (x1_39 : Int64) (x4_39 x7_86 : Int32) (x8_86 : Int64) (w1_86 : Int32) (st_86 : QSt) : Option QSt :=
  q_bv (xGlyphPositionsModel_need w1_86 st_86) (fun sr4 => q_bm (xGlyphPositionsModel_u16 ((x1_39 + 8) + ((6 : Int64) * x7_86.toInt64)) sr4) (fun r5 sr5 => q_bv (xGlyphPositionsModel_checkLanguage N (x1_39 + r5.toInt64) sr5) (fun sr6 => rec_39 x8_86 (x7_86 + 1) sr6)))
def xGlyphPositionsModel_checkScript_39 (N : Nat) (x1_39 : Int64) (x4_39 : Int32) : Nat → Int64 → Int32 → QSt → Option QSt
  | 0, _, _, _ => none
  | n_39 + 1, x5_39, x7_39, st_39 => if x4_39 ≤ x7_39 then (some st_39) else (if (st_39.1 14) = 0 then (q_bm (xGlyphPositionsModel_u32 ((x1_39 + 4) + ((6 : Int64) * x7_39.toInt64)) st_39) (fun r3 sr3 => if (lg_cmp r3 x5_39) ≤ 0 then (xGlyphPositionsModel_checkScript_86 N (xGlyphPositionsModel_checkScript_39 N x1_39 x4_39 n_39) x1_39 x4_39 x7_39 r3 0 sr3) else (xGlyphPositionsModel_checkScript_86 N (xGlyphPositionsModel_checkScript_39 N x1_39 x4_39 n_39) x1_39 x4_39 x7_39 r3 1 sr3))) else (some st_39))
def xGlyphPositionsModel_checkScript_18 (N : Nat) (x1_18 : Int64) (st_18 : QSt) : Option QSt :=
  q_bm (xGlyphPositionsModel_atMost (x1_18 + 2) 64 st_18) (fun r2 sr2 => xGlyphPositionsModel_checkScript_39 N x1_18 r2 N (-1) 0 sr2)
def xGlyphPositionsModel_checkScript (N : Nat) (x1 : Int64) (st : QSt) : Option QSt :=
  q_bm (xGlyphPositionsModel_u16 x1 st) (fun r1 sr1 => if r1 ≤ 0 then (xGlyphPositionsModel_checkScript_18 N x1 sr1) else (q_bv (xGlyphPositionsModel_checkLanguage N (x1 + r1.toInt64) sr1) (fun sr7 => xGlyphPositionsModel_checkScript_18 N x1 sr7)))
set_option maxHeartbeats 4000000 in
set_option maxRecDepth 100000 in
theorem c_xGlyphPositionsModel_checkScript (l : Launch) (G : XG) {N : Nat} {x1 : Int64} {st : QSt} {so : QSt} (hf : xGlyphPositionsModel_checkScript N x1 st = some so) : q_Mv l y_GlyphPositionsModel_checkScript b_GlyphPositionsModel_checkScript 10 ({ frames := 4, cells := 0, slots := 0, locals := 93 } : Room) G.1 (xT G) (wX G) [.ref (G.2.2 36), .long x1] st so := by
  refine q_Mv_of (by decide) (Nat.le_of_ble_eq_true rfl) (wX_fst G) ?_
  intro p e s m args below meth c A ls hC hr hlk hT hD hA hP hS hl
  have hx := hC.1.1
  have hb := hC.1.2.1
  have hown := hC.1.2.2.2.1
  have hts := hC.1.2.2.2.2
  have hl : lv_has ls 10 [(0, .ref (G.2.2 36)), (1, .long x1)] := hl
  have L_39 : ∀ (x1_39 : Int64) (x4_39 : Int32) (n_39 : Nat) (x5_39 : Int64) (x7_39 : Int32) (st_39 : QSt) (H : Heap) (locs : List Loc) (ls : Array Slot), xGlyphPositionsModel_checkScript_39 N x1_39 x4_39 n_39 x5_39 x7_39 st_39 = some so → va_P G.1 vwCl (wX G st_39) H → va_S A s.heap H locs → lv_has ls 10 [(0, .ref (G.2.2 36)), (1, .long x1_39), (4, .int x4_39), (5, .long x5_39), (7, .int x7_39)] → W p l e ({ frames := 4, cells := 0, slots := 0, locals := 93 } : Room) s m args below meth c H locs 0 0 (q_Zv below args s G.1 (wX G) so A) (F0 m 39 ls []) := by
    intro x1_39 x4_39 n_39
    induction n_39 with
    | zero => intro _ _ _ _ _ _ hf; exact absurd hf (by simp [xGlyphPositionsModel_checkScript_39])
    | succ n_39 ih_39 =>
      have J_86 : ∀ (x7_86 : Int32) (x8_86 : Int64) (w1_86 : Int32) (st_86 : QSt) (H : Heap) (locs : List Loc) (ls : Array Slot), xGlyphPositionsModel_checkScript_86 N (xGlyphPositionsModel_checkScript_39 N x1_39 x4_39 n_39) x1_39 x4_39 x7_86 x8_86 w1_86 st_86 = some so → va_P G.1 vwCl (wX G st_86) H → va_S A s.heap H locs → lv_has ls 10 [(0, .ref (G.2.2 36)), (1, .long x1_39), (4, .int x4_39), (7, .int x7_86), (8, .long x8_86)] → W p l e ({ frames := 4, cells := 0, slots := 0, locals := 93 } : Room) s m args below meth c H locs 0 0 (q_Zv below args s G.1 (wX G) so A) (F0 m 86 ls [.int w1_86, .ref (G.2.2 36)]) := by
        intro x7_86 x8_86 w1_86 st_86 H locs ls hf hP hS hl
        unfold xGlyphPositionsModel_checkScript_86 at hf
        obtain ⟨sr4, h_r4, hf⟩ := q_bv_some hf
        refine q_callVv (As := [.int w1_86]) (rest := []) (q0 := 36) hC (c_xGlyphPositionsModel_need l G h_r4) cal_GlyphPositionsModel_need wq_148 ⟨rfl, rfl, Nat.le_of_ble_eq_true rfl, Nat.le_of_ble_eq_true rfl⟩ rfl rfl hP hD hA hS rfl hl.1 rfl (Nat.le_of_ble_eq_true rfl) d_GlyphPositionsModel_checkScript_86 (fun H locs hP hS => ?_)
        refine lv_lload hx hb d_GlyphPositionsModel_checkScript_89 (lv_at hl 4 rfl) ?_
        refine lv_lstore (lv' := [(5, .long x8_86), (0, .ref (G.2.2 36)), (1, .long x1_39), (4, .int x4_39), (7, .int x7_86), (8, .long x8_86)]) hx hb d_GlyphPositionsModel_checkScript_91 hl (by decide) rfl (fun ls hl => ?_)
        refine lv_aload_n hx hb d_GlyphPositionsModel_checkScript_93 rfl (lv_at hl 1 rfl) ?_
        refine lv_lload_n hx hb d_GlyphPositionsModel_checkScript_94 rfl (lv_at hl 2 rfl) ?_
        refine lv_aload_n hx hb d_GlyphPositionsModel_checkScript_95 rfl (lv_at hl 1 rfl) ?_
        refine lv_lload_n hx hb d_GlyphPositionsModel_checkScript_96 rfl (lv_at hl 2 rfl) ?_
        refine lv_ldc2 (v := 8) hx hb hown (hts _ wq_153) d_GlyphPositionsModel_checkScript_97 ?_
        refine lv_ladd hx hb d_GlyphPositionsModel_checkScript_100 ?_
        refine lv_ldc2 (v := 6) hx hb hown (hts _ wq_152) d_GlyphPositionsModel_checkScript_101 ?_
        refine lv_iload hx hb d_GlyphPositionsModel_checkScript_104 (lv_at hl 4 rfl) ?_
        refine lv_i2l (v := x7_86.toInt64) hx hb d_GlyphPositionsModel_checkScript_106 rfl ?_
        refine lv_lmul hx hb d_GlyphPositionsModel_checkScript_107 ?_
        refine lv_ladd hx hb d_GlyphPositionsModel_checkScript_108 ?_
        obtain ⟨r5, sr5, h_r5, hf⟩ := q_bm_some hf
        refine q_callVi (As := [.long ((x1_39 + 8) + ((6 : Int64) * x7_86.toInt64))]) (rest := [.long x1_39, .ref (G.2.2 36)]) (q0 := 36) hC (c_xGlyphPositionsModel_u16 l G h_r5) cal_GlyphPositionsModel_u16 wq_151 ⟨rfl, rfl, Nat.le_of_ble_eq_true rfl, Nat.le_of_ble_eq_true rfl⟩ rfl rfl hP hD hA hS rfl hl.1 rfl (Nat.le_of_ble_eq_true rfl) d_GlyphPositionsModel_checkScript_109 (fun H locs hP hS => ?_)
        refine lv_i2l (v := r5.toInt64) hx hb d_GlyphPositionsModel_checkScript_112 rfl ?_
        refine lv_ladd hx hb d_GlyphPositionsModel_checkScript_113 ?_
        obtain ⟨sr6, h_r6, hf⟩ := q_bv_some hf
        refine q_callVv (As := [.long (x1_39 + r5.toInt64)]) (rest := []) (q0 := 36) hC (c_xGlyphPositionsModel_checkLanguage l G h_r6) cal_GlyphPositionsModel_checkLanguage wq_157 ⟨rfl, rfl, Nat.le_of_ble_eq_true rfl, Nat.le_of_ble_eq_true rfl⟩ rfl rfl hP hD hA hS rfl hl.1 rfl (Nat.le_of_ble_eq_true rfl) d_GlyphPositionsModel_checkScript_114 (fun H locs hP hS => ?_)
        refine lv_iinc (v := x7_86 + 1) (lv' := [(7, .int (x7_86 + 1)), (5, .long x8_86), (0, .ref (G.2.2 36)), (1, .long x1_39), (4, .int x4_39), (8, .long x8_86)]) hx hb d_GlyphPositionsModel_checkScript_117 hl (k := 4) rfl rfl (by decide) rfl (fun ls hl => ?_)
        refine lv_goto (tgt := 39) hx hb d_GlyphPositionsModel_checkScript_120 (by decide) ?_
        exact ih_39 _ _ _ _ _ _ hf hP hS (lv_sub hl [2, 3, 4, 1, 0] rfl)
      intro x5_39 x7_39 st_39 H locs ls hf hP hS hl
      rw [xGlyphPositionsModel_checkScript_39] at hf
      refine lv_iload hx hb d_GlyphPositionsModel_checkScript_39 (lv_at hl 4 rfl) ?_
      refine lv_iload hx hb d_GlyphPositionsModel_checkScript_41 (lv_at hl 2 rfl) ?_
      refine lv_icmp_ge (tgt := 123) hx hb d_GlyphPositionsModel_checkScript_43 (by decide) (fun c1 => ?_) (fun c1 => ?_)
      · rw [if_pos c1] at hf
        exact q_vret hC hr hlk hf hP hS d_GlyphPositionsModel_checkScript_123
      rw [if_neg c1] at hf
      refine lv_aload_n hx hb d_GlyphPositionsModel_checkScript_46 rfl (lv_at hl 0 rfl) ?_
      refine xg_36_bad hC hP wq_147 d_GlyphPositionsModel_checkScript_47 ?_
      refine lv_if_ne (tgt := 123) hx hb d_GlyphPositionsModel_checkScript_50 (by decide) (fun c1 => ?_) (fun c1 => ?_)
      · rw [if_neg c1] at hf
        exact q_vret hC hr hlk hf hP hS d_GlyphPositionsModel_checkScript_123
      rw [if_pos c1] at hf
      refine lv_aload_n hx hb d_GlyphPositionsModel_checkScript_53 rfl (lv_at hl 0 rfl) ?_
      refine lv_lload_n hx hb d_GlyphPositionsModel_checkScript_54 rfl (lv_at hl 1 rfl) ?_
      refine lv_ldc2 (v := 4) hx hb hown (hts _ wq_150) d_GlyphPositionsModel_checkScript_55 ?_
      refine lv_ladd hx hb d_GlyphPositionsModel_checkScript_58 ?_
      refine lv_ldc2 (v := 6) hx hb hown (hts _ wq_152) d_GlyphPositionsModel_checkScript_59 ?_
      refine lv_iload hx hb d_GlyphPositionsModel_checkScript_62 (lv_at hl 4 rfl) ?_
      refine lv_i2l (v := x7_39.toInt64) hx hb d_GlyphPositionsModel_checkScript_64 rfl ?_
      refine lv_lmul hx hb d_GlyphPositionsModel_checkScript_65 ?_
      refine lv_ladd hx hb d_GlyphPositionsModel_checkScript_66 ?_
      obtain ⟨r3, sr3, h_r3, hf⟩ := q_bm_some hf
      refine q_callVl (As := [.long ((x1_39 + 4) + ((6 : Int64) * x7_39.toInt64))]) (rest := []) (q0 := 36) hC (c_xGlyphPositionsModel_u32 l G h_r3) cal_GlyphPositionsModel_u32 wq_158 ⟨rfl, rfl, Nat.le_of_ble_eq_true rfl, Nat.le_of_ble_eq_true rfl⟩ rfl rfl hP hD hA hS rfl hl.1 rfl (Nat.le_of_ble_eq_true rfl) d_GlyphPositionsModel_checkScript_67 (fun H locs hP hS => ?_)
      refine lv_lstore (lv' := [(8, .long r3), (0, .ref (G.2.2 36)), (1, .long x1_39), (4, .int x4_39), (5, .long x5_39), (7, .int x7_39)]) hx hb d_GlyphPositionsModel_checkScript_70 hl (by decide) rfl (fun ls hl => ?_)
      refine lv_aload_n hx hb d_GlyphPositionsModel_checkScript_72 rfl (lv_at hl 1 rfl) ?_
      refine lv_lload hx hb d_GlyphPositionsModel_checkScript_73 (lv_at hl 0 rfl) ?_
      refine lv_lload hx hb d_GlyphPositionsModel_checkScript_75 (lv_at hl 4 rfl) ?_
      refine W.lcmp hx hb d_GlyphPositionsModel_checkScript_77 ?_
      refine lv_if_le (tgt := 85) hx hb d_GlyphPositionsModel_checkScript_78 (by decide) (fun c1 => ?_) (fun c1 => ?_)
      · rw [if_pos c1] at hf
        refine lv_iconst (v := 0) hx hb d_GlyphPositionsModel_checkScript_85 (by decide) ?_
        exact J_86 _ _ _ _ _ _ _ hf hP hS (lv_sub hl [1, 2, 3, 5, 0] rfl)
      rw [if_neg c1] at hf
      refine lv_iconst (v := 1) hx hb d_GlyphPositionsModel_checkScript_81 (by decide) ?_
      refine lv_goto (tgt := 86) hx hb d_GlyphPositionsModel_checkScript_82 (by decide) ?_
      exact J_86 _ _ _ _ _ _ _ hf hP hS (lv_sub hl [1, 2, 3, 5, 0] rfl)
  have J_18 : ∀ (x1_18 : Int64) (st_18 : QSt) (H : Heap) (locs : List Loc) (ls : Array Slot), xGlyphPositionsModel_checkScript_18 N x1_18 st_18 = some so → va_P G.1 vwCl (wX G st_18) H → va_S A s.heap H locs → lv_has ls 10 [(0, .ref (G.2.2 36)), (1, .long x1_18)] → W p l e ({ frames := 4, cells := 0, slots := 0, locals := 93 } : Room) s m args below meth c H locs 0 0 (q_Zv below args s G.1 (wX G) so A) (F0 m 18 ls []) := by
    intro x1_18 st_18 H locs ls hf hP hS hl
    unfold xGlyphPositionsModel_checkScript_18 at hf
    refine lv_aload_n hx hb d_GlyphPositionsModel_checkScript_18 rfl (lv_at hl 0 rfl) ?_
    refine lv_lload_n hx hb d_GlyphPositionsModel_checkScript_19 rfl (lv_at hl 1 rfl) ?_
    refine lv_ldc2 (v := 2) hx hb hown (hts _ wq_149) d_GlyphPositionsModel_checkScript_20 ?_
    refine lv_ladd hx hb d_GlyphPositionsModel_checkScript_23 ?_
    refine lv_bipush (v := 64) hx hb d_GlyphPositionsModel_checkScript_24 (by decide) ?_
    obtain ⟨r2, sr2, h_r2, hf⟩ := q_bm_some hf
    refine q_callVi (As := [.long (x1_18 + 2), .int 64]) (rest := []) (q0 := 36) hC (c_xGlyphPositionsModel_atMost l G h_r2) cal_GlyphPositionsModel_atMost wq_156 ⟨rfl, rfl, Nat.le_of_ble_eq_true rfl, Nat.le_of_ble_eq_true rfl⟩ rfl rfl hP hD hA hS rfl hl.1 rfl (Nat.le_of_ble_eq_true rfl) d_GlyphPositionsModel_checkScript_26 (fun H locs hP hS => ?_)
    refine lv_istore (lv' := [(4, .int r2), (0, .ref (G.2.2 36)), (1, .long x1_18)]) hx hb d_GlyphPositionsModel_checkScript_29 hl (by decide) rfl (fun ls hl => ?_)
    refine lv_ldc2 (v := (-1)) hx hb hown (hts _ wq_159) d_GlyphPositionsModel_checkScript_31 ?_
    refine lv_lstore (lv' := [(5, .long (-1)), (4, .int r2), (0, .ref (G.2.2 36)), (1, .long x1_18)]) hx hb d_GlyphPositionsModel_checkScript_34 hl (by decide) rfl (fun ls hl => ?_)
    refine lv_iconst (v := 0) hx hb d_GlyphPositionsModel_checkScript_36 (by decide) ?_
    refine lv_istore (lv' := [(7, .int 0), (5, .long (-1)), (4, .int r2), (0, .ref (G.2.2 36)), (1, .long x1_18)]) hx hb d_GlyphPositionsModel_checkScript_37 hl (by decide) rfl (fun ls hl => ?_)
    exact L_39 _ _ _ _ _ _ _ _ _ hf hP hS (lv_sub hl [3, 4, 2, 1, 0] rfl)
  unfold xGlyphPositionsModel_checkScript at hf
  refine lv_aload_n hx hb d_GlyphPositionsModel_checkScript_0 rfl (lv_at hl 0 rfl) ?_
  refine lv_lload_n hx hb d_GlyphPositionsModel_checkScript_1 rfl (lv_at hl 1 rfl) ?_
  obtain ⟨r1, sr1, h_r1, hf⟩ := q_bm_some hf
  refine q_callVi (As := [.long x1]) (rest := []) (q0 := 36) hC (c_xGlyphPositionsModel_u16 l G h_r1) cal_GlyphPositionsModel_u16 wq_151 ⟨rfl, rfl, Nat.le_of_ble_eq_true rfl, Nat.le_of_ble_eq_true rfl⟩ rfl rfl hP hD hA hS rfl hl.1 rfl (Nat.le_of_ble_eq_true rfl) d_GlyphPositionsModel_checkScript_2 (fun H locs hP hS => ?_)
  refine lv_istore_n (lv' := [(3, .int r1), (0, .ref (G.2.2 36)), (1, .long x1)]) hx hb d_GlyphPositionsModel_checkScript_5 rfl hl (by decide) rfl (fun ls hl => ?_)
  refine lv_iload_n hx hb d_GlyphPositionsModel_checkScript_6 rfl (lv_at hl 0 rfl) ?_
  refine lv_if_le (tgt := 18) hx hb d_GlyphPositionsModel_checkScript_7 (by decide) (fun c1 => ?_) (fun c1 => ?_)
  · rw [if_pos c1] at hf
    exact J_18 _ _ _ _ _ hf hP hS (lv_sub hl [1, 2] rfl)
  rw [if_neg c1] at hf
  refine lv_aload_n hx hb d_GlyphPositionsModel_checkScript_10 rfl (lv_at hl 1 rfl) ?_
  refine lv_lload_n hx hb d_GlyphPositionsModel_checkScript_11 rfl (lv_at hl 2 rfl) ?_
  refine lv_iload_n hx hb d_GlyphPositionsModel_checkScript_12 rfl (lv_at hl 0 rfl) ?_
  refine lv_i2l (v := r1.toInt64) hx hb d_GlyphPositionsModel_checkScript_13 rfl ?_
  refine lv_ladd hx hb d_GlyphPositionsModel_checkScript_14 ?_
  obtain ⟨sr7, h_r7, hf⟩ := q_bv_some hf
  refine q_callVv (As := [.long (x1 + r1.toInt64)]) (rest := []) (q0 := 36) hC (c_xGlyphPositionsModel_checkLanguage l G h_r7) cal_GlyphPositionsModel_checkLanguage wq_157 ⟨rfl, rfl, Nat.le_of_ble_eq_true rfl, Nat.le_of_ble_eq_true rfl⟩ rfl rfl hP hD hA hS rfl hl.1 rfl (Nat.le_of_ble_eq_true rfl) d_GlyphPositionsModel_checkScript_15 (fun H locs hP hS => ?_)
  exact J_18 _ _ _ _ _ hf hP hS (lv_sub hl [1, 2] rfl)
def xGlyphPositionsModel_checkScripts_71 (N : Nat) (rec_25 : Int64 → Int32 → QSt → Option QSt) (x1_25 : Int64) (x3_25 x6_71 : Int32) (x7_71 : Int64) (w1_71 : Int32) (st_71 : QSt) : Option QSt :=
  q_bv (xGlyphPositionsModel_need w1_71 st_71) (fun sr5 => q_bm (xGlyphPositionsModel_u16 ((x1_25 + 6) + ((6 : Int64) * x6_71.toInt64)) sr5) (fun r6 sr6 => q_bv (xGlyphPositionsModel_checkScript N (x1_25 + r6.toInt64) sr6) (fun sr7 => rec_25 x7_71 (x6_71 + 1) sr7)))
def xGlyphPositionsModel_checkScripts_25 (N : Nat) (x1_25 : Int64) (x3_25 : Int32) : Nat → Int64 → Int32 → QSt → Option QSt
  | 0, _, _, _ => none
  | n_25 + 1, x4_25, x6_25, st_25 => if x3_25 ≤ x6_25 then (some st_25) else (if (st_25.1 14) = 0 then (q_bm (xGlyphPositionsModel_u32 ((x1_25 + 2) + ((6 : Int64) * x6_25.toInt64)) st_25) (fun r4 sr4 => if (lg_cmp r4 x4_25) ≤ 0 then (xGlyphPositionsModel_checkScripts_71 N (xGlyphPositionsModel_checkScripts_25 N x1_25 x3_25 n_25) x1_25 x3_25 x6_25 r4 0 sr4) else (xGlyphPositionsModel_checkScripts_71 N (xGlyphPositionsModel_checkScripts_25 N x1_25 x3_25 n_25) x1_25 x3_25 x6_25 r4 1 sr4))) else (some st_25))
def xGlyphPositionsModel_checkScripts (N : Nat) (st : QSt) : Option QSt :=
  q_bm (xGlyphPositionsModel_u16 4 st) (fun r1 sr1 => q_lt r1.toInt64 (fun x1_1002 => q_bm (xGlyphPositionsModel_atMost x1_1002 64 sr1) (fun r3 sr3 => xGlyphPositionsModel_checkScripts_25 N x1_1002 r3 N (-1) 0 sr3)))
set_option maxHeartbeats 4000000 in
set_option maxRecDepth 100000 in
theorem c_xGlyphPositionsModel_checkScripts (l : Launch) (G : XG) {N : Nat} {st : QSt} {so : QSt} (hf : xGlyphPositionsModel_checkScripts N st = some so) : q_Mv l y_GlyphPositionsModel_checkScripts b_GlyphPositionsModel_checkScripts 9 ({ frames := 5, cells := 0, slots := 0, locals := 122 } : Room) G.1 (xT G) (wX G) [.ref (G.2.2 36)] st so := by
  refine q_Mv_of (by decide) (Nat.le_of_ble_eq_true rfl) (wX_fst G) ?_
  intro p e s m args below meth c A ls hC hr hlk hT hD hA hP hS hl
  have hx := hC.1.1
  have hb := hC.1.2.1
  have hown := hC.1.2.2.2.1
  have hts := hC.1.2.2.2.2
  have hl : lv_has ls 9 [(0, .ref (G.2.2 36))] := hl
  have L_25 : ∀ (x1_25 : Int64) (x3_25 : Int32) (n_25 : Nat) (x4_25 : Int64) (x6_25 : Int32) (st_25 : QSt) (H : Heap) (locs : List Loc) (ls : Array Slot), xGlyphPositionsModel_checkScripts_25 N x1_25 x3_25 n_25 x4_25 x6_25 st_25 = some so → va_P G.1 vwCl (wX G st_25) H → va_S A s.heap H locs → lv_has ls 9 [(0, .ref (G.2.2 36)), (1, .long x1_25), (3, .int x3_25), (4, .long x4_25), (6, .int x6_25)] → W p l e ({ frames := 5, cells := 0, slots := 0, locals := 122 } : Room) s m args below meth c H locs 0 0 (q_Zv below args s G.1 (wX G) so A) (F0 m 25 ls []) := by
    intro x1_25 x3_25 n_25
    induction n_25 with
    | zero => intro _ _ _ _ _ _ hf; exact absurd hf (by simp [xGlyphPositionsModel_checkScripts_25])
    | succ n_25 ih_25 =>
      have J_71 : ∀ (x6_71 : Int32) (x7_71 : Int64) (w1_71 : Int32) (st_71 : QSt) (H : Heap) (locs : List Loc) (ls : Array Slot), xGlyphPositionsModel_checkScripts_71 N (xGlyphPositionsModel_checkScripts_25 N x1_25 x3_25 n_25) x1_25 x3_25 x6_71 x7_71 w1_71 st_71 = some so → va_P G.1 vwCl (wX G st_71) H → va_S A s.heap H locs → lv_has ls 9 [(0, .ref (G.2.2 36)), (1, .long x1_25), (3, .int x3_25), (6, .int x6_71), (7, .long x7_71)] → W p l e ({ frames := 5, cells := 0, slots := 0, locals := 122 } : Room) s m args below meth c H locs 0 0 (q_Zv below args s G.1 (wX G) so A) (F0 m 71 ls [.int w1_71, .ref (G.2.2 36)]) := by
        intro x6_71 x7_71 w1_71 st_71 H locs ls hf hP hS hl
        unfold xGlyphPositionsModel_checkScripts_71 at hf
        obtain ⟨sr5, h_r5, hf⟩ := q_bv_some hf
        refine q_callVv (As := [.int w1_71]) (rest := []) (q0 := 36) hC (c_xGlyphPositionsModel_need l G h_r5) cal_GlyphPositionsModel_need wq_148 ⟨rfl, rfl, Nat.le_of_ble_eq_true rfl, Nat.le_of_ble_eq_true rfl⟩ rfl rfl hP hD hA hS rfl hl.1 rfl (Nat.le_of_ble_eq_true rfl) d_GlyphPositionsModel_checkScripts_71 (fun H locs hP hS => ?_)
        refine lv_lload hx hb d_GlyphPositionsModel_checkScripts_74 (lv_at hl 4 rfl) ?_
        refine lv_lstore (lv' := [(4, .long x7_71), (0, .ref (G.2.2 36)), (1, .long x1_25), (3, .int x3_25), (6, .int x6_71), (7, .long x7_71)]) hx hb d_GlyphPositionsModel_checkScripts_76 hl (by decide) rfl (fun ls hl => ?_)
        refine lv_aload_n hx hb d_GlyphPositionsModel_checkScripts_78 rfl (lv_at hl 1 rfl) ?_
        refine lv_lload_n hx hb d_GlyphPositionsModel_checkScripts_79 rfl (lv_at hl 2 rfl) ?_
        refine lv_aload_n hx hb d_GlyphPositionsModel_checkScripts_80 rfl (lv_at hl 1 rfl) ?_
        refine lv_lload_n hx hb d_GlyphPositionsModel_checkScripts_81 rfl (lv_at hl 2 rfl) ?_
        refine lv_ldc2 (v := 6) hx hb hown (hts _ wq_152) d_GlyphPositionsModel_checkScripts_82 ?_
        refine lv_ladd hx hb d_GlyphPositionsModel_checkScripts_85 ?_
        refine lv_ldc2 (v := 6) hx hb hown (hts _ wq_152) d_GlyphPositionsModel_checkScripts_86 ?_
        refine lv_iload hx hb d_GlyphPositionsModel_checkScripts_89 (lv_at hl 4 rfl) ?_
        refine lv_i2l (v := x6_71.toInt64) hx hb d_GlyphPositionsModel_checkScripts_91 rfl ?_
        refine lv_lmul hx hb d_GlyphPositionsModel_checkScripts_92 ?_
        refine lv_ladd hx hb d_GlyphPositionsModel_checkScripts_93 ?_
        obtain ⟨r6, sr6, h_r6, hf⟩ := q_bm_some hf
        refine q_callVi (As := [.long ((x1_25 + 6) + ((6 : Int64) * x6_71.toInt64))]) (rest := [.long x1_25, .ref (G.2.2 36)]) (q0 := 36) hC (c_xGlyphPositionsModel_u16 l G h_r6) cal_GlyphPositionsModel_u16 wq_151 ⟨rfl, rfl, Nat.le_of_ble_eq_true rfl, Nat.le_of_ble_eq_true rfl⟩ rfl rfl hP hD hA hS rfl hl.1 rfl (Nat.le_of_ble_eq_true rfl) d_GlyphPositionsModel_checkScripts_94 (fun H locs hP hS => ?_)
        refine lv_i2l (v := r6.toInt64) hx hb d_GlyphPositionsModel_checkScripts_97 rfl ?_
        refine lv_ladd hx hb d_GlyphPositionsModel_checkScripts_98 ?_
        obtain ⟨sr7, h_r7, hf⟩ := q_bv_some hf
        refine q_callVv (As := [.long (x1_25 + r6.toInt64)]) (rest := []) (q0 := 36) hC (c_xGlyphPositionsModel_checkScript l G h_r7) cal_GlyphPositionsModel_checkScript wq_160 ⟨rfl, rfl, Nat.le_of_ble_eq_true rfl, Nat.le_of_ble_eq_true rfl⟩ rfl rfl hP hD hA hS rfl hl.1 rfl (Nat.le_of_ble_eq_true rfl) d_GlyphPositionsModel_checkScripts_99 (fun H locs hP hS => ?_)
        refine lv_iinc (v := x6_71 + 1) (lv' := [(6, .int (x6_71 + 1)), (4, .long x7_71), (0, .ref (G.2.2 36)), (1, .long x1_25), (3, .int x3_25), (7, .long x7_71)]) hx hb d_GlyphPositionsModel_checkScripts_102 hl (k := 4) rfl rfl (by decide) rfl (fun ls hl => ?_)
        refine lv_goto (tgt := 25) hx hb d_GlyphPositionsModel_checkScripts_105 (by decide) ?_
        exact ih_25 _ _ _ _ _ _ hf hP hS (lv_sub hl [2, 3, 4, 1, 0] rfl)
      intro x4_25 x6_25 st_25 H locs ls hf hP hS hl
      rw [xGlyphPositionsModel_checkScripts_25] at hf
      refine lv_iload hx hb d_GlyphPositionsModel_checkScripts_25 (lv_at hl 4 rfl) ?_
      refine lv_iload_n hx hb d_GlyphPositionsModel_checkScripts_27 rfl (lv_at hl 2 rfl) ?_
      refine lv_icmp_ge (tgt := 108) hx hb d_GlyphPositionsModel_checkScripts_28 (by decide) (fun c1 => ?_) (fun c1 => ?_)
      · rw [if_pos c1] at hf
        exact q_vret hC hr hlk hf hP hS d_GlyphPositionsModel_checkScripts_108
      rw [if_neg c1] at hf
      refine lv_aload_n hx hb d_GlyphPositionsModel_checkScripts_31 rfl (lv_at hl 0 rfl) ?_
      refine xg_36_bad hC hP wq_147 d_GlyphPositionsModel_checkScripts_32 ?_
      refine lv_if_ne (tgt := 108) hx hb d_GlyphPositionsModel_checkScripts_35 (by decide) (fun c1 => ?_) (fun c1 => ?_)
      · rw [if_neg c1] at hf
        exact q_vret hC hr hlk hf hP hS d_GlyphPositionsModel_checkScripts_108
      rw [if_pos c1] at hf
      refine lv_aload_n hx hb d_GlyphPositionsModel_checkScripts_38 rfl (lv_at hl 0 rfl) ?_
      refine lv_lload_n hx hb d_GlyphPositionsModel_checkScripts_39 rfl (lv_at hl 1 rfl) ?_
      refine lv_ldc2 (v := 2) hx hb hown (hts _ wq_149) d_GlyphPositionsModel_checkScripts_40 ?_
      refine lv_ladd hx hb d_GlyphPositionsModel_checkScripts_43 ?_
      refine lv_ldc2 (v := 6) hx hb hown (hts _ wq_152) d_GlyphPositionsModel_checkScripts_44 ?_
      refine lv_iload hx hb d_GlyphPositionsModel_checkScripts_47 (lv_at hl 4 rfl) ?_
      refine lv_i2l (v := x6_25.toInt64) hx hb d_GlyphPositionsModel_checkScripts_49 rfl ?_
      refine lv_lmul hx hb d_GlyphPositionsModel_checkScripts_50 ?_
      refine lv_ladd hx hb d_GlyphPositionsModel_checkScripts_51 ?_
      obtain ⟨r4, sr4, h_r4, hf⟩ := q_bm_some hf
      refine q_callVl (As := [.long ((x1_25 + 2) + ((6 : Int64) * x6_25.toInt64))]) (rest := []) (q0 := 36) hC (c_xGlyphPositionsModel_u32 l G h_r4) cal_GlyphPositionsModel_u32 wq_158 ⟨rfl, rfl, Nat.le_of_ble_eq_true rfl, Nat.le_of_ble_eq_true rfl⟩ rfl rfl hP hD hA hS rfl hl.1 rfl (Nat.le_of_ble_eq_true rfl) d_GlyphPositionsModel_checkScripts_52 (fun H locs hP hS => ?_)
      refine lv_lstore (lv' := [(7, .long r4), (0, .ref (G.2.2 36)), (1, .long x1_25), (3, .int x3_25), (4, .long x4_25), (6, .int x6_25)]) hx hb d_GlyphPositionsModel_checkScripts_55 hl (by decide) rfl (fun ls hl => ?_)
      refine lv_aload_n hx hb d_GlyphPositionsModel_checkScripts_57 rfl (lv_at hl 1 rfl) ?_
      refine lv_lload hx hb d_GlyphPositionsModel_checkScripts_58 (lv_at hl 0 rfl) ?_
      refine lv_lload hx hb d_GlyphPositionsModel_checkScripts_60 (lv_at hl 4 rfl) ?_
      refine W.lcmp hx hb d_GlyphPositionsModel_checkScripts_62 ?_
      refine lv_if_le (tgt := 70) hx hb d_GlyphPositionsModel_checkScripts_63 (by decide) (fun c1 => ?_) (fun c1 => ?_)
      · rw [if_pos c1] at hf
        refine lv_iconst (v := 0) hx hb d_GlyphPositionsModel_checkScripts_70 (by decide) ?_
        exact J_71 _ _ _ _ _ _ _ hf hP hS (lv_sub hl [1, 2, 3, 5, 0] rfl)
      rw [if_neg c1] at hf
      refine lv_iconst (v := 1) hx hb d_GlyphPositionsModel_checkScripts_66 (by decide) ?_
      refine lv_goto (tgt := 71) hx hb d_GlyphPositionsModel_checkScripts_67 (by decide) ?_
      exact J_71 _ _ _ _ _ _ _ hf hP hS (lv_sub hl [1, 2, 3, 5, 0] rfl)
  unfold xGlyphPositionsModel_checkScripts at hf
  refine lv_aload_n hx hb d_GlyphPositionsModel_checkScripts_0 rfl (lv_at hl 0 rfl) ?_
  refine lv_ldc2 (v := 4) hx hb hown (hts _ wq_150) d_GlyphPositionsModel_checkScripts_1 ?_
  obtain ⟨r1, sr1, h_r1, hf⟩ := q_bm_some hf
  refine q_callVi (As := [.long 4]) (rest := []) (q0 := 36) hC (c_xGlyphPositionsModel_u16 l G h_r1) cal_GlyphPositionsModel_u16 wq_151 ⟨rfl, rfl, Nat.le_of_ble_eq_true rfl, Nat.le_of_ble_eq_true rfl⟩ rfl rfl hP hD hA hS rfl hl.1 rfl (Nat.le_of_ble_eq_true rfl) d_GlyphPositionsModel_checkScripts_4 (fun H locs hP hS => ?_)
  refine lv_i2l (v := r1.toInt64) hx hb d_GlyphPositionsModel_checkScripts_7 rfl ?_
  obtain ⟨x1_1002, e_x1_1002, hf⟩ := q_lt_some hf
  refine q_topl e_x1_1002 ?_
  refine lv_lstore_n (lv' := [(1, .long x1_1002), (0, .ref (G.2.2 36))]) hx hb d_GlyphPositionsModel_checkScripts_8 rfl hl (by decide) rfl (fun ls hl => ?_)
  refine lv_aload_n hx hb d_GlyphPositionsModel_checkScripts_9 rfl (lv_at hl 1 rfl) ?_
  refine lv_lload_n hx hb d_GlyphPositionsModel_checkScripts_10 rfl (lv_at hl 0 rfl) ?_
  refine lv_bipush (v := 64) hx hb d_GlyphPositionsModel_checkScripts_11 (by decide) ?_
  obtain ⟨r3, sr3, h_r3, hf⟩ := q_bm_some hf
  refine q_callVi (As := [.long x1_1002, .int 64]) (rest := []) (q0 := 36) hC (c_xGlyphPositionsModel_atMost l G h_r3) cal_GlyphPositionsModel_atMost wq_156 ⟨rfl, rfl, Nat.le_of_ble_eq_true rfl, Nat.le_of_ble_eq_true rfl⟩ rfl rfl hP hD hA hS rfl hl.1 rfl (Nat.le_of_ble_eq_true rfl) d_GlyphPositionsModel_checkScripts_13 (fun H locs hP hS => ?_)
  refine lv_istore_n (lv' := [(3, .int r3), (1, .long x1_1002), (0, .ref (G.2.2 36))]) hx hb d_GlyphPositionsModel_checkScripts_16 rfl hl (by decide) rfl (fun ls hl => ?_)
  refine lv_ldc2 (v := (-1)) hx hb hown (hts _ wq_159) d_GlyphPositionsModel_checkScripts_17 ?_
  refine lv_lstore (lv' := [(4, .long (-1)), (3, .int r3), (1, .long x1_1002), (0, .ref (G.2.2 36))]) hx hb d_GlyphPositionsModel_checkScripts_20 hl (by decide) rfl (fun ls hl => ?_)
  refine lv_iconst (v := 0) hx hb d_GlyphPositionsModel_checkScripts_22 (by decide) ?_
  refine lv_istore (lv' := [(6, .int 0), (4, .long (-1)), (3, .int r3), (1, .long x1_1002), (0, .ref (G.2.2 36))]) hx hb d_GlyphPositionsModel_checkScripts_23 hl (by decide) rfl (fun ls hl => ?_)
  exact L_25 _ _ _ _ _ _ _ _ _ hf hP hS (lv_sub hl [4, 3, 2, 1, 0] rfl)
def xGlyphPositionsModel_lookupCount (st : QSt) : Option (Int32 × QSt) :=
  q_bm (xGlyphPositionsModel_u16 8 st) (fun r1 sr1 => q_bm (xGlyphPositionsModel_u16 r1.toInt64 sr1) (fun r2 sr2 => some (r2, sr2)))
set_option maxHeartbeats 4000000 in
set_option maxRecDepth 100000 in
theorem c_xGlyphPositionsModel_lookupCount (l : Launch) (G : XG) {st : QSt} {ro : Int32} {so : QSt} (hf : xGlyphPositionsModel_lookupCount st = some (ro, so)) : q_Mi l y_GlyphPositionsModel_lookupCount b_GlyphPositionsModel_lookupCount 1 .int ({ frames := 2, cells := 0, slots := 0, locals := 44 } : Room) G.1 (xT G) (wX G) [.ref (G.2.2 36)] st ro so := by
  refine q_Mi_of (by decide) (Nat.le_of_ble_eq_true rfl) (wX_fst G) ?_
  intro p e s m args below meth c A ls hC hr hlk hT hD hA hP hS hl
  have hx := hC.1.1
  have hb := hC.1.2.1
  have hown := hC.1.2.2.2.1
  have hts := hC.1.2.2.2.2
  have hl : lv_has ls 1 [(0, .ref (G.2.2 36))] := hl
  unfold xGlyphPositionsModel_lookupCount at hf
  refine lv_aload_n hx hb d_GlyphPositionsModel_lookupCount_0 rfl (lv_at hl 0 rfl) ?_
  refine lv_aload_n hx hb d_GlyphPositionsModel_lookupCount_1 rfl (lv_at hl 0 rfl) ?_
  refine lv_ldc2 (v := 8) hx hb hown (hts _ wq_153) d_GlyphPositionsModel_lookupCount_2 ?_
  obtain ⟨r1, sr1, h_r1, hf⟩ := q_bm_some hf
  refine q_callVi (As := [.long 8]) (rest := [.ref (G.2.2 36)]) (q0 := 36) hC (c_xGlyphPositionsModel_u16 l G h_r1) cal_GlyphPositionsModel_u16 wq_151 ⟨rfl, rfl, Nat.le_of_ble_eq_true rfl, Nat.le_of_ble_eq_true rfl⟩ rfl rfl hP hD hA hS rfl hl.1 rfl (Nat.le_of_ble_eq_true rfl) d_GlyphPositionsModel_lookupCount_5 (fun H locs hP hS => ?_)
  refine lv_i2l (v := r1.toInt64) hx hb d_GlyphPositionsModel_lookupCount_8 rfl ?_
  obtain ⟨r2, sr2, h_r2, hf⟩ := q_bm_some hf
  refine q_callVi (As := [.long r1.toInt64]) (rest := []) (q0 := 36) hC (c_xGlyphPositionsModel_u16 l G h_r2) cal_GlyphPositionsModel_u16 wq_151 ⟨rfl, rfl, Nat.le_of_ble_eq_true rfl, Nat.le_of_ble_eq_true rfl⟩ rfl rfl hP hD hA hS rfl hl.1 rfl (Nat.le_of_ble_eq_true rfl) d_GlyphPositionsModel_lookupCount_9 (fun H locs hP hS => ?_)
  exact q_iret hC hr hlk hf (by first | rfl | decide) hP hS d_GlyphPositionsModel_lookupCount_12
def xGlyphPositionsModel_checkFeatures_169 (N : Nat) (rec_25 : Int64 → Int32 → QSt → Option QSt) (rec_124 : Int32 → QSt → Option QSt) (x1_25 : Int64) (x3_25 : Int32) (x4_124 : Int64) (x6_124 : Int32) (x9_124 : Int64) (x11_124 x12_169 : Int32) (w1_169 : Int32) (st_169 : QSt) : Option QSt :=
  q_bv (xGlyphPositionsModel_need w1_169 st_169) (fun sr12 => rec_124 (x12_169 + 1) sr12)
def xGlyphPositionsModel_checkFeatures_124 (N : Nat) (rec_25 : Int64 → Int32 → QSt → Option QSt) (x1_25 : Int64) (x3_25 : Int32) (x4_124 : Int64) (x6_124 : Int32) (x9_124 : Int64) (x11_124 : Int32) : Nat → Int32 → QSt → Option QSt
  | 0, _, _ => none
  | n_124 + 1, x12_124, st_124 => if x11_124 ≤ x12_124 then (rec_25 x4_124 (x6_124 + 1) st_124) else (if (st_124.1 14) = 0 then (q_bm (xGlyphPositionsModel_u16 ((x9_124 + 4) + ((2 : Int64) * x12_124.toInt64)) st_124) (fun r10 sr10 => q_bm (xGlyphPositionsModel_lookupCount sr10) (fun r11 sr11 => if r11 ≤ r10 then (xGlyphPositionsModel_checkFeatures_169 N rec_25 (xGlyphPositionsModel_checkFeatures_124 N rec_25 x1_25 x3_25 x4_124 x6_124 x9_124 x11_124 n_124) x1_25 x3_25 x4_124 x6_124 x9_124 x11_124 x12_124 0 sr11) else (xGlyphPositionsModel_checkFeatures_169 N rec_25 (xGlyphPositionsModel_checkFeatures_124 N rec_25 x1_25 x3_25 x4_124 x6_124 x9_124 x11_124 n_124) x1_25 x3_25 x4_124 x6_124 x9_124 x11_124 x12_124 1 sr11)))) else (rec_25 x4_124 (x6_124 + 1) st_124))
def xGlyphPositionsModel_checkFeatures_71 (N : Nat) (rec_25 : Int64 → Int32 → QSt → Option QSt) (x1_25 : Int64) (x3_25 x6_71 : Int32) (x7_71 : Int64) (w1_71 : Int32) (st_71 : QSt) : Option QSt :=
  q_bv (xGlyphPositionsModel_need w1_71 st_71) (fun sr5 => q_bm (xGlyphPositionsModel_u16 ((x1_25 + 6) + ((6 : Int64) * x6_71.toInt64)) sr5) (fun r6 sr6 => q_lt (x1_25 + r6.toInt64) (fun x9_1007 => q_bm (xGlyphPositionsModel_u16 x9_1007 sr6) (fun r8 sr8 => q_bm (xGlyphPositionsModel_atMost (x9_1007 + 2) 64 sr8) (fun r9 sr9 => xGlyphPositionsModel_checkFeatures_124 N rec_25 x1_25 x3_25 x7_71 x6_71 x9_1007 r9 N 0 sr9)))))
def xGlyphPositionsModel_checkFeatures_25 (N : Nat) (x1_25 : Int64) (x3_25 : Int32) : Nat → Int64 → Int32 → QSt → Option QSt
  | 0, _, _, _ => none
  | n_25 + 1, x4_25, x6_25, st_25 => if x3_25 ≤ x6_25 then (some st_25) else (if (st_25.1 14) = 0 then (q_bm (xGlyphPositionsModel_u32 ((x1_25 + 2) + ((6 : Int64) * x6_25.toInt64)) st_25) (fun r4 sr4 => if (lg_cmp r4 x4_25) < 0 then (xGlyphPositionsModel_checkFeatures_71 N (xGlyphPositionsModel_checkFeatures_25 N x1_25 x3_25 n_25) x1_25 x3_25 x6_25 r4 0 sr4) else (xGlyphPositionsModel_checkFeatures_71 N (xGlyphPositionsModel_checkFeatures_25 N x1_25 x3_25 n_25) x1_25 x3_25 x6_25 r4 1 sr4))) else (some st_25))
def xGlyphPositionsModel_checkFeatures (N : Nat) (st : QSt) : Option QSt :=
  q_bm (xGlyphPositionsModel_u16 6 st) (fun r1 sr1 => q_lt r1.toInt64 (fun x1_1002 => q_bm (xGlyphPositionsModel_atMost x1_1002 64 sr1) (fun r3 sr3 => xGlyphPositionsModel_checkFeatures_25 N x1_1002 r3 N (-1) 0 sr3)))
set_option maxHeartbeats 4000000 in
set_option maxRecDepth 100000 in
theorem c_xGlyphPositionsModel_checkFeatures (l : Launch) (G : XG) {N : Nat} {st : QSt} {so : QSt} (hf : xGlyphPositionsModel_checkFeatures N st = some so) : q_Mv l y_GlyphPositionsModel_checkFeatures b_GlyphPositionsModel_checkFeatures 13 ({ frames := 3, cells := 0, slots := 0, locals := 68 } : Room) G.1 (xT G) (wX G) [.ref (G.2.2 36)] st so := by
  refine q_Mv_of (by decide) (Nat.le_of_ble_eq_true rfl) (wX_fst G) ?_
  intro p e s m args below meth c A ls hC hr hlk hT hD hA hP hS hl
  have hx := hC.1.1
  have hb := hC.1.2.1
  have hown := hC.1.2.2.2.1
  have hts := hC.1.2.2.2.2
  have hl : lv_has ls 13 [(0, .ref (G.2.2 36))] := hl
  have L_25 : ∀ (x1_25 : Int64) (x3_25 : Int32) (n_25 : Nat) (x4_25 : Int64) (x6_25 : Int32) (st_25 : QSt) (H : Heap) (locs : List Loc) (ls : Array Slot), xGlyphPositionsModel_checkFeatures_25 N x1_25 x3_25 n_25 x4_25 x6_25 st_25 = some so → va_P G.1 vwCl (wX G st_25) H → va_S A s.heap H locs → lv_has ls 13 [(0, .ref (G.2.2 36)), (1, .long x1_25), (3, .int x3_25), (4, .long x4_25), (6, .int x6_25)] → W p l e ({ frames := 3, cells := 0, slots := 0, locals := 68 } : Room) s m args below meth c H locs 0 0 (q_Zv below args s G.1 (wX G) so A) (F0 m 25 ls []) := by
    intro x1_25 x3_25 n_25
    induction n_25 with
    | zero => intro _ _ _ _ _ _ hf; exact absurd hf (by simp [xGlyphPositionsModel_checkFeatures_25])
    | succ n_25 ih_25 =>
      have L_124 : ∀ (x4_124 : Int64) (x6_124 : Int32) (x9_124 : Int64) (x11_124 : Int32) (n_124 : Nat) (x12_124 : Int32) (st_124 : QSt) (H : Heap) (locs : List Loc) (ls : Array Slot), xGlyphPositionsModel_checkFeatures_124 N (xGlyphPositionsModel_checkFeatures_25 N x1_25 x3_25 n_25) x1_25 x3_25 x4_124 x6_124 x9_124 x11_124 n_124 x12_124 st_124 = some so → va_P G.1 vwCl (wX G st_124) H → va_S A s.heap H locs → lv_has ls 13 [(0, .ref (G.2.2 36)), (1, .long x1_25), (3, .int x3_25), (4, .long x4_124), (6, .int x6_124), (9, .long x9_124), (11, .int x11_124), (12, .int x12_124)] → W p l e ({ frames := 3, cells := 0, slots := 0, locals := 68 } : Room) s m args below meth c H locs 0 0 (q_Zv below args s G.1 (wX G) so A) (F0 m 124 ls []) := by
        intro x4_124 x6_124 x9_124 x11_124 n_124
        induction n_124 with
        | zero => intro _ _ _ _ _ hf; exact absurd hf (by simp [xGlyphPositionsModel_checkFeatures_124])
        | succ n_124 ih_124 =>
          have J_169 : ∀ (x12_169 w1_169 : Int32) (st_169 : QSt) (H : Heap) (locs : List Loc) (ls : Array Slot), xGlyphPositionsModel_checkFeatures_169 N (xGlyphPositionsModel_checkFeatures_25 N x1_25 x3_25 n_25) (xGlyphPositionsModel_checkFeatures_124 N (xGlyphPositionsModel_checkFeatures_25 N x1_25 x3_25 n_25) x1_25 x3_25 x4_124 x6_124 x9_124 x11_124 n_124) x1_25 x3_25 x4_124 x6_124 x9_124 x11_124 x12_169 w1_169 st_169 = some so → va_P G.1 vwCl (wX G st_169) H → va_S A s.heap H locs → lv_has ls 13 [(0, .ref (G.2.2 36)), (1, .long x1_25), (3, .int x3_25), (4, .long x4_124), (6, .int x6_124), (9, .long x9_124), (11, .int x11_124), (12, .int x12_169)] → W p l e ({ frames := 3, cells := 0, slots := 0, locals := 68 } : Room) s m args below meth c H locs 0 0 (q_Zv below args s G.1 (wX G) so A) (F0 m 169 ls [.int w1_169, .ref (G.2.2 36)]) := by
            intro x12_169 w1_169 st_169 H locs ls hf hP hS hl
            unfold xGlyphPositionsModel_checkFeatures_169 at hf
            obtain ⟨sr12, h_r12, hf⟩ := q_bv_some hf
            refine q_callVv (As := [.int w1_169]) (rest := []) (q0 := 36) hC (c_xGlyphPositionsModel_need l G h_r12) cal_GlyphPositionsModel_need wq_148 ⟨rfl, rfl, Nat.le_of_ble_eq_true rfl, Nat.le_of_ble_eq_true rfl⟩ rfl rfl hP hD hA hS rfl hl.1 rfl (Nat.le_of_ble_eq_true rfl) d_GlyphPositionsModel_checkFeatures_169 (fun H locs hP hS => ?_)
            refine lv_iinc (v := x12_169 + 1) (lv' := [(12, .int (x12_169 + 1)), (0, .ref (G.2.2 36)), (1, .long x1_25), (3, .int x3_25), (4, .long x4_124), (6, .int x6_124), (9, .long x9_124), (11, .int x11_124)]) hx hb d_GlyphPositionsModel_checkFeatures_172 hl (k := 7) rfl rfl (by decide) rfl (fun ls hl => ?_)
            refine lv_goto (tgt := 124) hx hb d_GlyphPositionsModel_checkFeatures_175 (by decide) ?_
            exact ih_124 _ _ _ _ _ hf hP hS (lv_sub hl [1, 2, 3, 4, 5, 6, 7, 0] rfl)
          intro x12_124 st_124 H locs ls hf hP hS hl
          rw [xGlyphPositionsModel_checkFeatures_124] at hf
          refine lv_iload hx hb d_GlyphPositionsModel_checkFeatures_124 (lv_at hl 7 rfl) ?_
          refine lv_iload hx hb d_GlyphPositionsModel_checkFeatures_126 (lv_at hl 6 rfl) ?_
          refine lv_icmp_ge (tgt := 178) hx hb d_GlyphPositionsModel_checkFeatures_128 (by decide) (fun c1 => ?_) (fun c1 => ?_)
          · rw [if_pos c1] at hf
            refine lv_iinc (v := x6_124 + 1) (lv' := [(6, .int (x6_124 + 1)), (0, .ref (G.2.2 36)), (1, .long x1_25), (3, .int x3_25), (4, .long x4_124), (9, .long x9_124), (11, .int x11_124), (12, .int x12_124)]) hx hb d_GlyphPositionsModel_checkFeatures_178 hl (k := 4) rfl rfl (by decide) rfl (fun ls hl => ?_)
            refine lv_goto (tgt := 25) hx hb d_GlyphPositionsModel_checkFeatures_181 (by decide) ?_
            exact ih_25 _ _ _ _ _ _ hf hP hS (lv_sub hl [1, 2, 3, 4, 0] rfl)
          rw [if_neg c1] at hf
          refine lv_aload_n hx hb d_GlyphPositionsModel_checkFeatures_131 rfl (lv_at hl 0 rfl) ?_
          refine xg_36_bad hC hP wq_147 d_GlyphPositionsModel_checkFeatures_132 ?_
          refine lv_if_ne (tgt := 178) hx hb d_GlyphPositionsModel_checkFeatures_135 (by decide) (fun c1 => ?_) (fun c1 => ?_)
          · rw [if_neg c1] at hf
            refine lv_iinc (v := x6_124 + 1) (lv' := [(6, .int (x6_124 + 1)), (0, .ref (G.2.2 36)), (1, .long x1_25), (3, .int x3_25), (4, .long x4_124), (9, .long x9_124), (11, .int x11_124), (12, .int x12_124)]) hx hb d_GlyphPositionsModel_checkFeatures_178 hl (k := 4) rfl rfl (by decide) rfl (fun ls hl => ?_)
            refine lv_goto (tgt := 25) hx hb d_GlyphPositionsModel_checkFeatures_181 (by decide) ?_
            exact ih_25 _ _ _ _ _ _ hf hP hS (lv_sub hl [1, 2, 3, 4, 0] rfl)
          rw [if_pos c1] at hf
          refine lv_aload_n hx hb d_GlyphPositionsModel_checkFeatures_138 rfl (lv_at hl 0 rfl) ?_
          refine lv_aload_n hx hb d_GlyphPositionsModel_checkFeatures_139 rfl (lv_at hl 0 rfl) ?_
          refine lv_lload hx hb d_GlyphPositionsModel_checkFeatures_140 (lv_at hl 5 rfl) ?_
          refine lv_ldc2 (v := 4) hx hb hown (hts _ wq_150) d_GlyphPositionsModel_checkFeatures_142 ?_
          refine lv_ladd hx hb d_GlyphPositionsModel_checkFeatures_145 ?_
          refine lv_ldc2 (v := 2) hx hb hown (hts _ wq_149) d_GlyphPositionsModel_checkFeatures_146 ?_
          refine lv_iload hx hb d_GlyphPositionsModel_checkFeatures_149 (lv_at hl 7 rfl) ?_
          refine lv_i2l (v := x12_124.toInt64) hx hb d_GlyphPositionsModel_checkFeatures_151 rfl ?_
          refine lv_lmul hx hb d_GlyphPositionsModel_checkFeatures_152 ?_
          refine lv_ladd hx hb d_GlyphPositionsModel_checkFeatures_153 ?_
          obtain ⟨r10, sr10, h_r10, hf⟩ := q_bm_some hf
          refine q_callVi (As := [.long ((x9_124 + 4) + ((2 : Int64) * x12_124.toInt64))]) (rest := [.ref (G.2.2 36)]) (q0 := 36) hC (c_xGlyphPositionsModel_u16 l G h_r10) cal_GlyphPositionsModel_u16 wq_151 ⟨rfl, rfl, Nat.le_of_ble_eq_true rfl, Nat.le_of_ble_eq_true rfl⟩ rfl rfl hP hD hA hS rfl hl.1 rfl (Nat.le_of_ble_eq_true rfl) d_GlyphPositionsModel_checkFeatures_154 (fun H locs hP hS => ?_)
          refine lv_aload_n hx hb d_GlyphPositionsModel_checkFeatures_157 rfl (lv_at hl 0 rfl) ?_
          obtain ⟨r11, sr11, h_r11, hf⟩ := q_bm_some hf
          refine q_callVi (As := []) (rest := [.int r10, .ref (G.2.2 36)]) (q0 := 36) hC (c_xGlyphPositionsModel_lookupCount l G h_r11) cal_GlyphPositionsModel_lookupCount wq_161 ⟨rfl, rfl, Nat.le_of_ble_eq_true rfl, Nat.le_of_ble_eq_true rfl⟩ rfl rfl hP hD hA hS rfl hl.1 rfl (Nat.le_of_ble_eq_true rfl) d_GlyphPositionsModel_checkFeatures_158 (fun H locs hP hS => ?_)
          refine lv_icmp_ge (tgt := 168) hx hb d_GlyphPositionsModel_checkFeatures_161 (by decide) (fun c1 => ?_) (fun c1 => ?_)
          · rw [if_pos c1] at hf
            refine lv_iconst (v := 0) hx hb d_GlyphPositionsModel_checkFeatures_168 (by decide) ?_
            exact J_169 _ _ _ _ _ _ hf hP hS hl
          rw [if_neg c1] at hf
          refine lv_iconst (v := 1) hx hb d_GlyphPositionsModel_checkFeatures_164 (by decide) ?_
          refine lv_goto (tgt := 169) hx hb d_GlyphPositionsModel_checkFeatures_165 (by decide) ?_
          exact J_169 _ _ _ _ _ _ hf hP hS hl
      have J_71 : ∀ (x6_71 : Int32) (x7_71 : Int64) (w1_71 : Int32) (st_71 : QSt) (H : Heap) (locs : List Loc) (ls : Array Slot), xGlyphPositionsModel_checkFeatures_71 N (xGlyphPositionsModel_checkFeatures_25 N x1_25 x3_25 n_25) x1_25 x3_25 x6_71 x7_71 w1_71 st_71 = some so → va_P G.1 vwCl (wX G st_71) H → va_S A s.heap H locs → lv_has ls 13 [(0, .ref (G.2.2 36)), (1, .long x1_25), (3, .int x3_25), (6, .int x6_71), (7, .long x7_71)] → W p l e ({ frames := 3, cells := 0, slots := 0, locals := 68 } : Room) s m args below meth c H locs 0 0 (q_Zv below args s G.1 (wX G) so A) (F0 m 71 ls [.int w1_71, .ref (G.2.2 36)]) := by
        intro x6_71 x7_71 w1_71 st_71 H locs ls hf hP hS hl
        unfold xGlyphPositionsModel_checkFeatures_71 at hf
        obtain ⟨sr5, h_r5, hf⟩ := q_bv_some hf
        refine q_callVv (As := [.int w1_71]) (rest := []) (q0 := 36) hC (c_xGlyphPositionsModel_need l G h_r5) cal_GlyphPositionsModel_need wq_148 ⟨rfl, rfl, Nat.le_of_ble_eq_true rfl, Nat.le_of_ble_eq_true rfl⟩ rfl rfl hP hD hA hS rfl hl.1 rfl (Nat.le_of_ble_eq_true rfl) d_GlyphPositionsModel_checkFeatures_71 (fun H locs hP hS => ?_)
        refine lv_lload hx hb d_GlyphPositionsModel_checkFeatures_74 (lv_at hl 4 rfl) ?_
        refine lv_lstore (lv' := [(4, .long x7_71), (0, .ref (G.2.2 36)), (1, .long x1_25), (3, .int x3_25), (6, .int x6_71), (7, .long x7_71)]) hx hb d_GlyphPositionsModel_checkFeatures_76 hl (by decide) rfl (fun ls hl => ?_)
        refine lv_lload_n hx hb d_GlyphPositionsModel_checkFeatures_78 rfl (lv_at hl 2 rfl) ?_
        refine lv_aload_n hx hb d_GlyphPositionsModel_checkFeatures_79 rfl (lv_at hl 1 rfl) ?_
        refine lv_lload_n hx hb d_GlyphPositionsModel_checkFeatures_80 rfl (lv_at hl 2 rfl) ?_
        refine lv_ldc2 (v := 6) hx hb hown (hts _ wq_152) d_GlyphPositionsModel_checkFeatures_81 ?_
        refine lv_ladd hx hb d_GlyphPositionsModel_checkFeatures_84 ?_
        refine lv_ldc2 (v := 6) hx hb hown (hts _ wq_152) d_GlyphPositionsModel_checkFeatures_85 ?_
        refine lv_iload hx hb d_GlyphPositionsModel_checkFeatures_88 (lv_at hl 4 rfl) ?_
        refine lv_i2l (v := x6_71.toInt64) hx hb d_GlyphPositionsModel_checkFeatures_90 rfl ?_
        refine lv_lmul hx hb d_GlyphPositionsModel_checkFeatures_91 ?_
        refine lv_ladd hx hb d_GlyphPositionsModel_checkFeatures_92 ?_
        obtain ⟨r6, sr6, h_r6, hf⟩ := q_bm_some hf
        refine q_callVi (As := [.long ((x1_25 + 6) + ((6 : Int64) * x6_71.toInt64))]) (rest := [.long x1_25]) (q0 := 36) hC (c_xGlyphPositionsModel_u16 l G h_r6) cal_GlyphPositionsModel_u16 wq_151 ⟨rfl, rfl, Nat.le_of_ble_eq_true rfl, Nat.le_of_ble_eq_true rfl⟩ rfl rfl hP hD hA hS rfl hl.1 rfl (Nat.le_of_ble_eq_true rfl) d_GlyphPositionsModel_checkFeatures_93 (fun H locs hP hS => ?_)
        refine lv_i2l (v := r6.toInt64) hx hb d_GlyphPositionsModel_checkFeatures_96 rfl ?_
        refine lv_ladd hx hb d_GlyphPositionsModel_checkFeatures_97 ?_
        obtain ⟨x9_1007, e_x9_1007, hf⟩ := q_lt_some hf
        refine q_topl e_x9_1007 ?_
        refine lv_lstore (lv' := [(9, .long x9_1007), (4, .long x7_71), (0, .ref (G.2.2 36)), (1, .long x1_25), (3, .int x3_25), (6, .int x6_71), (7, .long x7_71)]) hx hb d_GlyphPositionsModel_checkFeatures_98 hl (by decide) rfl (fun ls hl => ?_)
        refine lv_aload_n hx hb d_GlyphPositionsModel_checkFeatures_100 rfl (lv_at hl 2 rfl) ?_
        refine lv_lload hx hb d_GlyphPositionsModel_checkFeatures_101 (lv_at hl 0 rfl) ?_
        obtain ⟨r8, sr8, h_r8, hf⟩ := q_bm_some hf
        refine q_callVi (As := [.long x9_1007]) (rest := []) (q0 := 36) hC (c_xGlyphPositionsModel_u16 l G h_r8) cal_GlyphPositionsModel_u16 wq_151 ⟨rfl, rfl, Nat.le_of_ble_eq_true rfl, Nat.le_of_ble_eq_true rfl⟩ rfl rfl hP hD hA hS rfl hl.1 rfl (Nat.le_of_ble_eq_true rfl) d_GlyphPositionsModel_checkFeatures_103 (fun H locs hP hS => ?_)
        refine lv_pop hx hb d_GlyphPositionsModel_checkFeatures_106 rfl ?_
        refine lv_aload_n hx hb d_GlyphPositionsModel_checkFeatures_107 rfl (lv_at hl 2 rfl) ?_
        refine lv_lload hx hb d_GlyphPositionsModel_checkFeatures_108 (lv_at hl 0 rfl) ?_
        refine lv_ldc2 (v := 2) hx hb hown (hts _ wq_149) d_GlyphPositionsModel_checkFeatures_110 ?_
        refine lv_ladd hx hb d_GlyphPositionsModel_checkFeatures_113 ?_
        refine lv_bipush (v := 64) hx hb d_GlyphPositionsModel_checkFeatures_114 (by decide) ?_
        obtain ⟨r9, sr9, h_r9, hf⟩ := q_bm_some hf
        refine q_callVi (As := [.long (x9_1007 + 2), .int 64]) (rest := []) (q0 := 36) hC (c_xGlyphPositionsModel_atMost l G h_r9) cal_GlyphPositionsModel_atMost wq_156 ⟨rfl, rfl, Nat.le_of_ble_eq_true rfl, Nat.le_of_ble_eq_true rfl⟩ rfl rfl hP hD hA hS rfl hl.1 rfl (Nat.le_of_ble_eq_true rfl) d_GlyphPositionsModel_checkFeatures_116 (fun H locs hP hS => ?_)
        refine lv_istore (lv' := [(11, .int r9), (9, .long x9_1007), (4, .long x7_71), (0, .ref (G.2.2 36)), (1, .long x1_25), (3, .int x3_25), (6, .int x6_71), (7, .long x7_71)]) hx hb d_GlyphPositionsModel_checkFeatures_119 hl (by decide) rfl (fun ls hl => ?_)
        refine lv_iconst (v := 0) hx hb d_GlyphPositionsModel_checkFeatures_121 (by decide) ?_
        refine lv_istore (lv' := [(12, .int 0), (11, .int r9), (9, .long x9_1007), (4, .long x7_71), (0, .ref (G.2.2 36)), (1, .long x1_25), (3, .int x3_25), (6, .int x6_71), (7, .long x7_71)]) hx hb d_GlyphPositionsModel_checkFeatures_122 hl (by decide) rfl (fun ls hl => ?_)
        exact L_124 _ _ _ _ _ _ _ _ _ _ hf hP hS (lv_sub hl [4, 5, 6, 3, 7, 2, 1, 0] rfl)
      intro x4_25 x6_25 st_25 H locs ls hf hP hS hl
      rw [xGlyphPositionsModel_checkFeatures_25] at hf
      refine lv_iload hx hb d_GlyphPositionsModel_checkFeatures_25 (lv_at hl 4 rfl) ?_
      refine lv_iload_n hx hb d_GlyphPositionsModel_checkFeatures_27 rfl (lv_at hl 2 rfl) ?_
      refine lv_icmp_ge (tgt := 184) hx hb d_GlyphPositionsModel_checkFeatures_28 (by decide) (fun c1 => ?_) (fun c1 => ?_)
      · rw [if_pos c1] at hf
        exact q_vret hC hr hlk hf hP hS d_GlyphPositionsModel_checkFeatures_184
      rw [if_neg c1] at hf
      refine lv_aload_n hx hb d_GlyphPositionsModel_checkFeatures_31 rfl (lv_at hl 0 rfl) ?_
      refine xg_36_bad hC hP wq_147 d_GlyphPositionsModel_checkFeatures_32 ?_
      refine lv_if_ne (tgt := 184) hx hb d_GlyphPositionsModel_checkFeatures_35 (by decide) (fun c1 => ?_) (fun c1 => ?_)
      · rw [if_neg c1] at hf
        exact q_vret hC hr hlk hf hP hS d_GlyphPositionsModel_checkFeatures_184
      rw [if_pos c1] at hf
      refine lv_aload_n hx hb d_GlyphPositionsModel_checkFeatures_38 rfl (lv_at hl 0 rfl) ?_
      refine lv_lload_n hx hb d_GlyphPositionsModel_checkFeatures_39 rfl (lv_at hl 1 rfl) ?_
      refine lv_ldc2 (v := 2) hx hb hown (hts _ wq_149) d_GlyphPositionsModel_checkFeatures_40 ?_
      refine lv_ladd hx hb d_GlyphPositionsModel_checkFeatures_43 ?_
      refine lv_ldc2 (v := 6) hx hb hown (hts _ wq_152) d_GlyphPositionsModel_checkFeatures_44 ?_
      refine lv_iload hx hb d_GlyphPositionsModel_checkFeatures_47 (lv_at hl 4 rfl) ?_
      refine lv_i2l (v := x6_25.toInt64) hx hb d_GlyphPositionsModel_checkFeatures_49 rfl ?_
      refine lv_lmul hx hb d_GlyphPositionsModel_checkFeatures_50 ?_
      refine lv_ladd hx hb d_GlyphPositionsModel_checkFeatures_51 ?_
      obtain ⟨r4, sr4, h_r4, hf⟩ := q_bm_some hf
      refine q_callVl (As := [.long ((x1_25 + 2) + ((6 : Int64) * x6_25.toInt64))]) (rest := []) (q0 := 36) hC (c_xGlyphPositionsModel_u32 l G h_r4) cal_GlyphPositionsModel_u32 wq_158 ⟨rfl, rfl, Nat.le_of_ble_eq_true rfl, Nat.le_of_ble_eq_true rfl⟩ rfl rfl hP hD hA hS rfl hl.1 rfl (Nat.le_of_ble_eq_true rfl) d_GlyphPositionsModel_checkFeatures_52 (fun H locs hP hS => ?_)
      refine lv_lstore (lv' := [(7, .long r4), (0, .ref (G.2.2 36)), (1, .long x1_25), (3, .int x3_25), (4, .long x4_25), (6, .int x6_25)]) hx hb d_GlyphPositionsModel_checkFeatures_55 hl (by decide) rfl (fun ls hl => ?_)
      refine lv_aload_n hx hb d_GlyphPositionsModel_checkFeatures_57 rfl (lv_at hl 1 rfl) ?_
      refine lv_lload hx hb d_GlyphPositionsModel_checkFeatures_58 (lv_at hl 0 rfl) ?_
      refine lv_lload hx hb d_GlyphPositionsModel_checkFeatures_60 (lv_at hl 4 rfl) ?_
      refine W.lcmp hx hb d_GlyphPositionsModel_checkFeatures_62 ?_
      refine lv_if_lt (tgt := 70) hx hb d_GlyphPositionsModel_checkFeatures_63 (by decide) (fun c1 => ?_) (fun c1 => ?_)
      · rw [if_pos c1] at hf
        refine lv_iconst (v := 0) hx hb d_GlyphPositionsModel_checkFeatures_70 (by decide) ?_
        exact J_71 _ _ _ _ _ _ _ hf hP hS (lv_sub hl [1, 2, 3, 5, 0] rfl)
      rw [if_neg c1] at hf
      refine lv_iconst (v := 1) hx hb d_GlyphPositionsModel_checkFeatures_66 (by decide) ?_
      refine lv_goto (tgt := 71) hx hb d_GlyphPositionsModel_checkFeatures_67 (by decide) ?_
      exact J_71 _ _ _ _ _ _ _ hf hP hS (lv_sub hl [1, 2, 3, 5, 0] rfl)
  unfold xGlyphPositionsModel_checkFeatures at hf
  refine lv_aload_n hx hb d_GlyphPositionsModel_checkFeatures_0 rfl (lv_at hl 0 rfl) ?_
  refine lv_ldc2 (v := 6) hx hb hown (hts _ wq_152) d_GlyphPositionsModel_checkFeatures_1 ?_
  obtain ⟨r1, sr1, h_r1, hf⟩ := q_bm_some hf
  refine q_callVi (As := [.long 6]) (rest := []) (q0 := 36) hC (c_xGlyphPositionsModel_u16 l G h_r1) cal_GlyphPositionsModel_u16 wq_151 ⟨rfl, rfl, Nat.le_of_ble_eq_true rfl, Nat.le_of_ble_eq_true rfl⟩ rfl rfl hP hD hA hS rfl hl.1 rfl (Nat.le_of_ble_eq_true rfl) d_GlyphPositionsModel_checkFeatures_4 (fun H locs hP hS => ?_)
  refine lv_i2l (v := r1.toInt64) hx hb d_GlyphPositionsModel_checkFeatures_7 rfl ?_
  obtain ⟨x1_1002, e_x1_1002, hf⟩ := q_lt_some hf
  refine q_topl e_x1_1002 ?_
  refine lv_lstore_n (lv' := [(1, .long x1_1002), (0, .ref (G.2.2 36))]) hx hb d_GlyphPositionsModel_checkFeatures_8 rfl hl (by decide) rfl (fun ls hl => ?_)
  refine lv_aload_n hx hb d_GlyphPositionsModel_checkFeatures_9 rfl (lv_at hl 1 rfl) ?_
  refine lv_lload_n hx hb d_GlyphPositionsModel_checkFeatures_10 rfl (lv_at hl 0 rfl) ?_
  refine lv_bipush (v := 64) hx hb d_GlyphPositionsModel_checkFeatures_11 (by decide) ?_
  obtain ⟨r3, sr3, h_r3, hf⟩ := q_bm_some hf
  refine q_callVi (As := [.long x1_1002, .int 64]) (rest := []) (q0 := 36) hC (c_xGlyphPositionsModel_atMost l G h_r3) cal_GlyphPositionsModel_atMost wq_156 ⟨rfl, rfl, Nat.le_of_ble_eq_true rfl, Nat.le_of_ble_eq_true rfl⟩ rfl rfl hP hD hA hS rfl hl.1 rfl (Nat.le_of_ble_eq_true rfl) d_GlyphPositionsModel_checkFeatures_13 (fun H locs hP hS => ?_)
  refine lv_istore_n (lv' := [(3, .int r3), (1, .long x1_1002), (0, .ref (G.2.2 36))]) hx hb d_GlyphPositionsModel_checkFeatures_16 rfl hl (by decide) rfl (fun ls hl => ?_)
  refine lv_ldc2 (v := (-1)) hx hb hown (hts _ wq_159) d_GlyphPositionsModel_checkFeatures_17 ?_
  refine lv_lstore (lv' := [(4, .long (-1)), (3, .int r3), (1, .long x1_1002), (0, .ref (G.2.2 36))]) hx hb d_GlyphPositionsModel_checkFeatures_20 hl (by decide) rfl (fun ls hl => ?_)
  refine lv_iconst (v := 0) hx hb d_GlyphPositionsModel_checkFeatures_22 (by decide) ?_
  refine lv_istore (lv' := [(6, .int 0), (4, .long (-1)), (3, .int r3), (1, .long x1_1002), (0, .ref (G.2.2 36))]) hx hb d_GlyphPositionsModel_checkFeatures_23 hl (by decide) rfl (fun ls hl => ?_)
  exact L_25 _ _ _ _ _ _ _ _ _ hf hP hS (lv_sub hl [4, 3, 2, 1, 0] rfl)
