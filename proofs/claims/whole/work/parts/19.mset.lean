def xGlyphPositionsModel_f16 (x1 : Int32) (st : QSt) : Option Int32 :=
  q_grd (q_vpb x1 8192) (q_lt (st.2 27 x1.toNatClampNeg) (fun v1 => q_grd (q_vpb (x1 + 1) 8192) (q_lt (st.2 27 (x1 + 1).toNatClampNeg) (fun v2 => some ((256 * v1) + v2)))))
set_option maxHeartbeats 4000000 in
set_option maxRecDepth 100000 in
theorem c_xGlyphPositionsModel_f16 (l : Launch) (G : XG) {x1 : Int32} {st : QSt} {ro : Int32} (hf : xGlyphPositionsModel_f16 x1 st = some ro) : q_Mp l y_GlyphPositionsModel_f16 b_GlyphPositionsModel_f16 2 .int ({ frames := 0, cells := 0, slots := 0, locals := 0 } : Room) G.1 (xT G) (wX G) [.ref (G.2.2 36), .int x1] st ro := by
  refine q_Mp_of (by decide) (Nat.le_of_ble_eq_true rfl) (wX_fst G) ?_
  intro p e s m args below meth c ls hC hr hlk hT hP hS hl
  have hx := hC.1.1
  have hb := hC.1.2.1
  have hown := hC.1.2.2.2.1
  have hts := hC.1.2.2.2.2
  have hl : lv_has ls 2 [(0, .ref (G.2.2 36)), (1, .int x1)] := hl
  unfold xGlyphPositionsModel_f16 at hf
  refine lv_sipush (v := 256) hx hb d_GlyphPositionsModel_f16_0 (by decide) ?_
  refine lv_aload_n hx hb d_GlyphPositionsModel_f16_3 rfl (lv_at hl 0 rfl) ?_
  refine xg_36_font hC hP wq_188 d_GlyphPositionsModel_f16_4 ?_
  refine lv_iload_n hx hb d_GlyphPositionsModel_f16_7 rfl (lv_at hl 1 rfl) ?_
  obtain ⟨hi, hf⟩ := q_grd_some hf
  obtain ⟨v1, e_v1, hf⟩ := q_lt_some hf
  refine xl_38 hC hP e_v1 hi d_GlyphPositionsModel_f16_8 ?_
  refine lv_imul hx hb d_GlyphPositionsModel_f16_9 ?_
  refine lv_aload_n hx hb d_GlyphPositionsModel_f16_10 rfl (lv_at hl 0 rfl) ?_
  refine xg_36_font hC hP wq_188 d_GlyphPositionsModel_f16_11 ?_
  refine lv_iload_n hx hb d_GlyphPositionsModel_f16_14 rfl (lv_at hl 1 rfl) ?_
  refine lv_iconst (v := 1) hx hb d_GlyphPositionsModel_f16_15 (by decide) ?_
  refine lv_iadd hx hb d_GlyphPositionsModel_f16_16 ?_
  obtain ⟨hi, hf⟩ := q_grd_some hf
  obtain ⟨v2, e_v2, hf⟩ := q_lt_some hf
  refine xl_38 hC hP e_v2 hi d_GlyphPositionsModel_f16_17 ?_
  refine lv_iadd hx hb d_GlyphPositionsModel_f16_18 ?_
  exact q_iretP hC hr hlk hf (by first | rfl | decide) hS d_GlyphPositionsModel_f16_19
def xGlyphPositionsModel_f32 (x1 : Int32) (st : QSt) : Option Int32 :=
  q_bn (xGlyphPositionsModel_f16 x1 st) (fun r1 => q_bn (xGlyphPositionsModel_f16 (x1 + 2) st) (fun r2 => some ((r1 <<< (16 &&& 31)) ||| r2)))
set_option maxHeartbeats 4000000 in
set_option maxRecDepth 100000 in
theorem c_xGlyphPositionsModel_f32 (l : Launch) (G : XG) {x1 : Int32} {st : QSt} {ro : Int32} (hf : xGlyphPositionsModel_f32 x1 st = some ro) : q_Mp l y_GlyphPositionsModel_f32 b_GlyphPositionsModel_f32 2 .int ({ frames := 1, cells := 0, slots := 0, locals := 21 } : Room) G.1 (xT G) (wX G) [.ref (G.2.2 36), .int x1] st ro := by
  refine q_Mp_of (by decide) (Nat.le_of_ble_eq_true rfl) (wX_fst G) ?_
  intro p e s m args below meth c ls hC hr hlk hT hP hS hl
  have hx := hC.1.1
  have hb := hC.1.2.1
  have hown := hC.1.2.2.2.1
  have hts := hC.1.2.2.2.2
  have hl : lv_has ls 2 [(0, .ref (G.2.2 36)), (1, .int x1)] := hl
  unfold xGlyphPositionsModel_f32 at hf
  refine lv_aload_n hx hb d_GlyphPositionsModel_f32_0 rfl (lv_at hl 0 rfl) ?_
  refine lv_iload_n hx hb d_GlyphPositionsModel_f32_1 rfl (lv_at hl 1 rfl) ?_
  obtain ⟨r1, h_r1, hf⟩ := q_bn_some hf
  refine q_callVp (As := [.int x1]) (rest := []) (q0 := 36) hC (c_xGlyphPositionsModel_f16 l G h_r1) cal_GlyphPositionsModel_f16 wq_193 ⟨rfl, rfl, Nat.le_of_ble_eq_true rfl, Nat.le_of_ble_eq_true rfl⟩ rfl rfl hP hT hS rfl hl.1 rfl (Nat.le_of_ble_eq_true rfl) d_GlyphPositionsModel_f32_2 (fun H locs hP hS => ?_)
  refine lv_bipush (v := 16) hx hb d_GlyphPositionsModel_f32_5 (by decide) ?_
  refine lv_ishl hx hb d_GlyphPositionsModel_f32_7 ?_
  refine lv_aload_n hx hb d_GlyphPositionsModel_f32_8 rfl (lv_at hl 0 rfl) ?_
  refine lv_iload_n hx hb d_GlyphPositionsModel_f32_9 rfl (lv_at hl 1 rfl) ?_
  refine lv_iconst (v := 2) hx hb d_GlyphPositionsModel_f32_10 (by decide) ?_
  refine lv_iadd hx hb d_GlyphPositionsModel_f32_11 ?_
  obtain ⟨r2, h_r2, hf⟩ := q_bn_some hf
  refine q_callVp (As := [.int (x1 + 2)]) (rest := [.int (r1 <<< (16 &&& 31))]) (q0 := 36) hC (c_xGlyphPositionsModel_f16 l G h_r2) cal_GlyphPositionsModel_f16 wq_193 ⟨rfl, rfl, Nat.le_of_ble_eq_true rfl, Nat.le_of_ble_eq_true rfl⟩ rfl rfl hP hT hS rfl hl.1 rfl (Nat.le_of_ble_eq_true rfl) d_GlyphPositionsModel_f32_12 (fun H locs hP hS => ?_)
  refine lv_ior hx hb d_GlyphPositionsModel_f32_15 ?_
  exact q_iretP hC hr hlk hf (by first | rfl | decide) hS d_GlyphPositionsModel_f32_16
def xGlyphPositionsModel_hasScript_11 (N : Nat) (st : QSt) (x1_11 x2_11 : Int32) : Nat → Int32 → Int32 → Option Int32
  | 0, _, _ => none
  | n_11 + 1, x3_11, x4_11 => q_bn (xGlyphPositionsModel_f16 x2_11 st) (fun r2 => if r2 ≤ x4_11 then (q_grd (q_isb x3_11) (some x3_11)) else (if x3_11 = 0 then (q_bn (xGlyphPositionsModel_f32 ((x2_11 + 2) + (6 * x4_11)) st) (fun r3 => if r3 = x1_11 then (xGlyphPositionsModel_hasScript_11 N st x1_11 x2_11 n_11 1 (x4_11 + 1)) else (xGlyphPositionsModel_hasScript_11 N st x1_11 x2_11 n_11 0 (x4_11 + 1)))) else (xGlyphPositionsModel_hasScript_11 N st x1_11 x2_11 n_11 1 (x4_11 + 1))))
def xGlyphPositionsModel_hasScript (N : Nat) (x1 : Int32) (st : QSt) : Option Int32 :=
  q_bn (xGlyphPositionsModel_f16 4 st) (fun r1 => xGlyphPositionsModel_hasScript_11 N st x1 r1 N 0 0)
set_option maxHeartbeats 4000000 in
set_option maxRecDepth 100000 in
theorem c_xGlyphPositionsModel_hasScript (l : Launch) (G : XG) {N : Nat} {x1 : Int32} {st : QSt} {ro : Int32} (hf : xGlyphPositionsModel_hasScript N x1 st = some ro) : q_Mp l y_GlyphPositionsModel_hasScript b_GlyphPositionsModel_hasScript 5 .boolean ({ frames := 2, cells := 0, slots := 0, locals := 42 } : Room) G.1 (xT G) (wX G) [.ref (G.2.2 36), .int x1] st ro := by
  refine q_Mp_of (by decide) (Nat.le_of_ble_eq_true rfl) (wX_fst G) ?_
  intro p e s m args below meth c ls hC hr hlk hT hP hS hl
  have hx := hC.1.1
  have hb := hC.1.2.1
  have hown := hC.1.2.2.2.1
  have hts := hC.1.2.2.2.2
  have hl : lv_has ls 5 [(0, .ref (G.2.2 36)), (1, .int x1)] := hl
  have L_11 : ∀ (x1_11 x2_11 : Int32) (n_11 : Nat) (x3_11 x4_11 : Int32) (H : Heap) (locs : List Loc) (ls : Array Slot), xGlyphPositionsModel_hasScript_11 N st x1_11 x2_11 n_11 x3_11 x4_11 = some ro → va_P G.1 vwCl (wX G st) H → va_S (fun _ => False) s.heap H locs → lv_has ls 5 [(0, .ref (G.2.2 36)), (1, .int x1_11), (2, .int x2_11), (3, .int x3_11), (4, .int x4_11)] → W p l e ({ frames := 2, cells := 0, slots := 0, locals := 42 } : Room) s m args below meth c H locs 0 0 (q_Zp below args s ro) (F0 m 11 ls []) := by
    intro x1_11 x2_11 n_11
    induction n_11 with
    | zero => intro _ _ _ _ _ hf; exact absurd hf (by simp [xGlyphPositionsModel_hasScript_11])
    | succ n_11 ih_11 =>
      intro x3_11 x4_11 H locs ls hf hP hS hl
      rw [xGlyphPositionsModel_hasScript_11] at hf
      refine lv_iload hx hb d_GlyphPositionsModel_hasScript_11 (lv_at hl 4 rfl) ?_
      refine lv_aload_n hx hb d_GlyphPositionsModel_hasScript_13 rfl (lv_at hl 0 rfl) ?_
      refine lv_iload_n hx hb d_GlyphPositionsModel_hasScript_14 rfl (lv_at hl 2 rfl) ?_
      obtain ⟨r2, h_r2, hf⟩ := q_bn_some hf
      refine q_callVp (As := [.int x2_11]) (rest := [.int x4_11]) (q0 := 36) hC (c_xGlyphPositionsModel_f16 l G h_r2) cal_GlyphPositionsModel_f16 wq_193 ⟨rfl, rfl, Nat.le_of_ble_eq_true rfl, Nat.le_of_ble_eq_true rfl⟩ rfl rfl hP hT hS rfl hl.1 rfl (Nat.le_of_ble_eq_true rfl) d_GlyphPositionsModel_hasScript_15 (fun H locs hP hS => ?_)
      refine lv_icmp_ge (tgt := 54) hx hb d_GlyphPositionsModel_hasScript_18 (by decide) (fun c1 => ?_) (fun c1 => ?_)
      · rw [if_pos c1] at hf
        refine lv_iload_n hx hb d_GlyphPositionsModel_hasScript_54 rfl (lv_at hl 3 rfl) ?_
        obtain ⟨hi, hf⟩ := q_grd_some hf
        exact q_iretP hC hr hlk hf (q_isb_nar hi) hS d_GlyphPositionsModel_hasScript_55
      rw [if_neg c1] at hf
      refine lv_iload_n hx hb d_GlyphPositionsModel_hasScript_21 rfl (lv_at hl 3 rfl) ?_
      refine lv_if_ne (tgt := 42) hx hb d_GlyphPositionsModel_hasScript_22 (by decide) (fun c1 => ?_) (fun c1 => ?_)
      · rw [if_neg c1] at hf
        refine lv_iconst (v := 1) hx hb d_GlyphPositionsModel_hasScript_42 (by decide) ?_
        refine lv_goto (tgt := 47) hx hb d_GlyphPositionsModel_hasScript_43 (by decide) ?_
        refine lv_istore_n (lv' := [(3, .int 1), (0, .ref (G.2.2 36)), (1, .int x1_11), (2, .int x2_11), (4, .int x4_11)]) hx hb d_GlyphPositionsModel_hasScript_47 rfl hl (by decide) rfl (fun ls hl => ?_)
        refine lv_iinc (v := x4_11 + 1) (lv' := [(4, .int (x4_11 + 1)), (3, .int 1), (0, .ref (G.2.2 36)), (1, .int x1_11), (2, .int x2_11)]) hx hb d_GlyphPositionsModel_hasScript_48 hl (k := 4) rfl rfl (by decide) rfl (fun ls hl => ?_)
        refine lv_goto (tgt := 11) hx hb d_GlyphPositionsModel_hasScript_51 (by decide) ?_
        exact ih_11 _ _ _ _ _ hf hP hS (lv_sub hl [2, 3, 4, 1, 0] rfl)
      rw [if_pos c1] at hf
      refine lv_aload_n hx hb d_GlyphPositionsModel_hasScript_25 rfl (lv_at hl 0 rfl) ?_
      refine lv_iload_n hx hb d_GlyphPositionsModel_hasScript_26 rfl (lv_at hl 2 rfl) ?_
      refine lv_iconst (v := 2) hx hb d_GlyphPositionsModel_hasScript_27 (by decide) ?_
      refine lv_iadd hx hb d_GlyphPositionsModel_hasScript_28 ?_
      refine lv_bipush (v := 6) hx hb d_GlyphPositionsModel_hasScript_29 (by decide) ?_
      refine lv_iload hx hb d_GlyphPositionsModel_hasScript_31 (lv_at hl 4 rfl) ?_
      refine lv_imul hx hb d_GlyphPositionsModel_hasScript_33 ?_
      refine lv_iadd hx hb d_GlyphPositionsModel_hasScript_34 ?_
      obtain ⟨r3, h_r3, hf⟩ := q_bn_some hf
      refine q_callVp (As := [.int ((x2_11 + 2) + (6 * x4_11))]) (rest := []) (q0 := 36) hC (c_xGlyphPositionsModel_f32 l G h_r3) cal_GlyphPositionsModel_f32 wq_194 ⟨rfl, rfl, Nat.le_of_ble_eq_true rfl, Nat.le_of_ble_eq_true rfl⟩ rfl rfl hP hT hS rfl hl.1 rfl (Nat.le_of_ble_eq_true rfl) d_GlyphPositionsModel_hasScript_35 (fun H locs hP hS => ?_)
      refine lv_iload_n hx hb d_GlyphPositionsModel_hasScript_38 rfl (lv_at hl 1 rfl) ?_
      refine lv_icmp_ne (tgt := 46) hx hb d_GlyphPositionsModel_hasScript_39 (by decide) (fun c1 => ?_) (fun c1 => ?_)
      · rw [if_neg c1] at hf
        refine lv_iconst (v := 0) hx hb d_GlyphPositionsModel_hasScript_46 (by decide) ?_
        refine lv_istore_n (lv' := [(3, .int 0), (0, .ref (G.2.2 36)), (1, .int x1_11), (2, .int x2_11), (4, .int x4_11)]) hx hb d_GlyphPositionsModel_hasScript_47 rfl hl (by decide) rfl (fun ls hl => ?_)
        refine lv_iinc (v := x4_11 + 1) (lv' := [(4, .int (x4_11 + 1)), (3, .int 0), (0, .ref (G.2.2 36)), (1, .int x1_11), (2, .int x2_11)]) hx hb d_GlyphPositionsModel_hasScript_48 hl (k := 4) rfl rfl (by decide) rfl (fun ls hl => ?_)
        refine lv_goto (tgt := 11) hx hb d_GlyphPositionsModel_hasScript_51 (by decide) ?_
        exact ih_11 _ _ _ _ _ hf hP hS (lv_sub hl [2, 3, 4, 1, 0] rfl)
      rw [if_pos c1] at hf
      refine lv_iconst (v := 1) hx hb d_GlyphPositionsModel_hasScript_42 (by decide) ?_
      refine lv_goto (tgt := 47) hx hb d_GlyphPositionsModel_hasScript_43 (by decide) ?_
      refine lv_istore_n (lv' := [(3, .int 1), (0, .ref (G.2.2 36)), (1, .int x1_11), (2, .int x2_11), (4, .int x4_11)]) hx hb d_GlyphPositionsModel_hasScript_47 rfl hl (by decide) rfl (fun ls hl => ?_)
      refine lv_iinc (v := x4_11 + 1) (lv' := [(4, .int (x4_11 + 1)), (3, .int 1), (0, .ref (G.2.2 36)), (1, .int x1_11), (2, .int x2_11)]) hx hb d_GlyphPositionsModel_hasScript_48 hl (k := 4) rfl rfl (by decide) rfl (fun ls hl => ?_)
      refine lv_goto (tgt := 11) hx hb d_GlyphPositionsModel_hasScript_51 (by decide) ?_
      exact ih_11 _ _ _ _ _ hf hP hS (lv_sub hl [2, 3, 4, 1, 0] rfl)
  unfold xGlyphPositionsModel_hasScript at hf
  refine lv_aload_n hx hb d_GlyphPositionsModel_hasScript_0 rfl (lv_at hl 0 rfl) ?_
  refine lv_iconst (v := 4) hx hb d_GlyphPositionsModel_hasScript_1 (by decide) ?_
  obtain ⟨r1, h_r1, hf⟩ := q_bn_some hf
  refine q_callVp (As := [.int 4]) (rest := []) (q0 := 36) hC (c_xGlyphPositionsModel_f16 l G h_r1) cal_GlyphPositionsModel_f16 wq_193 ⟨rfl, rfl, Nat.le_of_ble_eq_true rfl, Nat.le_of_ble_eq_true rfl⟩ rfl rfl hP hT hS rfl hl.1 rfl (Nat.le_of_ble_eq_true rfl) d_GlyphPositionsModel_hasScript_2 (fun H locs hP hS => ?_)
  refine lv_istore_n (lv' := [(2, .int r1), (0, .ref (G.2.2 36)), (1, .int x1)]) hx hb d_GlyphPositionsModel_hasScript_5 rfl hl (by decide) rfl (fun ls hl => ?_)
  refine lv_iconst (v := 0) hx hb d_GlyphPositionsModel_hasScript_6 (by decide) ?_
  refine lv_istore_n (lv' := [(3, .int 0), (2, .int r1), (0, .ref (G.2.2 36)), (1, .int x1)]) hx hb d_GlyphPositionsModel_hasScript_7 rfl hl (by decide) rfl (fun ls hl => ?_)
  refine lv_iconst (v := 0) hx hb d_GlyphPositionsModel_hasScript_8 (by decide) ?_
  refine lv_istore (lv' := [(4, .int 0), (3, .int 0), (2, .int r1), (0, .ref (G.2.2 36)), (1, .int x1)]) hx hb d_GlyphPositionsModel_hasScript_9 hl (by decide) rfl (fun ls hl => ?_)
  exact L_11 _ _ _ _ _ _ _ _ hf hP hS (lv_sub hl [3, 4, 2, 1, 0] rfl)
def xGlyphPositionsModel_scriptAt_11 (N : Nat) (st : QSt) (x1_11 x2_11 : Int32) : Nat → Int32 → Int32 → Option Int32
  | 0, _, _ => none
  | n_11 + 1, x3_11, x4_11 => q_bn (xGlyphPositionsModel_f16 x2_11 st) (fun r2 => if r2 ≤ x4_11 then (some x3_11) else (q_bn (xGlyphPositionsModel_f32 ((x2_11 + 2) + (6 * x4_11)) st) (fun r3 => if r3 = x1_11 then (q_bn (xGlyphPositionsModel_f16 ((x2_11 + 6) + (6 * x4_11)) st) (fun r4 => q_lt (x2_11 + r4) (fun x3_1005 => xGlyphPositionsModel_scriptAt_11 N st x1_11 x2_11 n_11 x3_1005 (x4_11 + 1)))) else (xGlyphPositionsModel_scriptAt_11 N st x1_11 x2_11 n_11 x3_11 (x4_11 + 1)))))
def xGlyphPositionsModel_scriptAt (N : Nat) (x1 : Int32) (st : QSt) : Option Int32 :=
  q_bn (xGlyphPositionsModel_f16 4 st) (fun r1 => xGlyphPositionsModel_scriptAt_11 N st x1 r1 N 0 0)
set_option maxHeartbeats 4000000 in
set_option maxRecDepth 100000 in
theorem c_xGlyphPositionsModel_scriptAt (l : Launch) (G : XG) {N : Nat} {x1 : Int32} {st : QSt} {ro : Int32} (hf : xGlyphPositionsModel_scriptAt N x1 st = some ro) : q_Mp l y_GlyphPositionsModel_scriptAt b_GlyphPositionsModel_scriptAt 5 .int ({ frames := 2, cells := 0, slots := 0, locals := 42 } : Room) G.1 (xT G) (wX G) [.ref (G.2.2 36), .int x1] st ro := by
  refine q_Mp_of (by decide) (Nat.le_of_ble_eq_true rfl) (wX_fst G) ?_
  intro p e s m args below meth c ls hC hr hlk hT hP hS hl
  have hx := hC.1.1
  have hb := hC.1.2.1
  have hown := hC.1.2.2.2.1
  have hts := hC.1.2.2.2.2
  have hl : lv_has ls 5 [(0, .ref (G.2.2 36)), (1, .int x1)] := hl
  have L_11 : ∀ (x1_11 x2_11 : Int32) (n_11 : Nat) (x3_11 x4_11 : Int32) (H : Heap) (locs : List Loc) (ls : Array Slot), xGlyphPositionsModel_scriptAt_11 N st x1_11 x2_11 n_11 x3_11 x4_11 = some ro → va_P G.1 vwCl (wX G st) H → va_S (fun _ => False) s.heap H locs → lv_has ls 5 [(0, .ref (G.2.2 36)), (1, .int x1_11), (2, .int x2_11), (3, .int x3_11), (4, .int x4_11)] → W p l e ({ frames := 2, cells := 0, slots := 0, locals := 42 } : Room) s m args below meth c H locs 0 0 (q_Zp below args s ro) (F0 m 11 ls []) := by
    intro x1_11 x2_11 n_11
    induction n_11 with
    | zero => intro _ _ _ _ _ hf; exact absurd hf (by simp [xGlyphPositionsModel_scriptAt_11])
    | succ n_11 ih_11 =>
      intro x3_11 x4_11 H locs ls hf hP hS hl
      rw [xGlyphPositionsModel_scriptAt_11] at hf
      refine lv_iload hx hb d_GlyphPositionsModel_scriptAt_11 (lv_at hl 4 rfl) ?_
      refine lv_aload_n hx hb d_GlyphPositionsModel_scriptAt_13 rfl (lv_at hl 0 rfl) ?_
      refine lv_iload_n hx hb d_GlyphPositionsModel_scriptAt_14 rfl (lv_at hl 2 rfl) ?_
      obtain ⟨r2, h_r2, hf⟩ := q_bn_some hf
      refine q_callVp (As := [.int x2_11]) (rest := [.int x4_11]) (q0 := 36) hC (c_xGlyphPositionsModel_f16 l G h_r2) cal_GlyphPositionsModel_f16 wq_193 ⟨rfl, rfl, Nat.le_of_ble_eq_true rfl, Nat.le_of_ble_eq_true rfl⟩ rfl rfl hP hT hS rfl hl.1 rfl (Nat.le_of_ble_eq_true rfl) d_GlyphPositionsModel_scriptAt_15 (fun H locs hP hS => ?_)
      refine lv_icmp_ge (tgt := 65) hx hb d_GlyphPositionsModel_scriptAt_18 (by decide) (fun c1 => ?_) (fun c1 => ?_)
      · rw [if_pos c1] at hf
        refine lv_iload_n hx hb d_GlyphPositionsModel_scriptAt_65 rfl (lv_at hl 3 rfl) ?_
        exact q_iretP hC hr hlk hf (by first | rfl | decide) hS d_GlyphPositionsModel_scriptAt_66
      rw [if_neg c1] at hf
      refine lv_aload_n hx hb d_GlyphPositionsModel_scriptAt_21 rfl (lv_at hl 0 rfl) ?_
      refine lv_iload_n hx hb d_GlyphPositionsModel_scriptAt_22 rfl (lv_at hl 2 rfl) ?_
      refine lv_iconst (v := 2) hx hb d_GlyphPositionsModel_scriptAt_23 (by decide) ?_
      refine lv_iadd hx hb d_GlyphPositionsModel_scriptAt_24 ?_
      refine lv_bipush (v := 6) hx hb d_GlyphPositionsModel_scriptAt_25 (by decide) ?_
      refine lv_iload hx hb d_GlyphPositionsModel_scriptAt_27 (lv_at hl 4 rfl) ?_
      refine lv_imul hx hb d_GlyphPositionsModel_scriptAt_29 ?_
      refine lv_iadd hx hb d_GlyphPositionsModel_scriptAt_30 ?_
      obtain ⟨r3, h_r3, hf⟩ := q_bn_some hf
      refine q_callVp (As := [.int ((x2_11 + 2) + (6 * x4_11))]) (rest := []) (q0 := 36) hC (c_xGlyphPositionsModel_f32 l G h_r3) cal_GlyphPositionsModel_f32 wq_194 ⟨rfl, rfl, Nat.le_of_ble_eq_true rfl, Nat.le_of_ble_eq_true rfl⟩ rfl rfl hP hT hS rfl hl.1 rfl (Nat.le_of_ble_eq_true rfl) d_GlyphPositionsModel_scriptAt_31 (fun H locs hP hS => ?_)
      refine lv_iload_n hx hb d_GlyphPositionsModel_scriptAt_34 rfl (lv_at hl 1 rfl) ?_
      refine lv_icmp_ne (tgt := 57) hx hb d_GlyphPositionsModel_scriptAt_35 (by decide) (fun c1 => ?_) (fun c1 => ?_)
      · rw [if_neg c1] at hf
        refine lv_iload_n hx hb d_GlyphPositionsModel_scriptAt_57 rfl (lv_at hl 3 rfl) ?_
        refine lv_istore_n (lv' := [(3, .int x3_11), (0, .ref (G.2.2 36)), (1, .int x1_11), (2, .int x2_11), (4, .int x4_11)]) hx hb d_GlyphPositionsModel_scriptAt_58 rfl hl (by decide) rfl (fun ls hl => ?_)
        refine lv_iinc (v := x4_11 + 1) (lv' := [(4, .int (x4_11 + 1)), (3, .int x3_11), (0, .ref (G.2.2 36)), (1, .int x1_11), (2, .int x2_11)]) hx hb d_GlyphPositionsModel_scriptAt_59 hl (k := 4) rfl rfl (by decide) rfl (fun ls hl => ?_)
        refine lv_goto (tgt := 11) hx hb d_GlyphPositionsModel_scriptAt_62 (by decide) ?_
        exact ih_11 _ _ _ _ _ hf hP hS (lv_sub hl [2, 3, 4, 1, 0] rfl)
      rw [if_pos c1] at hf
      refine lv_iload_n hx hb d_GlyphPositionsModel_scriptAt_38 rfl (lv_at hl 2 rfl) ?_
      refine lv_aload_n hx hb d_GlyphPositionsModel_scriptAt_39 rfl (lv_at hl 0 rfl) ?_
      refine lv_iload_n hx hb d_GlyphPositionsModel_scriptAt_40 rfl (lv_at hl 2 rfl) ?_
      refine lv_bipush (v := 6) hx hb d_GlyphPositionsModel_scriptAt_41 (by decide) ?_
      refine lv_iadd hx hb d_GlyphPositionsModel_scriptAt_43 ?_
      refine lv_bipush (v := 6) hx hb d_GlyphPositionsModel_scriptAt_44 (by decide) ?_
      refine lv_iload hx hb d_GlyphPositionsModel_scriptAt_46 (lv_at hl 4 rfl) ?_
      refine lv_imul hx hb d_GlyphPositionsModel_scriptAt_48 ?_
      refine lv_iadd hx hb d_GlyphPositionsModel_scriptAt_49 ?_
      obtain ⟨r4, h_r4, hf⟩ := q_bn_some hf
      refine q_callVp (As := [.int ((x2_11 + 6) + (6 * x4_11))]) (rest := [.int x2_11]) (q0 := 36) hC (c_xGlyphPositionsModel_f16 l G h_r4) cal_GlyphPositionsModel_f16 wq_193 ⟨rfl, rfl, Nat.le_of_ble_eq_true rfl, Nat.le_of_ble_eq_true rfl⟩ rfl rfl hP hT hS rfl hl.1 rfl (Nat.le_of_ble_eq_true rfl) d_GlyphPositionsModel_scriptAt_50 (fun H locs hP hS => ?_)
      refine lv_iadd hx hb d_GlyphPositionsModel_scriptAt_53 ?_
      refine lv_goto (tgt := 58) hx hb d_GlyphPositionsModel_scriptAt_54 (by decide) ?_
      obtain ⟨x3_1005, e_x3_1005, hf⟩ := q_lt_some hf
      refine q_topi e_x3_1005 ?_
      refine lv_istore_n (lv' := [(3, .int x3_1005), (0, .ref (G.2.2 36)), (1, .int x1_11), (2, .int x2_11), (4, .int x4_11)]) hx hb d_GlyphPositionsModel_scriptAt_58 rfl hl (by decide) rfl (fun ls hl => ?_)
      refine lv_iinc (v := x4_11 + 1) (lv' := [(4, .int (x4_11 + 1)), (3, .int x3_1005), (0, .ref (G.2.2 36)), (1, .int x1_11), (2, .int x2_11)]) hx hb d_GlyphPositionsModel_scriptAt_59 hl (k := 4) rfl rfl (by decide) rfl (fun ls hl => ?_)
      refine lv_goto (tgt := 11) hx hb d_GlyphPositionsModel_scriptAt_62 (by decide) ?_
      exact ih_11 _ _ _ _ _ hf hP hS (lv_sub hl [2, 3, 4, 1, 0] rfl)
  unfold xGlyphPositionsModel_scriptAt at hf
  refine lv_aload_n hx hb d_GlyphPositionsModel_scriptAt_0 rfl (lv_at hl 0 rfl) ?_
  refine lv_iconst (v := 4) hx hb d_GlyphPositionsModel_scriptAt_1 (by decide) ?_
  obtain ⟨r1, h_r1, hf⟩ := q_bn_some hf
  refine q_callVp (As := [.int 4]) (rest := []) (q0 := 36) hC (c_xGlyphPositionsModel_f16 l G h_r1) cal_GlyphPositionsModel_f16 wq_193 ⟨rfl, rfl, Nat.le_of_ble_eq_true rfl, Nat.le_of_ble_eq_true rfl⟩ rfl rfl hP hT hS rfl hl.1 rfl (Nat.le_of_ble_eq_true rfl) d_GlyphPositionsModel_scriptAt_2 (fun H locs hP hS => ?_)
  refine lv_istore_n (lv' := [(2, .int r1), (0, .ref (G.2.2 36)), (1, .int x1)]) hx hb d_GlyphPositionsModel_scriptAt_5 rfl hl (by decide) rfl (fun ls hl => ?_)
  refine lv_iconst (v := 0) hx hb d_GlyphPositionsModel_scriptAt_6 (by decide) ?_
  refine lv_istore_n (lv' := [(3, .int 0), (2, .int r1), (0, .ref (G.2.2 36)), (1, .int x1)]) hx hb d_GlyphPositionsModel_scriptAt_7 rfl hl (by decide) rfl (fun ls hl => ?_)
  refine lv_iconst (v := 0) hx hb d_GlyphPositionsModel_scriptAt_8 (by decide) ?_
  refine lv_istore (lv' := [(4, .int 0), (3, .int 0), (2, .int r1), (0, .ref (G.2.2 36)), (1, .int x1)]) hx hb d_GlyphPositionsModel_scriptAt_9 hl (by decide) rfl (fun ls hl => ?_)
  exact L_11 _ _ _ _ _ _ _ _ hf hP hS (lv_sub hl [3, 4, 2, 1, 0] rfl)
def xGlyphPositionsModel_languageAt_60 (N : Nat) (st : QSt) (x2_60 : Int32) : Nat → Int32 → Int32 → Option Int32
  | 0, _, _ => none
  | n_60 + 1, x3_60, x4_60 => q_bn (xGlyphPositionsModel_f16 (x2_60 + 2) st) (fun r5 => if r5 ≤ x4_60 then (some x3_60) else (q_bn (xGlyphPositionsModel_f32 ((x2_60 + 4) + (6 * x4_60)) st) (fun r6 => if r6 = (st.1 18) then (q_bn (xGlyphPositionsModel_f16 ((x2_60 + 8) + (6 * x4_60)) st) (fun r7 => q_lt (x2_60 + r7) (fun x3_1008 => xGlyphPositionsModel_languageAt_60 N st x2_60 n_60 x3_1008 (x4_60 + 1)))) else (xGlyphPositionsModel_languageAt_60 N st x2_60 n_60 x3_60 (x4_60 + 1)))))
def xGlyphPositionsModel_languageAt_20 (N : Nat) (st : QSt) (w0_20 : Int32) : Option Int32 :=
  q_bn (xGlyphPositionsModel_hasScript N w0_20 st) (fun r2 => if r2 = 0 then (some 0) else (q_bn (xGlyphPositionsModel_scriptAt N w0_20 st) (fun r3 => q_bn (xGlyphPositionsModel_f16 r3 st) (fun r4 => if r4 ≤ 0 then (xGlyphPositionsModel_languageAt_60 N st r3 N 0 0) else (q_bn (xGlyphPositionsModel_f16 r3 st) (fun r9 => q_lt (r3 + r9) (fun x3_1010 => xGlyphPositionsModel_languageAt_60 N st r3 N x3_1010 0)))))))
def xGlyphPositionsModel_languageAt (N : Nat) (st : QSt) : Option Int32 :=
  q_bn (xGlyphPositionsModel_hasScript N (st.1 17) st) (fun r1 => if r1 = 0 then (xGlyphPositionsModel_languageAt_20 N st 1145457748) else (xGlyphPositionsModel_languageAt_20 N st (st.1 17)))
set_option maxHeartbeats 4000000 in
set_option maxRecDepth 100000 in
theorem c_xGlyphPositionsModel_languageAt (l : Launch) (G : XG) {N : Nat} {st : QSt} {ro : Int32} (hf : xGlyphPositionsModel_languageAt N st = some ro) : q_Mp l y_GlyphPositionsModel_languageAt b_GlyphPositionsModel_languageAt 5 .int ({ frames := 3, cells := 0, slots := 0, locals := 66 } : Room) G.1 (xT G) (wX G) [.ref (G.2.2 36)] st ro := by
  refine q_Mp_of (by decide) (Nat.le_of_ble_eq_true rfl) (wX_fst G) ?_
  intro p e s m args below meth c ls hC hr hlk hT hP hS hl
  have hx := hC.1.1
  have hb := hC.1.2.1
  have hown := hC.1.2.2.2.1
  have hts := hC.1.2.2.2.2
  have hl : lv_has ls 5 [(0, .ref (G.2.2 36))] := hl
  have L_60 : ∀ (x2_60 : Int32) (n_60 : Nat) (x3_60 x4_60 : Int32) (H : Heap) (locs : List Loc) (ls : Array Slot), xGlyphPositionsModel_languageAt_60 N st x2_60 n_60 x3_60 x4_60 = some ro → va_P G.1 vwCl (wX G st) H → va_S (fun _ => False) s.heap H locs → lv_has ls 5 [(0, .ref (G.2.2 36)), (2, .int x2_60), (3, .int x3_60), (4, .int x4_60)] → W p l e ({ frames := 3, cells := 0, slots := 0, locals := 66 } : Room) s m args below meth c H locs 0 0 (q_Zp below args s ro) (F0 m 60 ls []) := by
    intro x2_60 n_60
    induction n_60 with
    | zero => intro _ _ _ _ _ hf; exact absurd hf (by simp [xGlyphPositionsModel_languageAt_60])
    | succ n_60 ih_60 =>
      intro x3_60 x4_60 H locs ls hf hP hS hl
      rw [xGlyphPositionsModel_languageAt_60] at hf
      refine lv_iload hx hb d_GlyphPositionsModel_languageAt_60 (lv_at hl 3 rfl) ?_
      refine lv_aload_n hx hb d_GlyphPositionsModel_languageAt_62 rfl (lv_at hl 0 rfl) ?_
      refine lv_iload_n hx hb d_GlyphPositionsModel_languageAt_63 rfl (lv_at hl 1 rfl) ?_
      refine lv_iconst (v := 2) hx hb d_GlyphPositionsModel_languageAt_64 (by decide) ?_
      refine lv_iadd hx hb d_GlyphPositionsModel_languageAt_65 ?_
      obtain ⟨r5, h_r5, hf⟩ := q_bn_some hf
      refine q_callVp (As := [.int (x2_60 + 2)]) (rest := [.int x4_60]) (q0 := 36) hC (c_xGlyphPositionsModel_f16 l G h_r5) cal_GlyphPositionsModel_f16 wq_193 ⟨rfl, rfl, Nat.le_of_ble_eq_true rfl, Nat.le_of_ble_eq_true rfl⟩ rfl rfl hP hT hS rfl hl.1 rfl (Nat.le_of_ble_eq_true rfl) d_GlyphPositionsModel_languageAt_66 (fun H locs hP hS => ?_)
      refine lv_icmp_ge (tgt := 119) hx hb d_GlyphPositionsModel_languageAt_69 (by decide) (fun c1 => ?_) (fun c1 => ?_)
      · rw [if_pos c1] at hf
        refine lv_iload_n hx hb d_GlyphPositionsModel_languageAt_119 rfl (lv_at hl 2 rfl) ?_
        exact q_iretP hC hr hlk hf (by first | rfl | decide) hS d_GlyphPositionsModel_languageAt_120
      rw [if_neg c1] at hf
      refine lv_aload_n hx hb d_GlyphPositionsModel_languageAt_72 rfl (lv_at hl 0 rfl) ?_
      refine lv_iload_n hx hb d_GlyphPositionsModel_languageAt_73 rfl (lv_at hl 1 rfl) ?_
      refine lv_iconst (v := 4) hx hb d_GlyphPositionsModel_languageAt_74 (by decide) ?_
      refine lv_iadd hx hb d_GlyphPositionsModel_languageAt_75 ?_
      refine lv_bipush (v := 6) hx hb d_GlyphPositionsModel_languageAt_76 (by decide) ?_
      refine lv_iload hx hb d_GlyphPositionsModel_languageAt_78 (lv_at hl 3 rfl) ?_
      refine lv_imul hx hb d_GlyphPositionsModel_languageAt_80 ?_
      refine lv_iadd hx hb d_GlyphPositionsModel_languageAt_81 ?_
      obtain ⟨r6, h_r6, hf⟩ := q_bn_some hf
      refine q_callVp (As := [.int ((x2_60 + 4) + (6 * x4_60))]) (rest := []) (q0 := 36) hC (c_xGlyphPositionsModel_f32 l G h_r6) cal_GlyphPositionsModel_f32 wq_194 ⟨rfl, rfl, Nat.le_of_ble_eq_true rfl, Nat.le_of_ble_eq_true rfl⟩ rfl rfl hP hT hS rfl hl.1 rfl (Nat.le_of_ble_eq_true rfl) d_GlyphPositionsModel_languageAt_82 (fun H locs hP hS => ?_)
      refine lv_aload_n hx hb d_GlyphPositionsModel_languageAt_85 rfl (lv_at hl 0 rfl) ?_
      refine xg_36_language hC hP wq_132 d_GlyphPositionsModel_languageAt_86 ?_
      refine lv_icmp_ne (tgt := 111) hx hb d_GlyphPositionsModel_languageAt_89 (by decide) (fun c1 => ?_) (fun c1 => ?_)
      · rw [if_neg c1] at hf
        refine lv_iload_n hx hb d_GlyphPositionsModel_languageAt_111 rfl (lv_at hl 2 rfl) ?_
        refine lv_istore_n (lv' := [(3, .int x3_60), (0, .ref (G.2.2 36)), (2, .int x2_60), (4, .int x4_60)]) hx hb d_GlyphPositionsModel_languageAt_112 rfl hl (by decide) rfl (fun ls hl => ?_)
        refine lv_iinc (v := x4_60 + 1) (lv' := [(4, .int (x4_60 + 1)), (3, .int x3_60), (0, .ref (G.2.2 36)), (2, .int x2_60)]) hx hb d_GlyphPositionsModel_languageAt_113 hl (k := 3) rfl rfl (by decide) rfl (fun ls hl => ?_)
        refine lv_goto (tgt := 60) hx hb d_GlyphPositionsModel_languageAt_116 (by decide) ?_
        exact ih_60 _ _ _ _ _ hf hP hS (lv_sub hl [2, 3, 1, 0] rfl)
      rw [if_pos c1] at hf
      refine lv_iload_n hx hb d_GlyphPositionsModel_languageAt_92 rfl (lv_at hl 1 rfl) ?_
      refine lv_aload_n hx hb d_GlyphPositionsModel_languageAt_93 rfl (lv_at hl 0 rfl) ?_
      refine lv_iload_n hx hb d_GlyphPositionsModel_languageAt_94 rfl (lv_at hl 1 rfl) ?_
      refine lv_bipush (v := 8) hx hb d_GlyphPositionsModel_languageAt_95 (by decide) ?_
      refine lv_iadd hx hb d_GlyphPositionsModel_languageAt_97 ?_
      refine lv_bipush (v := 6) hx hb d_GlyphPositionsModel_languageAt_98 (by decide) ?_
      refine lv_iload hx hb d_GlyphPositionsModel_languageAt_100 (lv_at hl 3 rfl) ?_
      refine lv_imul hx hb d_GlyphPositionsModel_languageAt_102 ?_
      refine lv_iadd hx hb d_GlyphPositionsModel_languageAt_103 ?_
      obtain ⟨r7, h_r7, hf⟩ := q_bn_some hf
      refine q_callVp (As := [.int ((x2_60 + 8) + (6 * x4_60))]) (rest := [.int x2_60]) (q0 := 36) hC (c_xGlyphPositionsModel_f16 l G h_r7) cal_GlyphPositionsModel_f16 wq_193 ⟨rfl, rfl, Nat.le_of_ble_eq_true rfl, Nat.le_of_ble_eq_true rfl⟩ rfl rfl hP hT hS rfl hl.1 rfl (Nat.le_of_ble_eq_true rfl) d_GlyphPositionsModel_languageAt_104 (fun H locs hP hS => ?_)
      refine lv_iadd hx hb d_GlyphPositionsModel_languageAt_107 ?_
      refine lv_goto (tgt := 112) hx hb d_GlyphPositionsModel_languageAt_108 (by decide) ?_
      obtain ⟨x3_1008, e_x3_1008, hf⟩ := q_lt_some hf
      refine q_topi e_x3_1008 ?_
      refine lv_istore_n (lv' := [(3, .int x3_1008), (0, .ref (G.2.2 36)), (2, .int x2_60), (4, .int x4_60)]) hx hb d_GlyphPositionsModel_languageAt_112 rfl hl (by decide) rfl (fun ls hl => ?_)
      refine lv_iinc (v := x4_60 + 1) (lv' := [(4, .int (x4_60 + 1)), (3, .int x3_1008), (0, .ref (G.2.2 36)), (2, .int x2_60)]) hx hb d_GlyphPositionsModel_languageAt_113 hl (k := 3) rfl rfl (by decide) rfl (fun ls hl => ?_)
      refine lv_goto (tgt := 60) hx hb d_GlyphPositionsModel_languageAt_116 (by decide) ?_
      exact ih_60 _ _ _ _ _ hf hP hS (lv_sub hl [2, 3, 1, 0] rfl)
  have J_20 : ∀ (w0_20 : Int32) (H : Heap) (locs : List Loc) (ls : Array Slot), xGlyphPositionsModel_languageAt_20 N st w0_20 = some ro → va_P G.1 vwCl (wX G st) H → va_S (fun _ => False) s.heap H locs → lv_has ls 5 [(0, .ref (G.2.2 36))] → W p l e ({ frames := 3, cells := 0, slots := 0, locals := 66 } : Room) s m args below meth c H locs 0 0 (q_Zp below args s ro) (F0 m 20 ls [.int w0_20]) := by
    intro w0_20 H locs ls hf hP hS hl
    unfold xGlyphPositionsModel_languageAt_20 at hf
    refine lv_istore_n (lv' := [(1, .int w0_20), (0, .ref (G.2.2 36))]) hx hb d_GlyphPositionsModel_languageAt_20 rfl hl (by decide) rfl (fun ls hl => ?_)
    refine lv_aload_n hx hb d_GlyphPositionsModel_languageAt_21 rfl (lv_at hl 1 rfl) ?_
    refine lv_iload_n hx hb d_GlyphPositionsModel_languageAt_22 rfl (lv_at hl 0 rfl) ?_
    obtain ⟨r2, h_r2, hf⟩ := q_bn_some hf
    refine q_callVp (As := [.int w0_20]) (rest := []) (q0 := 36) hC (c_xGlyphPositionsModel_hasScript l G h_r2) cal_GlyphPositionsModel_hasScript wq_195 ⟨rfl, rfl, Nat.le_of_ble_eq_true rfl, Nat.le_of_ble_eq_true rfl⟩ rfl rfl hP hT hS rfl hl.1 rfl (Nat.le_of_ble_eq_true rfl) d_GlyphPositionsModel_languageAt_23 (fun H locs hP hS => ?_)
    refine lv_if_ne (tgt := 31) hx hb d_GlyphPositionsModel_languageAt_26 (by decide) (fun c1 => ?_) (fun c1 => ?_)
    rotate_left
    · rw [if_pos c1] at hf
      refine lv_iconst (v := 0) hx hb d_GlyphPositionsModel_languageAt_29 (by decide) ?_
      exact q_iretP hC hr hlk hf (by first | rfl | decide) hS d_GlyphPositionsModel_languageAt_30
    rw [if_neg c1] at hf
    refine lv_aload_n hx hb d_GlyphPositionsModel_languageAt_31 rfl (lv_at hl 1 rfl) ?_
    refine lv_iload_n hx hb d_GlyphPositionsModel_languageAt_32 rfl (lv_at hl 0 rfl) ?_
    obtain ⟨r3, h_r3, hf⟩ := q_bn_some hf
    refine q_callVp (As := [.int w0_20]) (rest := []) (q0 := 36) hC (c_xGlyphPositionsModel_scriptAt l G h_r3) cal_GlyphPositionsModel_scriptAt wq_196 ⟨rfl, rfl, Nat.le_of_ble_eq_true rfl, Nat.le_of_ble_eq_true rfl⟩ rfl rfl hP hT hS rfl hl.1 rfl (Nat.le_of_ble_eq_true rfl) d_GlyphPositionsModel_languageAt_33 (fun H locs hP hS => ?_)
    refine lv_istore_n (lv' := [(2, .int r3), (1, .int w0_20), (0, .ref (G.2.2 36))]) hx hb d_GlyphPositionsModel_languageAt_36 rfl hl (by decide) rfl (fun ls hl => ?_)
    refine lv_aload_n hx hb d_GlyphPositionsModel_languageAt_37 rfl (lv_at hl 2 rfl) ?_
    refine lv_iload_n hx hb d_GlyphPositionsModel_languageAt_38 rfl (lv_at hl 0 rfl) ?_
    obtain ⟨r4, h_r4, hf⟩ := q_bn_some hf
    refine q_callVp (As := [.int r3]) (rest := []) (q0 := 36) hC (c_xGlyphPositionsModel_f16 l G h_r4) cal_GlyphPositionsModel_f16 wq_193 ⟨rfl, rfl, Nat.le_of_ble_eq_true rfl, Nat.le_of_ble_eq_true rfl⟩ rfl rfl hP hT hS rfl hl.1 rfl (Nat.le_of_ble_eq_true rfl) d_GlyphPositionsModel_languageAt_39 (fun H locs hP hS => ?_)
    refine lv_if_le (tgt := 55) hx hb d_GlyphPositionsModel_languageAt_42 (by decide) (fun c1 => ?_) (fun c1 => ?_)
    · rw [if_pos c1] at hf
      refine lv_iconst (v := 0) hx hb d_GlyphPositionsModel_languageAt_55 (by decide) ?_
      refine lv_istore_n (lv' := [(3, .int 0), (2, .int r3), (1, .int w0_20), (0, .ref (G.2.2 36))]) hx hb d_GlyphPositionsModel_languageAt_56 rfl hl (by decide) rfl (fun ls hl => ?_)
      refine lv_iconst (v := 0) hx hb d_GlyphPositionsModel_languageAt_57 (by decide) ?_
      refine lv_istore (lv' := [(4, .int 0), (3, .int 0), (2, .int r3), (1, .int w0_20), (0, .ref (G.2.2 36))]) hx hb d_GlyphPositionsModel_languageAt_58 hl (by decide) rfl (fun ls hl => ?_)
      exact L_60 _ _ _ _ _ _ _ hf hP hS (lv_sub hl [4, 2, 1, 0] rfl)
    rw [if_neg c1] at hf
    refine lv_iload_n hx hb d_GlyphPositionsModel_languageAt_45 rfl (lv_at hl 0 rfl) ?_
    refine lv_aload_n hx hb d_GlyphPositionsModel_languageAt_46 rfl (lv_at hl 2 rfl) ?_
    refine lv_iload_n hx hb d_GlyphPositionsModel_languageAt_47 rfl (lv_at hl 0 rfl) ?_
    obtain ⟨r9, h_r9, hf⟩ := q_bn_some hf
    refine q_callVp (As := [.int r3]) (rest := [.int r3]) (q0 := 36) hC (c_xGlyphPositionsModel_f16 l G h_r9) cal_GlyphPositionsModel_f16 wq_193 ⟨rfl, rfl, Nat.le_of_ble_eq_true rfl, Nat.le_of_ble_eq_true rfl⟩ rfl rfl hP hT hS rfl hl.1 rfl (Nat.le_of_ble_eq_true rfl) d_GlyphPositionsModel_languageAt_48 (fun H locs hP hS => ?_)
    refine lv_iadd hx hb d_GlyphPositionsModel_languageAt_51 ?_
    refine lv_goto (tgt := 56) hx hb d_GlyphPositionsModel_languageAt_52 (by decide) ?_
    obtain ⟨x3_1010, e_x3_1010, hf⟩ := q_lt_some hf
    refine q_topi e_x3_1010 ?_
    refine lv_istore_n (lv' := [(3, .int x3_1010), (2, .int r3), (1, .int w0_20), (0, .ref (G.2.2 36))]) hx hb d_GlyphPositionsModel_languageAt_56 rfl hl (by decide) rfl (fun ls hl => ?_)
    refine lv_iconst (v := 0) hx hb d_GlyphPositionsModel_languageAt_57 (by decide) ?_
    refine lv_istore (lv' := [(4, .int 0), (3, .int x3_1010), (2, .int r3), (1, .int w0_20), (0, .ref (G.2.2 36))]) hx hb d_GlyphPositionsModel_languageAt_58 hl (by decide) rfl (fun ls hl => ?_)
    exact L_60 _ _ _ _ _ _ _ hf hP hS (lv_sub hl [4, 2, 1, 0] rfl)
  unfold xGlyphPositionsModel_languageAt at hf
  refine lv_aload_n hx hb d_GlyphPositionsModel_languageAt_0 rfl (lv_at hl 0 rfl) ?_
  refine lv_aload_n hx hb d_GlyphPositionsModel_languageAt_1 rfl (lv_at hl 0 rfl) ?_
  refine xg_36_script hC hP wq_131 d_GlyphPositionsModel_languageAt_2 ?_
  obtain ⟨r1, h_r1, hf⟩ := q_bn_some hf
  refine q_callVp (As := [.int (st.1 17)]) (rest := []) (q0 := 36) hC (c_xGlyphPositionsModel_hasScript l G h_r1) cal_GlyphPositionsModel_hasScript wq_195 ⟨rfl, rfl, Nat.le_of_ble_eq_true rfl, Nat.le_of_ble_eq_true rfl⟩ rfl rfl hP hT hS rfl hl.1 rfl (Nat.le_of_ble_eq_true rfl) d_GlyphPositionsModel_languageAt_5 (fun H locs hP hS => ?_)
  refine lv_if_eq (tgt := 18) hx hb d_GlyphPositionsModel_languageAt_8 (by decide) (fun c1 => ?_) (fun c1 => ?_)
  · rw [if_pos c1] at hf
    refine lv_ldc (v := 1145457748) hx hb hown (hts _ wq_197) d_GlyphPositionsModel_languageAt_18 ?_
    exact J_20 _ _ _ _ hf hP hS hl
  rw [if_neg c1] at hf
  refine lv_aload_n hx hb d_GlyphPositionsModel_languageAt_11 rfl (lv_at hl 0 rfl) ?_
  refine xg_36_script hC hP wq_131 d_GlyphPositionsModel_languageAt_12 ?_
  refine lv_goto (tgt := 20) hx hb d_GlyphPositionsModel_languageAt_15 (by decide) ?_
  exact J_20 _ _ _ _ hf hP hS hl
def xGlyphPositionsModel_isOn (N : Nat) (x1 : Int32) (st : QSt) : Option Int32 :=
  q_bn (xGlyphPositionsModel_tagAt N x1 st) (fun r1 => if r1 < 0 then (some 0) else (q_grd (q_vpb r1 20) (q_lt (st.2 33 r1.toNatClampNeg) (fun v2 => if v2 = 0 then (some 0) else (some 1)))))
set_option maxHeartbeats 4000000 in
set_option maxRecDepth 100000 in
theorem c_xGlyphPositionsModel_isOn (l : Launch) (G : XG) {N : Nat} {x1 : Int32} {st : QSt} {ro : Int32} (hf : xGlyphPositionsModel_isOn N x1 st = some ro) : q_Mp l y_GlyphPositionsModel_isOn b_GlyphPositionsModel_isOn 3 .boolean ({ frames := 1, cells := 0, slots := 0, locals := 23 } : Room) G.1 (xT G) (wX G) [.ref (G.2.2 36), .int x1] st ro := by
  refine q_Mp_of (by decide) (Nat.le_of_ble_eq_true rfl) (wX_fst G) ?_
  intro p e s m args below meth c ls hC hr hlk hT hP hS hl
  have hx := hC.1.1
  have hb := hC.1.2.1
  have hown := hC.1.2.2.2.1
  have hts := hC.1.2.2.2.2
  have hl : lv_has ls 3 [(0, .ref (G.2.2 36)), (1, .int x1)] := hl
  unfold xGlyphPositionsModel_isOn at hf
  refine lv_aload_n hx hb d_GlyphPositionsModel_isOn_0 rfl (lv_at hl 0 rfl) ?_
  refine lv_iload_n hx hb d_GlyphPositionsModel_isOn_1 rfl (lv_at hl 1 rfl) ?_
  obtain ⟨r1, h_r1, hf⟩ := q_bn_some hf
  refine q_callVp (As := [.int x1]) (rest := []) (q0 := 36) hC (c_xGlyphPositionsModel_tagAt l G h_r1) cal_GlyphPositionsModel_tagAt wq_136 ⟨rfl, rfl, Nat.le_of_ble_eq_true rfl, Nat.le_of_ble_eq_true rfl⟩ rfl rfl hP hT hS rfl hl.1 rfl (Nat.le_of_ble_eq_true rfl) d_GlyphPositionsModel_isOn_2 (fun H locs hP hS => ?_)
  refine lv_istore_n (lv' := [(2, .int r1), (0, .ref (G.2.2 36)), (1, .int x1)]) hx hb d_GlyphPositionsModel_isOn_5 rfl hl (by decide) rfl (fun ls hl => ?_)
  refine lv_iload_n hx hb d_GlyphPositionsModel_isOn_6 rfl (lv_at hl 0 rfl) ?_
  refine lv_if_lt (tgt := 23) hx hb d_GlyphPositionsModel_isOn_7 (by decide) (fun c1 => ?_) (fun c1 => ?_)
  · rw [if_pos c1] at hf
    refine lv_iconst (v := 0) hx hb d_GlyphPositionsModel_isOn_23 (by decide) ?_
    exact q_iretP hC hr hlk hf (by first | rfl | decide) hS d_GlyphPositionsModel_isOn_24
  rw [if_neg c1] at hf
  refine lv_aload_n hx hb d_GlyphPositionsModel_isOn_10 rfl (lv_at hl 1 rfl) ?_
  refine xg_36_isOn hC hP wq_135 d_GlyphPositionsModel_isOn_11 ?_
  refine lv_iload_n hx hb d_GlyphPositionsModel_isOn_14 rfl (lv_at hl 0 rfl) ?_
  obtain ⟨hi, hf⟩ := q_grd_some hf
  obtain ⟨v2, e_v2, hf⟩ := q_lt_some hf
  refine xl_44 hC hP e_v2 hi d_GlyphPositionsModel_isOn_15 ?_
  refine lv_if_eq (tgt := 23) hx hb d_GlyphPositionsModel_isOn_16 (by decide) (fun c1 => ?_) (fun c1 => ?_)
  · rw [if_pos c1] at hf
    refine lv_iconst (v := 0) hx hb d_GlyphPositionsModel_isOn_23 (by decide) ?_
    exact q_iretP hC hr hlk hf (by first | rfl | decide) hS d_GlyphPositionsModel_isOn_24
  rw [if_neg c1] at hf
  refine lv_iconst (v := 1) hx hb d_GlyphPositionsModel_isOn_19 (by decide) ?_
  refine lv_goto (tgt := 24) hx hb d_GlyphPositionsModel_isOn_20 (by decide) ?_
  exact q_iretP hC hr hlk hf (by first | rfl | decide) hS d_GlyphPositionsModel_isOn_24
def xGlyphPositionsModel_choosing_111 (N : Nat) (rec_57 : Int32 → QSt → Option QSt) (x4_57 x5_57 x6_111 : Int32) (w1_111 w2_111 : Int32) (st_111 : QSt) : Option QSt :=
  q_grd (q_vpb w1_111 64) (q_lt (q_pa st_111 37 w1_111.toNatClampNeg (vp_nar .boolean w2_111)) (fun s7 => rec_57 (x6_111 + 1) s7))
def xGlyphPositionsModel_choosing_106 (N : Nat) (rec_57 : Int32 → QSt → Option QSt) (x4_57 x5_57 x6_106 : Int32) (w1_106 : Int32) (st_106 : QSt) : Option QSt :=
  xGlyphPositionsModel_choosing_111 N rec_57 x4_57 x5_57 x6_106 w1_106 1 st_106
def xGlyphPositionsModel_choosing_57 (N : Nat) (x4_57 x5_57 : Int32) : Nat → Int32 → QSt → Option QSt
  | 0, _, _ => none
  | n_57 + 1, x6_57, st_57 => q_bn (xGlyphPositionsModel_f16 (x5_57 + 2) st_57) (fun r4 => if r4 ≤ x6_57 then (some st_57) else (q_bn (xGlyphPositionsModel_f16 ((x5_57 + 4) + (2 * x6_57)) st_57) (fun r5 => q_grd (q_vpb r5 64) (q_lt (st_57.2 37 r5.toNatClampNeg) (fun v6 => if v6 = 0 then (if x4_57 = 0 then (xGlyphPositionsModel_choosing_111 N (xGlyphPositionsModel_choosing_57 N x4_57 x5_57 n_57) x4_57 x5_57 x6_57 r5 0 st_57) else (xGlyphPositionsModel_choosing_106 N (xGlyphPositionsModel_choosing_57 N x4_57 x5_57 n_57) x4_57 x5_57 x6_57 r5 st_57)) else (xGlyphPositionsModel_choosing_106 N (xGlyphPositionsModel_choosing_57 N x4_57 x5_57 n_57) x4_57 x5_57 x6_57 r5 st_57))))))
def xGlyphPositionsModel_choosing_35 (N : Nat) (x1_35 x3_35 : Int32) (w0_35 : Int32) (st_35 : QSt) : Option QSt :=
  q_bn (xGlyphPositionsModel_f16 ((x3_35 + 6) + (6 * x1_35)) st_35) (fun r2 => q_lt (x3_35 + r2) (fun x5_1003 => xGlyphPositionsModel_choosing_57 N w0_35 x5_1003 N 0 st_35))
def xGlyphPositionsModel_choosing_30 (N : Nat) (x1_30 x3_30 : Int32) (st_30 : QSt) : Option QSt :=
  xGlyphPositionsModel_choosing_35 N x1_30 x3_30 1 st_30
def xGlyphPositionsModel_choosing (N : Nat) (x1 x2 : Int32) (st : QSt) : Option QSt :=
  q_bn (xGlyphPositionsModel_f16 6 st) (fun r1 => if x2 = 0 then (q_bn (xGlyphPositionsModel_f32 ((r1 + 2) + (6 * x1)) st) (fun r8 => q_bn (xGlyphPositionsModel_isOn N r8 st) (fun r9 => if r9 = 0 then (xGlyphPositionsModel_choosing_35 N x1 r1 0 st) else (xGlyphPositionsModel_choosing_30 N x1 r1 st)))) else (xGlyphPositionsModel_choosing_30 N x1 r1 st))
set_option maxHeartbeats 4000000 in
set_option maxRecDepth 100000 in
theorem c_xGlyphPositionsModel_choosing (l : Launch) (G : XG) {N : Nat} {x1 x2 : Int32} {st : QSt} {so : QSt} (hf : xGlyphPositionsModel_choosing N x1 x2 st = some so) : q_Mv l y_GlyphPositionsModel_choosing b_GlyphPositionsModel_choosing 8 ({ frames := 2, cells := 0, slots := 0, locals := 45 } : Room) G.1 (xT G) (wX G) [.ref (G.2.2 36), .int x1, .int x2] st so := by
  refine q_Mv_of (by decide) (Nat.le_of_ble_eq_true rfl) (wX_fst G) ?_
  intro p e s m args below meth c A ls hC hr hlk hT hD hA hP hS hl
  have hx := hC.1.1
  have hb := hC.1.2.1
  have hown := hC.1.2.2.2.1
  have hts := hC.1.2.2.2.2
  have hl : lv_has ls 8 [(0, .ref (G.2.2 36)), (1, .int x1), (2, .int x2)] := hl
  have L_57 : ∀ (x4_57 x5_57 : Int32) (n_57 : Nat) (x6_57 : Int32) (st_57 : QSt) (H : Heap) (locs : List Loc) (ls : Array Slot), xGlyphPositionsModel_choosing_57 N x4_57 x5_57 n_57 x6_57 st_57 = some so → va_P G.1 vwCl (wX G st_57) H → va_S A s.heap H locs → lv_has ls 8 [(0, .ref (G.2.2 36)), (4, .int x4_57), (5, .int x5_57), (6, .int x6_57)] → W p l e ({ frames := 2, cells := 0, slots := 0, locals := 45 } : Room) s m args below meth c H locs 0 0 (q_Zv below args s G.1 (wX G) so A) (F0 m 57 ls []) := by
    intro x4_57 x5_57 n_57
    induction n_57 with
    | zero => intro _ _ _ _ _ hf; exact absurd hf (by simp [xGlyphPositionsModel_choosing_57])
    | succ n_57 ih_57 =>
      have J_111 : ∀ (x6_111 w1_111 w2_111 : Int32) (st_111 : QSt) (H : Heap) (locs : List Loc) (ls : Array Slot), xGlyphPositionsModel_choosing_111 N (xGlyphPositionsModel_choosing_57 N x4_57 x5_57 n_57) x4_57 x5_57 x6_111 w1_111 w2_111 st_111 = some so → va_P G.1 vwCl (wX G st_111) H → va_S A s.heap H locs → lv_has ls 8 [(0, .ref (G.2.2 36)), (4, .int x4_57), (5, .int x5_57), (6, .int x6_111)] → W p l e ({ frames := 2, cells := 0, slots := 0, locals := 45 } : Room) s m args below meth c H locs 0 0 (q_Zv below args s G.1 (wX G) so A) (F0 m 111 ls [.int w2_111, .int w1_111, .ref (G.2.2 48)]) := by
        intro x6_111 w1_111 w2_111 st_111 H locs ls hf hP hS hl
        unfold xGlyphPositionsModel_choosing_111 at hf
        obtain ⟨hi, hf⟩ := q_grd_some hf
        obtain ⟨s7, e_s7, hf⟩ := q_lt_some hf
        refine xs_48 hC hP hD hS e_s7 hi d_GlyphPositionsModel_choosing_111 (fun H locs hP hS => ?_)
        refine lv_iinc (v := x6_111 + 1) (lv' := [(6, .int (x6_111 + 1)), (0, .ref (G.2.2 36)), (4, .int x4_57), (5, .int x5_57)]) hx hb d_GlyphPositionsModel_choosing_112 hl (k := 3) rfl rfl (by decide) rfl (fun ls hl => ?_)
        refine lv_goto (tgt := 57) hx hb d_GlyphPositionsModel_choosing_115 (by decide) ?_
        exact ih_57 _ _ _ _ _ hf hP hS (lv_sub hl [1, 2, 3, 0] rfl)
      have J_106 : ∀ (x6_106 w1_106 : Int32) (st_106 : QSt) (H : Heap) (locs : List Loc) (ls : Array Slot), xGlyphPositionsModel_choosing_106 N (xGlyphPositionsModel_choosing_57 N x4_57 x5_57 n_57) x4_57 x5_57 x6_106 w1_106 st_106 = some so → va_P G.1 vwCl (wX G st_106) H → va_S A s.heap H locs → lv_has ls 8 [(0, .ref (G.2.2 36)), (4, .int x4_57), (5, .int x5_57), (6, .int x6_106)] → W p l e ({ frames := 2, cells := 0, slots := 0, locals := 45 } : Room) s m args below meth c H locs 0 0 (q_Zv below args s G.1 (wX G) so A) (F0 m 106 ls [.int w1_106, .ref (G.2.2 48)]) := by
        intro x6_106 w1_106 st_106 H locs ls hf hP hS hl
        unfold xGlyphPositionsModel_choosing_106 at hf
        refine lv_iconst (v := 1) hx hb d_GlyphPositionsModel_choosing_106 (by decide) ?_
        refine lv_goto (tgt := 111) hx hb d_GlyphPositionsModel_choosing_107 (by decide) ?_
        exact J_111 _ _ _ _ _ _ _ hf hP hS hl
      intro x6_57 st_57 H locs ls hf hP hS hl
      rw [xGlyphPositionsModel_choosing_57] at hf
      refine lv_iload hx hb d_GlyphPositionsModel_choosing_57 (lv_at hl 3 rfl) ?_
      refine lv_aload_n hx hb d_GlyphPositionsModel_choosing_59 rfl (lv_at hl 0 rfl) ?_
      refine lv_iload hx hb d_GlyphPositionsModel_choosing_60 (lv_at hl 2 rfl) ?_
      refine lv_iconst (v := 2) hx hb d_GlyphPositionsModel_choosing_62 (by decide) ?_
      refine lv_iadd hx hb d_GlyphPositionsModel_choosing_63 ?_
      obtain ⟨r4, h_r4, hf⟩ := q_bn_some hf
      refine q_callVp (As := [.int (x5_57 + 2)]) (rest := [.int x6_57]) (q0 := 36) hC (c_xGlyphPositionsModel_f16 l G h_r4) cal_GlyphPositionsModel_f16 wq_193 ⟨rfl, rfl, Nat.le_of_ble_eq_true rfl, Nat.le_of_ble_eq_true rfl⟩ rfl rfl hP hT hS rfl hl.1 rfl (Nat.le_of_ble_eq_true rfl) d_GlyphPositionsModel_choosing_64 (fun H locs hP hS => ?_)
      refine lv_icmp_ge (tgt := 118) hx hb d_GlyphPositionsModel_choosing_67 (by decide) (fun c1 => ?_) (fun c1 => ?_)
      · rw [if_pos c1] at hf
        exact q_vret hC hr hlk hf hP hS d_GlyphPositionsModel_choosing_118
      rw [if_neg c1] at hf
      refine lv_aload_n hx hb d_GlyphPositionsModel_choosing_70 rfl (lv_at hl 0 rfl) ?_
      refine lv_iload hx hb d_GlyphPositionsModel_choosing_71 (lv_at hl 2 rfl) ?_
      refine lv_iconst (v := 4) hx hb d_GlyphPositionsModel_choosing_73 (by decide) ?_
      refine lv_iadd hx hb d_GlyphPositionsModel_choosing_74 ?_
      refine lv_iconst (v := 2) hx hb d_GlyphPositionsModel_choosing_75 (by decide) ?_
      refine lv_iload hx hb d_GlyphPositionsModel_choosing_76 (lv_at hl 3 rfl) ?_
      refine lv_imul hx hb d_GlyphPositionsModel_choosing_78 ?_
      refine lv_iadd hx hb d_GlyphPositionsModel_choosing_79 ?_
      obtain ⟨r5, h_r5, hf⟩ := q_bn_some hf
      refine q_callVp (As := [.int ((x5_57 + 4) + (2 * x6_57))]) (rest := []) (q0 := 36) hC (c_xGlyphPositionsModel_f16 l G h_r5) cal_GlyphPositionsModel_f16 wq_193 ⟨rfl, rfl, Nat.le_of_ble_eq_true rfl, Nat.le_of_ble_eq_true rfl⟩ rfl rfl hP hT hS rfl hl.1 rfl (Nat.le_of_ble_eq_true rfl) d_GlyphPositionsModel_choosing_80 (fun H locs hP hS => ?_)
      refine lv_istore (lv' := [(7, .int r5), (0, .ref (G.2.2 36)), (4, .int x4_57), (5, .int x5_57), (6, .int x6_57)]) hx hb d_GlyphPositionsModel_choosing_83 hl (by decide) rfl (fun ls hl => ?_)
      refine lv_aload_n hx hb d_GlyphPositionsModel_choosing_85 rfl (lv_at hl 1 rfl) ?_
      refine xg_36_chosen hC hP wq_198 d_GlyphPositionsModel_choosing_86 ?_
      refine lv_iload hx hb d_GlyphPositionsModel_choosing_89 (lv_at hl 0 rfl) ?_
      refine lv_aload_n hx hb d_GlyphPositionsModel_choosing_91 rfl (lv_at hl 1 rfl) ?_
      refine xg_36_chosen hC hP wq_198 d_GlyphPositionsModel_choosing_92 ?_
      refine lv_iload hx hb d_GlyphPositionsModel_choosing_95 (lv_at hl 0 rfl) ?_
      obtain ⟨hi, hf⟩ := q_grd_some hf
      obtain ⟨v6, e_v6, hf⟩ := q_lt_some hf
      refine xl_48 hC hP e_v6 hi d_GlyphPositionsModel_choosing_97 ?_
      refine lv_if_ne (tgt := 106) hx hb d_GlyphPositionsModel_choosing_98 (by decide) (fun c1 => ?_) (fun c1 => ?_)
      · rw [if_neg c1] at hf
        exact J_106 _ _ _ _ _ _ hf hP hS (lv_sub hl [1, 2, 3, 4] rfl)
      rw [if_pos c1] at hf
      refine lv_iload hx hb d_GlyphPositionsModel_choosing_101 (lv_at hl 2 rfl) ?_
      refine lv_if_eq (tgt := 110) hx hb d_GlyphPositionsModel_choosing_103 (by decide) (fun c1 => ?_) (fun c1 => ?_)
      rotate_left
      · rw [if_neg c1] at hf
        exact J_106 _ _ _ _ _ _ hf hP hS (lv_sub hl [1, 2, 3, 4] rfl)
      rw [if_pos c1] at hf
      refine lv_iconst (v := 0) hx hb d_GlyphPositionsModel_choosing_110 (by decide) ?_
      exact J_111 _ _ _ _ _ _ _ hf hP hS (lv_sub hl [1, 2, 3, 4] rfl)
  have J_35 : ∀ (x1_35 x3_35 w0_35 : Int32) (st_35 : QSt) (H : Heap) (locs : List Loc) (ls : Array Slot), xGlyphPositionsModel_choosing_35 N x1_35 x3_35 w0_35 st_35 = some so → va_P G.1 vwCl (wX G st_35) H → va_S A s.heap H locs → lv_has ls 8 [(0, .ref (G.2.2 36)), (1, .int x1_35), (3, .int x3_35)] → W p l e ({ frames := 2, cells := 0, slots := 0, locals := 45 } : Room) s m args below meth c H locs 0 0 (q_Zv below args s G.1 (wX G) so A) (F0 m 35 ls [.int w0_35]) := by
    intro x1_35 x3_35 w0_35 st_35 H locs ls hf hP hS hl
    unfold xGlyphPositionsModel_choosing_35 at hf
    refine lv_istore (lv' := [(4, .int w0_35), (0, .ref (G.2.2 36)), (1, .int x1_35), (3, .int x3_35)]) hx hb d_GlyphPositionsModel_choosing_35 hl (by decide) rfl (fun ls hl => ?_)
    refine lv_iload_n hx hb d_GlyphPositionsModel_choosing_37 rfl (lv_at hl 3 rfl) ?_
    refine lv_aload_n hx hb d_GlyphPositionsModel_choosing_38 rfl (lv_at hl 1 rfl) ?_
    refine lv_iload_n hx hb d_GlyphPositionsModel_choosing_39 rfl (lv_at hl 3 rfl) ?_
    refine lv_bipush (v := 6) hx hb d_GlyphPositionsModel_choosing_40 (by decide) ?_
    refine lv_iadd hx hb d_GlyphPositionsModel_choosing_42 ?_
    refine lv_bipush (v := 6) hx hb d_GlyphPositionsModel_choosing_43 (by decide) ?_
    refine lv_iload_n hx hb d_GlyphPositionsModel_choosing_45 rfl (lv_at hl 2 rfl) ?_
    refine lv_imul hx hb d_GlyphPositionsModel_choosing_46 ?_
    refine lv_iadd hx hb d_GlyphPositionsModel_choosing_47 ?_
    obtain ⟨r2, h_r2, hf⟩ := q_bn_some hf
    refine q_callVp (As := [.int ((x3_35 + 6) + (6 * x1_35))]) (rest := [.int x3_35]) (q0 := 36) hC (c_xGlyphPositionsModel_f16 l G h_r2) cal_GlyphPositionsModel_f16 wq_193 ⟨rfl, rfl, Nat.le_of_ble_eq_true rfl, Nat.le_of_ble_eq_true rfl⟩ rfl rfl hP hT hS rfl hl.1 rfl (Nat.le_of_ble_eq_true rfl) d_GlyphPositionsModel_choosing_48 (fun H locs hP hS => ?_)
    refine lv_iadd hx hb d_GlyphPositionsModel_choosing_51 ?_
    obtain ⟨x5_1003, e_x5_1003, hf⟩ := q_lt_some hf
    refine q_topi e_x5_1003 ?_
    refine lv_istore (lv' := [(5, .int x5_1003), (4, .int w0_35), (0, .ref (G.2.2 36)), (1, .int x1_35), (3, .int x3_35)]) hx hb d_GlyphPositionsModel_choosing_52 hl (by decide) rfl (fun ls hl => ?_)
    refine lv_iconst (v := 0) hx hb d_GlyphPositionsModel_choosing_54 (by decide) ?_
    refine lv_istore (lv' := [(6, .int 0), (5, .int x5_1003), (4, .int w0_35), (0, .ref (G.2.2 36)), (1, .int x1_35), (3, .int x3_35)]) hx hb d_GlyphPositionsModel_choosing_55 hl (by decide) rfl (fun ls hl => ?_)
    exact L_57 _ _ _ _ _ _ _ _ hf hP hS (lv_sub hl [3, 2, 1, 0] rfl)
  have J_30 : ∀ (x1_30 x3_30 : Int32) (st_30 : QSt) (H : Heap) (locs : List Loc) (ls : Array Slot), xGlyphPositionsModel_choosing_30 N x1_30 x3_30 st_30 = some so → va_P G.1 vwCl (wX G st_30) H → va_S A s.heap H locs → lv_has ls 8 [(0, .ref (G.2.2 36)), (1, .int x1_30), (3, .int x3_30)] → W p l e ({ frames := 2, cells := 0, slots := 0, locals := 45 } : Room) s m args below meth c H locs 0 0 (q_Zv below args s G.1 (wX G) so A) (F0 m 30 ls []) := by
    intro x1_30 x3_30 st_30 H locs ls hf hP hS hl
    unfold xGlyphPositionsModel_choosing_30 at hf
    refine lv_iconst (v := 1) hx hb d_GlyphPositionsModel_choosing_30 (by decide) ?_
    refine lv_goto (tgt := 35) hx hb d_GlyphPositionsModel_choosing_31 (by decide) ?_
    exact J_35 _ _ _ _ _ _ _ hf hP hS hl
  unfold xGlyphPositionsModel_choosing at hf
  refine lv_aload_n hx hb d_GlyphPositionsModel_choosing_0 rfl (lv_at hl 0 rfl) ?_
  refine lv_bipush (v := 6) hx hb d_GlyphPositionsModel_choosing_1 (by decide) ?_
  obtain ⟨r1, h_r1, hf⟩ := q_bn_some hf
  refine q_callVp (As := [.int 6]) (rest := []) (q0 := 36) hC (c_xGlyphPositionsModel_f16 l G h_r1) cal_GlyphPositionsModel_f16 wq_193 ⟨rfl, rfl, Nat.le_of_ble_eq_true rfl, Nat.le_of_ble_eq_true rfl⟩ rfl rfl hP hT hS rfl hl.1 rfl (Nat.le_of_ble_eq_true rfl) d_GlyphPositionsModel_choosing_3 (fun H locs hP hS => ?_)
  refine lv_istore_n (lv' := [(3, .int r1), (0, .ref (G.2.2 36)), (1, .int x1), (2, .int x2)]) hx hb d_GlyphPositionsModel_choosing_6 rfl hl (by decide) rfl (fun ls hl => ?_)
  refine lv_iload_n hx hb d_GlyphPositionsModel_choosing_7 rfl (lv_at hl 3 rfl) ?_
  refine lv_if_ne (tgt := 30) hx hb d_GlyphPositionsModel_choosing_8 (by decide) (fun c1 => ?_) (fun c1 => ?_)
  · rw [if_neg c1] at hf
    exact J_30 _ _ _ _ _ _ hf hP hS (lv_sub hl [1, 2, 0] rfl)
  rw [if_pos c1] at hf
  refine lv_aload_n hx hb d_GlyphPositionsModel_choosing_11 rfl (lv_at hl 1 rfl) ?_
  refine lv_aload_n hx hb d_GlyphPositionsModel_choosing_12 rfl (lv_at hl 1 rfl) ?_
  refine lv_iload_n hx hb d_GlyphPositionsModel_choosing_13 rfl (lv_at hl 0 rfl) ?_
  refine lv_iconst (v := 2) hx hb d_GlyphPositionsModel_choosing_14 (by decide) ?_
  refine lv_iadd hx hb d_GlyphPositionsModel_choosing_15 ?_
  refine lv_bipush (v := 6) hx hb d_GlyphPositionsModel_choosing_16 (by decide) ?_
  refine lv_iload_n hx hb d_GlyphPositionsModel_choosing_18 rfl (lv_at hl 2 rfl) ?_
  refine lv_imul hx hb d_GlyphPositionsModel_choosing_19 ?_
  refine lv_iadd hx hb d_GlyphPositionsModel_choosing_20 ?_
  obtain ⟨r8, h_r8, hf⟩ := q_bn_some hf
  refine q_callVp (As := [.int ((r1 + 2) + (6 * x1))]) (rest := [.ref (G.2.2 36)]) (q0 := 36) hC (c_xGlyphPositionsModel_f32 l G h_r8) cal_GlyphPositionsModel_f32 wq_194 ⟨rfl, rfl, Nat.le_of_ble_eq_true rfl, Nat.le_of_ble_eq_true rfl⟩ rfl rfl hP hT hS rfl hl.1 rfl (Nat.le_of_ble_eq_true rfl) d_GlyphPositionsModel_choosing_21 (fun H locs hP hS => ?_)
  obtain ⟨r9, h_r9, hf⟩ := q_bn_some hf
  refine q_callVp (As := [.int r8]) (rest := []) (q0 := 36) hC (c_xGlyphPositionsModel_isOn l G h_r9) cal_GlyphPositionsModel_isOn wq_199 ⟨rfl, rfl, Nat.le_of_ble_eq_true rfl, Nat.le_of_ble_eq_true rfl⟩ rfl rfl hP hT hS rfl hl.1 rfl (Nat.le_of_ble_eq_true rfl) d_GlyphPositionsModel_choosing_24 (fun H locs hP hS => ?_)
  refine lv_if_eq (tgt := 34) hx hb d_GlyphPositionsModel_choosing_27 (by decide) (fun c1 => ?_) (fun c1 => ?_)
  rotate_left
  · rw [if_neg c1] at hf
    exact J_30 _ _ _ _ _ _ hf hP hS (lv_sub hl [1, 2, 0] rfl)
  rw [if_pos c1] at hf
  refine lv_iconst (v := 0) hx hb d_GlyphPositionsModel_choosing_34 (by decide) ?_
  exact J_35 _ _ _ _ _ _ _ hf hP hS (lv_sub hl [1, 2, 0] rfl)
def xGlyphPositionsModel_chooseAll_57 (N : Nat) (x1_57 : Int32) : Nat → Int32 → QSt → Option QSt
  | 0, _, _ => none
  | n_57 + 1, x2_57, st_57 => q_bn (xGlyphPositionsModel_f16 (x1_57 + 4) st_57) (fun r3 => if r3 ≤ x2_57 then (some st_57) else (q_bn (xGlyphPositionsModel_f16 ((x1_57 + 6) + (2 * x2_57)) st_57) (fun r4 => q_bv (xGlyphPositionsModel_choosing N r4 0 st_57) (fun sr5 => xGlyphPositionsModel_chooseAll_57 N x1_57 n_57 (x2_57 + 1) sr5))))
def xGlyphPositionsModel_chooseAll_2 (N : Nat) : Nat → Int32 → QSt → Option QSt
  | 0, _, _ => none
  | n_2 + 1, x1_2, st_2 => if 64 ≤ x1_2 then (q_bn (xGlyphPositionsModel_languageAt N st_2) (fun r1 => if r1 = 0 then (some st_2) else (q_bn (xGlyphPositionsModel_f16 (r1 + 2) st_2) (fun r2 => if r2 = 65535 then (xGlyphPositionsModel_chooseAll_57 N r1 N 0 st_2) else (q_bn (xGlyphPositionsModel_f16 (r1 + 2) st_2) (fun r6 => q_bv (xGlyphPositionsModel_choosing N r6 1 st_2) (fun sr7 => xGlyphPositionsModel_chooseAll_57 N r1 N 0 sr7))))))) else (q_grd (q_vpb x1_2 64) (q_lt (q_pa st_2 37 x1_2.toNatClampNeg (vp_nar .boolean 0)) (fun s8 => xGlyphPositionsModel_chooseAll_2 N n_2 (x1_2 + 1) s8)))
def xGlyphPositionsModel_chooseAll (N : Nat) (st : QSt) : Option QSt :=
  xGlyphPositionsModel_chooseAll_2 N N 0 st
set_option maxHeartbeats 4000000 in
set_option maxRecDepth 100000 in
theorem c_xGlyphPositionsModel_chooseAll (l : Launch) (G : XG) {N : Nat} {st : QSt} {so : QSt} (hf : xGlyphPositionsModel_chooseAll N st = some so) : q_Mv l y_GlyphPositionsModel_chooseAll b_GlyphPositionsModel_chooseAll 3 ({ frames := 4, cells := 0, slots := 0, locals := 90 } : Room) G.1 (xT G) (wX G) [.ref (G.2.2 36)] st so := by
  refine q_Mv_of (by decide) (Nat.le_of_ble_eq_true rfl) (wX_fst G) ?_
  intro p e s m args below meth c A ls hC hr hlk hT hD hA hP hS hl
  have hx := hC.1.1
  have hb := hC.1.2.1
  have hown := hC.1.2.2.2.1
  have hts := hC.1.2.2.2.2
  have hl : lv_has ls 3 [(0, .ref (G.2.2 36))] := hl
  have L_57 : ∀ (x1_57 : Int32) (n_57 : Nat) (x2_57 : Int32) (st_57 : QSt) (H : Heap) (locs : List Loc) (ls : Array Slot), xGlyphPositionsModel_chooseAll_57 N x1_57 n_57 x2_57 st_57 = some so → va_P G.1 vwCl (wX G st_57) H → va_S A s.heap H locs → lv_has ls 3 [(0, .ref (G.2.2 36)), (1, .int x1_57), (2, .int x2_57)] → W p l e ({ frames := 4, cells := 0, slots := 0, locals := 90 } : Room) s m args below meth c H locs 0 0 (q_Zv below args s G.1 (wX G) so A) (F0 m 57 ls []) := by
    intro x1_57 n_57
    induction n_57 with
    | zero => intro _ _ _ _ _ hf; exact absurd hf (by simp [xGlyphPositionsModel_chooseAll_57])
    | succ n_57 ih_57 =>
      intro x2_57 st_57 H locs ls hf hP hS hl
      rw [xGlyphPositionsModel_chooseAll_57] at hf
      refine lv_iload_n hx hb d_GlyphPositionsModel_chooseAll_57 rfl (lv_at hl 2 rfl) ?_
      refine lv_aload_n hx hb d_GlyphPositionsModel_chooseAll_58 rfl (lv_at hl 0 rfl) ?_
      refine lv_iload_n hx hb d_GlyphPositionsModel_chooseAll_59 rfl (lv_at hl 1 rfl) ?_
      refine lv_iconst (v := 4) hx hb d_GlyphPositionsModel_chooseAll_60 (by decide) ?_
      refine lv_iadd hx hb d_GlyphPositionsModel_chooseAll_61 ?_
      obtain ⟨r3, h_r3, hf⟩ := q_bn_some hf
      refine q_callVp (As := [.int (x1_57 + 4)]) (rest := [.int x2_57]) (q0 := 36) hC (c_xGlyphPositionsModel_f16 l G h_r3) cal_GlyphPositionsModel_f16 wq_193 ⟨rfl, rfl, Nat.le_of_ble_eq_true rfl, Nat.le_of_ble_eq_true rfl⟩ rfl rfl hP hT hS rfl hl.1 rfl (Nat.le_of_ble_eq_true rfl) d_GlyphPositionsModel_chooseAll_62 (fun H locs hP hS => ?_)
      refine lv_icmp_ge (tgt := 91) hx hb d_GlyphPositionsModel_chooseAll_65 (by decide) (fun c1 => ?_) (fun c1 => ?_)
      · rw [if_pos c1] at hf
        exact q_vret hC hr hlk hf hP hS d_GlyphPositionsModel_chooseAll_91
      rw [if_neg c1] at hf
      refine lv_aload_n hx hb d_GlyphPositionsModel_chooseAll_68 rfl (lv_at hl 0 rfl) ?_
      refine lv_aload_n hx hb d_GlyphPositionsModel_chooseAll_69 rfl (lv_at hl 0 rfl) ?_
      refine lv_iload_n hx hb d_GlyphPositionsModel_chooseAll_70 rfl (lv_at hl 1 rfl) ?_
      refine lv_bipush (v := 6) hx hb d_GlyphPositionsModel_chooseAll_71 (by decide) ?_
      refine lv_iadd hx hb d_GlyphPositionsModel_chooseAll_73 ?_
      refine lv_iconst (v := 2) hx hb d_GlyphPositionsModel_chooseAll_74 (by decide) ?_
      refine lv_iload_n hx hb d_GlyphPositionsModel_chooseAll_75 rfl (lv_at hl 2 rfl) ?_
      refine lv_imul hx hb d_GlyphPositionsModel_chooseAll_76 ?_
      refine lv_iadd hx hb d_GlyphPositionsModel_chooseAll_77 ?_
      obtain ⟨r4, h_r4, hf⟩ := q_bn_some hf
      refine q_callVp (As := [.int ((x1_57 + 6) + (2 * x2_57))]) (rest := [.ref (G.2.2 36)]) (q0 := 36) hC (c_xGlyphPositionsModel_f16 l G h_r4) cal_GlyphPositionsModel_f16 wq_193 ⟨rfl, rfl, Nat.le_of_ble_eq_true rfl, Nat.le_of_ble_eq_true rfl⟩ rfl rfl hP hT hS rfl hl.1 rfl (Nat.le_of_ble_eq_true rfl) d_GlyphPositionsModel_chooseAll_78 (fun H locs hP hS => ?_)
      refine lv_iconst (v := 0) hx hb d_GlyphPositionsModel_chooseAll_81 (by decide) ?_
      obtain ⟨sr5, h_r5, hf⟩ := q_bv_some hf
      refine q_callVv (As := [.int r4, .int 0]) (rest := []) (q0 := 36) hC (c_xGlyphPositionsModel_choosing l G h_r5) cal_GlyphPositionsModel_choosing wq_200 ⟨rfl, rfl, Nat.le_of_ble_eq_true rfl, Nat.le_of_ble_eq_true rfl⟩ rfl rfl hP hD hA hS rfl hl.1 rfl (Nat.le_of_ble_eq_true rfl) d_GlyphPositionsModel_chooseAll_82 (fun H locs hP hS => ?_)
      refine lv_iinc (v := x2_57 + 1) (lv' := [(2, .int (x2_57 + 1)), (0, .ref (G.2.2 36)), (1, .int x1_57)]) hx hb d_GlyphPositionsModel_chooseAll_85 hl (k := 2) rfl rfl (by decide) rfl (fun ls hl => ?_)
      refine lv_goto (tgt := 57) hx hb d_GlyphPositionsModel_chooseAll_88 (by decide) ?_
      exact ih_57 _ _ _ _ _ hf hP hS (lv_sub hl [1, 2, 0] rfl)
  have L_2 : ∀ (n_2 : Nat) (x1_2 : Int32) (st_2 : QSt) (H : Heap) (locs : List Loc) (ls : Array Slot), xGlyphPositionsModel_chooseAll_2 N n_2 x1_2 st_2 = some so → va_P G.1 vwCl (wX G st_2) H → va_S A s.heap H locs → lv_has ls 3 [(0, .ref (G.2.2 36)), (1, .int x1_2)] → W p l e ({ frames := 4, cells := 0, slots := 0, locals := 90 } : Room) s m args below meth c H locs 0 0 (q_Zv below args s G.1 (wX G) so A) (F0 m 2 ls []) := by
    intro n_2
    induction n_2 with
    | zero => intro _ _ _ _ _ hf; exact absurd hf (by simp [xGlyphPositionsModel_chooseAll_2])
    | succ n_2 ih_2 =>
      intro x1_2 st_2 H locs ls hf hP hS hl
      rw [xGlyphPositionsModel_chooseAll_2] at hf
      refine lv_iload_n hx hb d_GlyphPositionsModel_chooseAll_2 rfl (lv_at hl 1 rfl) ?_
      refine lv_bipush (v := 64) hx hb d_GlyphPositionsModel_chooseAll_3 (by decide) ?_
      refine lv_icmp_ge (tgt := 21) hx hb d_GlyphPositionsModel_chooseAll_5 (by decide) (fun c1 => ?_) (fun c1 => ?_)
      rotate_left
      · rw [if_neg c1] at hf
        refine lv_aload_n hx hb d_GlyphPositionsModel_chooseAll_8 rfl (lv_at hl 0 rfl) ?_
        refine xg_36_chosen hC hP wq_198 d_GlyphPositionsModel_chooseAll_9 ?_
        refine lv_iload_n hx hb d_GlyphPositionsModel_chooseAll_12 rfl (lv_at hl 1 rfl) ?_
        refine lv_iconst (v := 0) hx hb d_GlyphPositionsModel_chooseAll_13 (by decide) ?_
        obtain ⟨hi, hf⟩ := q_grd_some hf
        obtain ⟨s8, e_s8, hf⟩ := q_lt_some hf
        refine xs_48 hC hP hD hS e_s8 hi d_GlyphPositionsModel_chooseAll_14 (fun H locs hP hS => ?_)
        refine lv_iinc (v := x1_2 + 1) (lv' := [(1, .int (x1_2 + 1)), (0, .ref (G.2.2 36))]) hx hb d_GlyphPositionsModel_chooseAll_15 hl (k := 1) rfl rfl (by decide) rfl (fun ls hl => ?_)
        refine lv_goto (tgt := 2) hx hb d_GlyphPositionsModel_chooseAll_18 (by decide) ?_
        exact ih_2 _ _ _ _ _ hf hP hS (lv_sub hl [1, 0] rfl)
      rw [if_pos c1] at hf
      refine lv_aload_n hx hb d_GlyphPositionsModel_chooseAll_21 rfl (lv_at hl 0 rfl) ?_
      obtain ⟨r1, h_r1, hf⟩ := q_bn_some hf
      refine q_callVp (As := []) (rest := []) (q0 := 36) hC (c_xGlyphPositionsModel_languageAt l G h_r1) cal_GlyphPositionsModel_languageAt wq_201 ⟨rfl, rfl, Nat.le_of_ble_eq_true rfl, Nat.le_of_ble_eq_true rfl⟩ rfl rfl hP hT hS rfl hl.1 rfl (Nat.le_of_ble_eq_true rfl) d_GlyphPositionsModel_chooseAll_22 (fun H locs hP hS => ?_)
      refine lv_istore_n (lv' := [(1, .int r1), (0, .ref (G.2.2 36))]) hx hb d_GlyphPositionsModel_chooseAll_25 rfl hl (by decide) rfl (fun ls hl => ?_)
      refine lv_iload_n hx hb d_GlyphPositionsModel_chooseAll_26 rfl (lv_at hl 0 rfl) ?_
      refine lv_if_ne (tgt := 31) hx hb d_GlyphPositionsModel_chooseAll_27 (by decide) (fun c1 => ?_) (fun c1 => ?_)
      rotate_left
      · rw [if_pos c1] at hf
        exact q_vret hC hr hlk hf hP hS d_GlyphPositionsModel_chooseAll_30
      rw [if_neg c1] at hf
      refine lv_aload_n hx hb d_GlyphPositionsModel_chooseAll_31 rfl (lv_at hl 1 rfl) ?_
      refine lv_iload_n hx hb d_GlyphPositionsModel_chooseAll_32 rfl (lv_at hl 0 rfl) ?_
      refine lv_iconst (v := 2) hx hb d_GlyphPositionsModel_chooseAll_33 (by decide) ?_
      refine lv_iadd hx hb d_GlyphPositionsModel_chooseAll_34 ?_
      obtain ⟨r2, h_r2, hf⟩ := q_bn_some hf
      refine q_callVp (As := [.int (r1 + 2)]) (rest := []) (q0 := 36) hC (c_xGlyphPositionsModel_f16 l G h_r2) cal_GlyphPositionsModel_f16 wq_193 ⟨rfl, rfl, Nat.le_of_ble_eq_true rfl, Nat.le_of_ble_eq_true rfl⟩ rfl rfl hP hT hS rfl hl.1 rfl (Nat.le_of_ble_eq_true rfl) d_GlyphPositionsModel_chooseAll_35 (fun H locs hP hS => ?_)
      refine lv_ldc (v := 65535) hx hb hown (hts _ wq_130) d_GlyphPositionsModel_chooseAll_38 ?_
      refine lv_icmp_eq (tgt := 55) hx hb d_GlyphPositionsModel_chooseAll_40 (by decide) (fun c1 => ?_) (fun c1 => ?_)
      · rw [if_pos c1] at hf
        refine lv_iconst (v := 0) hx hb d_GlyphPositionsModel_chooseAll_55 (by decide) ?_
        refine lv_istore_n (lv' := [(2, .int 0), (1, .int r1), (0, .ref (G.2.2 36))]) hx hb d_GlyphPositionsModel_chooseAll_56 rfl hl (by decide) rfl (fun ls hl => ?_)
        exact L_57 _ _ _ _ _ _ _ hf hP hS (lv_sub hl [2, 1, 0] rfl)
      rw [if_neg c1] at hf
      refine lv_aload_n hx hb d_GlyphPositionsModel_chooseAll_43 rfl (lv_at hl 1 rfl) ?_
      refine lv_aload_n hx hb d_GlyphPositionsModel_chooseAll_44 rfl (lv_at hl 1 rfl) ?_
      refine lv_iload_n hx hb d_GlyphPositionsModel_chooseAll_45 rfl (lv_at hl 0 rfl) ?_
      refine lv_iconst (v := 2) hx hb d_GlyphPositionsModel_chooseAll_46 (by decide) ?_
      refine lv_iadd hx hb d_GlyphPositionsModel_chooseAll_47 ?_
      obtain ⟨r6, h_r6, hf⟩ := q_bn_some hf
      refine q_callVp (As := [.int (r1 + 2)]) (rest := [.ref (G.2.2 36)]) (q0 := 36) hC (c_xGlyphPositionsModel_f16 l G h_r6) cal_GlyphPositionsModel_f16 wq_193 ⟨rfl, rfl, Nat.le_of_ble_eq_true rfl, Nat.le_of_ble_eq_true rfl⟩ rfl rfl hP hT hS rfl hl.1 rfl (Nat.le_of_ble_eq_true rfl) d_GlyphPositionsModel_chooseAll_48 (fun H locs hP hS => ?_)
      refine lv_iconst (v := 1) hx hb d_GlyphPositionsModel_chooseAll_51 (by decide) ?_
      obtain ⟨sr7, h_r7, hf⟩ := q_bv_some hf
      refine q_callVv (As := [.int r6, .int 1]) (rest := []) (q0 := 36) hC (c_xGlyphPositionsModel_choosing l G h_r7) cal_GlyphPositionsModel_choosing wq_200 ⟨rfl, rfl, Nat.le_of_ble_eq_true rfl, Nat.le_of_ble_eq_true rfl⟩ rfl rfl hP hD hA hS rfl hl.1 rfl (Nat.le_of_ble_eq_true rfl) d_GlyphPositionsModel_chooseAll_52 (fun H locs hP hS => ?_)
      refine lv_iconst (v := 0) hx hb d_GlyphPositionsModel_chooseAll_55 (by decide) ?_
      refine lv_istore_n (lv' := [(2, .int 0), (1, .int r1), (0, .ref (G.2.2 36))]) hx hb d_GlyphPositionsModel_chooseAll_56 rfl hl (by decide) rfl (fun ls hl => ?_)
      exact L_57 _ _ _ _ _ _ _ hf hP hS (lv_sub hl [2, 1, 0] rfl)
  unfold xGlyphPositionsModel_chooseAll at hf
  refine lv_iconst (v := 0) hx hb d_GlyphPositionsModel_chooseAll_0 (by decide) ?_
  refine lv_istore_n (lv' := [(1, .int 0), (0, .ref (G.2.2 36))]) hx hb d_GlyphPositionsModel_chooseAll_1 rfl hl (by decide) rfl (fun ls hl => ?_)
  exact L_2 _ _ _ _ _ _ hf hP hS (lv_sub hl [1, 0] rfl)
