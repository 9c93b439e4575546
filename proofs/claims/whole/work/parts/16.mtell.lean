def xGlyphPositionsModel_thrown (st : QSt) : Option Int32 :=
  some (st.1 11)
set_option maxHeartbeats 4000000 in
set_option maxRecDepth 100000 in
theorem c_xGlyphPositionsModel_thrown (l : Launch) (G : XG) {st : QSt} {ro : Int32} (hf : xGlyphPositionsModel_thrown st = some ro) : q_Mp l y_GlyphPositionsModel_thrown b_GlyphPositionsModel_thrown 1 .int ({ frames := 0, cells := 0, slots := 0, locals := 0 } : Room) G.1 (xT G) (wX G) [.ref (G.2.2 36)] st ro := by
  refine q_Mp_of (by decide) (Nat.le_of_ble_eq_true rfl) (wX_fst G) ?_
  intro p e s m args below meth c ls hC hr hlk hT hP hS hl
  have hx := hC.1.1
  have hb := hC.1.2.1
  have hown := hC.1.2.2.2.1
  have hts := hC.1.2.2.2.2
  have hl : lv_has ls 1 [(0, .ref (G.2.2 36))] := hl
  unfold xGlyphPositionsModel_thrown at hf
  refine lv_aload_n hx hb d_GlyphPositionsModel_thrown_0 rfl (lv_at hl 0 rfl) ?_
  refine xg_36_fault hC hP wq_121 d_GlyphPositionsModel_thrown_1 ?_
  exact q_iretP hC hr hlk hf (by first | rfl | decide) hS d_GlyphPositionsModel_thrown_4
def xGlyphPositionsModel_feed_21 (N : Nat) (x1_21 : Int32) : Nat → Int32 → QSt → Option (Int32 × QSt)
  | 0, _, _ => none
  | n_21 + 1, x2_21, st_21 => if x2_21 < 0 then (some (st_21.1 12, st_21)) else (q_grd (q_vpb (st_21.1 12) 8192) (q_lt (q_pa st_21 26 (st_21.1 12).toNatClampNeg ((x1_21 >>> (8 * x2_21 &&& 31)) &&& 255)) (fun s2 => q_lt (q_ps s2 12 ((s2.1 12) + 1)) (fun s3 => xGlyphPositionsModel_feed_21 N x1_21 n_21 (x2_21 + (-1)) s3))))
def xGlyphPositionsModel_feed (N : Nat) (x1 : Int32) (st : QSt) : Option (Int32 × QSt) :=
  q_lt (q_ps st 11 0) (fun s1 => if ((s1.1 12) + 4) ≤ 8192 then (xGlyphPositionsModel_feed_21 N x1 N 3 s1) else (some ((-1), s1)))
set_option maxHeartbeats 4000000 in
set_option maxRecDepth 100000 in
theorem c_xGlyphPositionsModel_feed (l : Launch) (G : XG) {N : Nat} {x1 : Int32} {st : QSt} {ro : Int32} {so : QSt} (hf : xGlyphPositionsModel_feed N x1 st = some (ro, so)) : q_Mi l y_GlyphPositionsModel_feed b_GlyphPositionsModel_feed 3 .int ({ frames := 0, cells := 0, slots := 0, locals := 0 } : Room) G.1 (xT G) (wX G) [.ref (G.2.2 36), .int x1] st ro so := by
  refine q_Mi_of (by decide) (Nat.le_of_ble_eq_true rfl) (wX_fst G) ?_
  intro p e s m args below meth c A ls hC hr hlk hT hD hA hP hS hl
  have hx := hC.1.1
  have hb := hC.1.2.1
  have hown := hC.1.2.2.2.1
  have hts := hC.1.2.2.2.2
  have hl : lv_has ls 3 [(0, .ref (G.2.2 36)), (1, .int x1)] := hl
  have L_21 : ∀ (x1_21 : Int32) (n_21 : Nat) (x2_21 : Int32) (st_21 : QSt) (H : Heap) (locs : List Loc) (ls : Array Slot), xGlyphPositionsModel_feed_21 N x1_21 n_21 x2_21 st_21 = some (ro, so) → va_P G.1 vwCl (wX G st_21) H → va_S A s.heap H locs → lv_has ls 3 [(0, .ref (G.2.2 36)), (1, .int x1_21), (2, .int x2_21)] → W p l e ({ frames := 0, cells := 0, slots := 0, locals := 0 } : Room) s m args below meth c H locs 0 0 (q_Zi below args s G.1 (wX G) ro so A) (F0 m 21 ls []) := by
    intro x1_21 n_21
    induction n_21 with
    | zero => intro _ _ _ _ _ hf; exact absurd hf (by simp [xGlyphPositionsModel_feed_21])
    | succ n_21 ih_21 =>
      intro x2_21 st_21 H locs ls hf hP hS hl
      rw [xGlyphPositionsModel_feed_21] at hf
      refine lv_iload_n hx hb d_GlyphPositionsModel_feed_21 rfl (lv_at hl 2 rfl) ?_
      refine lv_if_lt (tgt := 60) hx hb d_GlyphPositionsModel_feed_22 (by decide) (fun c1 => ?_) (fun c1 => ?_)
      · rw [if_pos c1] at hf
        refine lv_aload_n hx hb d_GlyphPositionsModel_feed_60 rfl (lv_at hl 0 rfl) ?_
        refine xg_36_size hC hP wq_122 d_GlyphPositionsModel_feed_61 ?_
        exact q_iret hC hr hlk hf (by first | rfl | decide) hP hS d_GlyphPositionsModel_feed_64
      rw [if_neg c1] at hf
      refine lv_aload_n hx hb d_GlyphPositionsModel_feed_25 rfl (lv_at hl 0 rfl) ?_
      refine xg_36_tape hC hP wq_123 d_GlyphPositionsModel_feed_26 ?_
      refine lv_aload_n hx hb d_GlyphPositionsModel_feed_29 rfl (lv_at hl 0 rfl) ?_
      refine xg_36_size hC hP wq_122 d_GlyphPositionsModel_feed_30 ?_
      refine lv_iload_n hx hb d_GlyphPositionsModel_feed_33 rfl (lv_at hl 1 rfl) ?_
      refine lv_bipush (v := 8) hx hb d_GlyphPositionsModel_feed_34 (by decide) ?_
      refine lv_iload_n hx hb d_GlyphPositionsModel_feed_36 rfl (lv_at hl 2 rfl) ?_
      refine lv_imul hx hb d_GlyphPositionsModel_feed_37 ?_
      refine lv_ishr hx hb d_GlyphPositionsModel_feed_38 ?_
      refine lv_sipush (v := 255) hx hb d_GlyphPositionsModel_feed_39 (by decide) ?_
      refine lv_iand hx hb d_GlyphPositionsModel_feed_42 ?_
      obtain ⟨hi, hf⟩ := q_grd_some hf
      obtain ⟨s2, e_s2, hf⟩ := q_lt_some hf
      refine xs_37 hC hP hD hS e_s2 hi d_GlyphPositionsModel_feed_43 (fun H locs hP hS => ?_)
      refine lv_aload_n hx hb d_GlyphPositionsModel_feed_44 rfl (lv_at hl 0 rfl) ?_
      refine lv_dup hx hb d_GlyphPositionsModel_feed_45 rfl ?_
      refine xg_36_size hC hP wq_122 d_GlyphPositionsModel_feed_46 ?_
      refine lv_iconst (v := 1) hx hb d_GlyphPositionsModel_feed_49 (by decide) ?_
      refine lv_iadd hx hb d_GlyphPositionsModel_feed_50 ?_
      obtain ⟨s3, e_s3, hf⟩ := q_lt_some hf
      refine xp_36_size hC hP hD hS e_s3 wq_122 d_GlyphPositionsModel_feed_51 (fun H locs hP hS => ?_)
      refine lv_iinc (v := x2_21 + (-1)) (lv' := [(2, .int (x2_21 + (-1))), (0, .ref (G.2.2 36)), (1, .int x1_21)]) hx hb d_GlyphPositionsModel_feed_54 hl (k := 2) rfl rfl (by decide) rfl (fun ls hl => ?_)
      refine lv_goto (tgt := 21) hx hb d_GlyphPositionsModel_feed_57 (by decide) ?_
      exact ih_21 _ _ _ _ _ hf hP hS (lv_sub hl [1, 2, 0] rfl)
  unfold xGlyphPositionsModel_feed at hf
  refine lv_aload_n hx hb d_GlyphPositionsModel_feed_0 rfl (lv_at hl 0 rfl) ?_
  refine lv_iconst (v := 0) hx hb d_GlyphPositionsModel_feed_1 (by decide) ?_
  obtain ⟨s1, e_s1, hf⟩ := q_lt_some hf
  refine xp_36_fault hC hP hD hS e_s1 wq_121 d_GlyphPositionsModel_feed_2 (fun H locs hP hS => ?_)
  refine lv_aload_n hx hb d_GlyphPositionsModel_feed_5 rfl (lv_at hl 0 rfl) ?_
  refine xg_36_size hC hP wq_122 d_GlyphPositionsModel_feed_6 ?_
  refine lv_iconst (v := 4) hx hb d_GlyphPositionsModel_feed_9 (by decide) ?_
  refine lv_iadd hx hb d_GlyphPositionsModel_feed_10 ?_
  refine lv_sipush (v := 8192) hx hb d_GlyphPositionsModel_feed_11 (by decide) ?_
  refine lv_icmp_le (tgt := 19) hx hb d_GlyphPositionsModel_feed_14 (by decide) (fun c1 => ?_) (fun c1 => ?_)
  rotate_left
  · rw [if_neg c1] at hf
    refine lv_iconst (v := (-1)) hx hb d_GlyphPositionsModel_feed_17 (by decide) ?_
    exact q_iret hC hr hlk hf (by first | rfl | decide) hP hS d_GlyphPositionsModel_feed_18
  rw [if_pos c1] at hf
  refine lv_iconst (v := 3) hx hb d_GlyphPositionsModel_feed_19 (by decide) ?_
  refine lv_istore_n (lv' := [(2, .int 3), (0, .ref (G.2.2 36)), (1, .int x1)]) hx hb d_GlyphPositionsModel_feed_20 rfl hl (by decide) rfl (fun ls hl => ?_)
  exact L_21 _ _ _ _ _ _ _ hf hP hS (lv_sub hl [1, 2, 0] rfl)
def xGlyphPositionsModel_refused (x1 : Int32) (st : QSt) : Option (Int32 × QSt) :=
  q_lt (q_ps st 11 x1) (fun s1 => if x1 ≤ 0 then (some (0, s1)) else (some (1, s1)))
set_option maxHeartbeats 4000000 in
set_option maxRecDepth 100000 in
theorem c_xGlyphPositionsModel_refused (l : Launch) (G : XG) {x1 : Int32} {st : QSt} {ro : Int32} {so : QSt} (hf : xGlyphPositionsModel_refused x1 st = some (ro, so)) : q_Mi l y_GlyphPositionsModel_refused b_GlyphPositionsModel_refused 2 .boolean ({ frames := 0, cells := 0, slots := 0, locals := 0 } : Room) G.1 (xT G) (wX G) [.ref (G.2.2 36), .int x1] st ro so := by
  refine q_Mi_of (by decide) (Nat.le_of_ble_eq_true rfl) (wX_fst G) ?_
  intro p e s m args below meth c A ls hC hr hlk hT hD hA hP hS hl
  have hx := hC.1.1
  have hb := hC.1.2.1
  have hown := hC.1.2.2.2.1
  have hts := hC.1.2.2.2.2
  have hl : lv_has ls 2 [(0, .ref (G.2.2 36)), (1, .int x1)] := hl
  unfold xGlyphPositionsModel_refused at hf
  refine lv_aload_n hx hb d_GlyphPositionsModel_refused_0 rfl (lv_at hl 0 rfl) ?_
  refine lv_iload_n hx hb d_GlyphPositionsModel_refused_1 rfl (lv_at hl 1 rfl) ?_
  obtain ⟨s1, e_s1, hf⟩ := q_lt_some hf
  refine xp_36_fault hC hP hD hS e_s1 wq_121 d_GlyphPositionsModel_refused_2 (fun H locs hP hS => ?_)
  refine lv_iload_n hx hb d_GlyphPositionsModel_refused_5 rfl (lv_at hl 1 rfl) ?_
  refine lv_if_le (tgt := 13) hx hb d_GlyphPositionsModel_refused_6 (by decide) (fun c1 => ?_) (fun c1 => ?_)
  · rw [if_pos c1] at hf
    refine lv_iconst (v := 0) hx hb d_GlyphPositionsModel_refused_13 (by decide) ?_
    exact q_iret hC hr hlk hf (by first | rfl | decide) hP hS d_GlyphPositionsModel_refused_14
  rw [if_neg c1] at hf
  refine lv_iconst (v := 1) hx hb d_GlyphPositionsModel_refused_9 (by decide) ?_
  refine lv_goto (tgt := 14) hx hb d_GlyphPositionsModel_refused_10 (by decide) ?_
  exact q_iret hC hr hlk hf (by first | rfl | decide) hP hS d_GlyphPositionsModel_refused_14
def xGlyphPositionsModel_put_43 (x1_43 x2_43 : Int32) (w1_43 : Int32) (st_43 : QSt) : Option (Int32 × QSt) :=
  q_bm (xGlyphPositionsModel_refused w1_43 st_43) (fun r1 sr1 => if r1 = 0 then (q_grd (q_vpb x1_43 8192) (q_lt (sr1.2 26 x1_43.toNatClampNeg) (fun v2 => q_grd (q_vpb x1_43 8192) (q_lt (q_pa sr1 26 x1_43.toNatClampNeg x2_43) (fun s3 => some (v2, s3)))))) else (some (0, sr1)))
def xGlyphPositionsModel_put_38 (x1_38 x2_38 : Int32) (st_38 : QSt) : Option (Int32 × QSt) :=
  xGlyphPositionsModel_put_43 x1_38 x2_38 2 st_38
def xGlyphPositionsModel_put_17 (x1_17 x2_17 : Int32) (w0_17 : Int32) (st_17 : QSt) : Option (Int32 × QSt) :=
  if w0_17 = 0 then (xGlyphPositionsModel_put_43 x1_17 x2_17 1 st_17) else (if x2_17 < 0 then (xGlyphPositionsModel_put_38 x1_17 x2_17 st_17) else (if x2_17 ≤ 255 then (xGlyphPositionsModel_put_43 x1_17 x2_17 0 st_17) else (xGlyphPositionsModel_put_38 x1_17 x2_17 st_17)))
def xGlyphPositionsModel_put_16 (x1_16 x2_16 : Int32) (st_16 : QSt) : Option (Int32 × QSt) :=
  xGlyphPositionsModel_put_17 x1_16 x2_16 0 st_16
def xGlyphPositionsModel_put (x1 x2 : Int32) (st : QSt) : Option (Int32 × QSt) :=
  if x1 < 0 then (xGlyphPositionsModel_put_16 x1 x2 st) else (if (st.1 12) ≤ x1 then (xGlyphPositionsModel_put_16 x1 x2 st) else (xGlyphPositionsModel_put_17 x1 x2 1 st))
set_option maxHeartbeats 4000000 in
set_option maxRecDepth 100000 in
theorem c_xGlyphPositionsModel_put (l : Launch) (G : XG) {x1 x2 : Int32} {st : QSt} {ro : Int32} {so : QSt} (hf : xGlyphPositionsModel_put x1 x2 st = some (ro, so)) : q_Mi l y_GlyphPositionsModel_put b_GlyphPositionsModel_put 5 .int ({ frames := 1, cells := 0, slots := 0, locals := 21 } : Room) G.1 (xT G) (wX G) [.ref (G.2.2 36), .int x1, .int x2] st ro so := by
  refine q_Mi_of (by decide) (Nat.le_of_ble_eq_true rfl) (wX_fst G) ?_
  intro p e s m args below meth c A ls hC hr hlk hT hD hA hP hS hl
  have hx := hC.1.1
  have hb := hC.1.2.1
  have hown := hC.1.2.2.2.1
  have hts := hC.1.2.2.2.2
  have hl : lv_has ls 5 [(0, .ref (G.2.2 36)), (1, .int x1), (2, .int x2)] := hl
  have J_43 : ∀ (x1_43 x2_43 w1_43 : Int32) (st_43 : QSt) (H : Heap) (locs : List Loc) (ls : Array Slot), xGlyphPositionsModel_put_43 x1_43 x2_43 w1_43 st_43 = some (ro, so) → va_P G.1 vwCl (wX G st_43) H → va_S A s.heap H locs → lv_has ls 5 [(0, .ref (G.2.2 36)), (1, .int x1_43), (2, .int x2_43)] → W p l e ({ frames := 1, cells := 0, slots := 0, locals := 21 } : Room) s m args below meth c H locs 0 0 (q_Zi below args s G.1 (wX G) ro so A) (F0 m 43 ls [.int w1_43, .ref (G.2.2 36)]) := by
    intro x1_43 x2_43 w1_43 st_43 H locs ls hf hP hS hl
    unfold xGlyphPositionsModel_put_43 at hf
    obtain ⟨r1, sr1, h_r1, hf⟩ := q_bm_some hf
    refine q_callVi (As := [.int w1_43]) (rest := []) (q0 := 36) hC (c_xGlyphPositionsModel_refused l G h_r1) cal_GlyphPositionsModel_refused wq_124 ⟨rfl, rfl, Nat.le_of_ble_eq_true rfl, Nat.le_of_ble_eq_true rfl⟩ rfl rfl hP hD hA hS rfl hl.1 rfl (Nat.le_of_ble_eq_true rfl) d_GlyphPositionsModel_put_43 (fun H locs hP hS => ?_)
    refine lv_if_eq (tgt := 51) hx hb d_GlyphPositionsModel_put_46 (by decide) (fun c1 => ?_) (fun c1 => ?_)
    rotate_left
    · rw [if_neg c1] at hf
      refine lv_iconst (v := 0) hx hb d_GlyphPositionsModel_put_49 (by decide) ?_
      exact q_iret hC hr hlk hf (by first | rfl | decide) hP hS d_GlyphPositionsModel_put_50
    rw [if_pos c1] at hf
    refine lv_aload_n hx hb d_GlyphPositionsModel_put_51 rfl (lv_at hl 0 rfl) ?_
    refine xg_36_tape hC hP wq_123 d_GlyphPositionsModel_put_52 ?_
    refine lv_iload_n hx hb d_GlyphPositionsModel_put_55 rfl (lv_at hl 1 rfl) ?_
    obtain ⟨hi, hf⟩ := q_grd_some hf
    obtain ⟨v2, e_v2, hf⟩ := q_lt_some hf
    refine xl_37 hC hP e_v2 hi d_GlyphPositionsModel_put_56 ?_
    refine lv_istore (lv' := [(4, .int v2), (0, .ref (G.2.2 36)), (1, .int x1_43), (2, .int x2_43)]) hx hb d_GlyphPositionsModel_put_57 hl (by decide) rfl (fun ls hl => ?_)
    refine lv_aload_n hx hb d_GlyphPositionsModel_put_59 rfl (lv_at hl 1 rfl) ?_
    refine xg_36_tape hC hP wq_123 d_GlyphPositionsModel_put_60 ?_
    refine lv_iload_n hx hb d_GlyphPositionsModel_put_63 rfl (lv_at hl 2 rfl) ?_
    refine lv_iload_n hx hb d_GlyphPositionsModel_put_64 rfl (lv_at hl 3 rfl) ?_
    obtain ⟨hi, hf⟩ := q_grd_some hf
    obtain ⟨s3, e_s3, hf⟩ := q_lt_some hf
    refine xs_37 hC hP hD hS e_s3 hi d_GlyphPositionsModel_put_65 (fun H locs hP hS => ?_)
    refine lv_iload hx hb d_GlyphPositionsModel_put_66 (lv_at hl 0 rfl) ?_
    exact q_iret hC hr hlk hf (by first | rfl | decide) hP hS d_GlyphPositionsModel_put_68
  have J_38 : ∀ (x1_38 x2_38 : Int32) (st_38 : QSt) (H : Heap) (locs : List Loc) (ls : Array Slot), xGlyphPositionsModel_put_38 x1_38 x2_38 st_38 = some (ro, so) → va_P G.1 vwCl (wX G st_38) H → va_S A s.heap H locs → lv_has ls 5 [(0, .ref (G.2.2 36)), (1, .int x1_38), (2, .int x2_38)] → W p l e ({ frames := 1, cells := 0, slots := 0, locals := 21 } : Room) s m args below meth c H locs 0 0 (q_Zi below args s G.1 (wX G) ro so A) (F0 m 38 ls [.ref (G.2.2 36)]) := by
    intro x1_38 x2_38 st_38 H locs ls hf hP hS hl
    unfold xGlyphPositionsModel_put_38 at hf
    refine lv_iconst (v := 2) hx hb d_GlyphPositionsModel_put_38 (by decide) ?_
    refine lv_goto (tgt := 43) hx hb d_GlyphPositionsModel_put_39 (by decide) ?_
    exact J_43 _ _ _ _ _ _ _ hf hP hS hl
  have J_17 : ∀ (x1_17 x2_17 w0_17 : Int32) (st_17 : QSt) (H : Heap) (locs : List Loc) (ls : Array Slot), xGlyphPositionsModel_put_17 x1_17 x2_17 w0_17 st_17 = some (ro, so) → va_P G.1 vwCl (wX G st_17) H → va_S A s.heap H locs → lv_has ls 5 [(0, .ref (G.2.2 36)), (1, .int x1_17), (2, .int x2_17)] → W p l e ({ frames := 1, cells := 0, slots := 0, locals := 21 } : Room) s m args below meth c H locs 0 0 (q_Zi below args s G.1 (wX G) ro so A) (F0 m 17 ls [.int w0_17]) := by
    intro x1_17 x2_17 w0_17 st_17 H locs ls hf hP hS hl
    unfold xGlyphPositionsModel_put_17 at hf
    refine lv_istore_n (lv' := [(3, .int w0_17), (0, .ref (G.2.2 36)), (1, .int x1_17), (2, .int x2_17)]) hx hb d_GlyphPositionsModel_put_17 rfl hl (by decide) rfl (fun ls hl => ?_)
    refine lv_aload_n hx hb d_GlyphPositionsModel_put_18 rfl (lv_at hl 1 rfl) ?_
    refine lv_iload_n hx hb d_GlyphPositionsModel_put_19 rfl (lv_at hl 0 rfl) ?_
    refine lv_if_ne (tgt := 27) hx hb d_GlyphPositionsModel_put_20 (by decide) (fun c1 => ?_) (fun c1 => ?_)
    rotate_left
    · rw [if_pos c1] at hf
      refine lv_iconst (v := 1) hx hb d_GlyphPositionsModel_put_23 (by decide) ?_
      refine lv_goto (tgt := 43) hx hb d_GlyphPositionsModel_put_24 (by decide) ?_
      exact J_43 _ _ _ _ _ _ _ hf hP hS (lv_sub hl [1, 2, 3] rfl)
    rw [if_neg c1] at hf
    refine lv_iload_n hx hb d_GlyphPositionsModel_put_27 rfl (lv_at hl 3 rfl) ?_
    refine lv_if_lt (tgt := 38) hx hb d_GlyphPositionsModel_put_28 (by decide) (fun c1 => ?_) (fun c1 => ?_)
    · rw [if_pos c1] at hf
      exact J_38 _ _ _ _ _ _ hf hP hS (lv_sub hl [1, 2, 3] rfl)
    rw [if_neg c1] at hf
    refine lv_iload_n hx hb d_GlyphPositionsModel_put_31 rfl (lv_at hl 3 rfl) ?_
    refine lv_sipush (v := 255) hx hb d_GlyphPositionsModel_put_32 (by decide) ?_
    refine lv_icmp_le (tgt := 42) hx hb d_GlyphPositionsModel_put_35 (by decide) (fun c1 => ?_) (fun c1 => ?_)
    rotate_left
    · rw [if_neg c1] at hf
      exact J_38 _ _ _ _ _ _ hf hP hS (lv_sub hl [1, 2, 3] rfl)
    rw [if_pos c1] at hf
    refine lv_iconst (v := 0) hx hb d_GlyphPositionsModel_put_42 (by decide) ?_
    exact J_43 _ _ _ _ _ _ _ hf hP hS (lv_sub hl [1, 2, 3] rfl)
  have J_16 : ∀ (x1_16 x2_16 : Int32) (st_16 : QSt) (H : Heap) (locs : List Loc) (ls : Array Slot), xGlyphPositionsModel_put_16 x1_16 x2_16 st_16 = some (ro, so) → va_P G.1 vwCl (wX G st_16) H → va_S A s.heap H locs → lv_has ls 5 [(0, .ref (G.2.2 36)), (1, .int x1_16), (2, .int x2_16)] → W p l e ({ frames := 1, cells := 0, slots := 0, locals := 21 } : Room) s m args below meth c H locs 0 0 (q_Zi below args s G.1 (wX G) ro so A) (F0 m 16 ls []) := by
    intro x1_16 x2_16 st_16 H locs ls hf hP hS hl
    unfold xGlyphPositionsModel_put_16 at hf
    refine lv_iconst (v := 0) hx hb d_GlyphPositionsModel_put_16 (by decide) ?_
    exact J_17 _ _ _ _ _ _ _ hf hP hS hl
  unfold xGlyphPositionsModel_put at hf
  refine lv_iload_n hx hb d_GlyphPositionsModel_put_0 rfl (lv_at hl 1 rfl) ?_
  refine lv_if_lt (tgt := 16) hx hb d_GlyphPositionsModel_put_1 (by decide) (fun c1 => ?_) (fun c1 => ?_)
  · rw [if_pos c1] at hf
    exact J_16 _ _ _ _ _ _ hf hP hS hl
  rw [if_neg c1] at hf
  refine lv_iload_n hx hb d_GlyphPositionsModel_put_4 rfl (lv_at hl 1 rfl) ?_
  refine lv_aload_n hx hb d_GlyphPositionsModel_put_5 rfl (lv_at hl 0 rfl) ?_
  refine xg_36_size hC hP wq_122 d_GlyphPositionsModel_put_6 ?_
  refine lv_icmp_ge (tgt := 16) hx hb d_GlyphPositionsModel_put_9 (by decide) (fun c1 => ?_) (fun c1 => ?_)
  · rw [if_pos c1] at hf
    exact J_16 _ _ _ _ _ _ hf hP hS hl
  rw [if_neg c1] at hf
  refine lv_iconst (v := 1) hx hb d_GlyphPositionsModel_put_12 (by decide) ?_
  refine lv_goto (tgt := 17) hx hb d_GlyphPositionsModel_put_13 (by decide) ?_
  exact J_17 _ _ _ _ _ _ _ hf hP hS hl
def xGlyphPositionsModel_cut_36 (w0_36 : Int32) (st_36 : QSt) : Option (Int32 × QSt) :=
  q_lt (q_ps st_36 12 ((st_36.1 12) - w0_36)) (fun s2 => some (w0_36, s2))
def xGlyphPositionsModel_cut_10 (x1_10 : Int32) (w1_10 : Int32) (st_10 : QSt) : Option (Int32 × QSt) :=
  q_bm (xGlyphPositionsModel_refused w1_10 st_10) (fun r1 sr1 => if r1 = 0 then (if (sr1.1 12) ≤ x1_10 then (xGlyphPositionsModel_cut_36 0 sr1) else (xGlyphPositionsModel_cut_36 ((sr1.1 12) - x1_10) sr1)) else (some (0, sr1)))
def xGlyphPositionsModel_cut (x1 : Int32) (st : QSt) : Option (Int32 × QSt) :=
  if 0 ≤ x1 then (xGlyphPositionsModel_cut_10 x1 0 st) else (xGlyphPositionsModel_cut_10 x1 1 st)
set_option maxHeartbeats 4000000 in
set_option maxRecDepth 100000 in
theorem c_xGlyphPositionsModel_cut (l : Launch) (G : XG) {x1 : Int32} {st : QSt} {ro : Int32} {so : QSt} (hf : xGlyphPositionsModel_cut x1 st = some (ro, so)) : q_Mi l y_GlyphPositionsModel_cut b_GlyphPositionsModel_cut 3 .int ({ frames := 1, cells := 0, slots := 0, locals := 21 } : Room) G.1 (xT G) (wX G) [.ref (G.2.2 36), .int x1] st ro so := by
  refine q_Mi_of (by decide) (Nat.le_of_ble_eq_true rfl) (wX_fst G) ?_
  intro p e s m args below meth c A ls hC hr hlk hT hD hA hP hS hl
  have hx := hC.1.1
  have hb := hC.1.2.1
  have hown := hC.1.2.2.2.1
  have hts := hC.1.2.2.2.2
  have hl : lv_has ls 3 [(0, .ref (G.2.2 36)), (1, .int x1)] := hl
  have J_36 : ∀ (w0_36 : Int32) (st_36 : QSt) (H : Heap) (locs : List Loc) (ls : Array Slot), xGlyphPositionsModel_cut_36 w0_36 st_36 = some (ro, so) → va_P G.1 vwCl (wX G st_36) H → va_S A s.heap H locs → lv_has ls 3 [(0, .ref (G.2.2 36))] → W p l e ({ frames := 1, cells := 0, slots := 0, locals := 21 } : Room) s m args below meth c H locs 0 0 (q_Zi below args s G.1 (wX G) ro so A) (F0 m 36 ls [.int w0_36]) := by
    intro w0_36 st_36 H locs ls hf hP hS hl
    unfold xGlyphPositionsModel_cut_36 at hf
    refine lv_istore_n (lv' := [(2, .int w0_36), (0, .ref (G.2.2 36))]) hx hb d_GlyphPositionsModel_cut_36 rfl hl (by decide) rfl (fun ls hl => ?_)
    refine lv_aload_n hx hb d_GlyphPositionsModel_cut_37 rfl (lv_at hl 1 rfl) ?_
    refine lv_aload_n hx hb d_GlyphPositionsModel_cut_38 rfl (lv_at hl 1 rfl) ?_
    refine xg_36_size hC hP wq_122 d_GlyphPositionsModel_cut_39 ?_
    refine lv_iload_n hx hb d_GlyphPositionsModel_cut_42 rfl (lv_at hl 0 rfl) ?_
    refine lv_isub hx hb d_GlyphPositionsModel_cut_43 ?_
    obtain ⟨s2, e_s2, hf⟩ := q_lt_some hf
    refine xp_36_size hC hP hD hS e_s2 wq_122 d_GlyphPositionsModel_cut_44 (fun H locs hP hS => ?_)
    refine lv_iload_n hx hb d_GlyphPositionsModel_cut_47 rfl (lv_at hl 0 rfl) ?_
    exact q_iret hC hr hlk hf (by first | rfl | decide) hP hS d_GlyphPositionsModel_cut_48
  have J_10 : ∀ (x1_10 w1_10 : Int32) (st_10 : QSt) (H : Heap) (locs : List Loc) (ls : Array Slot), xGlyphPositionsModel_cut_10 x1_10 w1_10 st_10 = some (ro, so) → va_P G.1 vwCl (wX G st_10) H → va_S A s.heap H locs → lv_has ls 3 [(0, .ref (G.2.2 36)), (1, .int x1_10)] → W p l e ({ frames := 1, cells := 0, slots := 0, locals := 21 } : Room) s m args below meth c H locs 0 0 (q_Zi below args s G.1 (wX G) ro so A) (F0 m 10 ls [.int w1_10, .ref (G.2.2 36)]) := by
    intro x1_10 w1_10 st_10 H locs ls hf hP hS hl
    unfold xGlyphPositionsModel_cut_10 at hf
    obtain ⟨r1, sr1, h_r1, hf⟩ := q_bm_some hf
    refine q_callVi (As := [.int w1_10]) (rest := []) (q0 := 36) hC (c_xGlyphPositionsModel_refused l G h_r1) cal_GlyphPositionsModel_refused wq_124 ⟨rfl, rfl, Nat.le_of_ble_eq_true rfl, Nat.le_of_ble_eq_true rfl⟩ rfl rfl hP hD hA hS rfl hl.1 rfl (Nat.le_of_ble_eq_true rfl) d_GlyphPositionsModel_cut_10 (fun H locs hP hS => ?_)
    refine lv_if_eq (tgt := 18) hx hb d_GlyphPositionsModel_cut_13 (by decide) (fun c1 => ?_) (fun c1 => ?_)
    rotate_left
    · rw [if_neg c1] at hf
      refine lv_iconst (v := 0) hx hb d_GlyphPositionsModel_cut_16 (by decide) ?_
      exact q_iret hC hr hlk hf (by first | rfl | decide) hP hS d_GlyphPositionsModel_cut_17
    rw [if_pos c1] at hf
    refine lv_aload_n hx hb d_GlyphPositionsModel_cut_18 rfl (lv_at hl 0 rfl) ?_
    refine xg_36_size hC hP wq_122 d_GlyphPositionsModel_cut_19 ?_
    refine lv_iload_n hx hb d_GlyphPositionsModel_cut_22 rfl (lv_at hl 1 rfl) ?_
    refine lv_icmp_le (tgt := 35) hx hb d_GlyphPositionsModel_cut_23 (by decide) (fun c1 => ?_) (fun c1 => ?_)
    · rw [if_pos c1] at hf
      refine lv_iconst (v := 0) hx hb d_GlyphPositionsModel_cut_35 (by decide) ?_
      exact J_36 _ _ _ _ _ hf hP hS (lv_sub hl [0] rfl)
    rw [if_neg c1] at hf
    refine lv_aload_n hx hb d_GlyphPositionsModel_cut_26 rfl (lv_at hl 0 rfl) ?_
    refine xg_36_size hC hP wq_122 d_GlyphPositionsModel_cut_27 ?_
    refine lv_iload_n hx hb d_GlyphPositionsModel_cut_30 rfl (lv_at hl 1 rfl) ?_
    refine lv_isub hx hb d_GlyphPositionsModel_cut_31 ?_
    refine lv_goto (tgt := 36) hx hb d_GlyphPositionsModel_cut_32 (by decide) ?_
    exact J_36 _ _ _ _ _ hf hP hS (lv_sub hl [0] rfl)
  unfold xGlyphPositionsModel_cut at hf
  refine lv_aload_n hx hb d_GlyphPositionsModel_cut_0 rfl (lv_at hl 0 rfl) ?_
  refine lv_iload_n hx hb d_GlyphPositionsModel_cut_1 rfl (lv_at hl 1 rfl) ?_
  refine lv_if_ge (tgt := 9) hx hb d_GlyphPositionsModel_cut_2 (by decide) (fun c1 => ?_) (fun c1 => ?_)
  · rw [if_pos c1] at hf
    refine lv_iconst (v := 0) hx hb d_GlyphPositionsModel_cut_9 (by decide) ?_
    exact J_10 _ _ _ _ _ _ hf hP hS hl
  rw [if_neg c1] at hf
  refine lv_iconst (v := 1) hx hb d_GlyphPositionsModel_cut_5 (by decide) ?_
  refine lv_goto (tgt := 10) hx hb d_GlyphPositionsModel_cut_6 (by decide) ?_
  exact J_10 _ _ _ _ _ _ hf hP hS hl
def xGlyphPositionsModel_kind_69 (x1_69 x2_69 x3_69 x4_69 : Int32) (w1_69 : Int32) (st_69 : QSt) : Option QSt :=
  q_bm (xGlyphPositionsModel_refused w1_69 st_69) (fun r1 sr1 => if r1 = 0 then (q_grd (q_vpb (sr1.1 16) 256) (q_lt (q_pa sr1 28 (sr1.1 16).toNatClampNeg x1_69) (fun s2 => q_grd (q_vpb (s2.1 16) 256) (q_lt (q_pa s2 29 (s2.1 16).toNatClampNeg x2_69) (fun s3 => q_grd (q_vpb (s3.1 16) 256) (q_lt (q_pa s3 30 (s3.1 16).toNatClampNeg x3_69) (fun s4 => q_grd (q_vpb (s4.1 16) 256) (q_lt (q_pa s4 31 (s4.1 16).toNatClampNeg x4_69) (fun s5 => q_lt (q_ps s5 16 ((s5.1 16) + 1)) (fun s6 => some s6)))))))))) else (some sr1))
def xGlyphPositionsModel_kind_42 (x1_42 x2_42 x3_42 x4_42 : Int32) (w0_42 : Int32) (st_42 : QSt) : Option QSt :=
  if w0_42 = 0 then (xGlyphPositionsModel_kind_69 x1_42 x2_42 x3_42 x4_42 1 st_42) else (if (st_42.1 16) = 256 then (xGlyphPositionsModel_kind_69 x1_42 x2_42 x3_42 x4_42 2 st_42) else (xGlyphPositionsModel_kind_69 x1_42 x2_42 x3_42 x4_42 0 st_42))
def xGlyphPositionsModel_kind_41 (x1_41 x2_41 x3_41 x4_41 : Int32) (st_41 : QSt) : Option QSt :=
  xGlyphPositionsModel_kind_42 x1_41 x2_41 x3_41 x4_41 0 st_41
def xGlyphPositionsModel_kind (x1 x2 x3 x4 : Int32) (st : QSt) : Option QSt :=
  if x1 < 0 then (xGlyphPositionsModel_kind_41 x1 x2 x3 x4 st) else (if 65535 < x2 then (xGlyphPositionsModel_kind_41 x1 x2 x3 x4 st) else (if x2 < x1 then (xGlyphPositionsModel_kind_41 x1 x2 x3 x4 st) else (if x3 < 0 then (xGlyphPositionsModel_kind_41 x1 x2 x3 x4 st) else (if 3 < x3 then (xGlyphPositionsModel_kind_41 x1 x2 x3 x4 st) else (if x4 < 0 then (xGlyphPositionsModel_kind_41 x1 x2 x3 x4 st) else (if 255 < x4 then (xGlyphPositionsModel_kind_41 x1 x2 x3 x4 st) else (xGlyphPositionsModel_kind_42 x1 x2 x3 x4 1 st)))))))
set_option maxHeartbeats 4000000 in
set_option maxRecDepth 100000 in
theorem c_xGlyphPositionsModel_kind (l : Launch) (G : XG) {x1 x2 x3 x4 : Int32} {st : QSt} {so : QSt} (hf : xGlyphPositionsModel_kind x1 x2 x3 x4 st = some so) : q_Mv l y_GlyphPositionsModel_kind b_GlyphPositionsModel_kind 6 ({ frames := 1, cells := 0, slots := 0, locals := 21 } : Room) G.1 (xT G) (wX G) [.ref (G.2.2 36), .int x1, .int x2, .int x3, .int x4] st so := by
  refine q_Mv_of (by decide) (Nat.le_of_ble_eq_true rfl) (wX_fst G) ?_
  intro p e s m args below meth c A ls hC hr hlk hT hD hA hP hS hl
  have hx := hC.1.1
  have hb := hC.1.2.1
  have hown := hC.1.2.2.2.1
  have hts := hC.1.2.2.2.2
  have hl : lv_has ls 6 [(0, .ref (G.2.2 36)), (1, .int x1), (2, .int x2), (3, .int x3), (4, .int x4)] := hl
  have J_69 : ∀ (x1_69 x2_69 x3_69 x4_69 w1_69 : Int32) (st_69 : QSt) (H : Heap) (locs : List Loc) (ls : Array Slot), xGlyphPositionsModel_kind_69 x1_69 x2_69 x3_69 x4_69 w1_69 st_69 = some so → va_P G.1 vwCl (wX G st_69) H → va_S A s.heap H locs → lv_has ls 6 [(0, .ref (G.2.2 36)), (1, .int x1_69), (2, .int x2_69), (3, .int x3_69), (4, .int x4_69)] → W p l e ({ frames := 1, cells := 0, slots := 0, locals := 21 } : Room) s m args below meth c H locs 0 0 (q_Zv below args s G.1 (wX G) so A) (F0 m 69 ls [.int w1_69, .ref (G.2.2 36)]) := by
    intro x1_69 x2_69 x3_69 x4_69 w1_69 st_69 H locs ls hf hP hS hl
    unfold xGlyphPositionsModel_kind_69 at hf
    obtain ⟨r1, sr1, h_r1, hf⟩ := q_bm_some hf
    refine q_callVi (As := [.int w1_69]) (rest := []) (q0 := 36) hC (c_xGlyphPositionsModel_refused l G h_r1) cal_GlyphPositionsModel_refused wq_124 ⟨rfl, rfl, Nat.le_of_ble_eq_true rfl, Nat.le_of_ble_eq_true rfl⟩ rfl rfl hP hD hA hS rfl hl.1 rfl (Nat.le_of_ble_eq_true rfl) d_GlyphPositionsModel_kind_69 (fun H locs hP hS => ?_)
    refine lv_if_ne (tgt := 126) hx hb d_GlyphPositionsModel_kind_72 (by decide) (fun c1 => ?_) (fun c1 => ?_)
    · rw [if_neg c1] at hf
      exact q_vret hC hr hlk hf hP hS d_GlyphPositionsModel_kind_126
    rw [if_pos c1] at hf
    refine lv_aload_n hx hb d_GlyphPositionsModel_kind_75 rfl (lv_at hl 0 rfl) ?_
    refine xg_36_firsts hC hP wq_125 d_GlyphPositionsModel_kind_76 ?_
    refine lv_aload_n hx hb d_GlyphPositionsModel_kind_79 rfl (lv_at hl 0 rfl) ?_
    refine xg_36_ranges hC hP wq_126 d_GlyphPositionsModel_kind_80 ?_
    refine lv_iload_n hx hb d_GlyphPositionsModel_kind_83 rfl (lv_at hl 1 rfl) ?_
    obtain ⟨hi, hf⟩ := q_grd_some hf
    obtain ⟨s2, e_s2, hf⟩ := q_lt_some hf
    refine xs_39 hC hP hD hS e_s2 hi d_GlyphPositionsModel_kind_84 (fun H locs hP hS => ?_)
    refine lv_aload_n hx hb d_GlyphPositionsModel_kind_85 rfl (lv_at hl 0 rfl) ?_
    refine xg_36_lasts hC hP wq_127 d_GlyphPositionsModel_kind_86 ?_
    refine lv_aload_n hx hb d_GlyphPositionsModel_kind_89 rfl (lv_at hl 0 rfl) ?_
    refine xg_36_ranges hC hP wq_126 d_GlyphPositionsModel_kind_90 ?_
    refine lv_iload_n hx hb d_GlyphPositionsModel_kind_93 rfl (lv_at hl 2 rfl) ?_
    obtain ⟨hi, hf⟩ := q_grd_some hf
    obtain ⟨s3, e_s3, hf⟩ := q_lt_some hf
    refine xs_40 hC hP hD hS e_s3 hi d_GlyphPositionsModel_kind_94 (fun H locs hP hS => ?_)
    refine lv_aload_n hx hb d_GlyphPositionsModel_kind_95 rfl (lv_at hl 0 rfl) ?_
    refine xg_36_kinds hC hP wq_128 d_GlyphPositionsModel_kind_96 ?_
    refine lv_aload_n hx hb d_GlyphPositionsModel_kind_99 rfl (lv_at hl 0 rfl) ?_
    refine xg_36_ranges hC hP wq_126 d_GlyphPositionsModel_kind_100 ?_
    refine lv_iload_n hx hb d_GlyphPositionsModel_kind_103 rfl (lv_at hl 3 rfl) ?_
    obtain ⟨hi, hf⟩ := q_grd_some hf
    obtain ⟨s4, e_s4, hf⟩ := q_lt_some hf
    refine xs_41 hC hP hD hS e_s4 hi d_GlyphPositionsModel_kind_104 (fun H locs hP hS => ?_)
    refine lv_aload_n hx hb d_GlyphPositionsModel_kind_105 rfl (lv_at hl 0 rfl) ?_
    refine xg_36_marks hC hP wq_129 d_GlyphPositionsModel_kind_106 ?_
    refine lv_aload_n hx hb d_GlyphPositionsModel_kind_109 rfl (lv_at hl 0 rfl) ?_
    refine xg_36_ranges hC hP wq_126 d_GlyphPositionsModel_kind_110 ?_
    refine lv_iload hx hb d_GlyphPositionsModel_kind_113 (lv_at hl 4 rfl) ?_
    obtain ⟨hi, hf⟩ := q_grd_some hf
    obtain ⟨s5, e_s5, hf⟩ := q_lt_some hf
    refine xs_42 hC hP hD hS e_s5 hi d_GlyphPositionsModel_kind_115 (fun H locs hP hS => ?_)
    refine lv_aload_n hx hb d_GlyphPositionsModel_kind_116 rfl (lv_at hl 0 rfl) ?_
    refine lv_dup hx hb d_GlyphPositionsModel_kind_117 rfl ?_
    refine xg_36_ranges hC hP wq_126 d_GlyphPositionsModel_kind_118 ?_
    refine lv_iconst (v := 1) hx hb d_GlyphPositionsModel_kind_121 (by decide) ?_
    refine lv_iadd hx hb d_GlyphPositionsModel_kind_122 ?_
    obtain ⟨s6, e_s6, hf⟩ := q_lt_some hf
    refine xp_36_ranges hC hP hD hS e_s6 wq_126 d_GlyphPositionsModel_kind_123 (fun H locs hP hS => ?_)
    exact q_vret hC hr hlk hf hP hS d_GlyphPositionsModel_kind_126
  have J_42 : ∀ (x1_42 x2_42 x3_42 x4_42 w0_42 : Int32) (st_42 : QSt) (H : Heap) (locs : List Loc) (ls : Array Slot), xGlyphPositionsModel_kind_42 x1_42 x2_42 x3_42 x4_42 w0_42 st_42 = some so → va_P G.1 vwCl (wX G st_42) H → va_S A s.heap H locs → lv_has ls 6 [(0, .ref (G.2.2 36)), (1, .int x1_42), (2, .int x2_42), (3, .int x3_42), (4, .int x4_42)] → W p l e ({ frames := 1, cells := 0, slots := 0, locals := 21 } : Room) s m args below meth c H locs 0 0 (q_Zv below args s G.1 (wX G) so A) (F0 m 42 ls [.int w0_42]) := by
    intro x1_42 x2_42 x3_42 x4_42 w0_42 st_42 H locs ls hf hP hS hl
    unfold xGlyphPositionsModel_kind_42 at hf
    refine lv_istore (lv' := [(5, .int w0_42), (0, .ref (G.2.2 36)), (1, .int x1_42), (2, .int x2_42), (3, .int x3_42), (4, .int x4_42)]) hx hb d_GlyphPositionsModel_kind_42 hl (by decide) rfl (fun ls hl => ?_)
    refine lv_aload_n hx hb d_GlyphPositionsModel_kind_44 rfl (lv_at hl 1 rfl) ?_
    refine lv_iload hx hb d_GlyphPositionsModel_kind_45 (lv_at hl 0 rfl) ?_
    refine lv_if_ne (tgt := 54) hx hb d_GlyphPositionsModel_kind_47 (by decide) (fun c1 => ?_) (fun c1 => ?_)
    rotate_left
    · rw [if_pos c1] at hf
      refine lv_iconst (v := 1) hx hb d_GlyphPositionsModel_kind_50 (by decide) ?_
      refine lv_goto (tgt := 69) hx hb d_GlyphPositionsModel_kind_51 (by decide) ?_
      exact J_69 _ _ _ _ _ _ _ _ _ hf hP hS (lv_sub hl [1, 2, 3, 4, 5] rfl)
    rw [if_neg c1] at hf
    refine lv_aload_n hx hb d_GlyphPositionsModel_kind_54 rfl (lv_at hl 1 rfl) ?_
    refine xg_36_ranges hC hP wq_126 d_GlyphPositionsModel_kind_55 ?_
    refine lv_sipush (v := 256) hx hb d_GlyphPositionsModel_kind_58 (by decide) ?_
    refine lv_icmp_ne (tgt := 68) hx hb d_GlyphPositionsModel_kind_61 (by decide) (fun c1 => ?_) (fun c1 => ?_)
    · rw [if_neg c1] at hf
      refine lv_iconst (v := 0) hx hb d_GlyphPositionsModel_kind_68 (by decide) ?_
      exact J_69 _ _ _ _ _ _ _ _ _ hf hP hS (lv_sub hl [1, 2, 3, 4, 5] rfl)
    rw [if_pos c1] at hf
    refine lv_iconst (v := 2) hx hb d_GlyphPositionsModel_kind_64 (by decide) ?_
    refine lv_goto (tgt := 69) hx hb d_GlyphPositionsModel_kind_65 (by decide) ?_
    exact J_69 _ _ _ _ _ _ _ _ _ hf hP hS (lv_sub hl [1, 2, 3, 4, 5] rfl)
  have J_41 : ∀ (x1_41 x2_41 x3_41 x4_41 : Int32) (st_41 : QSt) (H : Heap) (locs : List Loc) (ls : Array Slot), xGlyphPositionsModel_kind_41 x1_41 x2_41 x3_41 x4_41 st_41 = some so → va_P G.1 vwCl (wX G st_41) H → va_S A s.heap H locs → lv_has ls 6 [(0, .ref (G.2.2 36)), (1, .int x1_41), (2, .int x2_41), (3, .int x3_41), (4, .int x4_41)] → W p l e ({ frames := 1, cells := 0, slots := 0, locals := 21 } : Room) s m args below meth c H locs 0 0 (q_Zv below args s G.1 (wX G) so A) (F0 m 41 ls []) := by
    intro x1_41 x2_41 x3_41 x4_41 st_41 H locs ls hf hP hS hl
    unfold xGlyphPositionsModel_kind_41 at hf
    refine lv_iconst (v := 0) hx hb d_GlyphPositionsModel_kind_41 (by decide) ?_
    exact J_42 _ _ _ _ _ _ _ _ _ hf hP hS hl
  unfold xGlyphPositionsModel_kind at hf
  refine lv_iload_n hx hb d_GlyphPositionsModel_kind_0 rfl (lv_at hl 1 rfl) ?_
  refine lv_if_lt (tgt := 41) hx hb d_GlyphPositionsModel_kind_1 (by decide) (fun c1 => ?_) (fun c1 => ?_)
  · rw [if_pos c1] at hf
    exact J_41 _ _ _ _ _ _ _ _ hf hP hS hl
  rw [if_neg c1] at hf
  refine lv_iload_n hx hb d_GlyphPositionsModel_kind_4 rfl (lv_at hl 2 rfl) ?_
  refine lv_ldc (v := 65535) hx hb hown (hts _ wq_130) d_GlyphPositionsModel_kind_5 ?_
  refine lv_icmp_gt (tgt := 41) hx hb d_GlyphPositionsModel_kind_7 (by decide) (fun c1 => ?_) (fun c1 => ?_)
  · rw [if_pos c1] at hf
    exact J_41 _ _ _ _ _ _ _ _ hf hP hS hl
  rw [if_neg c1] at hf
  refine lv_iload_n hx hb d_GlyphPositionsModel_kind_10 rfl (lv_at hl 1 rfl) ?_
  refine lv_iload_n hx hb d_GlyphPositionsModel_kind_11 rfl (lv_at hl 2 rfl) ?_
  refine lv_icmp_gt (tgt := 41) hx hb d_GlyphPositionsModel_kind_12 (by decide) (fun c1 => ?_) (fun c1 => ?_)
  · rw [if_pos c1] at hf
    exact J_41 _ _ _ _ _ _ _ _ hf hP hS hl
  rw [if_neg c1] at hf
  refine lv_iload_n hx hb d_GlyphPositionsModel_kind_15 rfl (lv_at hl 3 rfl) ?_
  refine lv_if_lt (tgt := 41) hx hb d_GlyphPositionsModel_kind_16 (by decide) (fun c1 => ?_) (fun c1 => ?_)
  · rw [if_pos c1] at hf
    exact J_41 _ _ _ _ _ _ _ _ hf hP hS hl
  rw [if_neg c1] at hf
  refine lv_iload_n hx hb d_GlyphPositionsModel_kind_19 rfl (lv_at hl 3 rfl) ?_
  refine lv_iconst (v := 3) hx hb d_GlyphPositionsModel_kind_20 (by decide) ?_
  refine lv_icmp_gt (tgt := 41) hx hb d_GlyphPositionsModel_kind_21 (by decide) (fun c1 => ?_) (fun c1 => ?_)
  · rw [if_pos c1] at hf
    exact J_41 _ _ _ _ _ _ _ _ hf hP hS hl
  rw [if_neg c1] at hf
  refine lv_iload hx hb d_GlyphPositionsModel_kind_24 (lv_at hl 4 rfl) ?_
  refine lv_if_lt (tgt := 41) hx hb d_GlyphPositionsModel_kind_26 (by decide) (fun c1 => ?_) (fun c1 => ?_)
  · rw [if_pos c1] at hf
    exact J_41 _ _ _ _ _ _ _ _ hf hP hS hl
  rw [if_neg c1] at hf
  refine lv_iload hx hb d_GlyphPositionsModel_kind_29 (lv_at hl 4 rfl) ?_
  refine lv_sipush (v := 255) hx hb d_GlyphPositionsModel_kind_31 (by decide) ?_
  refine lv_icmp_gt (tgt := 41) hx hb d_GlyphPositionsModel_kind_34 (by decide) (fun c1 => ?_) (fun c1 => ?_)
  · rw [if_pos c1] at hf
    exact J_41 _ _ _ _ _ _ _ _ hf hP hS hl
  rw [if_neg c1] at hf
  refine lv_iconst (v := 1) hx hb d_GlyphPositionsModel_kind_37 (by decide) ?_
  refine lv_goto (tgt := 42) hx hb d_GlyphPositionsModel_kind_38 (by decide) ?_
  exact J_42 _ _ _ _ _ _ _ _ _ hf hP hS hl
def xGlyphPositionsModel_forget (st : QSt) : Option (Int32 × QSt) :=
  q_lt (q_ps st 11 0) (fun s1 => q_lt (s1.1 16) (fun x1_1002 => q_lt (q_ps s1 16 0) (fun s3 => some (x1_1002, s3))))
set_option maxHeartbeats 4000000 in
set_option maxRecDepth 100000 in
theorem c_xGlyphPositionsModel_forget (l : Launch) (G : XG) {st : QSt} {ro : Int32} {so : QSt} (hf : xGlyphPositionsModel_forget st = some (ro, so)) : q_Mi l y_GlyphPositionsModel_forget b_GlyphPositionsModel_forget 2 .int ({ frames := 0, cells := 0, slots := 0, locals := 0 } : Room) G.1 (xT G) (wX G) [.ref (G.2.2 36)] st ro so := by
  refine q_Mi_of (by decide) (Nat.le_of_ble_eq_true rfl) (wX_fst G) ?_
  intro p e s m args below meth c A ls hC hr hlk hT hD hA hP hS hl
  have hx := hC.1.1
  have hb := hC.1.2.1
  have hown := hC.1.2.2.2.1
  have hts := hC.1.2.2.2.2
  have hl : lv_has ls 2 [(0, .ref (G.2.2 36))] := hl
  unfold xGlyphPositionsModel_forget at hf
  refine lv_aload_n hx hb d_GlyphPositionsModel_forget_0 rfl (lv_at hl 0 rfl) ?_
  refine lv_iconst (v := 0) hx hb d_GlyphPositionsModel_forget_1 (by decide) ?_
  obtain ⟨s1, e_s1, hf⟩ := q_lt_some hf
  refine xp_36_fault hC hP hD hS e_s1 wq_121 d_GlyphPositionsModel_forget_2 (fun H locs hP hS => ?_)
  refine lv_aload_n hx hb d_GlyphPositionsModel_forget_5 rfl (lv_at hl 0 rfl) ?_
  refine xg_36_ranges hC hP wq_126 d_GlyphPositionsModel_forget_6 ?_
  obtain ⟨x1_1002, e_x1_1002, hf⟩ := q_lt_some hf
  refine q_topi e_x1_1002 ?_
  refine lv_istore_n (lv' := [(1, .int x1_1002), (0, .ref (G.2.2 36))]) hx hb d_GlyphPositionsModel_forget_9 rfl hl (by decide) rfl (fun ls hl => ?_)
  refine lv_aload_n hx hb d_GlyphPositionsModel_forget_10 rfl (lv_at hl 1 rfl) ?_
  refine lv_iconst (v := 0) hx hb d_GlyphPositionsModel_forget_11 (by decide) ?_
  obtain ⟨s3, e_s3, hf⟩ := q_lt_some hf
  refine xp_36_ranges hC hP hD hS e_s3 wq_126 d_GlyphPositionsModel_forget_12 (fun H locs hP hS => ?_)
  refine lv_iload_n hx hb d_GlyphPositionsModel_forget_15 rfl (lv_at hl 0 rfl) ?_
  exact q_iret hC hr hlk hf (by first | rfl | decide) hP hS d_GlyphPositionsModel_forget_16
def xGlyphPositionsModel_choose (x1 x2 : Int32) (st : QSt) : Option QSt :=
  q_lt (q_ps st 11 0) (fun s1 => q_lt (q_ps s1 17 x1) (fun s2 => q_lt (q_ps s2 18 x2) (fun s3 => some s3)))
set_option maxHeartbeats 4000000 in
set_option maxRecDepth 100000 in
theorem c_xGlyphPositionsModel_choose (l : Launch) (G : XG) {x1 x2 : Int32} {st : QSt} {so : QSt} (hf : xGlyphPositionsModel_choose x1 x2 st = some so) : q_Mv l y_GlyphPositionsModel_choose b_GlyphPositionsModel_choose 3 ({ frames := 0, cells := 0, slots := 0, locals := 0 } : Room) G.1 (xT G) (wX G) [.ref (G.2.2 36), .int x1, .int x2] st so := by
  refine q_Mv_of (by decide) (Nat.le_of_ble_eq_true rfl) (wX_fst G) ?_
  intro p e s m args below meth c A ls hC hr hlk hT hD hA hP hS hl
  have hx := hC.1.1
  have hb := hC.1.2.1
  have hown := hC.1.2.2.2.1
  have hts := hC.1.2.2.2.2
  have hl : lv_has ls 3 [(0, .ref (G.2.2 36)), (1, .int x1), (2, .int x2)] := hl
  unfold xGlyphPositionsModel_choose at hf
  refine lv_aload_n hx hb d_GlyphPositionsModel_choose_0 rfl (lv_at hl 0 rfl) ?_
  refine lv_iconst (v := 0) hx hb d_GlyphPositionsModel_choose_1 (by decide) ?_
  obtain ⟨s1, e_s1, hf⟩ := q_lt_some hf
  refine xp_36_fault hC hP hD hS e_s1 wq_121 d_GlyphPositionsModel_choose_2 (fun H locs hP hS => ?_)
  refine lv_aload_n hx hb d_GlyphPositionsModel_choose_5 rfl (lv_at hl 0 rfl) ?_
  refine lv_iload_n hx hb d_GlyphPositionsModel_choose_6 rfl (lv_at hl 1 rfl) ?_
  obtain ⟨s2, e_s2, hf⟩ := q_lt_some hf
  refine xp_36_script hC hP hD hS e_s2 wq_131 d_GlyphPositionsModel_choose_7 (fun H locs hP hS => ?_)
  refine lv_aload_n hx hb d_GlyphPositionsModel_choose_10 rfl (lv_at hl 0 rfl) ?_
  refine lv_iload_n hx hb d_GlyphPositionsModel_choose_11 rfl (lv_at hl 2 rfl) ?_
  obtain ⟨s3, e_s3, hf⟩ := q_lt_some hf
  refine xp_36_language hC hP hD hS e_s3 wq_132 d_GlyphPositionsModel_choose_12 (fun H locs hP hS => ?_)
  exact q_vret hC hr hlk hf hP hS d_GlyphPositionsModel_choose_15
def xGlyphPositionsModel_tagAt_4 (N : Nat) (st : QSt) (x1_4 : Int32) : Nat → Int32 → Int32 → Option Int32
  | 0, _, _ => none
  | n_4 + 1, x2_4, x3_4 => if (st.1 19) ≤ x3_4 then (some x2_4) else (q_grd (q_vpb x3_4 20) (q_lt (st.2 32 x3_4.toNatClampNeg) (fun v1 => if v1 = x1_4 then (xGlyphPositionsModel_tagAt_4 N st x1_4 n_4 x3_4 (x3_4 + 1)) else (xGlyphPositionsModel_tagAt_4 N st x1_4 n_4 x2_4 (x3_4 + 1)))))
def xGlyphPositionsModel_tagAt (N : Nat) (x1 : Int32) (st : QSt) : Option Int32 :=
  xGlyphPositionsModel_tagAt_4 N st x1 N (-1) 0
set_option maxHeartbeats 4000000 in
set_option maxRecDepth 100000 in
theorem c_xGlyphPositionsModel_tagAt (l : Launch) (G : XG) {N : Nat} {x1 : Int32} {st : QSt} {ro : Int32} (hf : xGlyphPositionsModel_tagAt N x1 st = some ro) : q_Mp l y_GlyphPositionsModel_tagAt b_GlyphPositionsModel_tagAt 4 .int ({ frames := 0, cells := 0, slots := 0, locals := 0 } : Room) G.1 (xT G) (wX G) [.ref (G.2.2 36), .int x1] st ro := by
  refine q_Mp_of (by decide) (Nat.le_of_ble_eq_true rfl) (wX_fst G) ?_
  intro p e s m args below meth c ls hC hr hlk hT hP hS hl
  have hx := hC.1.1
  have hb := hC.1.2.1
  have hown := hC.1.2.2.2.1
  have hts := hC.1.2.2.2.2
  have hl : lv_has ls 4 [(0, .ref (G.2.2 36)), (1, .int x1)] := hl
  have L_4 : ∀ (x1_4 : Int32) (n_4 : Nat) (x2_4 x3_4 : Int32) (H : Heap) (locs : List Loc) (ls : Array Slot), xGlyphPositionsModel_tagAt_4 N st x1_4 n_4 x2_4 x3_4 = some ro → va_P G.1 vwCl (wX G st) H → va_S (fun _ => False) s.heap H locs → lv_has ls 4 [(0, .ref (G.2.2 36)), (1, .int x1_4), (2, .int x2_4), (3, .int x3_4)] → W p l e ({ frames := 0, cells := 0, slots := 0, locals := 0 } : Room) s m args below meth c H locs 0 0 (q_Zp below args s ro) (F0 m 4 ls []) := by
    intro x1_4 n_4
    induction n_4 with
    | zero => intro _ _ _ _ _ hf; exact absurd hf (by simp [xGlyphPositionsModel_tagAt_4])
    | succ n_4 ih_4 =>
      intro x2_4 x3_4 H locs ls hf hP hS hl
      rw [xGlyphPositionsModel_tagAt_4] at hf
      refine lv_iload_n hx hb d_GlyphPositionsModel_tagAt_4 rfl (lv_at hl 3 rfl) ?_
      refine lv_aload_n hx hb d_GlyphPositionsModel_tagAt_5 rfl (lv_at hl 0 rfl) ?_
      refine xg_36_tags hC hP wq_133 d_GlyphPositionsModel_tagAt_6 ?_
      refine lv_icmp_ge (tgt := 34) hx hb d_GlyphPositionsModel_tagAt_9 (by decide) (fun c1 => ?_) (fun c1 => ?_)
      · rw [if_pos c1] at hf
        refine lv_iload_n hx hb d_GlyphPositionsModel_tagAt_34 rfl (lv_at hl 2 rfl) ?_
        exact q_iretP hC hr hlk hf (by first | rfl | decide) hS d_GlyphPositionsModel_tagAt_35
      rw [if_neg c1] at hf
      refine lv_aload_n hx hb d_GlyphPositionsModel_tagAt_12 rfl (lv_at hl 0 rfl) ?_
      refine xg_36_tag hC hP wq_134 d_GlyphPositionsModel_tagAt_13 ?_
      refine lv_iload_n hx hb d_GlyphPositionsModel_tagAt_16 rfl (lv_at hl 3 rfl) ?_
      obtain ⟨hi, hf⟩ := q_grd_some hf
      obtain ⟨v1, e_v1, hf⟩ := q_lt_some hf
      refine xl_43 hC hP e_v1 hi d_GlyphPositionsModel_tagAt_17 ?_
      refine lv_iload_n hx hb d_GlyphPositionsModel_tagAt_18 rfl (lv_at hl 1 rfl) ?_
      refine lv_icmp_ne (tgt := 26) hx hb d_GlyphPositionsModel_tagAt_19 (by decide) (fun c1 => ?_) (fun c1 => ?_)
      · rw [if_neg c1] at hf
        refine lv_iload_n hx hb d_GlyphPositionsModel_tagAt_26 rfl (lv_at hl 2 rfl) ?_
        refine lv_istore_n (lv' := [(2, .int x2_4), (0, .ref (G.2.2 36)), (1, .int x1_4), (3, .int x3_4)]) hx hb d_GlyphPositionsModel_tagAt_27 rfl hl (by decide) rfl (fun ls hl => ?_)
        refine lv_iinc (v := x3_4 + 1) (lv' := [(3, .int (x3_4 + 1)), (2, .int x2_4), (0, .ref (G.2.2 36)), (1, .int x1_4)]) hx hb d_GlyphPositionsModel_tagAt_28 hl (k := 3) rfl rfl (by decide) rfl (fun ls hl => ?_)
        refine lv_goto (tgt := 4) hx hb d_GlyphPositionsModel_tagAt_31 (by decide) ?_
        exact ih_4 _ _ _ _ _ hf hP hS (lv_sub hl [2, 3, 1, 0] rfl)
      rw [if_pos c1] at hf
      refine lv_iload_n hx hb d_GlyphPositionsModel_tagAt_22 rfl (lv_at hl 3 rfl) ?_
      refine lv_goto (tgt := 27) hx hb d_GlyphPositionsModel_tagAt_23 (by decide) ?_
      refine lv_istore_n (lv' := [(2, .int x3_4), (0, .ref (G.2.2 36)), (1, .int x1_4), (3, .int x3_4)]) hx hb d_GlyphPositionsModel_tagAt_27 rfl hl (by decide) rfl (fun ls hl => ?_)
      refine lv_iinc (v := x3_4 + 1) (lv' := [(3, .int (x3_4 + 1)), (2, .int x3_4), (0, .ref (G.2.2 36)), (1, .int x1_4)]) hx hb d_GlyphPositionsModel_tagAt_28 hl (k := 3) rfl rfl (by decide) rfl (fun ls hl => ?_)
      refine lv_goto (tgt := 4) hx hb d_GlyphPositionsModel_tagAt_31 (by decide) ?_
      exact ih_4 _ _ _ _ _ hf hP hS (lv_sub hl [2, 3, 1, 0] rfl)
  unfold xGlyphPositionsModel_tagAt at hf
  refine lv_iconst (v := (-1)) hx hb d_GlyphPositionsModel_tagAt_0 (by decide) ?_
  refine lv_istore_n (lv' := [(2, .int (-1)), (0, .ref (G.2.2 36)), (1, .int x1)]) hx hb d_GlyphPositionsModel_tagAt_1 rfl hl (by decide) rfl (fun ls hl => ?_)
  refine lv_iconst (v := 0) hx hb d_GlyphPositionsModel_tagAt_2 (by decide) ?_
  refine lv_istore_n (lv' := [(3, .int 0), (2, .int (-1)), (0, .ref (G.2.2 36)), (1, .int x1)]) hx hb d_GlyphPositionsModel_tagAt_3 rfl hl (by decide) rfl (fun ls hl => ?_)
  exact L_4 _ _ _ _ _ _ _ hf hP hS (lv_sub hl [2, 3, 1, 0] rfl)
def xGlyphPositionsModel_feature_51 (N : Nat) (x1_51 x2_51 x3_51 : Int32) (st_51 : QSt) : Option QSt :=
  q_grd (q_vpb x3_51 20) (q_lt (q_pa st_51 32 x3_51.toNatClampNeg x1_51) (fun s3 => q_grd (q_vpb x3_51 20) (q_lt (q_pa s3 33 x3_51.toNatClampNeg (vp_nar .boolean x2_51)) (fun s4 => some s4))))
def xGlyphPositionsModel_feature_25 (N : Nat) (x1_25 x2_25 x3_25 : Int32) (w1_25 : Int32) (st_25 : QSt) : Option QSt :=
  q_bm (xGlyphPositionsModel_refused w1_25 st_25) (fun r2 sr2 => if r2 = 0 then (if 0 ≤ x3_25 then (xGlyphPositionsModel_feature_51 N x1_25 x2_25 x3_25 sr2) else (q_lt (sr2.1 19) (fun x3_1005 => q_lt (q_ps sr2 19 ((sr2.1 19) + 1)) (fun s6 => xGlyphPositionsModel_feature_51 N x1_25 x2_25 x3_1005 s6)))) else (some sr2))
def xGlyphPositionsModel_feature_24 (N : Nat) (x1_24 x2_24 x3_24 : Int32) (st_24 : QSt) : Option QSt :=
  xGlyphPositionsModel_feature_25 N x1_24 x2_24 x3_24 0 st_24
def xGlyphPositionsModel_feature (N : Nat) (x1 x2 : Int32) (st : QSt) : Option QSt :=
  q_bn (xGlyphPositionsModel_tagAt N x1 st) (fun r1 => if 0 ≤ r1 then (xGlyphPositionsModel_feature_24 N x1 x2 r1 st) else (if (st.1 19) = 20 then (xGlyphPositionsModel_feature_25 N x1 x2 r1 1 st) else (xGlyphPositionsModel_feature_24 N x1 x2 r1 st)))
set_option maxHeartbeats 4000000 in
set_option maxRecDepth 100000 in
theorem c_xGlyphPositionsModel_feature (l : Launch) (G : XG) {N : Nat} {x1 x2 : Int32} {st : QSt} {so : QSt} (hf : xGlyphPositionsModel_feature N x1 x2 st = some so) : q_Mv l y_GlyphPositionsModel_feature b_GlyphPositionsModel_feature 4 ({ frames := 1, cells := 0, slots := 0, locals := 23 } : Room) G.1 (xT G) (wX G) [.ref (G.2.2 36), .int x1, .int x2] st so := by
  refine q_Mv_of (by decide) (Nat.le_of_ble_eq_true rfl) (wX_fst G) ?_
  intro p e s m args below meth c A ls hC hr hlk hT hD hA hP hS hl
  have hx := hC.1.1
  have hb := hC.1.2.1
  have hown := hC.1.2.2.2.1
  have hts := hC.1.2.2.2.2
  have hl : lv_has ls 4 [(0, .ref (G.2.2 36)), (1, .int x1), (2, .int x2)] := hl
  have J_51 : ∀ (x1_51 x2_51 x3_51 : Int32) (st_51 : QSt) (H : Heap) (locs : List Loc) (ls : Array Slot), xGlyphPositionsModel_feature_51 N x1_51 x2_51 x3_51 st_51 = some so → va_P G.1 vwCl (wX G st_51) H → va_S A s.heap H locs → lv_has ls 4 [(0, .ref (G.2.2 36)), (1, .int x1_51), (2, .int x2_51), (3, .int x3_51)] → W p l e ({ frames := 1, cells := 0, slots := 0, locals := 23 } : Room) s m args below meth c H locs 0 0 (q_Zv below args s G.1 (wX G) so A) (F0 m 51 ls []) := by
    intro x1_51 x2_51 x3_51 st_51 H locs ls hf hP hS hl
    unfold xGlyphPositionsModel_feature_51 at hf
    refine lv_aload_n hx hb d_GlyphPositionsModel_feature_51 rfl (lv_at hl 0 rfl) ?_
    refine xg_36_tag hC hP wq_134 d_GlyphPositionsModel_feature_52 ?_
    refine lv_iload_n hx hb d_GlyphPositionsModel_feature_55 rfl (lv_at hl 3 rfl) ?_
    refine lv_iload_n hx hb d_GlyphPositionsModel_feature_56 rfl (lv_at hl 1 rfl) ?_
    obtain ⟨hi, hf⟩ := q_grd_some hf
    obtain ⟨s3, e_s3, hf⟩ := q_lt_some hf
    refine xs_43 hC hP hD hS e_s3 hi d_GlyphPositionsModel_feature_57 (fun H locs hP hS => ?_)
    refine lv_aload_n hx hb d_GlyphPositionsModel_feature_58 rfl (lv_at hl 0 rfl) ?_
    refine xg_36_isOn hC hP wq_135 d_GlyphPositionsModel_feature_59 ?_
    refine lv_iload_n hx hb d_GlyphPositionsModel_feature_62 rfl (lv_at hl 3 rfl) ?_
    refine lv_iload_n hx hb d_GlyphPositionsModel_feature_63 rfl (lv_at hl 2 rfl) ?_
    obtain ⟨hi, hf⟩ := q_grd_some hf
    obtain ⟨s4, e_s4, hf⟩ := q_lt_some hf
    refine xs_44 hC hP hD hS e_s4 hi d_GlyphPositionsModel_feature_64 (fun H locs hP hS => ?_)
    exact q_vret hC hr hlk hf hP hS d_GlyphPositionsModel_feature_65
  have J_25 : ∀ (x1_25 x2_25 x3_25 w1_25 : Int32) (st_25 : QSt) (H : Heap) (locs : List Loc) (ls : Array Slot), xGlyphPositionsModel_feature_25 N x1_25 x2_25 x3_25 w1_25 st_25 = some so → va_P G.1 vwCl (wX G st_25) H → va_S A s.heap H locs → lv_has ls 4 [(0, .ref (G.2.2 36)), (1, .int x1_25), (2, .int x2_25), (3, .int x3_25)] → W p l e ({ frames := 1, cells := 0, slots := 0, locals := 23 } : Room) s m args below meth c H locs 0 0 (q_Zv below args s G.1 (wX G) so A) (F0 m 25 ls [.int w1_25, .ref (G.2.2 36)]) := by
    intro x1_25 x2_25 x3_25 w1_25 st_25 H locs ls hf hP hS hl
    unfold xGlyphPositionsModel_feature_25 at hf
    obtain ⟨r2, sr2, h_r2, hf⟩ := q_bm_some hf
    refine q_callVi (As := [.int w1_25]) (rest := []) (q0 := 36) hC (c_xGlyphPositionsModel_refused l G h_r2) cal_GlyphPositionsModel_refused wq_124 ⟨rfl, rfl, Nat.le_of_ble_eq_true rfl, Nat.le_of_ble_eq_true rfl⟩ rfl rfl hP hD hA hS rfl hl.1 rfl (Nat.le_of_ble_eq_true rfl) d_GlyphPositionsModel_feature_25 (fun H locs hP hS => ?_)
    refine lv_if_eq (tgt := 32) hx hb d_GlyphPositionsModel_feature_28 (by decide) (fun c1 => ?_) (fun c1 => ?_)
    rotate_left
    · rw [if_neg c1] at hf
      exact q_vret hC hr hlk hf hP hS d_GlyphPositionsModel_feature_31
    rw [if_pos c1] at hf
    refine lv_iload_n hx hb d_GlyphPositionsModel_feature_32 rfl (lv_at hl 3 rfl) ?_
    refine lv_if_ge (tgt := 51) hx hb d_GlyphPositionsModel_feature_33 (by decide) (fun c1 => ?_) (fun c1 => ?_)
    · rw [if_pos c1] at hf
      exact J_51 _ _ _ _ _ _ _ hf hP hS hl
    rw [if_neg c1] at hf
    refine lv_aload_n hx hb d_GlyphPositionsModel_feature_36 rfl (lv_at hl 0 rfl) ?_
    refine xg_36_tags hC hP wq_133 d_GlyphPositionsModel_feature_37 ?_
    obtain ⟨x3_1005, e_x3_1005, hf⟩ := q_lt_some hf
    refine q_topi e_x3_1005 ?_
    refine lv_istore_n (lv' := [(3, .int x3_1005), (0, .ref (G.2.2 36)), (1, .int x1_25), (2, .int x2_25)]) hx hb d_GlyphPositionsModel_feature_40 rfl hl (by decide) rfl (fun ls hl => ?_)
    refine lv_aload_n hx hb d_GlyphPositionsModel_feature_41 rfl (lv_at hl 1 rfl) ?_
    refine lv_dup hx hb d_GlyphPositionsModel_feature_42 rfl ?_
    refine xg_36_tags hC hP wq_133 d_GlyphPositionsModel_feature_43 ?_
    refine lv_iconst (v := 1) hx hb d_GlyphPositionsModel_feature_46 (by decide) ?_
    refine lv_iadd hx hb d_GlyphPositionsModel_feature_47 ?_
    obtain ⟨s6, e_s6, hf⟩ := q_lt_some hf
    refine xp_36_tags hC hP hD hS e_s6 wq_133 d_GlyphPositionsModel_feature_48 (fun H locs hP hS => ?_)
    exact J_51 _ _ _ _ _ _ _ hf hP hS (lv_sub hl [1, 2, 3, 0] rfl)
  have J_24 : ∀ (x1_24 x2_24 x3_24 : Int32) (st_24 : QSt) (H : Heap) (locs : List Loc) (ls : Array Slot), xGlyphPositionsModel_feature_24 N x1_24 x2_24 x3_24 st_24 = some so → va_P G.1 vwCl (wX G st_24) H → va_S A s.heap H locs → lv_has ls 4 [(0, .ref (G.2.2 36)), (1, .int x1_24), (2, .int x2_24), (3, .int x3_24)] → W p l e ({ frames := 1, cells := 0, slots := 0, locals := 23 } : Room) s m args below meth c H locs 0 0 (q_Zv below args s G.1 (wX G) so A) (F0 m 24 ls [.ref (G.2.2 36)]) := by
    intro x1_24 x2_24 x3_24 st_24 H locs ls hf hP hS hl
    unfold xGlyphPositionsModel_feature_24 at hf
    refine lv_iconst (v := 0) hx hb d_GlyphPositionsModel_feature_24 (by decide) ?_
    exact J_25 _ _ _ _ _ _ _ _ hf hP hS hl
  unfold xGlyphPositionsModel_feature at hf
  refine lv_aload_n hx hb d_GlyphPositionsModel_feature_0 rfl (lv_at hl 0 rfl) ?_
  refine lv_iload_n hx hb d_GlyphPositionsModel_feature_1 rfl (lv_at hl 1 rfl) ?_
  obtain ⟨r1, h_r1, hf⟩ := q_bn_some hf
  refine q_callVp (As := [.int x1]) (rest := []) (q0 := 36) hC (c_xGlyphPositionsModel_tagAt l G h_r1) cal_GlyphPositionsModel_tagAt wq_136 ⟨rfl, rfl, Nat.le_of_ble_eq_true rfl, Nat.le_of_ble_eq_true rfl⟩ rfl rfl hP hT hS rfl hl.1 rfl (Nat.le_of_ble_eq_true rfl) d_GlyphPositionsModel_feature_2 (fun H locs hP hS => ?_)
  refine lv_istore_n (lv' := [(3, .int r1), (0, .ref (G.2.2 36)), (1, .int x1), (2, .int x2)]) hx hb d_GlyphPositionsModel_feature_5 rfl hl (by decide) rfl (fun ls hl => ?_)
  refine lv_aload_n hx hb d_GlyphPositionsModel_feature_6 rfl (lv_at hl 1 rfl) ?_
  refine lv_iload_n hx hb d_GlyphPositionsModel_feature_7 rfl (lv_at hl 0 rfl) ?_
  refine lv_if_ge (tgt := 24) hx hb d_GlyphPositionsModel_feature_8 (by decide) (fun c1 => ?_) (fun c1 => ?_)
  · rw [if_pos c1] at hf
    exact J_24 _ _ _ _ _ _ _ hf hP hS (lv_sub hl [1, 2, 3, 0] rfl)
  rw [if_neg c1] at hf
  refine lv_aload_n hx hb d_GlyphPositionsModel_feature_11 rfl (lv_at hl 1 rfl) ?_
  refine xg_36_tags hC hP wq_133 d_GlyphPositionsModel_feature_12 ?_
  refine lv_bipush (v := 20) hx hb d_GlyphPositionsModel_feature_15 (by decide) ?_
  refine lv_icmp_ne (tgt := 24) hx hb d_GlyphPositionsModel_feature_17 (by decide) (fun c1 => ?_) (fun c1 => ?_)
  · rw [if_neg c1] at hf
    exact J_24 _ _ _ _ _ _ _ hf hP hS (lv_sub hl [1, 2, 3, 0] rfl)
  rw [if_pos c1] at hf
  refine lv_iconst (v := 1) hx hb d_GlyphPositionsModel_feature_20 (by decide) ?_
  refine lv_goto (tgt := 25) hx hb d_GlyphPositionsModel_feature_21 (by decide) ?_
  exact J_25 _ _ _ _ _ _ _ _ hf hP hS (lv_sub hl [1, 2, 3, 0] rfl)
def xGlyphPositionsModel_add_62 (x1_62 x2_62 x3_62 : Int32) (w1_62 : Int32) (st_62 : QSt) : Option (Int32 × QSt) :=
  q_bm (xGlyphPositionsModel_refused w1_62 st_62) (fun r1 sr1 => if r1 = 0 then (q_grd (q_vpb (sr1.1 20) 800) (q_lt (q_pa sr1 34 (sr1.1 20).toNatClampNeg x1_62) (fun s2 => q_grd (q_vpb (s2.1 20) 800) (q_lt (q_pa s2 35 (s2.1 20).toNatClampNeg x2_62) (fun s3 => q_grd (q_vpb (s3.1 20) 800) (q_lt (q_pa s3 36 (s3.1 20).toNatClampNeg x3_62) (fun s4 => q_lt (q_ps s4 20 ((s4.1 20) + 1)) (fun s5 => some (s5.1 20, s5))))))))) else (some (0, sr1)))
def xGlyphPositionsModel_add_35 (x1_35 x2_35 x3_35 : Int32) (w0_35 : Int32) (st_35 : QSt) : Option (Int32 × QSt) :=
  if w0_35 = 0 then (xGlyphPositionsModel_add_62 x1_35 x2_35 x3_35 1 st_35) else (if (st_35.1 20) = 800 then (xGlyphPositionsModel_add_62 x1_35 x2_35 x3_35 2 st_35) else (xGlyphPositionsModel_add_62 x1_35 x2_35 x3_35 0 st_35))
def xGlyphPositionsModel_add_34 (x1_34 x2_34 x3_34 : Int32) (st_34 : QSt) : Option (Int32 × QSt) :=
  xGlyphPositionsModel_add_35 x1_34 x2_34 x3_34 0 st_34
def xGlyphPositionsModel_add (x1 x2 x3 : Int32) (st : QSt) : Option (Int32 × QSt) :=
  if x1 < 0 then (xGlyphPositionsModel_add_34 x1 x2 x3 st) else (if 65535 < x1 then (xGlyphPositionsModel_add_34 x1 x2 x3 st) else (if x2 < 0 then (xGlyphPositionsModel_add_34 x1 x2 x3 st) else (if 65535 < x2 then (xGlyphPositionsModel_add_34 x1 x2 x3 st) else (if x3 < 0 then (xGlyphPositionsModel_add_34 x1 x2 x3 st) else (if 16 < x3 then (xGlyphPositionsModel_add_34 x1 x2 x3 st) else (xGlyphPositionsModel_add_35 x1 x2 x3 1 st))))))
set_option maxHeartbeats 4000000 in
set_option maxRecDepth 100000 in
theorem c_xGlyphPositionsModel_add (l : Launch) (G : XG) {x1 x2 x3 : Int32} {st : QSt} {ro : Int32} {so : QSt} (hf : xGlyphPositionsModel_add x1 x2 x3 st = some (ro, so)) : q_Mi l y_GlyphPositionsModel_add b_GlyphPositionsModel_add 5 .int ({ frames := 1, cells := 0, slots := 0, locals := 21 } : Room) G.1 (xT G) (wX G) [.ref (G.2.2 36), .int x1, .int x2, .int x3] st ro so := by
  refine q_Mi_of (by decide) (Nat.le_of_ble_eq_true rfl) (wX_fst G) ?_
  intro p e s m args below meth c A ls hC hr hlk hT hD hA hP hS hl
  have hx := hC.1.1
  have hb := hC.1.2.1
  have hown := hC.1.2.2.2.1
  have hts := hC.1.2.2.2.2
  have hl : lv_has ls 5 [(0, .ref (G.2.2 36)), (1, .int x1), (2, .int x2), (3, .int x3)] := hl
  have J_62 : ∀ (x1_62 x2_62 x3_62 w1_62 : Int32) (st_62 : QSt) (H : Heap) (locs : List Loc) (ls : Array Slot), xGlyphPositionsModel_add_62 x1_62 x2_62 x3_62 w1_62 st_62 = some (ro, so) → va_P G.1 vwCl (wX G st_62) H → va_S A s.heap H locs → lv_has ls 5 [(0, .ref (G.2.2 36)), (1, .int x1_62), (2, .int x2_62), (3, .int x3_62)] → W p l e ({ frames := 1, cells := 0, slots := 0, locals := 21 } : Room) s m args below meth c H locs 0 0 (q_Zi below args s G.1 (wX G) ro so A) (F0 m 62 ls [.int w1_62, .ref (G.2.2 36)]) := by
    intro x1_62 x2_62 x3_62 w1_62 st_62 H locs ls hf hP hS hl
    unfold xGlyphPositionsModel_add_62 at hf
    obtain ⟨r1, sr1, h_r1, hf⟩ := q_bm_some hf
    refine q_callVi (As := [.int w1_62]) (rest := []) (q0 := 36) hC (c_xGlyphPositionsModel_refused l G h_r1) cal_GlyphPositionsModel_refused wq_124 ⟨rfl, rfl, Nat.le_of_ble_eq_true rfl, Nat.le_of_ble_eq_true rfl⟩ rfl rfl hP hD hA hS rfl hl.1 rfl (Nat.le_of_ble_eq_true rfl) d_GlyphPositionsModel_add_62 (fun H locs hP hS => ?_)
    refine lv_if_eq (tgt := 70) hx hb d_GlyphPositionsModel_add_65 (by decide) (fun c1 => ?_) (fun c1 => ?_)
    rotate_left
    · rw [if_neg c1] at hf
      refine lv_iconst (v := 0) hx hb d_GlyphPositionsModel_add_68 (by decide) ?_
      exact q_iret hC hr hlk hf (by first | rfl | decide) hP hS d_GlyphPositionsModel_add_69
    rw [if_pos c1] at hf
    refine lv_aload_n hx hb d_GlyphPositionsModel_add_70 rfl (lv_at hl 0 rfl) ?_
    refine xg_36_toldGlyph hC hP wq_137 d_GlyphPositionsModel_add_71 ?_
    refine lv_aload_n hx hb d_GlyphPositionsModel_add_74 rfl (lv_at hl 0 rfl) ?_
    refine xg_36_told hC hP wq_138 d_GlyphPositionsModel_add_75 ?_
    refine lv_iload_n hx hb d_GlyphPositionsModel_add_78 rfl (lv_at hl 1 rfl) ?_
    obtain ⟨hi, hf⟩ := q_grd_some hf
    obtain ⟨s2, e_s2, hf⟩ := q_lt_some hf
    refine xs_45 hC hP hD hS e_s2 hi d_GlyphPositionsModel_add_79 (fun H locs hP hS => ?_)
    refine lv_aload_n hx hb d_GlyphPositionsModel_add_80 rfl (lv_at hl 0 rfl) ?_
    refine xg_36_toldWidth hC hP wq_139 d_GlyphPositionsModel_add_81 ?_
    refine lv_aload_n hx hb d_GlyphPositionsModel_add_84 rfl (lv_at hl 0 rfl) ?_
    refine xg_36_told hC hP wq_138 d_GlyphPositionsModel_add_85 ?_
    refine lv_iload_n hx hb d_GlyphPositionsModel_add_88 rfl (lv_at hl 2 rfl) ?_
    obtain ⟨hi, hf⟩ := q_grd_some hf
    obtain ⟨s3, e_s3, hf⟩ := q_lt_some hf
    refine xs_46 hC hP hD hS e_s3 hi d_GlyphPositionsModel_add_89 (fun H locs hP hS => ?_)
    refine lv_aload_n hx hb d_GlyphPositionsModel_add_90 rfl (lv_at hl 0 rfl) ?_
    refine xg_36_toldPart hC hP wq_140 d_GlyphPositionsModel_add_91 ?_
    refine lv_aload_n hx hb d_GlyphPositionsModel_add_94 rfl (lv_at hl 0 rfl) ?_
    refine xg_36_told hC hP wq_138 d_GlyphPositionsModel_add_95 ?_
    refine lv_iload_n hx hb d_GlyphPositionsModel_add_98 rfl (lv_at hl 3 rfl) ?_
    obtain ⟨hi, hf⟩ := q_grd_some hf
    obtain ⟨s4, e_s4, hf⟩ := q_lt_some hf
    refine xs_47 hC hP hD hS e_s4 hi d_GlyphPositionsModel_add_99 (fun H locs hP hS => ?_)
    refine lv_aload_n hx hb d_GlyphPositionsModel_add_100 rfl (lv_at hl 0 rfl) ?_
    refine lv_dup hx hb d_GlyphPositionsModel_add_101 rfl ?_
    refine xg_36_told hC hP wq_138 d_GlyphPositionsModel_add_102 ?_
    refine lv_iconst (v := 1) hx hb d_GlyphPositionsModel_add_105 (by decide) ?_
    refine lv_iadd hx hb d_GlyphPositionsModel_add_106 ?_
    obtain ⟨s5, e_s5, hf⟩ := q_lt_some hf
    refine xp_36_told hC hP hD hS e_s5 wq_138 d_GlyphPositionsModel_add_107 (fun H locs hP hS => ?_)
    refine lv_aload_n hx hb d_GlyphPositionsModel_add_110 rfl (lv_at hl 0 rfl) ?_
    refine xg_36_told hC hP wq_138 d_GlyphPositionsModel_add_111 ?_
    exact q_iret hC hr hlk hf (by first | rfl | decide) hP hS d_GlyphPositionsModel_add_114
  have J_35 : ∀ (x1_35 x2_35 x3_35 w0_35 : Int32) (st_35 : QSt) (H : Heap) (locs : List Loc) (ls : Array Slot), xGlyphPositionsModel_add_35 x1_35 x2_35 x3_35 w0_35 st_35 = some (ro, so) → va_P G.1 vwCl (wX G st_35) H → va_S A s.heap H locs → lv_has ls 5 [(0, .ref (G.2.2 36)), (1, .int x1_35), (2, .int x2_35), (3, .int x3_35)] → W p l e ({ frames := 1, cells := 0, slots := 0, locals := 21 } : Room) s m args below meth c H locs 0 0 (q_Zi below args s G.1 (wX G) ro so A) (F0 m 35 ls [.int w0_35]) := by
    intro x1_35 x2_35 x3_35 w0_35 st_35 H locs ls hf hP hS hl
    unfold xGlyphPositionsModel_add_35 at hf
    refine lv_istore (lv' := [(4, .int w0_35), (0, .ref (G.2.2 36)), (1, .int x1_35), (2, .int x2_35), (3, .int x3_35)]) hx hb d_GlyphPositionsModel_add_35 hl (by decide) rfl (fun ls hl => ?_)
    refine lv_aload_n hx hb d_GlyphPositionsModel_add_37 rfl (lv_at hl 1 rfl) ?_
    refine lv_iload hx hb d_GlyphPositionsModel_add_38 (lv_at hl 0 rfl) ?_
    refine lv_if_ne (tgt := 47) hx hb d_GlyphPositionsModel_add_40 (by decide) (fun c1 => ?_) (fun c1 => ?_)
    rotate_left
    · rw [if_pos c1] at hf
      refine lv_iconst (v := 1) hx hb d_GlyphPositionsModel_add_43 (by decide) ?_
      refine lv_goto (tgt := 62) hx hb d_GlyphPositionsModel_add_44 (by decide) ?_
      exact J_62 _ _ _ _ _ _ _ _ hf hP hS (lv_sub hl [1, 2, 3, 4] rfl)
    rw [if_neg c1] at hf
    refine lv_aload_n hx hb d_GlyphPositionsModel_add_47 rfl (lv_at hl 1 rfl) ?_
    refine xg_36_told hC hP wq_138 d_GlyphPositionsModel_add_48 ?_
    refine lv_sipush (v := 800) hx hb d_GlyphPositionsModel_add_51 (by decide) ?_
    refine lv_icmp_ne (tgt := 61) hx hb d_GlyphPositionsModel_add_54 (by decide) (fun c1 => ?_) (fun c1 => ?_)
    · rw [if_neg c1] at hf
      refine lv_iconst (v := 0) hx hb d_GlyphPositionsModel_add_61 (by decide) ?_
      exact J_62 _ _ _ _ _ _ _ _ hf hP hS (lv_sub hl [1, 2, 3, 4] rfl)
    rw [if_pos c1] at hf
    refine lv_iconst (v := 2) hx hb d_GlyphPositionsModel_add_57 (by decide) ?_
    refine lv_goto (tgt := 62) hx hb d_GlyphPositionsModel_add_58 (by decide) ?_
    exact J_62 _ _ _ _ _ _ _ _ hf hP hS (lv_sub hl [1, 2, 3, 4] rfl)
  have J_34 : ∀ (x1_34 x2_34 x3_34 : Int32) (st_34 : QSt) (H : Heap) (locs : List Loc) (ls : Array Slot), xGlyphPositionsModel_add_34 x1_34 x2_34 x3_34 st_34 = some (ro, so) → va_P G.1 vwCl (wX G st_34) H → va_S A s.heap H locs → lv_has ls 5 [(0, .ref (G.2.2 36)), (1, .int x1_34), (2, .int x2_34), (3, .int x3_34)] → W p l e ({ frames := 1, cells := 0, slots := 0, locals := 21 } : Room) s m args below meth c H locs 0 0 (q_Zi below args s G.1 (wX G) ro so A) (F0 m 34 ls []) := by
    intro x1_34 x2_34 x3_34 st_34 H locs ls hf hP hS hl
    unfold xGlyphPositionsModel_add_34 at hf
    refine lv_iconst (v := 0) hx hb d_GlyphPositionsModel_add_34 (by decide) ?_
    exact J_35 _ _ _ _ _ _ _ _ hf hP hS hl
  unfold xGlyphPositionsModel_add at hf
  refine lv_iload_n hx hb d_GlyphPositionsModel_add_0 rfl (lv_at hl 1 rfl) ?_
  refine lv_if_lt (tgt := 34) hx hb d_GlyphPositionsModel_add_1 (by decide) (fun c1 => ?_) (fun c1 => ?_)
  · rw [if_pos c1] at hf
    exact J_34 _ _ _ _ _ _ _ hf hP hS hl
  rw [if_neg c1] at hf
  refine lv_iload_n hx hb d_GlyphPositionsModel_add_4 rfl (lv_at hl 1 rfl) ?_
  refine lv_ldc (v := 65535) hx hb hown (hts _ wq_130) d_GlyphPositionsModel_add_5 ?_
  refine lv_icmp_gt (tgt := 34) hx hb d_GlyphPositionsModel_add_7 (by decide) (fun c1 => ?_) (fun c1 => ?_)
  · rw [if_pos c1] at hf
    exact J_34 _ _ _ _ _ _ _ hf hP hS hl
  rw [if_neg c1] at hf
  refine lv_iload_n hx hb d_GlyphPositionsModel_add_10 rfl (lv_at hl 2 rfl) ?_
  refine lv_if_lt (tgt := 34) hx hb d_GlyphPositionsModel_add_11 (by decide) (fun c1 => ?_) (fun c1 => ?_)
  · rw [if_pos c1] at hf
    exact J_34 _ _ _ _ _ _ _ hf hP hS hl
  rw [if_neg c1] at hf
  refine lv_iload_n hx hb d_GlyphPositionsModel_add_14 rfl (lv_at hl 2 rfl) ?_
  refine lv_ldc (v := 65535) hx hb hown (hts _ wq_130) d_GlyphPositionsModel_add_15 ?_
  refine lv_icmp_gt (tgt := 34) hx hb d_GlyphPositionsModel_add_17 (by decide) (fun c1 => ?_) (fun c1 => ?_)
  · rw [if_pos c1] at hf
    exact J_34 _ _ _ _ _ _ _ hf hP hS hl
  rw [if_neg c1] at hf
  refine lv_iload_n hx hb d_GlyphPositionsModel_add_20 rfl (lv_at hl 3 rfl) ?_
  refine lv_if_lt (tgt := 34) hx hb d_GlyphPositionsModel_add_21 (by decide) (fun c1 => ?_) (fun c1 => ?_)
  · rw [if_pos c1] at hf
    exact J_34 _ _ _ _ _ _ _ hf hP hS hl
  rw [if_neg c1] at hf
  refine lv_iload_n hx hb d_GlyphPositionsModel_add_24 rfl (lv_at hl 3 rfl) ?_
  refine lv_bipush (v := 16) hx hb d_GlyphPositionsModel_add_25 (by decide) ?_
  refine lv_icmp_gt (tgt := 34) hx hb d_GlyphPositionsModel_add_27 (by decide) (fun c1 => ?_) (fun c1 => ?_)
  · rw [if_pos c1] at hf
    exact J_34 _ _ _ _ _ _ _ hf hP hS hl
  rw [if_neg c1] at hf
  refine lv_iconst (v := 1) hx hb d_GlyphPositionsModel_add_30 (by decide) ?_
  refine lv_goto (tgt := 35) hx hb d_GlyphPositionsModel_add_31 (by decide) ?_
  exact J_35 _ _ _ _ _ _ _ _ hf hP hS hl
def xGlyphPositionsModel_clear (st : QSt) : Option (Int32 × QSt) :=
  q_lt (q_ps st 11 0) (fun s1 => q_lt (s1.1 20) (fun x1_1002 => q_lt (q_ps s1 20 0) (fun s3 => some (x1_1002, s3))))
set_option maxHeartbeats 4000000 in
set_option maxRecDepth 100000 in
theorem c_xGlyphPositionsModel_clear (l : Launch) (G : XG) {st : QSt} {ro : Int32} {so : QSt} (hf : xGlyphPositionsModel_clear st = some (ro, so)) : q_Mi l y_GlyphPositionsModel_clear b_GlyphPositionsModel_clear 2 .int ({ frames := 0, cells := 0, slots := 0, locals := 0 } : Room) G.1 (xT G) (wX G) [.ref (G.2.2 36)] st ro so := by
  refine q_Mi_of (by decide) (Nat.le_of_ble_eq_true rfl) (wX_fst G) ?_
  intro p e s m args below meth c A ls hC hr hlk hT hD hA hP hS hl
  have hx := hC.1.1
  have hb := hC.1.2.1
  have hown := hC.1.2.2.2.1
  have hts := hC.1.2.2.2.2
  have hl : lv_has ls 2 [(0, .ref (G.2.2 36))] := hl
  unfold xGlyphPositionsModel_clear at hf
  refine lv_aload_n hx hb d_GlyphPositionsModel_clear_0 rfl (lv_at hl 0 rfl) ?_
  refine lv_iconst (v := 0) hx hb d_GlyphPositionsModel_clear_1 (by decide) ?_
  obtain ⟨s1, e_s1, hf⟩ := q_lt_some hf
  refine xp_36_fault hC hP hD hS e_s1 wq_121 d_GlyphPositionsModel_clear_2 (fun H locs hP hS => ?_)
  refine lv_aload_n hx hb d_GlyphPositionsModel_clear_5 rfl (lv_at hl 0 rfl) ?_
  refine xg_36_told hC hP wq_138 d_GlyphPositionsModel_clear_6 ?_
  obtain ⟨x1_1002, e_x1_1002, hf⟩ := q_lt_some hf
  refine q_topi e_x1_1002 ?_
  refine lv_istore_n (lv' := [(1, .int x1_1002), (0, .ref (G.2.2 36))]) hx hb d_GlyphPositionsModel_clear_9 rfl hl (by decide) rfl (fun ls hl => ?_)
  refine lv_aload_n hx hb d_GlyphPositionsModel_clear_10 rfl (lv_at hl 1 rfl) ?_
  refine lv_iconst (v := 0) hx hb d_GlyphPositionsModel_clear_11 (by decide) ?_
  obtain ⟨s3, e_s3, hf⟩ := q_lt_some hf
  refine xp_36_told hC hP hD hS e_s3 wq_138 d_GlyphPositionsModel_clear_12 (fun H locs hP hS => ?_)
  refine lv_iload_n hx hb d_GlyphPositionsModel_clear_15 rfl (lv_at hl 0 rfl) ?_
  exact q_iret hC hr hlk hf (by first | rfl | decide) hP hS d_GlyphPositionsModel_clear_16
def xGlyphPositionsModel_place_51 (N : Nat) (x1_51 x2_51 : Int32) : Nat → Int32 → Int32 → QSt → Option (Int32 × QSt)
  | 0, _, _, _ => none
  | n_51 + 1, x4_51, x5_51, st_51 => if x1_51 ≤ x5_51 then (if x2_51 = 0 then (q_grd (q_vpb x1_51 800) (q_lt (st_51.2 40 x1_51.toNatClampNeg) (fun v7 => some (v7, st_51)))) else (if x2_51 = 1 then (q_grd (q_vpb x1_51 800) (q_lt (st_51.2 41 x1_51.toNatClampNeg) (fun v6 => some (v6, st_51)))) else (if x2_51 = 2 then (q_grd (q_vpb x1_51 800) (q_lt (st_51.2 42 x1_51.toNatClampNeg) (fun v5 => some (v5, st_51)))) else (if x2_51 = 3 then (q_grd (q_vpb x1_51 800) (q_lt (st_51.2 43 x1_51.toNatClampNeg) (fun v4 => some (v4, st_51)))) else (if x2_51 = 4 then (q_grd (q_vpb x1_51 800) (q_lt (st_51.2 42 x1_51.toNatClampNeg) (fun v3 => some (x4_51 + v3, st_51)))) else (q_grd (q_vpb x1_51 800) (q_lt (st_51.2 44 x1_51.toNatClampNeg) (fun v2 => some (v2, st_51))))))))) else (q_grd (q_vpb x5_51 800) (q_lt (st_51.2 40 x5_51.toNatClampNeg) (fun v8 => q_lt (x4_51 + v8) (fun x4_1009 => xGlyphPositionsModel_place_51 N x1_51 x2_51 n_51 x4_1009 (x5_51 + 1) st_51))))
def xGlyphPositionsModel_place_37 (N : Nat) (x1_37 x2_37 : Int32) (w1_37 : Int32) (st_37 : QSt) : Option (Int32 × QSt) :=
  q_bm (xGlyphPositionsModel_refused w1_37 st_37) (fun r1 sr1 => if r1 = 0 then (xGlyphPositionsModel_place_51 N x1_37 x2_37 N 0 0 sr1) else (some (0, sr1)))
def xGlyphPositionsModel_place_26 (N : Nat) (x1_26 x2_26 : Int32) (w0_26 : Int32) (st_26 : QSt) : Option (Int32 × QSt) :=
  if w0_26 = 0 then (xGlyphPositionsModel_place_37 N x1_26 x2_26 1 st_26) else (xGlyphPositionsModel_place_37 N x1_26 x2_26 0 st_26)
def xGlyphPositionsModel_place_25 (N : Nat) (x1_25 x2_25 : Int32) (st_25 : QSt) : Option (Int32 × QSt) :=
  xGlyphPositionsModel_place_26 N x1_25 x2_25 0 st_25
def xGlyphPositionsModel_place (N : Nat) (x1 x2 : Int32) (st : QSt) : Option (Int32 × QSt) :=
  if x1 < 0 then (xGlyphPositionsModel_place_25 N x1 x2 st) else (if (st.1 21) ≤ x1 then (xGlyphPositionsModel_place_25 N x1 x2 st) else (if x2 < 0 then (xGlyphPositionsModel_place_25 N x1 x2 st) else (if 5 < x2 then (xGlyphPositionsModel_place_25 N x1 x2 st) else (xGlyphPositionsModel_place_26 N x1 x2 1 st))))
set_option maxHeartbeats 4000000 in
set_option maxRecDepth 100000 in
theorem c_xGlyphPositionsModel_place (l : Launch) (G : XG) {N : Nat} {x1 x2 : Int32} {st : QSt} {ro : Int32} {so : QSt} (hf : xGlyphPositionsModel_place N x1 x2 st = some (ro, so)) : q_Mi l y_GlyphPositionsModel_place b_GlyphPositionsModel_place 6 .int ({ frames := 1, cells := 0, slots := 0, locals := 21 } : Room) G.1 (xT G) (wX G) [.ref (G.2.2 36), .int x1, .int x2] st ro so := by
  refine q_Mi_of (by decide) (Nat.le_of_ble_eq_true rfl) (wX_fst G) ?_
  intro p e s m args below meth c A ls hC hr hlk hT hD hA hP hS hl
  have hx := hC.1.1
  have hb := hC.1.2.1
  have hown := hC.1.2.2.2.1
  have hts := hC.1.2.2.2.2
  have hl : lv_has ls 6 [(0, .ref (G.2.2 36)), (1, .int x1), (2, .int x2)] := hl
  have L_51 : ∀ (x1_51 x2_51 : Int32) (n_51 : Nat) (x4_51 x5_51 : Int32) (st_51 : QSt) (H : Heap) (locs : List Loc) (ls : Array Slot), xGlyphPositionsModel_place_51 N x1_51 x2_51 n_51 x4_51 x5_51 st_51 = some (ro, so) → va_P G.1 vwCl (wX G st_51) H → va_S A s.heap H locs → lv_has ls 6 [(0, .ref (G.2.2 36)), (1, .int x1_51), (2, .int x2_51), (4, .int x4_51), (5, .int x5_51)] → W p l e ({ frames := 1, cells := 0, slots := 0, locals := 21 } : Room) s m args below meth c H locs 0 0 (q_Zi below args s G.1 (wX G) ro so A) (F0 m 51 ls []) := by
    intro x1_51 x2_51 n_51
    induction n_51 with
    | zero => intro _ _ _ _ _ _ hf; exact absurd hf (by simp [xGlyphPositionsModel_place_51])
    | succ n_51 ih_51 =>
      intro x4_51 x5_51 st_51 H locs ls hf hP hS hl
      rw [xGlyphPositionsModel_place_51] at hf
      refine lv_iload hx hb d_GlyphPositionsModel_place_51 (lv_at hl 4 rfl) ?_
      refine lv_iload_n hx hb d_GlyphPositionsModel_place_53 rfl (lv_at hl 1 rfl) ?_
      refine lv_icmp_ge (tgt := 75) hx hb d_GlyphPositionsModel_place_54 (by decide) (fun c1 => ?_) (fun c1 => ?_)
      rotate_left
      · rw [if_neg c1] at hf
        refine lv_iload hx hb d_GlyphPositionsModel_place_57 (lv_at hl 3 rfl) ?_
        refine lv_aload_n hx hb d_GlyphPositionsModel_place_59 rfl (lv_at hl 0 rfl) ?_
        refine xg_36_widths hC hP wq_141 d_GlyphPositionsModel_place_60 ?_
        refine lv_iload hx hb d_GlyphPositionsModel_place_63 (lv_at hl 4 rfl) ?_
        obtain ⟨hi, hf⟩ := q_grd_some hf
        obtain ⟨v8, e_v8, hf⟩ := q_lt_some hf
        refine xl_51 hC hP e_v8 hi d_GlyphPositionsModel_place_65 ?_
        refine lv_iadd hx hb d_GlyphPositionsModel_place_66 ?_
        obtain ⟨x4_1009, e_x4_1009, hf⟩ := q_lt_some hf
        refine q_topi e_x4_1009 ?_
        refine lv_istore (lv' := [(4, .int x4_1009), (0, .ref (G.2.2 36)), (1, .int x1_51), (2, .int x2_51), (5, .int x5_51)]) hx hb d_GlyphPositionsModel_place_67 hl (by decide) rfl (fun ls hl => ?_)
        refine lv_iinc (v := x5_51 + 1) (lv' := [(5, .int (x5_51 + 1)), (4, .int x4_1009), (0, .ref (G.2.2 36)), (1, .int x1_51), (2, .int x2_51)]) hx hb d_GlyphPositionsModel_place_69 hl (k := 4) rfl rfl (by decide) rfl (fun ls hl => ?_)
        refine lv_goto (tgt := 51) hx hb d_GlyphPositionsModel_place_72 (by decide) ?_
        exact ih_51 _ _ _ _ _ _ hf hP hS (lv_sub hl [2, 3, 4, 1, 0] rfl)
      rw [if_pos c1] at hf
      refine lv_iload_n hx hb d_GlyphPositionsModel_place_75 rfl (lv_at hl 2 rfl) ?_
      by_cases c0 : x2_51 = 0
      · rw [if_pos c0] at hf
        refine lv_tableIn (tgt := 112) hx hb d_GlyphPositionsModel_place_76 (by rw [c0]; decide) (by rw [c0]; decide) (by rw [c0]; rfl) (by decide) ?_
        refine lv_aload_n hx hb d_GlyphPositionsModel_place_112 rfl (lv_at hl 0 rfl) ?_
        refine xg_36_widths hC hP wq_141 d_GlyphPositionsModel_place_113 ?_
        refine lv_iload_n hx hb d_GlyphPositionsModel_place_116 rfl (lv_at hl 1 rfl) ?_
        obtain ⟨hi, hf⟩ := q_grd_some hf
        obtain ⟨v7, e_v7, hf⟩ := q_lt_some hf
        refine xl_51 hC hP e_v7 hi d_GlyphPositionsModel_place_117 ?_
        exact q_iret hC hr hlk hf (by first | rfl | decide) hP hS d_GlyphPositionsModel_place_118
      rw [if_neg c0] at hf
      by_cases c1 : x2_51 = 1
      · rw [if_pos c1] at hf
        refine lv_tableIn (tgt := 119) hx hb d_GlyphPositionsModel_place_76 (by rw [c1]; decide) (by rw [c1]; decide) (by rw [c1]; rfl) (by decide) ?_
        refine lv_aload_n hx hb d_GlyphPositionsModel_place_119 rfl (lv_at hl 0 rfl) ?_
        refine xg_36_heights hC hP wq_142 d_GlyphPositionsModel_place_120 ?_
        refine lv_iload_n hx hb d_GlyphPositionsModel_place_123 rfl (lv_at hl 1 rfl) ?_
        obtain ⟨hi, hf⟩ := q_grd_some hf
        obtain ⟨v6, e_v6, hf⟩ := q_lt_some hf
        refine xl_52 hC hP e_v6 hi d_GlyphPositionsModel_place_124 ?_
        exact q_iret hC hr hlk hf (by first | rfl | decide) hP hS d_GlyphPositionsModel_place_125
      rw [if_neg c1] at hf
      by_cases c2 : x2_51 = 2
      · rw [if_pos c2] at hf
        refine lv_tableIn (tgt := 126) hx hb d_GlyphPositionsModel_place_76 (by rw [c2]; decide) (by rw [c2]; decide) (by rw [c2]; rfl) (by decide) ?_
        refine lv_aload_n hx hb d_GlyphPositionsModel_place_126 rfl (lv_at hl 0 rfl) ?_
        refine xg_36_rights hC hP wq_143 d_GlyphPositionsModel_place_127 ?_
        refine lv_iload_n hx hb d_GlyphPositionsModel_place_130 rfl (lv_at hl 1 rfl) ?_
        obtain ⟨hi, hf⟩ := q_grd_some hf
        obtain ⟨v5, e_v5, hf⟩ := q_lt_some hf
        refine xl_53 hC hP e_v5 hi d_GlyphPositionsModel_place_131 ?_
        exact q_iret hC hr hlk hf (by first | rfl | decide) hP hS d_GlyphPositionsModel_place_132
      rw [if_neg c2] at hf
      by_cases c3 : x2_51 = 3
      · rw [if_pos c3] at hf
        refine lv_tableIn (tgt := 133) hx hb d_GlyphPositionsModel_place_76 (by rw [c3]; decide) (by rw [c3]; decide) (by rw [c3]; rfl) (by decide) ?_
        refine lv_aload_n hx hb d_GlyphPositionsModel_place_133 rfl (lv_at hl 0 rfl) ?_
        refine xg_36_ups hC hP wq_144 d_GlyphPositionsModel_place_134 ?_
        refine lv_iload_n hx hb d_GlyphPositionsModel_place_137 rfl (lv_at hl 1 rfl) ?_
        obtain ⟨hi, hf⟩ := q_grd_some hf
        obtain ⟨v4, e_v4, hf⟩ := q_lt_some hf
        refine xl_54 hC hP e_v4 hi d_GlyphPositionsModel_place_138 ?_
        exact q_iret hC hr hlk hf (by first | rfl | decide) hP hS d_GlyphPositionsModel_place_139
      rw [if_neg c3] at hf
      by_cases c4 : x2_51 = 4
      · rw [if_pos c4] at hf
        refine lv_tableIn (tgt := 140) hx hb d_GlyphPositionsModel_place_76 (by rw [c4]; decide) (by rw [c4]; decide) (by rw [c4]; rfl) (by decide) ?_
        refine lv_iload hx hb d_GlyphPositionsModel_place_140 (lv_at hl 3 rfl) ?_
        refine lv_aload_n hx hb d_GlyphPositionsModel_place_142 rfl (lv_at hl 0 rfl) ?_
        refine xg_36_rights hC hP wq_143 d_GlyphPositionsModel_place_143 ?_
        refine lv_iload_n hx hb d_GlyphPositionsModel_place_146 rfl (lv_at hl 1 rfl) ?_
        obtain ⟨hi, hf⟩ := q_grd_some hf
        obtain ⟨v3, e_v3, hf⟩ := q_lt_some hf
        refine xl_53 hC hP e_v3 hi d_GlyphPositionsModel_place_147 ?_
        refine lv_iadd hx hb d_GlyphPositionsModel_place_148 ?_
        exact q_iret hC hr hlk hf (by first | rfl | decide) hP hS d_GlyphPositionsModel_place_149
      rw [if_neg c4] at hf
      refine lv_tableOut (tgt := 150) hx hb d_GlyphPositionsModel_place_76 (by have z0 := True.intro; have z1 : (x2_51).toInt ≠ 0 := q_ine c0; have z2 : (x2_51).toInt ≠ 1 := q_ine c1; have z3 : (x2_51).toInt ≠ 2 := q_ine c2; have z4 : (x2_51).toInt ≠ 3 := q_ine c3; have z5 : (x2_51).toInt ≠ 4 := q_ine c4; omega) (by decide) ?_
      refine lv_aload_n hx hb d_GlyphPositionsModel_place_150 rfl (lv_at hl 0 rfl) ?_
      refine xg_36_hangs hC hP wq_145 d_GlyphPositionsModel_place_151 ?_
      refine lv_iload_n hx hb d_GlyphPositionsModel_place_154 rfl (lv_at hl 1 rfl) ?_
      obtain ⟨hi, hf⟩ := q_grd_some hf
      obtain ⟨v2, e_v2, hf⟩ := q_lt_some hf
      refine xl_55 hC hP e_v2 hi d_GlyphPositionsModel_place_155 ?_
      exact q_iret hC hr hlk hf (by first | rfl | decide) hP hS d_GlyphPositionsModel_place_156
  have J_37 : ∀ (x1_37 x2_37 w1_37 : Int32) (st_37 : QSt) (H : Heap) (locs : List Loc) (ls : Array Slot), xGlyphPositionsModel_place_37 N x1_37 x2_37 w1_37 st_37 = some (ro, so) → va_P G.1 vwCl (wX G st_37) H → va_S A s.heap H locs → lv_has ls 6 [(0, .ref (G.2.2 36)), (1, .int x1_37), (2, .int x2_37)] → W p l e ({ frames := 1, cells := 0, slots := 0, locals := 21 } : Room) s m args below meth c H locs 0 0 (q_Zi below args s G.1 (wX G) ro so A) (F0 m 37 ls [.int w1_37, .ref (G.2.2 36)]) := by
    intro x1_37 x2_37 w1_37 st_37 H locs ls hf hP hS hl
    unfold xGlyphPositionsModel_place_37 at hf
    obtain ⟨r1, sr1, h_r1, hf⟩ := q_bm_some hf
    refine q_callVi (As := [.int w1_37]) (rest := []) (q0 := 36) hC (c_xGlyphPositionsModel_refused l G h_r1) cal_GlyphPositionsModel_refused wq_124 ⟨rfl, rfl, Nat.le_of_ble_eq_true rfl, Nat.le_of_ble_eq_true rfl⟩ rfl rfl hP hD hA hS rfl hl.1 rfl (Nat.le_of_ble_eq_true rfl) d_GlyphPositionsModel_place_37 (fun H locs hP hS => ?_)
    refine lv_if_eq (tgt := 45) hx hb d_GlyphPositionsModel_place_40 (by decide) (fun c1 => ?_) (fun c1 => ?_)
    rotate_left
    · rw [if_neg c1] at hf
      refine lv_iconst (v := 0) hx hb d_GlyphPositionsModel_place_43 (by decide) ?_
      exact q_iret hC hr hlk hf (by first | rfl | decide) hP hS d_GlyphPositionsModel_place_44
    rw [if_pos c1] at hf
    refine lv_iconst (v := 0) hx hb d_GlyphPositionsModel_place_45 (by decide) ?_
    refine lv_istore (lv' := [(4, .int 0), (0, .ref (G.2.2 36)), (1, .int x1_37), (2, .int x2_37)]) hx hb d_GlyphPositionsModel_place_46 hl (by decide) rfl (fun ls hl => ?_)
    refine lv_iconst (v := 0) hx hb d_GlyphPositionsModel_place_48 (by decide) ?_
    refine lv_istore (lv' := [(5, .int 0), (4, .int 0), (0, .ref (G.2.2 36)), (1, .int x1_37), (2, .int x2_37)]) hx hb d_GlyphPositionsModel_place_49 hl (by decide) rfl (fun ls hl => ?_)
    exact L_51 _ _ _ _ _ _ _ _ _ hf hP hS (lv_sub hl [2, 3, 4, 1, 0] rfl)
  have J_26 : ∀ (x1_26 x2_26 w0_26 : Int32) (st_26 : QSt) (H : Heap) (locs : List Loc) (ls : Array Slot), xGlyphPositionsModel_place_26 N x1_26 x2_26 w0_26 st_26 = some (ro, so) → va_P G.1 vwCl (wX G st_26) H → va_S A s.heap H locs → lv_has ls 6 [(0, .ref (G.2.2 36)), (1, .int x1_26), (2, .int x2_26)] → W p l e ({ frames := 1, cells := 0, slots := 0, locals := 21 } : Room) s m args below meth c H locs 0 0 (q_Zi below args s G.1 (wX G) ro so A) (F0 m 26 ls [.int w0_26]) := by
    intro x1_26 x2_26 w0_26 st_26 H locs ls hf hP hS hl
    unfold xGlyphPositionsModel_place_26 at hf
    refine lv_istore_n (lv' := [(3, .int w0_26), (0, .ref (G.2.2 36)), (1, .int x1_26), (2, .int x2_26)]) hx hb d_GlyphPositionsModel_place_26 rfl hl (by decide) rfl (fun ls hl => ?_)
    refine lv_aload_n hx hb d_GlyphPositionsModel_place_27 rfl (lv_at hl 1 rfl) ?_
    refine lv_iload_n hx hb d_GlyphPositionsModel_place_28 rfl (lv_at hl 0 rfl) ?_
    refine lv_if_eq (tgt := 36) hx hb d_GlyphPositionsModel_place_29 (by decide) (fun c1 => ?_) (fun c1 => ?_)
    · rw [if_pos c1] at hf
      refine lv_iconst (v := 1) hx hb d_GlyphPositionsModel_place_36 (by decide) ?_
      exact J_37 _ _ _ _ _ _ _ hf hP hS (lv_sub hl [1, 2, 3] rfl)
    rw [if_neg c1] at hf
    refine lv_iconst (v := 0) hx hb d_GlyphPositionsModel_place_32 (by decide) ?_
    refine lv_goto (tgt := 37) hx hb d_GlyphPositionsModel_place_33 (by decide) ?_
    exact J_37 _ _ _ _ _ _ _ hf hP hS (lv_sub hl [1, 2, 3] rfl)
  have J_25 : ∀ (x1_25 x2_25 : Int32) (st_25 : QSt) (H : Heap) (locs : List Loc) (ls : Array Slot), xGlyphPositionsModel_place_25 N x1_25 x2_25 st_25 = some (ro, so) → va_P G.1 vwCl (wX G st_25) H → va_S A s.heap H locs → lv_has ls 6 [(0, .ref (G.2.2 36)), (1, .int x1_25), (2, .int x2_25)] → W p l e ({ frames := 1, cells := 0, slots := 0, locals := 21 } : Room) s m args below meth c H locs 0 0 (q_Zi below args s G.1 (wX G) ro so A) (F0 m 25 ls []) := by
    intro x1_25 x2_25 st_25 H locs ls hf hP hS hl
    unfold xGlyphPositionsModel_place_25 at hf
    refine lv_iconst (v := 0) hx hb d_GlyphPositionsModel_place_25 (by decide) ?_
    exact J_26 _ _ _ _ _ _ _ hf hP hS hl
  unfold xGlyphPositionsModel_place at hf
  refine lv_iload_n hx hb d_GlyphPositionsModel_place_0 rfl (lv_at hl 1 rfl) ?_
  refine lv_if_lt (tgt := 25) hx hb d_GlyphPositionsModel_place_1 (by decide) (fun c1 => ?_) (fun c1 => ?_)
  · rw [if_pos c1] at hf
    exact J_25 _ _ _ _ _ _ hf hP hS hl
  rw [if_neg c1] at hf
  refine lv_iload_n hx hb d_GlyphPositionsModel_place_4 rfl (lv_at hl 1 rfl) ?_
  refine lv_aload_n hx hb d_GlyphPositionsModel_place_5 rfl (lv_at hl 0 rfl) ?_
  refine xg_36_many hC hP wq_146 d_GlyphPositionsModel_place_6 ?_
  refine lv_icmp_ge (tgt := 25) hx hb d_GlyphPositionsModel_place_9 (by decide) (fun c1 => ?_) (fun c1 => ?_)
  · rw [if_pos c1] at hf
    exact J_25 _ _ _ _ _ _ hf hP hS hl
  rw [if_neg c1] at hf
  refine lv_iload_n hx hb d_GlyphPositionsModel_place_12 rfl (lv_at hl 2 rfl) ?_
  refine lv_if_lt (tgt := 25) hx hb d_GlyphPositionsModel_place_13 (by decide) (fun c1 => ?_) (fun c1 => ?_)
  · rw [if_pos c1] at hf
    exact J_25 _ _ _ _ _ _ hf hP hS hl
  rw [if_neg c1] at hf
  refine lv_iload_n hx hb d_GlyphPositionsModel_place_16 rfl (lv_at hl 2 rfl) ?_
  refine lv_iconst (v := 5) hx hb d_GlyphPositionsModel_place_17 (by decide) ?_
  refine lv_icmp_gt (tgt := 25) hx hb d_GlyphPositionsModel_place_18 (by decide) (fun c1 => ?_) (fun c1 => ?_)
  · rw [if_pos c1] at hf
    exact J_25 _ _ _ _ _ _ hf hP hS hl
  rw [if_neg c1] at hf
  refine lv_iconst (v := 1) hx hb d_GlyphPositionsModel_place_21 (by decide) ?_
  refine lv_goto (tgt := 26) hx hb d_GlyphPositionsModel_place_22 (by decide) ?_
  exact J_26 _ _ _ _ _ _ _ hf hP hS hl
