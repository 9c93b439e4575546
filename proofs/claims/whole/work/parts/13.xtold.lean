def xKinds_tell (x1 x2 x3 x4 : Int32) (st : QSt) : Option (Int32 × QSt) :=
  if (st.1 6) < 256 then (q_grd (q_vpb (st.1 6) 256) (q_lt (q_pa st 2 (st.1 6).toNatClampNeg x1) (fun s1 => q_grd (q_vpb (s1.1 6) 256) (q_lt (q_pa s1 3 (s1.1 6).toNatClampNeg x2) (fun s2 => q_grd (q_vpb (s2.1 6) 256) (q_lt (q_pa s2 4 (s2.1 6).toNatClampNeg x3) (fun s3 => q_grd (q_vpb (s3.1 6) 256) (q_lt (q_pa s3 5 (s3.1 6).toNatClampNeg x4) (fun s4 => q_lt (q_ps s4 6 ((s4.1 6) + 1)) (fun s5 => some (1, s5))))))))))) else (some (0, st))
set_option maxHeartbeats 4000000 in
set_option maxRecDepth 100000 in
theorem c_xKinds_tell (l : Launch) (G : XG) {x1 x2 x3 x4 : Int32} {st : QSt} {ro : Int32} {so : QSt} (hf : xKinds_tell x1 x2 x3 x4 st = some (ro, so)) : q_Mi l y_Kinds_tell b_Kinds_tell 5 .boolean ({ frames := 0, cells := 0, slots := 0, locals := 0 } : Room) G.1 (xT G) (wX G) [.ref (G.2.2 6), .int x1, .int x2, .int x3, .int x4] st ro so := by
  refine q_Mi_of (by decide) (Nat.le_of_ble_eq_true rfl) (wX_fst G) ?_
  intro p e s m args below meth c A ls hC hr hlk hT hD hA hP hS hl
  have hx := hC.1.1
  have hb := hC.1.2.1
  have hown := hC.1.2.2.2.1
  have hts := hC.1.2.2.2.2
  have hl : lv_has ls 5 [(0, .ref (G.2.2 6)), (1, .int x1), (2, .int x2), (3, .int x3), (4, .int x4)] := hl
  unfold xKinds_tell at hf
  refine lv_aload_n hx hb d_Kinds_tell_0 rfl (lv_at hl 0 rfl) ?_
  refine xg_6_count hC hP wq_42 d_Kinds_tell_1 ?_
  refine lv_sipush (v := 256) hx hb d_Kinds_tell_4 (by decide) ?_
  refine lv_icmp_lt (tgt := 12) hx hb d_Kinds_tell_7 (by decide) (fun c1 => ?_) (fun c1 => ?_)
  rotate_left
  · rw [if_neg c1] at hf
    refine lv_iconst (v := 0) hx hb d_Kinds_tell_10 (by decide) ?_
    exact q_iret hC hr hlk hf (by first | rfl | decide) hP hS d_Kinds_tell_11
  rw [if_pos c1] at hf
  refine lv_aload_n hx hb d_Kinds_tell_12 rfl (lv_at hl 0 rfl) ?_
  refine xg_6_first hC hP wq_43 d_Kinds_tell_13 ?_
  refine lv_aload_n hx hb d_Kinds_tell_16 rfl (lv_at hl 0 rfl) ?_
  refine xg_6_count hC hP wq_42 d_Kinds_tell_17 ?_
  refine lv_iload_n hx hb d_Kinds_tell_20 rfl (lv_at hl 1 rfl) ?_
  obtain ⟨hi, hf⟩ := q_grd_some hf
  obtain ⟨s1, e_s1, hf⟩ := q_lt_some hf
  refine xs_7 hC hP hD hS e_s1 hi d_Kinds_tell_21 (fun H locs hP hS => ?_)
  refine lv_aload_n hx hb d_Kinds_tell_22 rfl (lv_at hl 0 rfl) ?_
  refine xg_6_last hC hP wq_44 d_Kinds_tell_23 ?_
  refine lv_aload_n hx hb d_Kinds_tell_26 rfl (lv_at hl 0 rfl) ?_
  refine xg_6_count hC hP wq_42 d_Kinds_tell_27 ?_
  refine lv_iload_n hx hb d_Kinds_tell_30 rfl (lv_at hl 2 rfl) ?_
  obtain ⟨hi, hf⟩ := q_grd_some hf
  obtain ⟨s2, e_s2, hf⟩ := q_lt_some hf
  refine xs_8 hC hP hD hS e_s2 hi d_Kinds_tell_31 (fun H locs hP hS => ?_)
  refine lv_aload_n hx hb d_Kinds_tell_32 rfl (lv_at hl 0 rfl) ?_
  refine xg_6_kind hC hP wq_45 d_Kinds_tell_33 ?_
  refine lv_aload_n hx hb d_Kinds_tell_36 rfl (lv_at hl 0 rfl) ?_
  refine xg_6_count hC hP wq_42 d_Kinds_tell_37 ?_
  refine lv_iload_n hx hb d_Kinds_tell_40 rfl (lv_at hl 3 rfl) ?_
  obtain ⟨hi, hf⟩ := q_grd_some hf
  obtain ⟨s3, e_s3, hf⟩ := q_lt_some hf
  refine xs_9 hC hP hD hS e_s3 hi d_Kinds_tell_41 (fun H locs hP hS => ?_)
  refine lv_aload_n hx hb d_Kinds_tell_42 rfl (lv_at hl 0 rfl) ?_
  refine xg_6_marks hC hP wq_46 d_Kinds_tell_43 ?_
  refine lv_aload_n hx hb d_Kinds_tell_46 rfl (lv_at hl 0 rfl) ?_
  refine xg_6_count hC hP wq_42 d_Kinds_tell_47 ?_
  refine lv_iload hx hb d_Kinds_tell_50 (lv_at hl 4 rfl) ?_
  obtain ⟨hi, hf⟩ := q_grd_some hf
  obtain ⟨s4, e_s4, hf⟩ := q_lt_some hf
  refine xs_10 hC hP hD hS e_s4 hi d_Kinds_tell_52 (fun H locs hP hS => ?_)
  refine lv_aload_n hx hb d_Kinds_tell_53 rfl (lv_at hl 0 rfl) ?_
  refine lv_dup hx hb d_Kinds_tell_54 rfl ?_
  refine xg_6_count hC hP wq_42 d_Kinds_tell_55 ?_
  refine lv_iconst (v := 1) hx hb d_Kinds_tell_58 (by decide) ?_
  refine lv_iadd hx hb d_Kinds_tell_59 ?_
  obtain ⟨s5, e_s5, hf⟩ := q_lt_some hf
  refine xp_6_count hC hP hD hS e_s5 wq_42 d_Kinds_tell_60 (fun H locs hP hS => ?_)
  refine lv_iconst (v := 1) hx hb d_Kinds_tell_63 (by decide) ?_
  exact q_iret hC hr hlk hf (by first | rfl | decide) hP hS d_Kinds_tell_64
def xKinds_drop (st : QSt) : Option (Int32 × QSt) :=
  q_lt (st.1 6) (fun x1_1001 => q_lt (q_ps st 6 0) (fun s2 => some (x1_1001, s2)))
set_option maxHeartbeats 4000000 in
set_option maxRecDepth 100000 in
theorem c_xKinds_drop (l : Launch) (G : XG) {st : QSt} {ro : Int32} {so : QSt} (hf : xKinds_drop st = some (ro, so)) : q_Mi l y_Kinds_drop b_Kinds_drop 2 .int ({ frames := 0, cells := 0, slots := 0, locals := 0 } : Room) G.1 (xT G) (wX G) [.ref (G.2.2 6)] st ro so := by
  refine q_Mi_of (by decide) (Nat.le_of_ble_eq_true rfl) (wX_fst G) ?_
  intro p e s m args below meth c A ls hC hr hlk hT hD hA hP hS hl
  have hx := hC.1.1
  have hb := hC.1.2.1
  have hown := hC.1.2.2.2.1
  have hts := hC.1.2.2.2.2
  have hl : lv_has ls 2 [(0, .ref (G.2.2 6))] := hl
  unfold xKinds_drop at hf
  refine lv_aload_n hx hb d_Kinds_drop_0 rfl (lv_at hl 0 rfl) ?_
  refine xg_6_count hC hP wq_42 d_Kinds_drop_1 ?_
  obtain ⟨x1_1001, e_x1_1001, hf⟩ := q_lt_some hf
  refine q_topi e_x1_1001 ?_
  refine lv_istore_n (lv' := [(1, .int x1_1001), (0, .ref (G.2.2 6))]) hx hb d_Kinds_drop_4 rfl hl (by decide) rfl (fun ls hl => ?_)
  refine lv_aload_n hx hb d_Kinds_drop_5 rfl (lv_at hl 1 rfl) ?_
  refine lv_iconst (v := 0) hx hb d_Kinds_drop_6 (by decide) ?_
  obtain ⟨s2, e_s2, hf⟩ := q_lt_some hf
  refine xp_6_count hC hP hD hS e_s2 wq_42 d_Kinds_drop_7 (fun H locs hP hS => ?_)
  refine lv_iload_n hx hb d_Kinds_drop_10 rfl (lv_at hl 0 rfl) ?_
  exact q_iret hC hr hlk hf (by first | rfl | decide) hP hS d_Kinds_drop_11
def xKinds_rangeOf_7 (N : Nat) (st : QSt) (x1_7 : Int32) : Nat → Int32 → Option Int32
  | 0, _ => none
  | n_7 + 1, x2_7 => if x2_7 < 0 then (some (-1)) else (q_grd (q_vpb x2_7 256) (q_lt (st.2 2 x2_7.toNatClampNeg) (fun v2 => if x1_7 < v2 then (xKinds_rangeOf_7 N st x1_7 n_7 (x2_7 + (-1))) else (q_grd (q_vpb x2_7 256) (q_lt (st.2 3 x2_7.toNatClampNeg) (fun v3 => if v3 < x1_7 then (xKinds_rangeOf_7 N st x1_7 n_7 (x2_7 + (-1))) else (some x2_7)))))))
def xKinds_rangeOf (N : Nat) (x1 : Int32) (st : QSt) : Option Int32 :=
  q_lt ((st.1 6) - 1) (fun x2_1001 => xKinds_rangeOf_7 N st x1 N x2_1001)
set_option maxHeartbeats 4000000 in
set_option maxRecDepth 100000 in
theorem c_xKinds_rangeOf (l : Launch) (G : XG) {N : Nat} {x1 : Int32} {st : QSt} {ro : Int32} (hf : xKinds_rangeOf N x1 st = some ro) : q_Mp l y_Kinds_rangeOf b_Kinds_rangeOf 3 .int ({ frames := 0, cells := 0, slots := 0, locals := 0 } : Room) G.1 (xT G) (wX G) [.ref (G.2.2 6), .int x1] st ro := by
  refine q_Mp_of (by decide) (Nat.le_of_ble_eq_true rfl) (wX_fst G) ?_
  intro p e s m args below meth c ls hC hr hlk hT hP hS hl
  have hx := hC.1.1
  have hb := hC.1.2.1
  have hown := hC.1.2.2.2.1
  have hts := hC.1.2.2.2.2
  have hl : lv_has ls 3 [(0, .ref (G.2.2 6)), (1, .int x1)] := hl
  have L_7 : ∀ (x1_7 : Int32) (n_7 : Nat) (x2_7 : Int32) (H : Heap) (locs : List Loc) (ls : Array Slot), xKinds_rangeOf_7 N st x1_7 n_7 x2_7 = some ro → va_P G.1 vwCl (wX G st) H → va_S (fun _ => False) s.heap H locs → lv_has ls 3 [(0, .ref (G.2.2 6)), (1, .int x1_7), (2, .int x2_7)] → W p l e ({ frames := 0, cells := 0, slots := 0, locals := 0 } : Room) s m args below meth c H locs 0 0 (q_Zp below args s ro) (F0 m 7 ls []) := by
    intro x1_7 n_7
    induction n_7 with
    | zero => intro _ _ _ _ hf; exact absurd hf (by simp [xKinds_rangeOf_7])
    | succ n_7 ih_7 =>
      intro x2_7 H locs ls hf hP hS hl
      rw [xKinds_rangeOf_7] at hf
      refine lv_iload_n hx hb d_Kinds_rangeOf_7 rfl (lv_at hl 2 rfl) ?_
      refine lv_if_lt (tgt := 39) hx hb d_Kinds_rangeOf_8 (by decide) (fun c1 => ?_) (fun c1 => ?_)
      · rw [if_pos c1] at hf
        refine lv_iconst (v := (-1)) hx hb d_Kinds_rangeOf_39 (by decide) ?_
        exact q_iretP hC hr hlk hf (by first | rfl | decide) hS d_Kinds_rangeOf_40
      rw [if_neg c1] at hf
      refine lv_iload_n hx hb d_Kinds_rangeOf_11 rfl (lv_at hl 1 rfl) ?_
      refine lv_aload_n hx hb d_Kinds_rangeOf_12 rfl (lv_at hl 0 rfl) ?_
      refine xg_6_first hC hP wq_43 d_Kinds_rangeOf_13 ?_
      refine lv_iload_n hx hb d_Kinds_rangeOf_16 rfl (lv_at hl 2 rfl) ?_
      obtain ⟨hi, hf⟩ := q_grd_some hf
      obtain ⟨v2, e_v2, hf⟩ := q_lt_some hf
      refine xl_7 hC hP e_v2 hi d_Kinds_rangeOf_17 ?_
      refine lv_icmp_lt (tgt := 33) hx hb d_Kinds_rangeOf_18 (by decide) (fun c1 => ?_) (fun c1 => ?_)
      · rw [if_pos c1] at hf
        refine lv_iinc (v := x2_7 + (-1)) (lv' := [(2, .int (x2_7 + (-1))), (0, .ref (G.2.2 6)), (1, .int x1_7)]) hx hb d_Kinds_rangeOf_33 hl (k := 2) rfl rfl (by decide) rfl (fun ls hl => ?_)
        refine lv_goto (tgt := 7) hx hb d_Kinds_rangeOf_36 (by decide) ?_
        exact ih_7 _ _ _ _ hf hP hS (lv_sub hl [1, 2, 0] rfl)
      rw [if_neg c1] at hf
      refine lv_iload_n hx hb d_Kinds_rangeOf_21 rfl (lv_at hl 1 rfl) ?_
      refine lv_aload_n hx hb d_Kinds_rangeOf_22 rfl (lv_at hl 0 rfl) ?_
      refine xg_6_last hC hP wq_44 d_Kinds_rangeOf_23 ?_
      refine lv_iload_n hx hb d_Kinds_rangeOf_26 rfl (lv_at hl 2 rfl) ?_
      obtain ⟨hi, hf⟩ := q_grd_some hf
      obtain ⟨v3, e_v3, hf⟩ := q_lt_some hf
      refine xl_8 hC hP e_v3 hi d_Kinds_rangeOf_27 ?_
      refine lv_icmp_gt (tgt := 33) hx hb d_Kinds_rangeOf_28 (by decide) (fun c1 => ?_) (fun c1 => ?_)
      rotate_left
      · rw [if_neg c1] at hf
        refine lv_iload_n hx hb d_Kinds_rangeOf_31 rfl (lv_at hl 2 rfl) ?_
        exact q_iretP hC hr hlk hf (by first | rfl | decide) hS d_Kinds_rangeOf_32
      rw [if_pos c1] at hf
      refine lv_iinc (v := x2_7 + (-1)) (lv' := [(2, .int (x2_7 + (-1))), (0, .ref (G.2.2 6)), (1, .int x1_7)]) hx hb d_Kinds_rangeOf_33 hl (k := 2) rfl rfl (by decide) rfl (fun ls hl => ?_)
      refine lv_goto (tgt := 7) hx hb d_Kinds_rangeOf_36 (by decide) ?_
      exact ih_7 _ _ _ _ hf hP hS (lv_sub hl [1, 2, 0] rfl)
  unfold xKinds_rangeOf at hf
  refine lv_aload_n hx hb d_Kinds_rangeOf_0 rfl (lv_at hl 0 rfl) ?_
  refine xg_6_count hC hP wq_42 d_Kinds_rangeOf_1 ?_
  refine lv_iconst (v := 1) hx hb d_Kinds_rangeOf_4 (by decide) ?_
  refine lv_isub hx hb d_Kinds_rangeOf_5 ?_
  obtain ⟨x2_1001, e_x2_1001, hf⟩ := q_lt_some hf
  refine q_topi e_x2_1001 ?_
  refine lv_istore_n (lv' := [(2, .int x2_1001), (0, .ref (G.2.2 6)), (1, .int x1)]) hx hb d_Kinds_rangeOf_6 rfl hl (by decide) rfl (fun ls hl => ?_)
  exact L_7 _ _ _ _ _ _ hf hP hS (lv_sub hl [1, 2, 0] rfl)
def xTags_find_2 (N : Nat) (st : QSt) (x1_2 : Int32) : Nat → Int32 → Option Int32
  | 0, _ => none
  | n_2 + 1, x2_2 => if (st.1 7) ≤ x2_2 then (some (-1)) else (q_grd (q_vpb x2_2 20) (q_lt (st.2 6 x2_2.toNatClampNeg) (fun v1 => if v1 = x1_2 then (some x2_2) else (xTags_find_2 N st x1_2 n_2 (x2_2 + 1)))))
def xTags_find (N : Nat) (x1 : Int32) (st : QSt) : Option Int32 :=
  xTags_find_2 N st x1 N 0
set_option maxHeartbeats 4000000 in
set_option maxRecDepth 100000 in
theorem c_xTags_find (l : Launch) (G : XG) {N : Nat} {x1 : Int32} {st : QSt} {ro : Int32} (hf : xTags_find N x1 st = some ro) : q_Mp l y_Tags_find b_Tags_find 3 .int ({ frames := 0, cells := 0, slots := 0, locals := 0 } : Room) G.1 (xT G) (wX G) [.ref (G.2.2 11), .int x1] st ro := by
  refine q_Mp_of (by decide) (Nat.le_of_ble_eq_true rfl) (wX_fst G) ?_
  intro p e s m args below meth c ls hC hr hlk hT hP hS hl
  have hx := hC.1.1
  have hb := hC.1.2.1
  have hown := hC.1.2.2.2.1
  have hts := hC.1.2.2.2.2
  have hl : lv_has ls 3 [(0, .ref (G.2.2 11)), (1, .int x1)] := hl
  have L_2 : ∀ (x1_2 : Int32) (n_2 : Nat) (x2_2 : Int32) (H : Heap) (locs : List Loc) (ls : Array Slot), xTags_find_2 N st x1_2 n_2 x2_2 = some ro → va_P G.1 vwCl (wX G st) H → va_S (fun _ => False) s.heap H locs → lv_has ls 3 [(0, .ref (G.2.2 11)), (1, .int x1_2), (2, .int x2_2)] → W p l e ({ frames := 0, cells := 0, slots := 0, locals := 0 } : Room) s m args below meth c H locs 0 0 (q_Zp below args s ro) (F0 m 2 ls []) := by
    intro x1_2 n_2
    induction n_2 with
    | zero => intro _ _ _ _ hf; exact absurd hf (by simp [xTags_find_2])
    | succ n_2 ih_2 =>
      intro x2_2 H locs ls hf hP hS hl
      rw [xTags_find_2] at hf
      refine lv_iload_n hx hb d_Tags_find_2 rfl (lv_at hl 2 rfl) ?_
      refine lv_aload_n hx hb d_Tags_find_3 rfl (lv_at hl 0 rfl) ?_
      refine xg_11_count hC hP wq_47 d_Tags_find_4 ?_
      refine lv_icmp_ge (tgt := 28) hx hb d_Tags_find_7 (by decide) (fun c1 => ?_) (fun c1 => ?_)
      · rw [if_pos c1] at hf
        refine lv_iconst (v := (-1)) hx hb d_Tags_find_28 (by decide) ?_
        exact q_iretP hC hr hlk hf (by first | rfl | decide) hS d_Tags_find_29
      rw [if_neg c1] at hf
      refine lv_aload_n hx hb d_Tags_find_10 rfl (lv_at hl 0 rfl) ?_
      refine xg_11_tag hC hP wq_48 d_Tags_find_11 ?_
      refine lv_iload_n hx hb d_Tags_find_14 rfl (lv_at hl 2 rfl) ?_
      obtain ⟨hi, hf⟩ := q_grd_some hf
      obtain ⟨v1, e_v1, hf⟩ := q_lt_some hf
      refine xl_12 hC hP e_v1 hi d_Tags_find_15 ?_
      refine lv_iload_n hx hb d_Tags_find_16 rfl (lv_at hl 1 rfl) ?_
      refine lv_icmp_ne (tgt := 22) hx hb d_Tags_find_17 (by decide) (fun c1 => ?_) (fun c1 => ?_)
      rotate_left
      · rw [if_pos c1] at hf
        refine lv_iload_n hx hb d_Tags_find_20 rfl (lv_at hl 2 rfl) ?_
        exact q_iretP hC hr hlk hf (by first | rfl | decide) hS d_Tags_find_21
      rw [if_neg c1] at hf
      refine lv_iinc (v := x2_2 + 1) (lv' := [(2, .int (x2_2 + 1)), (0, .ref (G.2.2 11)), (1, .int x1_2)]) hx hb d_Tags_find_22 hl (k := 2) rfl rfl (by decide) rfl (fun ls hl => ?_)
      refine lv_goto (tgt := 2) hx hb d_Tags_find_25 (by decide) ?_
      exact ih_2 _ _ _ _ hf hP hS (lv_sub hl [1, 2, 0] rfl)
  unfold xTags_find at hf
  refine lv_iconst (v := 0) hx hb d_Tags_find_0 (by decide) ?_
  refine lv_istore_n (lv' := [(2, .int 0), (0, .ref (G.2.2 11)), (1, .int x1)]) hx hb d_Tags_find_1 rfl hl (by decide) rfl (fun ls hl => ?_)
  exact L_2 _ _ _ _ _ _ hf hP hS (lv_sub hl [1, 2, 0] rfl)
def xTags_tell_37 (N : Nat) (x1_37 x2_37 x3_37 : Int32) (st_37 : QSt) : Option (Int32 × QSt) :=
  q_grd (q_vpb x3_37 20) (q_lt (q_pa st_37 6 x3_37.toNatClampNeg x1_37) (fun s2 => q_grd (q_vpb x3_37 20) (q_lt (q_pa s2 7 x3_37.toNatClampNeg (vp_nar .boolean x2_37)) (fun s3 => some (1, s3)))))
def xTags_tell (N : Nat) (x1 x2 : Int32) (st : QSt) : Option (Int32 × QSt) :=
  q_bn (xTags_find N x1 st) (fun r1 => if r1 = (-1) then (if (st.1 7) < 20 then (q_lt (st.1 7) (fun x3_1004 => q_lt (q_ps st 7 ((st.1 7) + 1)) (fun s5 => xTags_tell_37 N x1 x2 x3_1004 s5))) else (some (0, st))) else (xTags_tell_37 N x1 x2 r1 st))
set_option maxHeartbeats 4000000 in
set_option maxRecDepth 100000 in
theorem c_xTags_tell (l : Launch) (G : XG) {N : Nat} {x1 x2 : Int32} {st : QSt} {ro : Int32} {so : QSt} (hf : xTags_tell N x1 x2 st = some (ro, so)) : q_Mi l y_Tags_tell b_Tags_tell 4 .boolean ({ frames := 1, cells := 0, slots := 0, locals := 22 } : Room) G.1 (xT G) (wX G) [.ref (G.2.2 11), .int x1, .int x2] st ro so := by
  refine q_Mi_of (by decide) (Nat.le_of_ble_eq_true rfl) (wX_fst G) ?_
  intro p e s m args below meth c A ls hC hr hlk hT hD hA hP hS hl
  have hx := hC.1.1
  have hb := hC.1.2.1
  have hown := hC.1.2.2.2.1
  have hts := hC.1.2.2.2.2
  have hl : lv_has ls 4 [(0, .ref (G.2.2 11)), (1, .int x1), (2, .int x2)] := hl
  have J_37 : ∀ (x1_37 x2_37 x3_37 : Int32) (st_37 : QSt) (H : Heap) (locs : List Loc) (ls : Array Slot), xTags_tell_37 N x1_37 x2_37 x3_37 st_37 = some (ro, so) → va_P G.1 vwCl (wX G st_37) H → va_S A s.heap H locs → lv_has ls 4 [(0, .ref (G.2.2 11)), (1, .int x1_37), (2, .int x2_37), (3, .int x3_37)] → W p l e ({ frames := 1, cells := 0, slots := 0, locals := 22 } : Room) s m args below meth c H locs 0 0 (q_Zi below args s G.1 (wX G) ro so A) (F0 m 37 ls []) := by
    intro x1_37 x2_37 x3_37 st_37 H locs ls hf hP hS hl
    unfold xTags_tell_37 at hf
    refine lv_aload_n hx hb d_Tags_tell_37 rfl (lv_at hl 0 rfl) ?_
    refine xg_11_tag hC hP wq_48 d_Tags_tell_38 ?_
    refine lv_iload_n hx hb d_Tags_tell_41 rfl (lv_at hl 3 rfl) ?_
    refine lv_iload_n hx hb d_Tags_tell_42 rfl (lv_at hl 1 rfl) ?_
    obtain ⟨hi, hf⟩ := q_grd_some hf
    obtain ⟨s2, e_s2, hf⟩ := q_lt_some hf
    refine xs_12 hC hP hD hS e_s2 hi d_Tags_tell_43 (fun H locs hP hS => ?_)
    refine lv_aload_n hx hb d_Tags_tell_44 rfl (lv_at hl 0 rfl) ?_
    refine xg_11_on hC hP wq_49 d_Tags_tell_45 ?_
    refine lv_iload_n hx hb d_Tags_tell_48 rfl (lv_at hl 3 rfl) ?_
    refine lv_iload_n hx hb d_Tags_tell_49 rfl (lv_at hl 2 rfl) ?_
    obtain ⟨hi, hf⟩ := q_grd_some hf
    obtain ⟨s3, e_s3, hf⟩ := q_lt_some hf
    refine xs_13 hC hP hD hS e_s3 hi d_Tags_tell_50 (fun H locs hP hS => ?_)
    refine lv_iconst (v := 1) hx hb d_Tags_tell_51 (by decide) ?_
    exact q_iret hC hr hlk hf (by first | rfl | decide) hP hS d_Tags_tell_52
  unfold xTags_tell at hf
  refine lv_aload_n hx hb d_Tags_tell_0 rfl (lv_at hl 0 rfl) ?_
  refine lv_iload_n hx hb d_Tags_tell_1 rfl (lv_at hl 1 rfl) ?_
  obtain ⟨r1, h_r1, hf⟩ := q_bn_some hf
  refine q_callVp (As := [.int x1]) (rest := []) (q0 := 11) hC (c_xTags_find l G h_r1) cal_Tags_find wq_50 ⟨rfl, rfl, Nat.le_of_ble_eq_true rfl, Nat.le_of_ble_eq_true rfl⟩ rfl rfl hP hT hS rfl hl.1 rfl (Nat.le_of_ble_eq_true rfl) d_Tags_tell_2 (fun H locs hP hS => ?_)
  refine lv_istore_n (lv' := [(3, .int r1), (0, .ref (G.2.2 11)), (1, .int x1), (2, .int x2)]) hx hb d_Tags_tell_5 rfl hl (by decide) rfl (fun ls hl => ?_)
  refine lv_iload_n hx hb d_Tags_tell_6 rfl (lv_at hl 0 rfl) ?_
  refine lv_iconst (v := (-1)) hx hb d_Tags_tell_7 (by decide) ?_
  refine lv_icmp_ne (tgt := 37) hx hb d_Tags_tell_8 (by decide) (fun c1 => ?_) (fun c1 => ?_)
  · rw [if_neg c1] at hf
    exact J_37 _ _ _ _ _ _ _ hf hP hS (lv_sub hl [1, 2, 3, 0] rfl)
  rw [if_pos c1] at hf
  refine lv_aload_n hx hb d_Tags_tell_11 rfl (lv_at hl 1 rfl) ?_
  refine xg_11_count hC hP wq_47 d_Tags_tell_12 ?_
  refine lv_bipush (v := 20) hx hb d_Tags_tell_15 (by decide) ?_
  refine lv_icmp_lt (tgt := 22) hx hb d_Tags_tell_17 (by decide) (fun c1 => ?_) (fun c1 => ?_)
  rotate_left
  · rw [if_neg c1] at hf
    refine lv_iconst (v := 0) hx hb d_Tags_tell_20 (by decide) ?_
    exact q_iret hC hr hlk hf (by first | rfl | decide) hP hS d_Tags_tell_21
  rw [if_pos c1] at hf
  refine lv_aload_n hx hb d_Tags_tell_22 rfl (lv_at hl 1 rfl) ?_
  refine xg_11_count hC hP wq_47 d_Tags_tell_23 ?_
  obtain ⟨x3_1004, e_x3_1004, hf⟩ := q_lt_some hf
  refine q_topi e_x3_1004 ?_
  refine lv_istore_n (lv' := [(3, .int x3_1004), (0, .ref (G.2.2 11)), (1, .int x1), (2, .int x2)]) hx hb d_Tags_tell_26 rfl hl (by decide) rfl (fun ls hl => ?_)
  refine lv_aload_n hx hb d_Tags_tell_27 rfl (lv_at hl 1 rfl) ?_
  refine lv_dup hx hb d_Tags_tell_28 rfl ?_
  refine xg_11_count hC hP wq_47 d_Tags_tell_29 ?_
  refine lv_iconst (v := 1) hx hb d_Tags_tell_32 (by decide) ?_
  refine lv_iadd hx hb d_Tags_tell_33 ?_
  obtain ⟨s5, e_s5, hf⟩ := q_lt_some hf
  refine xp_11_count hC hP hD hS e_s5 wq_47 d_Tags_tell_34 (fun H locs hP hS => ?_)
  exact J_37 _ _ _ _ _ _ _ hf hP hS (lv_sub hl [1, 2, 3, 0] rfl)
def xTags_isOn (N : Nat) (x1 : Int32) (st : QSt) : Option Int32 :=
  q_bn (xTags_find N x1 st) (fun r1 => if r1 = (-1) then (some 0) else (q_grd (q_vpb r1 20) (q_lt (st.2 7 r1.toNatClampNeg) (fun v2 => if v2 = 0 then (some 0) else (some 1)))))
set_option maxHeartbeats 4000000 in
set_option maxRecDepth 100000 in
theorem c_xTags_isOn (l : Launch) (G : XG) {N : Nat} {x1 : Int32} {st : QSt} {ro : Int32} (hf : xTags_isOn N x1 st = some ro) : q_Mp l y_Tags_isOn b_Tags_isOn 3 .boolean ({ frames := 1, cells := 0, slots := 0, locals := 22 } : Room) G.1 (xT G) (wX G) [.ref (G.2.2 11), .int x1] st ro := by
  refine q_Mp_of (by decide) (Nat.le_of_ble_eq_true rfl) (wX_fst G) ?_
  intro p e s m args below meth c ls hC hr hlk hT hP hS hl
  have hx := hC.1.1
  have hb := hC.1.2.1
  have hown := hC.1.2.2.2.1
  have hts := hC.1.2.2.2.2
  have hl : lv_has ls 3 [(0, .ref (G.2.2 11)), (1, .int x1)] := hl
  unfold xTags_isOn at hf
  refine lv_aload_n hx hb d_Tags_isOn_0 rfl (lv_at hl 0 rfl) ?_
  refine lv_iload_n hx hb d_Tags_isOn_1 rfl (lv_at hl 1 rfl) ?_
  obtain ⟨r1, h_r1, hf⟩ := q_bn_some hf
  refine q_callVp (As := [.int x1]) (rest := []) (q0 := 11) hC (c_xTags_find l G h_r1) cal_Tags_find wq_50 ⟨rfl, rfl, Nat.le_of_ble_eq_true rfl, Nat.le_of_ble_eq_true rfl⟩ rfl rfl hP hT hS rfl hl.1 rfl (Nat.le_of_ble_eq_true rfl) d_Tags_isOn_2 (fun H locs hP hS => ?_)
  refine lv_istore_n (lv' := [(2, .int r1), (0, .ref (G.2.2 11)), (1, .int x1)]) hx hb d_Tags_isOn_5 rfl hl (by decide) rfl (fun ls hl => ?_)
  refine lv_iload_n hx hb d_Tags_isOn_6 rfl (lv_at hl 0 rfl) ?_
  refine lv_iconst (v := (-1)) hx hb d_Tags_isOn_7 (by decide) ?_
  refine lv_icmp_eq (tgt := 24) hx hb d_Tags_isOn_8 (by decide) (fun c1 => ?_) (fun c1 => ?_)
  · rw [if_pos c1] at hf
    refine lv_iconst (v := 0) hx hb d_Tags_isOn_24 (by decide) ?_
    exact q_iretP hC hr hlk hf (by first | rfl | decide) hS d_Tags_isOn_25
  rw [if_neg c1] at hf
  refine lv_aload_n hx hb d_Tags_isOn_11 rfl (lv_at hl 1 rfl) ?_
  refine xg_11_on hC hP wq_49 d_Tags_isOn_12 ?_
  refine lv_iload_n hx hb d_Tags_isOn_15 rfl (lv_at hl 0 rfl) ?_
  obtain ⟨hi, hf⟩ := q_grd_some hf
  obtain ⟨v2, e_v2, hf⟩ := q_lt_some hf
  refine xl_13 hC hP e_v2 hi d_Tags_isOn_16 ?_
  refine lv_if_eq (tgt := 24) hx hb d_Tags_isOn_17 (by decide) (fun c1 => ?_) (fun c1 => ?_)
  · rw [if_pos c1] at hf
    refine lv_iconst (v := 0) hx hb d_Tags_isOn_24 (by decide) ?_
    exact q_iretP hC hr hlk hf (by first | rfl | decide) hS d_Tags_isOn_25
  rw [if_neg c1] at hf
  refine lv_iconst (v := 1) hx hb d_Tags_isOn_20 (by decide) ?_
  refine lv_goto (tgt := 25) hx hb d_Tags_isOn_21 (by decide) ?_
  exact q_iretP hC hr hlk hf (by first | rfl | decide) hS d_Tags_isOn_25
def xTold_append (x1 x2 x3 : Int32) (st : QSt) : Option (Int32 × QSt) :=
  if (st.1 8) < 800 then (q_grd (q_vpb (st.1 8) 800) (q_lt (q_pa st 8 (st.1 8).toNatClampNeg x1) (fun s1 => q_grd (q_vpb (s1.1 8) 800) (q_lt (q_pa s1 9 (s1.1 8).toNatClampNeg x2) (fun s2 => q_grd (q_vpb (s2.1 8) 800) (q_lt (q_pa s2 10 (s2.1 8).toNatClampNeg x3) (fun s3 => q_lt (q_ps s3 8 ((s3.1 8) + 1)) (fun s4 => some (1, s4))))))))) else (some (0, st))
set_option maxHeartbeats 4000000 in
set_option maxRecDepth 100000 in
theorem c_xTold_append (l : Launch) (G : XG) {x1 x2 x3 : Int32} {st : QSt} {ro : Int32} {so : QSt} (hf : xTold_append x1 x2 x3 st = some (ro, so)) : q_Mi l y_Told_append b_Told_append 4 .boolean ({ frames := 0, cells := 0, slots := 0, locals := 0 } : Room) G.1 (xT G) (wX G) [.ref (G.2.2 14), .int x1, .int x2, .int x3] st ro so := by
  refine q_Mi_of (by decide) (Nat.le_of_ble_eq_true rfl) (wX_fst G) ?_
  intro p e s m args below meth c A ls hC hr hlk hT hD hA hP hS hl
  have hx := hC.1.1
  have hb := hC.1.2.1
  have hown := hC.1.2.2.2.1
  have hts := hC.1.2.2.2.2
  have hl : lv_has ls 4 [(0, .ref (G.2.2 14)), (1, .int x1), (2, .int x2), (3, .int x3)] := hl
  unfold xTold_append at hf
  refine lv_aload_n hx hb d_Told_append_0 rfl (lv_at hl 0 rfl) ?_
  refine xg_14_count hC hP wq_51 d_Told_append_1 ?_
  refine lv_sipush (v := 800) hx hb d_Told_append_4 (by decide) ?_
  refine lv_icmp_lt (tgt := 12) hx hb d_Told_append_7 (by decide) (fun c1 => ?_) (fun c1 => ?_)
  rotate_left
  · rw [if_neg c1] at hf
    refine lv_iconst (v := 0) hx hb d_Told_append_10 (by decide) ?_
    exact q_iret hC hr hlk hf (by first | rfl | decide) hP hS d_Told_append_11
  rw [if_pos c1] at hf
  refine lv_aload_n hx hb d_Told_append_12 rfl (lv_at hl 0 rfl) ?_
  refine xg_14_glyph hC hP wq_52 d_Told_append_13 ?_
  refine lv_aload_n hx hb d_Told_append_16 rfl (lv_at hl 0 rfl) ?_
  refine xg_14_count hC hP wq_51 d_Told_append_17 ?_
  refine lv_iload_n hx hb d_Told_append_20 rfl (lv_at hl 1 rfl) ?_
  obtain ⟨hi, hf⟩ := q_grd_some hf
  obtain ⟨s1, e_s1, hf⟩ := q_lt_some hf
  refine xs_15 hC hP hD hS e_s1 hi d_Told_append_21 (fun H locs hP hS => ?_)
  refine lv_aload_n hx hb d_Told_append_22 rfl (lv_at hl 0 rfl) ?_
  refine xg_14_width hC hP wq_53 d_Told_append_23 ?_
  refine lv_aload_n hx hb d_Told_append_26 rfl (lv_at hl 0 rfl) ?_
  refine xg_14_count hC hP wq_51 d_Told_append_27 ?_
  refine lv_iload_n hx hb d_Told_append_30 rfl (lv_at hl 2 rfl) ?_
  obtain ⟨hi, hf⟩ := q_grd_some hf
  obtain ⟨s2, e_s2, hf⟩ := q_lt_some hf
  refine xs_16 hC hP hD hS e_s2 hi d_Told_append_31 (fun H locs hP hS => ?_)
  refine lv_aload_n hx hb d_Told_append_32 rfl (lv_at hl 0 rfl) ?_
  refine xg_14_part hC hP wq_54 d_Told_append_33 ?_
  refine lv_aload_n hx hb d_Told_append_36 rfl (lv_at hl 0 rfl) ?_
  refine xg_14_count hC hP wq_51 d_Told_append_37 ?_
  refine lv_iload_n hx hb d_Told_append_40 rfl (lv_at hl 3 rfl) ?_
  obtain ⟨hi, hf⟩ := q_grd_some hf
  obtain ⟨s3, e_s3, hf⟩ := q_lt_some hf
  refine xs_17 hC hP hD hS e_s3 hi d_Told_append_41 (fun H locs hP hS => ?_)
  refine lv_aload_n hx hb d_Told_append_42 rfl (lv_at hl 0 rfl) ?_
  refine lv_dup hx hb d_Told_append_43 rfl ?_
  refine xg_14_count hC hP wq_51 d_Told_append_44 ?_
  refine lv_iconst (v := 1) hx hb d_Told_append_47 (by decide) ?_
  refine lv_iadd hx hb d_Told_append_48 ?_
  obtain ⟨s4, e_s4, hf⟩ := q_lt_some hf
  refine xp_14_count hC hP hD hS e_s4 wq_51 d_Told_append_49 (fun H locs hP hS => ?_)
  refine lv_iconst (v := 1) hx hb d_Told_append_52 (by decide) ?_
  exact q_iret hC hr hlk hf (by first | rfl | decide) hP hS d_Told_append_53
def xTold_drop (st : QSt) : Option (Int32 × QSt) :=
  q_lt (st.1 8) (fun x1_1001 => q_lt (q_ps st 8 0) (fun s2 => some (x1_1001, s2)))
set_option maxHeartbeats 4000000 in
set_option maxRecDepth 100000 in
theorem c_xTold_drop (l : Launch) (G : XG) {st : QSt} {ro : Int32} {so : QSt} (hf : xTold_drop st = some (ro, so)) : q_Mi l y_Told_drop b_Told_drop 2 .int ({ frames := 0, cells := 0, slots := 0, locals := 0 } : Room) G.1 (xT G) (wX G) [.ref (G.2.2 14)] st ro so := by
  refine q_Mi_of (by decide) (Nat.le_of_ble_eq_true rfl) (wX_fst G) ?_
  intro p e s m args below meth c A ls hC hr hlk hT hD hA hP hS hl
  have hx := hC.1.1
  have hb := hC.1.2.1
  have hown := hC.1.2.2.2.1
  have hts := hC.1.2.2.2.2
  have hl : lv_has ls 2 [(0, .ref (G.2.2 14))] := hl
  unfold xTold_drop at hf
  refine lv_aload_n hx hb d_Told_drop_0 rfl (lv_at hl 0 rfl) ?_
  refine xg_14_count hC hP wq_51 d_Told_drop_1 ?_
  obtain ⟨x1_1001, e_x1_1001, hf⟩ := q_lt_some hf
  refine q_topi e_x1_1001 ?_
  refine lv_istore_n (lv' := [(1, .int x1_1001), (0, .ref (G.2.2 14))]) hx hb d_Told_drop_4 rfl hl (by decide) rfl (fun ls hl => ?_)
  refine lv_aload_n hx hb d_Told_drop_5 rfl (lv_at hl 1 rfl) ?_
  refine lv_iconst (v := 0) hx hb d_Told_drop_6 (by decide) ?_
  obtain ⟨s2, e_s2, hf⟩ := q_lt_some hf
  refine xp_14_count hC hP hD hS e_s2 wq_51 d_Told_drop_7 (fun H locs hP hS => ?_)
  refine lv_iload_n hx hb d_Told_drop_10 rfl (lv_at hl 0 rfl) ?_
  exact q_iret hC hr hlk hf (by first | rfl | decide) hP hS d_Told_drop_11
def xChoice_placeByTag_12 (N : Nat) (st : QSt) (x1_12 x2_12 x3_12 : Int32) : Nat → Int32 → Option Int32
  | 0, _ => none
  | n_12 + 1, x4_12 => if x3_12 ≤ x4_12 then (some (-1)) else (q_bn (xTable_u32_3 ((x1_12 + 2) + (6 * x4_12)) st) (fun r2 => if r2 = x2_12 then (q_bn (xTable_u16_3 ((x1_12 + 6) + (6 * x4_12)) st) (fun r3 => some r3)) else (xChoice_placeByTag_12 N st x1_12 x2_12 x3_12 n_12 (x4_12 + 1))))
def xChoice_placeByTag (N : Nat) (x1 x2 : Int32) (st : QSt) : Option Int32 :=
  q_bn (xTable_u16_3 x1 st) (fun r1 => xChoice_placeByTag_12 N st x1 x2 r1 N 0)
set_option maxHeartbeats 4000000 in
set_option maxRecDepth 100000 in
theorem c_xChoice_placeByTag (l : Launch) (G : XG) {N : Nat} {x1 x2 : Int32} {st : QSt} {ro : Int32} (hf : xChoice_placeByTag N x1 x2 st = some ro) : q_Mp l y_Choice_placeByTag b_Choice_placeByTag 5 .int ({ frames := 2, cells := 0, slots := 0, locals := 42 } : Room) G.1 (xT G) (wX G) [.ref (G.2.2 18), .int x1, .int x2] st ro := by
  refine q_Mp_of (by decide) (Nat.le_of_ble_eq_true rfl) (wX_fst G) ?_
  intro p e s m args below meth c ls hC hr hlk hT hP hS hl
  have hx := hC.1.1
  have hb := hC.1.2.1
  have hown := hC.1.2.2.2.1
  have hts := hC.1.2.2.2.2
  have hl : lv_has ls 5 [(0, .ref (G.2.2 18)), (1, .int x1), (2, .int x2)] := hl
  have L_12 : ∀ (x1_12 x2_12 x3_12 : Int32) (n_12 : Nat) (x4_12 : Int32) (H : Heap) (locs : List Loc) (ls : Array Slot), xChoice_placeByTag_12 N st x1_12 x2_12 x3_12 n_12 x4_12 = some ro → va_P G.1 vwCl (wX G st) H → va_S (fun _ => False) s.heap H locs → lv_has ls 5 [(0, .ref (G.2.2 18)), (1, .int x1_12), (2, .int x2_12), (3, .int x3_12), (4, .int x4_12)] → W p l e ({ frames := 2, cells := 0, slots := 0, locals := 42 } : Room) s m args below meth c H locs 0 0 (q_Zp below args s ro) (F0 m 12 ls []) := by
    intro x1_12 x2_12 x3_12 n_12
    induction n_12 with
    | zero => intro _ _ _ _ hf; exact absurd hf (by simp [xChoice_placeByTag_12])
    | succ n_12 ih_12 =>
      intro x4_12 H locs ls hf hP hS hl
      rw [xChoice_placeByTag_12] at hf
      refine lv_iload hx hb d_Choice_placeByTag_12 (lv_at hl 4 rfl) ?_
      refine lv_iload_n hx hb d_Choice_placeByTag_14 rfl (lv_at hl 3 rfl) ?_
      refine lv_icmp_ge (tgt := 62) hx hb d_Choice_placeByTag_15 (by decide) (fun c1 => ?_) (fun c1 => ?_)
      · rw [if_pos c1] at hf
        refine lv_iconst (v := (-1)) hx hb d_Choice_placeByTag_62 (by decide) ?_
        exact q_iretP hC hr hlk hf (by first | rfl | decide) hS d_Choice_placeByTag_63
      rw [if_neg c1] at hf
      refine lv_aload_n hx hb d_Choice_placeByTag_18 rfl (lv_at hl 0 rfl) ?_
      refine xg_18_font hC hP wq_55 d_Choice_placeByTag_19 ?_
      refine lv_iload_n hx hb d_Choice_placeByTag_22 rfl (lv_at hl 1 rfl) ?_
      refine lv_iconst (v := 2) hx hb d_Choice_placeByTag_23 (by decide) ?_
      refine lv_iadd hx hb d_Choice_placeByTag_24 ?_
      refine lv_bipush (v := 6) hx hb d_Choice_placeByTag_25 (by decide) ?_
      refine lv_iload hx hb d_Choice_placeByTag_27 (lv_at hl 4 rfl) ?_
      refine lv_imul hx hb d_Choice_placeByTag_29 ?_
      refine lv_iadd hx hb d_Choice_placeByTag_30 ?_
      obtain ⟨r2, h_r2, hf⟩ := q_bn_some hf
      refine q_callVp (As := [.int ((x1_12 + 2) + (6 * x4_12))]) (rest := []) (q0 := 3) hC (c_xTable_u32_3 l G h_r2) cal_Table_u32 wq_56 ⟨rfl, rfl, Nat.le_of_ble_eq_true rfl, Nat.le_of_ble_eq_true rfl⟩ rfl rfl hP hT hS rfl hl.1 rfl (Nat.le_of_ble_eq_true rfl) d_Choice_placeByTag_31 (fun H locs hP hS => ?_)
      refine lv_iload_n hx hb d_Choice_placeByTag_34 rfl (lv_at hl 2 rfl) ?_
      refine lv_icmp_ne (tgt := 56) hx hb d_Choice_placeByTag_35 (by decide) (fun c1 => ?_) (fun c1 => ?_)
      · rw [if_neg c1] at hf
        refine lv_iinc (v := x4_12 + 1) (lv' := [(4, .int (x4_12 + 1)), (0, .ref (G.2.2 18)), (1, .int x1_12), (2, .int x2_12), (3, .int x3_12)]) hx hb d_Choice_placeByTag_56 hl (k := 4) rfl rfl (by decide) rfl (fun ls hl => ?_)
        refine lv_goto (tgt := 12) hx hb d_Choice_placeByTag_59 (by decide) ?_
        exact ih_12 _ _ _ _ hf hP hS (lv_sub hl [1, 2, 3, 4, 0] rfl)
      rw [if_pos c1] at hf
      refine lv_aload_n hx hb d_Choice_placeByTag_38 rfl (lv_at hl 0 rfl) ?_
      refine xg_18_font hC hP wq_55 d_Choice_placeByTag_39 ?_
      refine lv_iload_n hx hb d_Choice_placeByTag_42 rfl (lv_at hl 1 rfl) ?_
      refine lv_bipush (v := 6) hx hb d_Choice_placeByTag_43 (by decide) ?_
      refine lv_iadd hx hb d_Choice_placeByTag_45 ?_
      refine lv_bipush (v := 6) hx hb d_Choice_placeByTag_46 (by decide) ?_
      refine lv_iload hx hb d_Choice_placeByTag_48 (lv_at hl 4 rfl) ?_
      refine lv_imul hx hb d_Choice_placeByTag_50 ?_
      refine lv_iadd hx hb d_Choice_placeByTag_51 ?_
      obtain ⟨r3, h_r3, hf⟩ := q_bn_some hf
      refine q_callVp (As := [.int ((x1_12 + 6) + (6 * x4_12))]) (rest := []) (q0 := 3) hC (c_xTable_u16_3 l G h_r3) cal_Table_u16 wq_57 ⟨rfl, rfl, Nat.le_of_ble_eq_true rfl, Nat.le_of_ble_eq_true rfl⟩ rfl rfl hP hT hS rfl hl.1 rfl (Nat.le_of_ble_eq_true rfl) d_Choice_placeByTag_52 (fun H locs hP hS => ?_)
      exact q_iretP hC hr hlk hf (by first | rfl | decide) hS d_Choice_placeByTag_55
  unfold xChoice_placeByTag at hf
  refine lv_aload_n hx hb d_Choice_placeByTag_0 rfl (lv_at hl 0 rfl) ?_
  refine xg_18_font hC hP wq_55 d_Choice_placeByTag_1 ?_
  refine lv_iload_n hx hb d_Choice_placeByTag_4 rfl (lv_at hl 1 rfl) ?_
  obtain ⟨r1, h_r1, hf⟩ := q_bn_some hf
  refine q_callVp (As := [.int x1]) (rest := []) (q0 := 3) hC (c_xTable_u16_3 l G h_r1) cal_Table_u16 wq_57 ⟨rfl, rfl, Nat.le_of_ble_eq_true rfl, Nat.le_of_ble_eq_true rfl⟩ rfl rfl hP hT hS rfl hl.1 rfl (Nat.le_of_ble_eq_true rfl) d_Choice_placeByTag_5 (fun H locs hP hS => ?_)
  refine lv_istore_n (lv' := [(3, .int r1), (0, .ref (G.2.2 18)), (1, .int x1), (2, .int x2)]) hx hb d_Choice_placeByTag_8 rfl hl (by decide) rfl (fun ls hl => ?_)
  refine lv_iconst (v := 0) hx hb d_Choice_placeByTag_9 (by decide) ?_
  refine lv_istore (lv' := [(4, .int 0), (3, .int r1), (0, .ref (G.2.2 18)), (1, .int x1), (2, .int x2)]) hx hb d_Choice_placeByTag_10 hl (by decide) rfl (fun ls hl => ?_)
  exact L_12 _ _ _ _ _ _ _ _ hf hP hS (lv_sub hl [2, 3, 4, 1, 0] rfl)
def xChoice_languageAt_32 (N : Nat) (st : QSt) (x2_32 x3_32 x4_32 : Int32) : Option Int32 :=
  if x4_32 = (-1) then (some (-1)) else (q_lt (x3_32 + x4_32) (fun x5_1003 => q_bn (xChoice_placeByTag N (x5_1003 + 2) x2_32 st) (fun r4 => if r4 = (-1) then (q_bn (xTable_u16_3 x5_1003 st) (fun r5 => if r5 = 0 then (some (-1)) else (some (x5_1003 + r5)))) else (some (x5_1003 + r4)))))
def xChoice_languageAt (N : Nat) (x1 x2 : Int32) (st : QSt) : Option Int32 :=
  q_bn (xTable_u16_3 4 st) (fun r1 => q_bn (xChoice_placeByTag N r1 x1 st) (fun r2 => if r2 = (-1) then (q_bn (xChoice_placeByTag N r1 1145457748 st) (fun r6 => xChoice_languageAt_32 N st x2 r1 r6)) else (xChoice_languageAt_32 N st x2 r1 r2)))
set_option maxHeartbeats 4000000 in
set_option maxRecDepth 100000 in
theorem c_xChoice_languageAt (l : Launch) (G : XG) {N : Nat} {x1 x2 : Int32} {st : QSt} {ro : Int32} (hf : xChoice_languageAt N x1 x2 st = some ro) : q_Mp l y_Choice_languageAt b_Choice_languageAt 7 .int ({ frames := 3, cells := 0, slots := 0, locals := 66 } : Room) G.1 (xT G) (wX G) [.ref (G.2.2 18), .int x1, .int x2] st ro := by
  refine q_Mp_of (by decide) (Nat.le_of_ble_eq_true rfl) (wX_fst G) ?_
  intro p e s m args below meth c ls hC hr hlk hT hP hS hl
  have hx := hC.1.1
  have hb := hC.1.2.1
  have hown := hC.1.2.2.2.1
  have hts := hC.1.2.2.2.2
  have hl : lv_has ls 7 [(0, .ref (G.2.2 18)), (1, .int x1), (2, .int x2)] := hl
  have J_32 : ∀ (x2_32 x3_32 x4_32 : Int32) (H : Heap) (locs : List Loc) (ls : Array Slot), xChoice_languageAt_32 N st x2_32 x3_32 x4_32 = some ro → va_P G.1 vwCl (wX G st) H → va_S (fun _ => False) s.heap H locs → lv_has ls 7 [(0, .ref (G.2.2 18)), (2, .int x2_32), (3, .int x3_32), (4, .int x4_32)] → W p l e ({ frames := 3, cells := 0, slots := 0, locals := 66 } : Room) s m args below meth c H locs 0 0 (q_Zp below args s ro) (F0 m 32 ls []) := by
    intro x2_32 x3_32 x4_32 H locs ls hf hP hS hl
    unfold xChoice_languageAt_32 at hf
    refine lv_iload hx hb d_Choice_languageAt_32 (lv_at hl 3 rfl) ?_
    refine lv_iconst (v := (-1)) hx hb d_Choice_languageAt_34 (by decide) ?_
    refine lv_icmp_ne (tgt := 40) hx hb d_Choice_languageAt_35 (by decide) (fun c1 => ?_) (fun c1 => ?_)
    rotate_left
    · rw [if_pos c1] at hf
      refine lv_iconst (v := (-1)) hx hb d_Choice_languageAt_38 (by decide) ?_
      exact q_iretP hC hr hlk hf (by first | rfl | decide) hS d_Choice_languageAt_39
    rw [if_neg c1] at hf
    refine lv_iload_n hx hb d_Choice_languageAt_40 rfl (lv_at hl 2 rfl) ?_
    refine lv_iload hx hb d_Choice_languageAt_41 (lv_at hl 3 rfl) ?_
    refine lv_iadd hx hb d_Choice_languageAt_43 ?_
    obtain ⟨x5_1003, e_x5_1003, hf⟩ := q_lt_some hf
    refine q_topi e_x5_1003 ?_
    refine lv_istore (lv' := [(5, .int x5_1003), (0, .ref (G.2.2 18)), (2, .int x2_32), (3, .int x3_32), (4, .int x4_32)]) hx hb d_Choice_languageAt_44 hl (by decide) rfl (fun ls hl => ?_)
    refine lv_aload_n hx hb d_Choice_languageAt_46 rfl (lv_at hl 1 rfl) ?_
    refine lv_iload hx hb d_Choice_languageAt_47 (lv_at hl 0 rfl) ?_
    refine lv_iconst (v := 2) hx hb d_Choice_languageAt_49 (by decide) ?_
    refine lv_iadd hx hb d_Choice_languageAt_50 ?_
    refine lv_iload_n hx hb d_Choice_languageAt_51 rfl (lv_at hl 2 rfl) ?_
    obtain ⟨r4, h_r4, hf⟩ := q_bn_some hf
    refine q_callVp (As := [.int (x5_1003 + 2), .int x2_32]) (rest := []) (q0 := 18) hC (c_xChoice_placeByTag l G h_r4) cal_Choice_placeByTag wq_58 ⟨rfl, rfl, Nat.le_of_ble_eq_true rfl, Nat.le_of_ble_eq_true rfl⟩ rfl rfl hP hT hS rfl hl.1 rfl (Nat.le_of_ble_eq_true rfl) d_Choice_languageAt_52 (fun H locs hP hS => ?_)
    refine lv_istore (lv' := [(4, .int r4), (5, .int x5_1003), (0, .ref (G.2.2 18)), (2, .int x2_32), (3, .int x3_32)]) hx hb d_Choice_languageAt_55 hl (by decide) rfl (fun ls hl => ?_)
    refine lv_iload hx hb d_Choice_languageAt_57 (lv_at hl 0 rfl) ?_
    refine lv_iconst (v := (-1)) hx hb d_Choice_languageAt_59 (by decide) ?_
    refine lv_icmp_eq (tgt := 69) hx hb d_Choice_languageAt_60 (by decide) (fun c1 => ?_) (fun c1 => ?_)
    rotate_left
    · rw [if_neg c1] at hf
      refine lv_iload hx hb d_Choice_languageAt_63 (lv_at hl 1 rfl) ?_
      refine lv_iload hx hb d_Choice_languageAt_65 (lv_at hl 0 rfl) ?_
      refine lv_iadd hx hb d_Choice_languageAt_67 ?_
      exact q_iretP hC hr hlk hf (by first | rfl | decide) hS d_Choice_languageAt_68
    rw [if_pos c1] at hf
    refine lv_aload_n hx hb d_Choice_languageAt_69 rfl (lv_at hl 2 rfl) ?_
    refine xg_18_font hC hP wq_55 d_Choice_languageAt_70 ?_
    refine lv_iload hx hb d_Choice_languageAt_73 (lv_at hl 1 rfl) ?_
    obtain ⟨r5, h_r5, hf⟩ := q_bn_some hf
    refine q_callVp (As := [.int x5_1003]) (rest := []) (q0 := 3) hC (c_xTable_u16_3 l G h_r5) cal_Table_u16 wq_57 ⟨rfl, rfl, Nat.le_of_ble_eq_true rfl, Nat.le_of_ble_eq_true rfl⟩ rfl rfl hP hT hS rfl hl.1 rfl (Nat.le_of_ble_eq_true rfl) d_Choice_languageAt_75 (fun H locs hP hS => ?_)
    refine lv_istore (lv' := [(6, .int r5), (4, .int r4), (5, .int x5_1003), (0, .ref (G.2.2 18)), (2, .int x2_32), (3, .int x3_32)]) hx hb d_Choice_languageAt_78 hl (by decide) rfl (fun ls hl => ?_)
    refine lv_iload hx hb d_Choice_languageAt_80 (lv_at hl 0 rfl) ?_
    refine lv_if_ne (tgt := 89) hx hb d_Choice_languageAt_82 (by decide) (fun c1 => ?_) (fun c1 => ?_)
    rotate_left
    · rw [if_pos c1] at hf
      refine lv_iconst (v := (-1)) hx hb d_Choice_languageAt_85 (by decide) ?_
      refine lv_goto (tgt := 94) hx hb d_Choice_languageAt_86 (by decide) ?_
      exact q_iretP hC hr hlk hf (by first | rfl | decide) hS d_Choice_languageAt_94
    rw [if_neg c1] at hf
    refine lv_iload hx hb d_Choice_languageAt_89 (lv_at hl 2 rfl) ?_
    refine lv_iload hx hb d_Choice_languageAt_91 (lv_at hl 0 rfl) ?_
    refine lv_iadd hx hb d_Choice_languageAt_93 ?_
    exact q_iretP hC hr hlk hf (by first | rfl | decide) hS d_Choice_languageAt_94
  unfold xChoice_languageAt at hf
  refine lv_aload_n hx hb d_Choice_languageAt_0 rfl (lv_at hl 0 rfl) ?_
  refine xg_18_font hC hP wq_55 d_Choice_languageAt_1 ?_
  refine lv_iconst (v := 4) hx hb d_Choice_languageAt_4 (by decide) ?_
  obtain ⟨r1, h_r1, hf⟩ := q_bn_some hf
  refine q_callVp (As := [.int 4]) (rest := []) (q0 := 3) hC (c_xTable_u16_3 l G h_r1) cal_Table_u16 wq_57 ⟨rfl, rfl, Nat.le_of_ble_eq_true rfl, Nat.le_of_ble_eq_true rfl⟩ rfl rfl hP hT hS rfl hl.1 rfl (Nat.le_of_ble_eq_true rfl) d_Choice_languageAt_5 (fun H locs hP hS => ?_)
  refine lv_istore_n (lv' := [(3, .int r1), (0, .ref (G.2.2 18)), (1, .int x1), (2, .int x2)]) hx hb d_Choice_languageAt_8 rfl hl (by decide) rfl (fun ls hl => ?_)
  refine lv_aload_n hx hb d_Choice_languageAt_9 rfl (lv_at hl 1 rfl) ?_
  refine lv_iload_n hx hb d_Choice_languageAt_10 rfl (lv_at hl 0 rfl) ?_
  refine lv_iload_n hx hb d_Choice_languageAt_11 rfl (lv_at hl 2 rfl) ?_
  obtain ⟨r2, h_r2, hf⟩ := q_bn_some hf
  refine q_callVp (As := [.int r1, .int x1]) (rest := []) (q0 := 18) hC (c_xChoice_placeByTag l G h_r2) cal_Choice_placeByTag wq_58 ⟨rfl, rfl, Nat.le_of_ble_eq_true rfl, Nat.le_of_ble_eq_true rfl⟩ rfl rfl hP hT hS rfl hl.1 rfl (Nat.le_of_ble_eq_true rfl) d_Choice_languageAt_12 (fun H locs hP hS => ?_)
  refine lv_istore (lv' := [(4, .int r2), (3, .int r1), (0, .ref (G.2.2 18)), (1, .int x1), (2, .int x2)]) hx hb d_Choice_languageAt_15 hl (by decide) rfl (fun ls hl => ?_)
  refine lv_iload hx hb d_Choice_languageAt_17 (lv_at hl 0 rfl) ?_
  refine lv_iconst (v := (-1)) hx hb d_Choice_languageAt_19 (by decide) ?_
  refine lv_icmp_ne (tgt := 32) hx hb d_Choice_languageAt_20 (by decide) (fun c1 => ?_) (fun c1 => ?_)
  · rw [if_neg c1] at hf
    exact J_32 _ _ _ _ _ _ hf hP hS (lv_sub hl [2, 4, 1, 0] rfl)
  rw [if_pos c1] at hf
  refine lv_aload_n hx hb d_Choice_languageAt_23 rfl (lv_at hl 2 rfl) ?_
  refine lv_iload_n hx hb d_Choice_languageAt_24 rfl (lv_at hl 1 rfl) ?_
  refine lv_ldc (v := 1145457748) hx hb hown (hts _ wq_59) d_Choice_languageAt_25 ?_
  obtain ⟨r6, h_r6, hf⟩ := q_bn_some hf
  refine q_callVp (As := [.int r1, .int 1145457748]) (rest := []) (q0 := 18) hC (c_xChoice_placeByTag l G h_r6) cal_Choice_placeByTag wq_58 ⟨rfl, rfl, Nat.le_of_ble_eq_true rfl, Nat.le_of_ble_eq_true rfl⟩ rfl rfl hP hT hS rfl hl.1 rfl (Nat.le_of_ble_eq_true rfl) d_Choice_languageAt_27 (fun H locs hP hS => ?_)
  refine lv_istore (lv' := [(4, .int r6), (3, .int r1), (0, .ref (G.2.2 18)), (1, .int x1), (2, .int x2)]) hx hb d_Choice_languageAt_30 hl (by decide) rfl (fun ls hl => ?_)
  exact J_32 _ _ _ _ _ _ hf hP hS (lv_sub hl [2, 4, 1, 0] rfl)
def xChoice_wantLookupsOf_44 (N : Nat) (x3_44 x4_44 : Int32) : Nat → Int32 → QSt → Option QSt
  | 0, _, _ => none
  | n_44 + 1, x5_44, st_44 => if x4_44 ≤ x5_44 then (some st_44) else (q_bn (xTable_u16_3 ((x3_44 + 4) + (2 * x5_44)) st_44) (fun r5 => if 64 ≤ r5 then (xChoice_wantLookupsOf_44 N x3_44 x4_44 n_44 (x5_44 + 1) st_44) else (q_grd (q_vpb r5 64) (q_lt (q_pa st_44 11 r5.toNatClampNeg (vp_nar .boolean 1)) (fun s6 => xChoice_wantLookupsOf_44 N x3_44 x4_44 n_44 (x5_44 + 1) s6)))))
def xChoice_wantLookupsOf (N : Nat) (x1 : Int32) (st : QSt) : Option QSt :=
  q_bn (xTable_u16_3 6 st) (fun r1 => q_bn (xTable_u16_3 ((r1 + 6) + (6 * x1)) st) (fun r2 => q_lt (r1 + r2) (fun x3_1003 => q_bn (xTable_u16_3 (x3_1003 + 2) st) (fun r4 => xChoice_wantLookupsOf_44 N x3_1003 r4 N 0 st))))
set_option maxHeartbeats 4000000 in
set_option maxRecDepth 100000 in
theorem c_xChoice_wantLookupsOf (l : Launch) (G : XG) {N : Nat} {x1 : Int32} {st : QSt} {so : QSt} (hf : xChoice_wantLookupsOf N x1 st = some so) : q_Mv l y_Choice_wantLookupsOf b_Choice_wantLookupsOf 7 ({ frames := 1, cells := 0, slots := 0, locals := 21 } : Room) G.1 (xT G) (wX G) [.ref (G.2.2 18), .int x1] st so := by
  refine q_Mv_of (by decide) (Nat.le_of_ble_eq_true rfl) (wX_fst G) ?_
  intro p e s m args below meth c A ls hC hr hlk hT hD hA hP hS hl
  have hx := hC.1.1
  have hb := hC.1.2.1
  have hown := hC.1.2.2.2.1
  have hts := hC.1.2.2.2.2
  have hl : lv_has ls 7 [(0, .ref (G.2.2 18)), (1, .int x1)] := hl
  have L_44 : ∀ (x3_44 x4_44 : Int32) (n_44 : Nat) (x5_44 : Int32) (st_44 : QSt) (H : Heap) (locs : List Loc) (ls : Array Slot), xChoice_wantLookupsOf_44 N x3_44 x4_44 n_44 x5_44 st_44 = some so → va_P G.1 vwCl (wX G st_44) H → va_S A s.heap H locs → lv_has ls 7 [(0, .ref (G.2.2 18)), (3, .int x3_44), (4, .int x4_44), (5, .int x5_44)] → W p l e ({ frames := 1, cells := 0, slots := 0, locals := 21 } : Room) s m args below meth c H locs 0 0 (q_Zv below args s G.1 (wX G) so A) (F0 m 44 ls []) := by
    intro x3_44 x4_44 n_44
    induction n_44 with
    | zero => intro _ _ _ _ _ hf; exact absurd hf (by simp [xChoice_wantLookupsOf_44])
    | succ n_44 ih_44 =>
      intro x5_44 st_44 H locs ls hf hP hS hl
      rw [xChoice_wantLookupsOf_44] at hf
      refine lv_iload hx hb d_Choice_wantLookupsOf_44 (lv_at hl 3 rfl) ?_
      refine lv_iload hx hb d_Choice_wantLookupsOf_46 (lv_at hl 2 rfl) ?_
      refine lv_icmp_ge (tgt := 89) hx hb d_Choice_wantLookupsOf_48 (by decide) (fun c1 => ?_) (fun c1 => ?_)
      · rw [if_pos c1] at hf
        exact q_vret hC hr hlk hf hP hS d_Choice_wantLookupsOf_89
      rw [if_neg c1] at hf
      refine lv_aload_n hx hb d_Choice_wantLookupsOf_51 rfl (lv_at hl 0 rfl) ?_
      refine xg_18_font hC hP wq_55 d_Choice_wantLookupsOf_52 ?_
      refine lv_iload_n hx hb d_Choice_wantLookupsOf_55 rfl (lv_at hl 1 rfl) ?_
      refine lv_iconst (v := 4) hx hb d_Choice_wantLookupsOf_56 (by decide) ?_
      refine lv_iadd hx hb d_Choice_wantLookupsOf_57 ?_
      refine lv_iconst (v := 2) hx hb d_Choice_wantLookupsOf_58 (by decide) ?_
      refine lv_iload hx hb d_Choice_wantLookupsOf_59 (lv_at hl 3 rfl) ?_
      refine lv_imul hx hb d_Choice_wantLookupsOf_61 ?_
      refine lv_iadd hx hb d_Choice_wantLookupsOf_62 ?_
      obtain ⟨r5, h_r5, hf⟩ := q_bn_some hf
      refine q_callVp (As := [.int ((x3_44 + 4) + (2 * x5_44))]) (rest := []) (q0 := 3) hC (c_xTable_u16_3 l G h_r5) cal_Table_u16 wq_57 ⟨rfl, rfl, Nat.le_of_ble_eq_true rfl, Nat.le_of_ble_eq_true rfl⟩ rfl rfl hP hT hS rfl hl.1 rfl (Nat.le_of_ble_eq_true rfl) d_Choice_wantLookupsOf_63 (fun H locs hP hS => ?_)
      refine lv_istore (lv' := [(6, .int r5), (0, .ref (G.2.2 18)), (3, .int x3_44), (4, .int x4_44), (5, .int x5_44)]) hx hb d_Choice_wantLookupsOf_66 hl (by decide) rfl (fun ls hl => ?_)
      refine lv_iload hx hb d_Choice_wantLookupsOf_68 (lv_at hl 0 rfl) ?_
      refine lv_bipush (v := 64) hx hb d_Choice_wantLookupsOf_70 (by decide) ?_
      refine lv_icmp_ge (tgt := 83) hx hb d_Choice_wantLookupsOf_72 (by decide) (fun c1 => ?_) (fun c1 => ?_)
      · rw [if_pos c1] at hf
        refine lv_iinc (v := x5_44 + 1) (lv' := [(5, .int (x5_44 + 1)), (6, .int r5), (0, .ref (G.2.2 18)), (3, .int x3_44), (4, .int x4_44)]) hx hb d_Choice_wantLookupsOf_83 hl (k := 4) rfl rfl (by decide) rfl (fun ls hl => ?_)
        refine lv_goto (tgt := 44) hx hb d_Choice_wantLookupsOf_86 (by decide) ?_
        exact ih_44 _ _ _ _ _ hf hP hS (lv_sub hl [2, 3, 4, 0] rfl)
      rw [if_neg c1] at hf
      refine lv_aload_n hx hb d_Choice_wantLookupsOf_75 rfl (lv_at hl 1 rfl) ?_
      refine xg_18_wanted hC hP wq_60 d_Choice_wantLookupsOf_76 ?_
      refine lv_iload hx hb d_Choice_wantLookupsOf_79 (lv_at hl 0 rfl) ?_
      refine lv_iconst (v := 1) hx hb d_Choice_wantLookupsOf_81 (by decide) ?_
      obtain ⟨hi, hf⟩ := q_grd_some hf
      obtain ⟨s6, e_s6, hf⟩ := q_lt_some hf
      refine xs_19 hC hP hD hS e_s6 hi d_Choice_wantLookupsOf_82 (fun H locs hP hS => ?_)
      refine lv_iinc (v := x5_44 + 1) (lv' := [(5, .int (x5_44 + 1)), (6, .int r5), (0, .ref (G.2.2 18)), (3, .int x3_44), (4, .int x4_44)]) hx hb d_Choice_wantLookupsOf_83 hl (k := 4) rfl rfl (by decide) rfl (fun ls hl => ?_)
      refine lv_goto (tgt := 44) hx hb d_Choice_wantLookupsOf_86 (by decide) ?_
      exact ih_44 _ _ _ _ _ hf hP hS (lv_sub hl [2, 3, 4, 0] rfl)
  unfold xChoice_wantLookupsOf at hf
  refine lv_aload_n hx hb d_Choice_wantLookupsOf_0 rfl (lv_at hl 0 rfl) ?_
  refine xg_18_font hC hP wq_55 d_Choice_wantLookupsOf_1 ?_
  refine lv_bipush (v := 6) hx hb d_Choice_wantLookupsOf_4 (by decide) ?_
  obtain ⟨r1, h_r1, hf⟩ := q_bn_some hf
  refine q_callVp (As := [.int 6]) (rest := []) (q0 := 3) hC (c_xTable_u16_3 l G h_r1) cal_Table_u16 wq_57 ⟨rfl, rfl, Nat.le_of_ble_eq_true rfl, Nat.le_of_ble_eq_true rfl⟩ rfl rfl hP hT hS rfl hl.1 rfl (Nat.le_of_ble_eq_true rfl) d_Choice_wantLookupsOf_6 (fun H locs hP hS => ?_)
  refine lv_istore_n (lv' := [(2, .int r1), (0, .ref (G.2.2 18)), (1, .int x1)]) hx hb d_Choice_wantLookupsOf_9 rfl hl (by decide) rfl (fun ls hl => ?_)
  refine lv_iload_n hx hb d_Choice_wantLookupsOf_10 rfl (lv_at hl 0 rfl) ?_
  refine lv_aload_n hx hb d_Choice_wantLookupsOf_11 rfl (lv_at hl 1 rfl) ?_
  refine xg_18_font hC hP wq_55 d_Choice_wantLookupsOf_12 ?_
  refine lv_iload_n hx hb d_Choice_wantLookupsOf_15 rfl (lv_at hl 0 rfl) ?_
  refine lv_bipush (v := 6) hx hb d_Choice_wantLookupsOf_16 (by decide) ?_
  refine lv_iadd hx hb d_Choice_wantLookupsOf_18 ?_
  refine lv_bipush (v := 6) hx hb d_Choice_wantLookupsOf_19 (by decide) ?_
  refine lv_iload_n hx hb d_Choice_wantLookupsOf_21 rfl (lv_at hl 2 rfl) ?_
  refine lv_imul hx hb d_Choice_wantLookupsOf_22 ?_
  refine lv_iadd hx hb d_Choice_wantLookupsOf_23 ?_
  obtain ⟨r2, h_r2, hf⟩ := q_bn_some hf
  refine q_callVp (As := [.int ((r1 + 6) + (6 * x1))]) (rest := [.int r1]) (q0 := 3) hC (c_xTable_u16_3 l G h_r2) cal_Table_u16 wq_57 ⟨rfl, rfl, Nat.le_of_ble_eq_true rfl, Nat.le_of_ble_eq_true rfl⟩ rfl rfl hP hT hS rfl hl.1 rfl (Nat.le_of_ble_eq_true rfl) d_Choice_wantLookupsOf_24 (fun H locs hP hS => ?_)
  refine lv_iadd hx hb d_Choice_wantLookupsOf_27 ?_
  obtain ⟨x3_1003, e_x3_1003, hf⟩ := q_lt_some hf
  refine q_topi e_x3_1003 ?_
  refine lv_istore_n (lv' := [(3, .int x3_1003), (2, .int r1), (0, .ref (G.2.2 18)), (1, .int x1)]) hx hb d_Choice_wantLookupsOf_28 rfl hl (by decide) rfl (fun ls hl => ?_)
  refine lv_aload_n hx hb d_Choice_wantLookupsOf_29 rfl (lv_at hl 2 rfl) ?_
  refine xg_18_font hC hP wq_55 d_Choice_wantLookupsOf_30 ?_
  refine lv_iload_n hx hb d_Choice_wantLookupsOf_33 rfl (lv_at hl 0 rfl) ?_
  refine lv_iconst (v := 2) hx hb d_Choice_wantLookupsOf_34 (by decide) ?_
  refine lv_iadd hx hb d_Choice_wantLookupsOf_35 ?_
  obtain ⟨r4, h_r4, hf⟩ := q_bn_some hf
  refine q_callVp (As := [.int (x3_1003 + 2)]) (rest := []) (q0 := 3) hC (c_xTable_u16_3 l G h_r4) cal_Table_u16 wq_57 ⟨rfl, rfl, Nat.le_of_ble_eq_true rfl, Nat.le_of_ble_eq_true rfl⟩ rfl rfl hP hT hS rfl hl.1 rfl (Nat.le_of_ble_eq_true rfl) d_Choice_wantLookupsOf_36 (fun H locs hP hS => ?_)
  refine lv_istore (lv' := [(4, .int r4), (3, .int x3_1003), (2, .int r1), (0, .ref (G.2.2 18)), (1, .int x1)]) hx hb d_Choice_wantLookupsOf_39 hl (by decide) rfl (fun ls hl => ?_)
  refine lv_iconst (v := 0) hx hb d_Choice_wantLookupsOf_41 (by decide) ?_
  refine lv_istore (lv' := [(5, .int 0), (4, .int r4), (3, .int x3_1003), (2, .int r1), (0, .ref (G.2.2 18)), (1, .int x1)]) hx hb d_Choice_wantLookupsOf_42 hl (by decide) rfl (fun ls hl => ?_)
  exact L_44 _ _ _ _ _ _ _ _ hf hP hS (lv_sub hl [4, 2, 1, 0] rfl)
def xChoice_find_85 (N : Nat) (x3_85 x5_85 x6_85 : Int32) : Nat → Int32 → QSt → Option QSt
  | 0, _, _ => none
  | n_85 + 1, x7_85, st_85 => if x6_85 ≤ x7_85 then (some st_85) else (q_bn (xTable_u16_3 ((x3_85 + 6) + (2 * x7_85)) st_85) (fun r5 => q_bn (xTable_u32_3 ((x5_85 + 2) + (6 * r5)) st_85) (fun r6 => q_bn (xTags_isOn N r6 st_85) (fun r7 => if r7 = 0 then (xChoice_find_85 N x3_85 x5_85 x6_85 n_85 (x7_85 + 1) st_85) else (q_bv (xChoice_wantLookupsOf N r5 st_85) (fun sr8 => xChoice_find_85 N x3_85 x5_85 x6_85 n_85 (x7_85 + 1) sr8))))))
def xChoice_find_59 (N : Nat) (x3_59 : Int32) (st_59 : QSt) : Option QSt :=
  q_bn (xTable_u16_3 6 st_59) (fun r3 => q_bn (xTable_u16_3 (x3_59 + 4) st_59) (fun r4 => xChoice_find_85 N x3_59 r3 r4 N 0 st_59))
def xChoice_find_2 (N : Nat) (x1_2 x2_2 : Int32) : Nat → Int32 → QSt → Option QSt
  | 0, _, _ => none
  | n_2 + 1, x3_2, st_2 => if 64 ≤ x3_2 then (q_bn (xChoice_languageAt N x1_2 x2_2 st_2) (fun r1 => if r1 = (-1) then (some st_2) else (q_bn (xTable_u16_3 (r1 + 2) st_2) (fun r2 => if r2 = 65535 then (xChoice_find_59 N r1 st_2) else (q_bv (xChoice_wantLookupsOf N r2 st_2) (fun sr9 => xChoice_find_59 N r1 sr9)))))) else (q_grd (q_vpb x3_2 64) (q_lt (q_pa st_2 11 x3_2.toNatClampNeg (vp_nar .boolean 0)) (fun s10 => xChoice_find_2 N x1_2 x2_2 n_2 (x3_2 + 1) s10)))
def xChoice_find (N : Nat) (x1 x2 : Int32) (st : QSt) : Option QSt :=
  xChoice_find_2 N x1 x2 N 0 st
set_option maxHeartbeats 4000000 in
set_option maxRecDepth 100000 in
theorem c_xChoice_find (l : Launch) (G : XG) {N : Nat} {x1 x2 : Int32} {st : QSt} {so : QSt} (hf : xChoice_find N x1 x2 st = some so) : q_Mv l y_Choice_find b_Choice_find 9 ({ frames := 4, cells := 0, slots := 0, locals := 92 } : Room) G.1 (xT G) (wX G) [.ref (G.2.2 18), .int x1, .int x2] st so := by
  refine q_Mv_of (by decide) (Nat.le_of_ble_eq_true rfl) (wX_fst G) ?_
  intro p e s m args below meth c A ls hC hr hlk hT hD hA hP hS hl
  have hx := hC.1.1
  have hb := hC.1.2.1
  have hown := hC.1.2.2.2.1
  have hts := hC.1.2.2.2.2
  have hl : lv_has ls 9 [(0, .ref (G.2.2 18)), (1, .int x1), (2, .int x2)] := hl
  have L_85 : ∀ (x3_85 x5_85 x6_85 : Int32) (n_85 : Nat) (x7_85 : Int32) (st_85 : QSt) (H : Heap) (locs : List Loc) (ls : Array Slot), xChoice_find_85 N x3_85 x5_85 x6_85 n_85 x7_85 st_85 = some so → va_P G.1 vwCl (wX G st_85) H → va_S A s.heap H locs → lv_has ls 9 [(0, .ref (G.2.2 18)), (3, .int x3_85), (5, .int x5_85), (6, .int x6_85), (7, .int x7_85)] → W p l e ({ frames := 4, cells := 0, slots := 0, locals := 92 } : Room) s m args below meth c H locs 0 0 (q_Zv below args s G.1 (wX G) so A) (F0 m 85 ls []) := by
    intro x3_85 x5_85 x6_85 n_85
    induction n_85 with
    | zero => intro _ _ _ _ _ hf; exact absurd hf (by simp [xChoice_find_85])
    | succ n_85 ih_85 =>
      intro x7_85 st_85 H locs ls hf hP hS hl
      rw [xChoice_find_85] at hf
      refine lv_iload hx hb d_Choice_find_85 (lv_at hl 4 rfl) ?_
      refine lv_iload hx hb d_Choice_find_87 (lv_at hl 3 rfl) ?_
      refine lv_icmp_ge (tgt := 149) hx hb d_Choice_find_89 (by decide) (fun c1 => ?_) (fun c1 => ?_)
      · rw [if_pos c1] at hf
        exact q_vret hC hr hlk hf hP hS d_Choice_find_149
      rw [if_neg c1] at hf
      refine lv_aload_n hx hb d_Choice_find_92 rfl (lv_at hl 0 rfl) ?_
      refine xg_18_font hC hP wq_55 d_Choice_find_93 ?_
      refine lv_iload_n hx hb d_Choice_find_96 rfl (lv_at hl 1 rfl) ?_
      refine lv_bipush (v := 6) hx hb d_Choice_find_97 (by decide) ?_
      refine lv_iadd hx hb d_Choice_find_99 ?_
      refine lv_iconst (v := 2) hx hb d_Choice_find_100 (by decide) ?_
      refine lv_iload hx hb d_Choice_find_101 (lv_at hl 4 rfl) ?_
      refine lv_imul hx hb d_Choice_find_103 ?_
      refine lv_iadd hx hb d_Choice_find_104 ?_
      obtain ⟨r5, h_r5, hf⟩ := q_bn_some hf
      refine q_callVp (As := [.int ((x3_85 + 6) + (2 * x7_85))]) (rest := []) (q0 := 3) hC (c_xTable_u16_3 l G h_r5) cal_Table_u16 wq_57 ⟨rfl, rfl, Nat.le_of_ble_eq_true rfl, Nat.le_of_ble_eq_true rfl⟩ rfl rfl hP hT hS rfl hl.1 rfl (Nat.le_of_ble_eq_true rfl) d_Choice_find_105 (fun H locs hP hS => ?_)
      refine lv_istore (lv' := [(8, .int r5), (0, .ref (G.2.2 18)), (3, .int x3_85), (5, .int x5_85), (6, .int x6_85), (7, .int x7_85)]) hx hb d_Choice_find_108 hl (by decide) rfl (fun ls hl => ?_)
      refine lv_aload_n hx hb d_Choice_find_110 rfl (lv_at hl 1 rfl) ?_
      refine xg_18_tags hC hP wq_61 d_Choice_find_111 ?_
      refine lv_aload_n hx hb d_Choice_find_114 rfl (lv_at hl 1 rfl) ?_
      refine xg_18_font hC hP wq_55 d_Choice_find_115 ?_
      refine lv_iload hx hb d_Choice_find_118 (lv_at hl 3 rfl) ?_
      refine lv_iconst (v := 2) hx hb d_Choice_find_120 (by decide) ?_
      refine lv_iadd hx hb d_Choice_find_121 ?_
      refine lv_bipush (v := 6) hx hb d_Choice_find_122 (by decide) ?_
      refine lv_iload hx hb d_Choice_find_124 (lv_at hl 0 rfl) ?_
      refine lv_imul hx hb d_Choice_find_126 ?_
      refine lv_iadd hx hb d_Choice_find_127 ?_
      obtain ⟨r6, h_r6, hf⟩ := q_bn_some hf
      refine q_callVp (As := [.int ((x5_85 + 2) + (6 * r5))]) (rest := [.ref (G.2.2 11)]) (q0 := 3) hC (c_xTable_u32_3 l G h_r6) cal_Table_u32 wq_56 ⟨rfl, rfl, Nat.le_of_ble_eq_true rfl, Nat.le_of_ble_eq_true rfl⟩ rfl rfl hP hT hS rfl hl.1 rfl (Nat.le_of_ble_eq_true rfl) d_Choice_find_128 (fun H locs hP hS => ?_)
      obtain ⟨r7, h_r7, hf⟩ := q_bn_some hf
      refine q_callVp (As := [.int r6]) (rest := []) (q0 := 11) hC (c_xTags_isOn l G h_r7) cal_Tags_isOn wq_62 ⟨rfl, rfl, Nat.le_of_ble_eq_true rfl, Nat.le_of_ble_eq_true rfl⟩ rfl rfl hP hT hS rfl hl.1 rfl (Nat.le_of_ble_eq_true rfl) d_Choice_find_131 (fun H locs hP hS => ?_)
      refine lv_if_eq (tgt := 143) hx hb d_Choice_find_134 (by decide) (fun c1 => ?_) (fun c1 => ?_)
      · rw [if_pos c1] at hf
        refine lv_iinc (v := x7_85 + 1) (lv' := [(7, .int (x7_85 + 1)), (8, .int r5), (0, .ref (G.2.2 18)), (3, .int x3_85), (5, .int x5_85), (6, .int x6_85)]) hx hb d_Choice_find_143 hl (k := 5) rfl rfl (by decide) rfl (fun ls hl => ?_)
        refine lv_goto (tgt := 85) hx hb d_Choice_find_146 (by decide) ?_
        exact ih_85 _ _ _ _ _ hf hP hS (lv_sub hl [2, 3, 4, 5, 0] rfl)
      rw [if_neg c1] at hf
      refine lv_aload_n hx hb d_Choice_find_137 rfl (lv_at hl 1 rfl) ?_
      refine lv_iload hx hb d_Choice_find_138 (lv_at hl 0 rfl) ?_
      obtain ⟨sr8, h_r8, hf⟩ := q_bv_some hf
      refine q_callVv (As := [.int r5]) (rest := []) (q0 := 18) hC (c_xChoice_wantLookupsOf l G h_r8) cal_Choice_wantLookupsOf wq_63 ⟨rfl, rfl, Nat.le_of_ble_eq_true rfl, Nat.le_of_ble_eq_true rfl⟩ rfl rfl hP hD hA hS rfl hl.1 rfl (Nat.le_of_ble_eq_true rfl) d_Choice_find_140 (fun H locs hP hS => ?_)
      refine lv_iinc (v := x7_85 + 1) (lv' := [(7, .int (x7_85 + 1)), (8, .int r5), (0, .ref (G.2.2 18)), (3, .int x3_85), (5, .int x5_85), (6, .int x6_85)]) hx hb d_Choice_find_143 hl (k := 5) rfl rfl (by decide) rfl (fun ls hl => ?_)
      refine lv_goto (tgt := 85) hx hb d_Choice_find_146 (by decide) ?_
      exact ih_85 _ _ _ _ _ hf hP hS (lv_sub hl [2, 3, 4, 5, 0] rfl)
  have J_59 : ∀ (x3_59 : Int32) (st_59 : QSt) (H : Heap) (locs : List Loc) (ls : Array Slot), xChoice_find_59 N x3_59 st_59 = some so → va_P G.1 vwCl (wX G st_59) H → va_S A s.heap H locs → lv_has ls 9 [(0, .ref (G.2.2 18)), (3, .int x3_59)] → W p l e ({ frames := 4, cells := 0, slots := 0, locals := 92 } : Room) s m args below meth c H locs 0 0 (q_Zv below args s G.1 (wX G) so A) (F0 m 59 ls []) := by
    intro x3_59 st_59 H locs ls hf hP hS hl
    unfold xChoice_find_59 at hf
    refine lv_aload_n hx hb d_Choice_find_59 rfl (lv_at hl 0 rfl) ?_
    refine xg_18_font hC hP wq_55 d_Choice_find_60 ?_
    refine lv_bipush (v := 6) hx hb d_Choice_find_63 (by decide) ?_
    obtain ⟨r3, h_r3, hf⟩ := q_bn_some hf
    refine q_callVp (As := [.int 6]) (rest := []) (q0 := 3) hC (c_xTable_u16_3 l G h_r3) cal_Table_u16 wq_57 ⟨rfl, rfl, Nat.le_of_ble_eq_true rfl, Nat.le_of_ble_eq_true rfl⟩ rfl rfl hP hT hS rfl hl.1 rfl (Nat.le_of_ble_eq_true rfl) d_Choice_find_65 (fun H locs hP hS => ?_)
    refine lv_istore (lv' := [(5, .int r3), (0, .ref (G.2.2 18)), (3, .int x3_59)]) hx hb d_Choice_find_68 hl (by decide) rfl (fun ls hl => ?_)
    refine lv_aload_n hx hb d_Choice_find_70 rfl (lv_at hl 1 rfl) ?_
    refine xg_18_font hC hP wq_55 d_Choice_find_71 ?_
    refine lv_iload_n hx hb d_Choice_find_74 rfl (lv_at hl 2 rfl) ?_
    refine lv_iconst (v := 4) hx hb d_Choice_find_75 (by decide) ?_
    refine lv_iadd hx hb d_Choice_find_76 ?_
    obtain ⟨r4, h_r4, hf⟩ := q_bn_some hf
    refine q_callVp (As := [.int (x3_59 + 4)]) (rest := []) (q0 := 3) hC (c_xTable_u16_3 l G h_r4) cal_Table_u16 wq_57 ⟨rfl, rfl, Nat.le_of_ble_eq_true rfl, Nat.le_of_ble_eq_true rfl⟩ rfl rfl hP hT hS rfl hl.1 rfl (Nat.le_of_ble_eq_true rfl) d_Choice_find_77 (fun H locs hP hS => ?_)
    refine lv_istore (lv' := [(6, .int r4), (5, .int r3), (0, .ref (G.2.2 18)), (3, .int x3_59)]) hx hb d_Choice_find_80 hl (by decide) rfl (fun ls hl => ?_)
    refine lv_iconst (v := 0) hx hb d_Choice_find_82 (by decide) ?_
    refine lv_istore (lv' := [(7, .int 0), (6, .int r4), (5, .int r3), (0, .ref (G.2.2 18)), (3, .int x3_59)]) hx hb d_Choice_find_83 hl (by decide) rfl (fun ls hl => ?_)
    exact L_85 _ _ _ _ _ _ _ _ _ hf hP hS (lv_sub hl [3, 4, 2, 1, 0] rfl)
  have L_2 : ∀ (x1_2 x2_2 : Int32) (n_2 : Nat) (x3_2 : Int32) (st_2 : QSt) (H : Heap) (locs : List Loc) (ls : Array Slot), xChoice_find_2 N x1_2 x2_2 n_2 x3_2 st_2 = some so → va_P G.1 vwCl (wX G st_2) H → va_S A s.heap H locs → lv_has ls 9 [(0, .ref (G.2.2 18)), (1, .int x1_2), (2, .int x2_2), (3, .int x3_2)] → W p l e ({ frames := 4, cells := 0, slots := 0, locals := 92 } : Room) s m args below meth c H locs 0 0 (q_Zv below args s G.1 (wX G) so A) (F0 m 2 ls []) := by
    intro x1_2 x2_2 n_2
    induction n_2 with
    | zero => intro _ _ _ _ _ hf; exact absurd hf (by simp [xChoice_find_2])
    | succ n_2 ih_2 =>
      intro x3_2 st_2 H locs ls hf hP hS hl
      rw [xChoice_find_2] at hf
      refine lv_iload_n hx hb d_Choice_find_2 rfl (lv_at hl 3 rfl) ?_
      refine lv_bipush (v := 64) hx hb d_Choice_find_3 (by decide) ?_
      refine lv_icmp_ge (tgt := 21) hx hb d_Choice_find_5 (by decide) (fun c1 => ?_) (fun c1 => ?_)
      rotate_left
      · rw [if_neg c1] at hf
        refine lv_aload_n hx hb d_Choice_find_8 rfl (lv_at hl 0 rfl) ?_
        refine xg_18_wanted hC hP wq_60 d_Choice_find_9 ?_
        refine lv_iload_n hx hb d_Choice_find_12 rfl (lv_at hl 3 rfl) ?_
        refine lv_iconst (v := 0) hx hb d_Choice_find_13 (by decide) ?_
        obtain ⟨hi, hf⟩ := q_grd_some hf
        obtain ⟨s10, e_s10, hf⟩ := q_lt_some hf
        refine xs_19 hC hP hD hS e_s10 hi d_Choice_find_14 (fun H locs hP hS => ?_)
        refine lv_iinc (v := x3_2 + 1) (lv' := [(3, .int (x3_2 + 1)), (0, .ref (G.2.2 18)), (1, .int x1_2), (2, .int x2_2)]) hx hb d_Choice_find_15 hl (k := 3) rfl rfl (by decide) rfl (fun ls hl => ?_)
        refine lv_goto (tgt := 2) hx hb d_Choice_find_18 (by decide) ?_
        exact ih_2 _ _ _ _ _ hf hP hS (lv_sub hl [1, 2, 3, 0] rfl)
      rw [if_pos c1] at hf
      refine lv_aload_n hx hb d_Choice_find_21 rfl (lv_at hl 0 rfl) ?_
      refine lv_iload_n hx hb d_Choice_find_22 rfl (lv_at hl 1 rfl) ?_
      refine lv_iload_n hx hb d_Choice_find_23 rfl (lv_at hl 2 rfl) ?_
      obtain ⟨r1, h_r1, hf⟩ := q_bn_some hf
      refine q_callVp (As := [.int x1_2, .int x2_2]) (rest := []) (q0 := 18) hC (c_xChoice_languageAt l G h_r1) cal_Choice_languageAt wq_64 ⟨rfl, rfl, Nat.le_of_ble_eq_true rfl, Nat.le_of_ble_eq_true rfl⟩ rfl rfl hP hT hS rfl hl.1 rfl (Nat.le_of_ble_eq_true rfl) d_Choice_find_24 (fun H locs hP hS => ?_)
      refine lv_istore_n (lv' := [(3, .int r1), (0, .ref (G.2.2 18)), (1, .int x1_2), (2, .int x2_2)]) hx hb d_Choice_find_27 rfl hl (by decide) rfl (fun ls hl => ?_)
      refine lv_iload_n hx hb d_Choice_find_28 rfl (lv_at hl 0 rfl) ?_
      refine lv_iconst (v := (-1)) hx hb d_Choice_find_29 (by decide) ?_
      refine lv_icmp_ne (tgt := 34) hx hb d_Choice_find_30 (by decide) (fun c1 => ?_) (fun c1 => ?_)
      rotate_left
      · rw [if_pos c1] at hf
        exact q_vret hC hr hlk hf hP hS d_Choice_find_33
      rw [if_neg c1] at hf
      refine lv_aload_n hx hb d_Choice_find_34 rfl (lv_at hl 1 rfl) ?_
      refine xg_18_font hC hP wq_55 d_Choice_find_35 ?_
      refine lv_iload_n hx hb d_Choice_find_38 rfl (lv_at hl 0 rfl) ?_
      refine lv_iconst (v := 2) hx hb d_Choice_find_39 (by decide) ?_
      refine lv_iadd hx hb d_Choice_find_40 ?_
      obtain ⟨r2, h_r2, hf⟩ := q_bn_some hf
      refine q_callVp (As := [.int (r1 + 2)]) (rest := []) (q0 := 3) hC (c_xTable_u16_3 l G h_r2) cal_Table_u16 wq_57 ⟨rfl, rfl, Nat.le_of_ble_eq_true rfl, Nat.le_of_ble_eq_true rfl⟩ rfl rfl hP hT hS rfl hl.1 rfl (Nat.le_of_ble_eq_true rfl) d_Choice_find_41 (fun H locs hP hS => ?_)
      refine lv_istore (lv' := [(4, .int r2), (3, .int r1), (0, .ref (G.2.2 18)), (1, .int x1_2), (2, .int x2_2)]) hx hb d_Choice_find_44 hl (by decide) rfl (fun ls hl => ?_)
      refine lv_iload hx hb d_Choice_find_46 (lv_at hl 0 rfl) ?_
      refine lv_ldc (v := 65535) hx hb hown (hts _ wq_65) d_Choice_find_48 ?_
      refine lv_icmp_eq (tgt := 59) hx hb d_Choice_find_50 (by decide) (fun c1 => ?_) (fun c1 => ?_)
      · rw [if_pos c1] at hf
        exact J_59 _ _ _ _ _ hf hP hS (lv_sub hl [2, 1] rfl)
      rw [if_neg c1] at hf
      refine lv_aload_n hx hb d_Choice_find_53 rfl (lv_at hl 2 rfl) ?_
      refine lv_iload hx hb d_Choice_find_54 (lv_at hl 0 rfl) ?_
      obtain ⟨sr9, h_r9, hf⟩ := q_bv_some hf
      refine q_callVv (As := [.int r2]) (rest := []) (q0 := 18) hC (c_xChoice_wantLookupsOf l G h_r9) cal_Choice_wantLookupsOf wq_63 ⟨rfl, rfl, Nat.le_of_ble_eq_true rfl, Nat.le_of_ble_eq_true rfl⟩ rfl rfl hP hD hA hS rfl hl.1 rfl (Nat.le_of_ble_eq_true rfl) d_Choice_find_56 (fun H locs hP hS => ?_)
      exact J_59 _ _ _ _ _ hf hP hS (lv_sub hl [2, 1] rfl)
  unfold xChoice_find at hf
  refine lv_iconst (v := 0) hx hb d_Choice_find_0 (by decide) ?_
  refine lv_istore_n (lv' := [(3, .int 0), (0, .ref (G.2.2 18)), (1, .int x1), (2, .int x2)]) hx hb d_Choice_find_1 rfl hl (by decide) rfl (fun ls hl => ?_)
  exact L_2 _ _ _ _ _ _ _ _ hf hP hS (lv_sub hl [1, 2, 3, 0] rfl)
