def xRun_start_10 (N : Nat) : Nat → Int32 → QSt → Option QSt
  | 0, _, _ => none
  | n_10 + 1, x2_10, st_10 => if (st_10.1 9) ≤ x2_10 then (some st_10) else (q_grd (q_vpb x2_10 800) (q_lt (st_10.2 9 x2_10.toNatClampNeg) (fun v2 => q_grd (q_vpb x2_10 800) (q_lt (q_pa st_10 12 x2_10.toNatClampNeg v2) (fun s3 => q_grd (q_vpb x2_10 800) (q_lt (q_pa s3 13 x2_10.toNatClampNeg 0) (fun s4 => q_grd (q_vpb x2_10 800) (q_lt (q_pa s4 14 x2_10.toNatClampNeg 0) (fun s5 => q_grd (q_vpb x2_10 800) (q_lt (q_pa s5 15 x2_10.toNatClampNeg 0) (fun s6 => q_grd (q_vpb x2_10 800) (q_lt (q_pa s6 16 x2_10.toNatClampNeg (-1)) (fun s7 => xRun_start_10 N n_10 (x2_10 + 1) s7)))))))))))))
def xRun_start (N : Nat) (st : QSt) : Option QSt :=
  q_lt (q_ps st 9 (st.1 8)) (fun s1 => xRun_start_10 N N 0 s1)
set_option maxHeartbeats 4000000 in
set_option maxRecDepth 100000 in
theorem c_xRun_start (l : Launch) (G : XG) {N : Nat} {st : QSt} {so : QSt} (hf : xRun_start N st = some so) : q_Mv l y_Run_start b_Run_start 3 ({ frames := 0, cells := 0, slots := 0, locals := 0 } : Room) G.1 (xT G) (wX G) [.ref (G.2.2 20), .ref (G.2.2 14)] st so := by
  refine q_Mv_of (by decide) (Nat.le_of_ble_eq_true rfl) (wX_fst G) ?_
  intro p e s m args below meth c A ls hC hr hlk hT hD hA hP hS hl
  have hx := hC.1.1
  have hb := hC.1.2.1
  have hown := hC.1.2.2.2.1
  have hts := hC.1.2.2.2.2
  have hl : lv_has ls 3 [(0, .ref (G.2.2 20)), (1, .ref (G.2.2 14))] := hl
  have L_10 : ∀ (n_10 : Nat) (x2_10 : Int32) (st_10 : QSt) (H : Heap) (locs : List Loc) (ls : Array Slot), xRun_start_10 N n_10 x2_10 st_10 = some so → va_P G.1 vwCl (wX G st_10) H → va_S A s.heap H locs → lv_has ls 3 [(0, .ref (G.2.2 20)), (1, .ref (G.2.2 14)), (2, .int x2_10)] → W p l e ({ frames := 0, cells := 0, slots := 0, locals := 0 } : Room) s m args below meth c H locs 0 0 (q_Zv below args s G.1 (wX G) so A) (F0 m 10 ls []) := by
    intro n_10
    induction n_10 with
    | zero => intro _ _ _ _ _ hf; exact absurd hf (by simp [xRun_start_10])
    | succ n_10 ih_10 =>
      intro x2_10 st_10 H locs ls hf hP hS hl
      rw [xRun_start_10] at hf
      refine lv_iload_n hx hb d_Run_start_10 rfl (lv_at hl 2 rfl) ?_
      refine lv_aload_n hx hb d_Run_start_11 rfl (lv_at hl 0 rfl) ?_
      refine xg_20_count hC hP wq_66 d_Run_start_12 ?_
      refine lv_icmp_ge (tgt := 64) hx hb d_Run_start_15 (by decide) (fun c1 => ?_) (fun c1 => ?_)
      · rw [if_pos c1] at hf
        exact q_vret hC hr hlk hf hP hS d_Run_start_64
      rw [if_neg c1] at hf
      refine lv_aload_n hx hb d_Run_start_18 rfl (lv_at hl 0 rfl) ?_
      refine xg_20_width hC hP wq_67 d_Run_start_19 ?_
      refine lv_iload_n hx hb d_Run_start_22 rfl (lv_at hl 2 rfl) ?_
      refine lv_aload_n hx hb d_Run_start_23 rfl (lv_at hl 1 rfl) ?_
      refine xgN_14_width hC hP wq_68 d_Run_start_24 ?_
      refine lv_iload_n hx hb d_Run_start_27 rfl (lv_at hl 2 rfl) ?_
      obtain ⟨hi, hf⟩ := q_grd_some hf
      obtain ⟨v2, e_v2, hf⟩ := q_lt_some hf
      refine xl_16 hC hP e_v2 hi d_Run_start_28 ?_
      obtain ⟨hi, hf⟩ := q_grd_some hf
      obtain ⟨s3, e_s3, hf⟩ := q_lt_some hf
      refine xs_21 hC hP hD hS e_s3 hi d_Run_start_29 (fun H locs hP hS => ?_)
      refine lv_aload_n hx hb d_Run_start_30 rfl (lv_at hl 0 rfl) ?_
      refine xg_20_higher hC hP wq_69 d_Run_start_31 ?_
      refine lv_iload_n hx hb d_Run_start_34 rfl (lv_at hl 2 rfl) ?_
      refine lv_iconst (v := 0) hx hb d_Run_start_35 (by decide) ?_
      obtain ⟨hi, hf⟩ := q_grd_some hf
      obtain ⟨s4, e_s4, hf⟩ := q_lt_some hf
      refine xs_22 hC hP hD hS e_s4 hi d_Run_start_36 (fun H locs hP hS => ?_)
      refine lv_aload_n hx hb d_Run_start_37 rfl (lv_at hl 0 rfl) ?_
      refine xg_20_right hC hP wq_70 d_Run_start_38 ?_
      refine lv_iload_n hx hb d_Run_start_41 rfl (lv_at hl 2 rfl) ?_
      refine lv_iconst (v := 0) hx hb d_Run_start_42 (by decide) ?_
      obtain ⟨hi, hf⟩ := q_grd_some hf
      obtain ⟨s5, e_s5, hf⟩ := q_lt_some hf
      refine xs_23 hC hP hD hS e_s5 hi d_Run_start_43 (fun H locs hP hS => ?_)
      refine lv_aload_n hx hb d_Run_start_44 rfl (lv_at hl 0 rfl) ?_
      refine xg_20_up hC hP wq_71 d_Run_start_45 ?_
      refine lv_iload_n hx hb d_Run_start_48 rfl (lv_at hl 2 rfl) ?_
      refine lv_iconst (v := 0) hx hb d_Run_start_49 (by decide) ?_
      obtain ⟨hi, hf⟩ := q_grd_some hf
      obtain ⟨s6, e_s6, hf⟩ := q_lt_some hf
      refine xs_24 hC hP hD hS e_s6 hi d_Run_start_50 (fun H locs hP hS => ?_)
      refine lv_aload_n hx hb d_Run_start_51 rfl (lv_at hl 0 rfl) ?_
      refine xg_20_hangsOn hC hP wq_72 d_Run_start_52 ?_
      refine lv_iload_n hx hb d_Run_start_55 rfl (lv_at hl 2 rfl) ?_
      refine lv_iconst (v := (-1)) hx hb d_Run_start_56 (by decide) ?_
      obtain ⟨hi, hf⟩ := q_grd_some hf
      obtain ⟨s7, e_s7, hf⟩ := q_lt_some hf
      refine xs_25 hC hP hD hS e_s7 hi d_Run_start_57 (fun H locs hP hS => ?_)
      refine lv_iinc (v := x2_10 + 1) (lv' := [(2, .int (x2_10 + 1)), (0, .ref (G.2.2 20)), (1, .ref (G.2.2 14))]) hx hb d_Run_start_58 hl (k := 2) rfl rfl (by decide) rfl (fun ls hl => ?_)
      refine lv_goto (tgt := 10) hx hb d_Run_start_61 (by decide) ?_
      exact ih_10 _ _ _ _ _ hf hP hS (lv_sub hl [1, 2, 0] rfl)
  unfold xRun_start at hf
  refine lv_aload_n hx hb d_Run_start_0 rfl (lv_at hl 0 rfl) ?_
  refine lv_aload_n hx hb d_Run_start_1 rfl (lv_at hl 1 rfl) ?_
  refine xgN_14_count hC hP wq_73 d_Run_start_2 ?_
  obtain ⟨s1, e_s1, hf⟩ := q_lt_some hf
  refine xp_20_count hC hP hD hS e_s1 wq_66 d_Run_start_5 (fun H locs hP hS => ?_)
  refine lv_iconst (v := 0) hx hb d_Run_start_8 (by decide) ?_
  refine lv_istore_n (lv' := [(2, .int 0), (0, .ref (G.2.2 20)), (1, .ref (G.2.2 14))]) hx hb d_Run_start_9 rfl hl (by decide) rfl (fun ls hl => ?_)
  exact L_10 _ _ _ _ _ _ hf hP hS (lv_sub hl [1, 2, 0] rfl)
def xRun_goOver_3 (N : Nat) (x1_3 x3_3 x4_3 : Int32) : Nat → Int32 → QSt → Option QSt
  | 0, _, _ => none
  | n_3 + 1, x5_3, st_3 => if x3_3 ≤ x5_3 then (some st_3) else (q_grd (q_vpb x1_3 800) (q_lt (st_3.2 14 x1_3.toNatClampNeg) (fun v1 => q_grd (q_vpb x5_3 800) (q_lt (st_3.2 12 x5_3.toNatClampNeg) (fun v2 => q_grd (q_vpb x1_3 800) (q_lt (q_pa st_3 14 x1_3.toNatClampNeg (v1 + (x4_3 * v2))) (fun s3 => q_grd (q_vpb x1_3 800) (q_lt (s3.2 15 x1_3.toNatClampNeg) (fun v4 => q_grd (q_vpb x5_3 800) (q_lt (s3.2 13 x5_3.toNatClampNeg) (fun v5 => q_grd (q_vpb x1_3 800) (q_lt (q_pa s3 15 x1_3.toNatClampNeg (v4 + (x4_3 * v5))) (fun s6 => xRun_goOver_3 N x1_3 x3_3 x4_3 n_3 (x5_3 + 1) s6)))))))))))))
def xRun_goOver (N : Nat) (x1 x2 x3 x4 : Int32) (st : QSt) : Option QSt :=
  xRun_goOver_3 N x1 x3 x4 N x2 st
set_option maxHeartbeats 4000000 in
set_option maxRecDepth 100000 in
theorem c_xRun_goOver (l : Launch) (G : XG) {N : Nat} {x1 x2 x3 x4 : Int32} {st : QSt} {so : QSt} (hf : xRun_goOver N x1 x2 x3 x4 st = some so) : q_Mv l y_Run_goOver b_Run_goOver 6 ({ frames := 0, cells := 0, slots := 0, locals := 0 } : Room) G.1 (xT G) (wX G) [.ref (G.2.2 20), .int x1, .int x2, .int x3, .int x4] st so := by
  refine q_Mv_of (by decide) (Nat.le_of_ble_eq_true rfl) (wX_fst G) ?_
  intro p e s m args below meth c A ls hC hr hlk hT hD hA hP hS hl
  have hx := hC.1.1
  have hb := hC.1.2.1
  have hown := hC.1.2.2.2.1
  have hts := hC.1.2.2.2.2
  have hl : lv_has ls 6 [(0, .ref (G.2.2 20)), (1, .int x1), (2, .int x2), (3, .int x3), (4, .int x4)] := hl
  have L_3 : ∀ (x1_3 x3_3 x4_3 : Int32) (n_3 : Nat) (x5_3 : Int32) (st_3 : QSt) (H : Heap) (locs : List Loc) (ls : Array Slot), xRun_goOver_3 N x1_3 x3_3 x4_3 n_3 x5_3 st_3 = some so → va_P G.1 vwCl (wX G st_3) H → va_S A s.heap H locs → lv_has ls 6 [(0, .ref (G.2.2 20)), (1, .int x1_3), (3, .int x3_3), (4, .int x4_3), (5, .int x5_3)] → W p l e ({ frames := 0, cells := 0, slots := 0, locals := 0 } : Room) s m args below meth c H locs 0 0 (q_Zv below args s G.1 (wX G) so A) (F0 m 3 ls []) := by
    intro x1_3 x3_3 x4_3 n_3
    induction n_3 with
    | zero => intro _ _ _ _ _ hf; exact absurd hf (by simp [xRun_goOver_3])
    | succ n_3 ih_3 =>
      intro x5_3 st_3 H locs ls hf hP hS hl
      rw [xRun_goOver_3] at hf
      refine lv_iload hx hb d_Run_goOver_3 (lv_at hl 4 rfl) ?_
      refine lv_iload_n hx hb d_Run_goOver_5 rfl (lv_at hl 2 rfl) ?_
      refine lv_icmp_ge (tgt := 53) hx hb d_Run_goOver_6 (by decide) (fun c1 => ?_) (fun c1 => ?_)
      · rw [if_pos c1] at hf
        exact q_vret hC hr hlk hf hP hS d_Run_goOver_53
      rw [if_neg c1] at hf
      refine lv_aload_n hx hb d_Run_goOver_9 rfl (lv_at hl 0 rfl) ?_
      refine xg_20_right hC hP wq_70 d_Run_goOver_10 ?_
      refine lv_iload_n hx hb d_Run_goOver_13 rfl (lv_at hl 1 rfl) ?_
      refine lv_dup2_11 hx hb d_Run_goOver_14 rfl rfl ?_
      obtain ⟨hi, hf⟩ := q_grd_some hf
      obtain ⟨v1, e_v1, hf⟩ := q_lt_some hf
      refine xl_23 hC hP e_v1 hi d_Run_goOver_15 ?_
      refine lv_iload hx hb d_Run_goOver_16 (lv_at hl 3 rfl) ?_
      refine lv_aload_n hx hb d_Run_goOver_18 rfl (lv_at hl 0 rfl) ?_
      refine xg_20_width hC hP wq_67 d_Run_goOver_19 ?_
      refine lv_iload hx hb d_Run_goOver_22 (lv_at hl 4 rfl) ?_
      obtain ⟨hi, hf⟩ := q_grd_some hf
      obtain ⟨v2, e_v2, hf⟩ := q_lt_some hf
      refine xl_21 hC hP e_v2 hi d_Run_goOver_24 ?_
      refine lv_imul hx hb d_Run_goOver_25 ?_
      refine lv_iadd hx hb d_Run_goOver_26 ?_
      obtain ⟨hi, hf⟩ := q_grd_some hf
      obtain ⟨s3, e_s3, hf⟩ := q_lt_some hf
      refine xs_23 hC hP hD hS e_s3 hi d_Run_goOver_27 (fun H locs hP hS => ?_)
      refine lv_aload_n hx hb d_Run_goOver_28 rfl (lv_at hl 0 rfl) ?_
      refine xg_20_up hC hP wq_71 d_Run_goOver_29 ?_
      refine lv_iload_n hx hb d_Run_goOver_32 rfl (lv_at hl 1 rfl) ?_
      refine lv_dup2_11 hx hb d_Run_goOver_33 rfl rfl ?_
      obtain ⟨hi, hf⟩ := q_grd_some hf
      obtain ⟨v4, e_v4, hf⟩ := q_lt_some hf
      refine xl_24 hC hP e_v4 hi d_Run_goOver_34 ?_
      refine lv_iload hx hb d_Run_goOver_35 (lv_at hl 3 rfl) ?_
      refine lv_aload_n hx hb d_Run_goOver_37 rfl (lv_at hl 0 rfl) ?_
      refine xg_20_higher hC hP wq_69 d_Run_goOver_38 ?_
      refine lv_iload hx hb d_Run_goOver_41 (lv_at hl 4 rfl) ?_
      obtain ⟨hi, hf⟩ := q_grd_some hf
      obtain ⟨v5, e_v5, hf⟩ := q_lt_some hf
      refine xl_22 hC hP e_v5 hi d_Run_goOver_43 ?_
      refine lv_imul hx hb d_Run_goOver_44 ?_
      refine lv_iadd hx hb d_Run_goOver_45 ?_
      obtain ⟨hi, hf⟩ := q_grd_some hf
      obtain ⟨s6, e_s6, hf⟩ := q_lt_some hf
      refine xs_24 hC hP hD hS e_s6 hi d_Run_goOver_46 (fun H locs hP hS => ?_)
      refine lv_iinc (v := x5_3 + 1) (lv' := [(5, .int (x5_3 + 1)), (0, .ref (G.2.2 20)), (1, .int x1_3), (3, .int x3_3), (4, .int x4_3)]) hx hb d_Run_goOver_47 hl (k := 4) rfl rfl (by decide) rfl (fun ls hl => ?_)
      refine lv_goto (tgt := 3) hx hb d_Run_goOver_50 (by decide) ?_
      exact ih_3 _ _ _ _ _ hf hP hS (lv_sub hl [1, 2, 3, 4, 0] rfl)
  unfold xRun_goOver at hf
  refine lv_iload_n hx hb d_Run_goOver_0 rfl (lv_at hl 2 rfl) ?_
  refine lv_istore (lv' := [(5, .int x2), (0, .ref (G.2.2 20)), (1, .int x1), (2, .int x2), (3, .int x3), (4, .int x4)]) hx hb d_Run_goOver_1 hl (by decide) rfl (fun ls hl => ?_)
  exact L_3 _ _ _ _ _ _ _ _ _ hf hP hS (lv_sub hl [1, 2, 4, 5, 0] rfl)
def xRun_finish_2 (N : Nat) (x1_2 : Int32) : Nat → Int32 → QSt → Option QSt
  | 0, _, _ => none
  | n_2 + 1, x2_2, st_2 => if (st_2.1 9) ≤ x2_2 then (some st_2) else (q_grd (q_vpb x2_2 800) (q_lt (st_2.2 16 x2_2.toNatClampNeg) (fun v1 => if v1 < 0 then (xRun_finish_2 N x1_2 n_2 (x2_2 + 1) st_2) else (if v1 < x2_2 then (q_grd (q_vpb x2_2 800) (q_lt (st_2.2 15 x2_2.toNatClampNeg) (fun v2 => q_grd (q_vpb x2_2 800) (q_lt (st_2.2 19 x2_2.toNatClampNeg) (fun v3 => q_grd (q_vpb v1 800) (q_lt (st_2.2 15 v1.toNatClampNeg) (fun v4 => q_grd (q_vpb x2_2 800) (q_lt (q_pa st_2 15 x2_2.toNatClampNeg (v2 + (v3 + v4))) (fun s5 => q_grd (q_vpb x2_2 800) (q_lt (s5.2 17 x2_2.toNatClampNeg) (fun v6 => if v6 = 0 then (q_grd (q_vpb x2_2 800) (q_lt (s5.2 14 x2_2.toNatClampNeg) (fun v7 => q_grd (q_vpb x2_2 800) (q_lt (s5.2 18 x2_2.toNatClampNeg) (fun v8 => q_grd (q_vpb v1 800) (q_lt (s5.2 14 v1.toNatClampNeg) (fun v9 => q_grd (q_vpb x2_2 800) (q_lt (q_pa s5 14 x2_2.toNatClampNeg (v7 + (v8 + v9))) (fun s10 => if x1_2 = 0 then (q_bv (xRun_goOver N x2_2 v1 x2_2 (-1) s10) (fun sr11 => xRun_finish_2 N x1_2 n_2 (x2_2 + 1) sr11)) else (q_bv (xRun_goOver N x2_2 (v1 + 1) (x2_2 + 1) 1 s10) (fun sr12 => xRun_finish_2 N x1_2 n_2 (x2_2 + 1) sr12))))))))))) else (xRun_finish_2 N x1_2 n_2 (x2_2 + 1) s5)))))))))))) else (xRun_finish_2 N x1_2 n_2 (x2_2 + 1) st_2)))))
def xRun_finish (N : Nat) (x1 : Int32) (st : QSt) : Option QSt :=
  xRun_finish_2 N x1 N 0 st
set_option maxHeartbeats 4000000 in
set_option maxRecDepth 100000 in
theorem c_xRun_finish (l : Launch) (G : XG) {N : Nat} {x1 : Int32} {st : QSt} {so : QSt} (hf : xRun_finish N x1 st = some so) : q_Mv l y_Run_finish b_Run_finish 4 ({ frames := 1, cells := 0, slots := 0, locals := 25 } : Room) G.1 (xT G) (wX G) [.ref (G.2.2 20), .int x1] st so := by
  refine q_Mv_of (by decide) (Nat.le_of_ble_eq_true rfl) (wX_fst G) ?_
  intro p e s m args below meth c A ls hC hr hlk hT hD hA hP hS hl
  have hx := hC.1.1
  have hb := hC.1.2.1
  have hown := hC.1.2.2.2.1
  have hts := hC.1.2.2.2.2
  have hl : lv_has ls 4 [(0, .ref (G.2.2 20)), (1, .int x1)] := hl
  have L_2 : ∀ (x1_2 : Int32) (n_2 : Nat) (x2_2 : Int32) (st_2 : QSt) (H : Heap) (locs : List Loc) (ls : Array Slot), xRun_finish_2 N x1_2 n_2 x2_2 st_2 = some so → va_P G.1 vwCl (wX G st_2) H → va_S A s.heap H locs → lv_has ls 4 [(0, .ref (G.2.2 20)), (1, .int x1_2), (2, .int x2_2)] → W p l e ({ frames := 1, cells := 0, slots := 0, locals := 25 } : Room) s m args below meth c H locs 0 0 (q_Zv below args s G.1 (wX G) so A) (F0 m 2 ls []) := by
    intro x1_2 n_2
    induction n_2 with
    | zero => intro _ _ _ _ _ hf; exact absurd hf (by simp [xRun_finish_2])
    | succ n_2 ih_2 =>
      intro x2_2 st_2 H locs ls hf hP hS hl
      rw [xRun_finish_2] at hf
      refine lv_iload_n hx hb d_Run_finish_2 rfl (lv_at hl 2 rfl) ?_
      refine lv_aload_n hx hb d_Run_finish_3 rfl (lv_at hl 0 rfl) ?_
      refine xg_20_count hC hP wq_66 d_Run_finish_4 ?_
      refine lv_icmp_ge (tgt := 118) hx hb d_Run_finish_7 (by decide) (fun c1 => ?_) (fun c1 => ?_)
      · rw [if_pos c1] at hf
        exact q_vret hC hr hlk hf hP hS d_Run_finish_118
      rw [if_neg c1] at hf
      refine lv_aload_n hx hb d_Run_finish_10 rfl (lv_at hl 0 rfl) ?_
      refine xg_20_hangsOn hC hP wq_72 d_Run_finish_11 ?_
      refine lv_iload_n hx hb d_Run_finish_14 rfl (lv_at hl 2 rfl) ?_
      obtain ⟨hi, hf⟩ := q_grd_some hf
      obtain ⟨v1, e_v1, hf⟩ := q_lt_some hf
      refine xl_25 hC hP e_v1 hi d_Run_finish_15 ?_
      refine lv_istore_n (lv' := [(3, .int v1), (0, .ref (G.2.2 20)), (1, .int x1_2), (2, .int x2_2)]) hx hb d_Run_finish_16 rfl hl (by decide) rfl (fun ls hl => ?_)
      refine lv_iload_n hx hb d_Run_finish_17 rfl (lv_at hl 0 rfl) ?_
      refine lv_if_lt (tgt := 112) hx hb d_Run_finish_18 (by decide) (fun c1 => ?_) (fun c1 => ?_)
      · rw [if_pos c1] at hf
        refine lv_iinc (v := x2_2 + 1) (lv' := [(2, .int (x2_2 + 1)), (3, .int v1), (0, .ref (G.2.2 20)), (1, .int x1_2)]) hx hb d_Run_finish_112 hl (k := 3) rfl rfl (by decide) rfl (fun ls hl => ?_)
        refine lv_goto (tgt := 2) hx hb d_Run_finish_115 (by decide) ?_
        exact ih_2 _ _ _ _ _ hf hP hS (lv_sub hl [2, 3, 0] rfl)
      rw [if_neg c1] at hf
      refine lv_iload_n hx hb d_Run_finish_21 rfl (lv_at hl 0 rfl) ?_
      refine lv_iload_n hx hb d_Run_finish_22 rfl (lv_at hl 3 rfl) ?_
      refine lv_icmp_lt (tgt := 29) hx hb d_Run_finish_23 (by decide) (fun c1 => ?_) (fun c1 => ?_)
      rotate_left
      · rw [if_neg c1] at hf
        refine lv_goto (tgt := 112) hx hb d_Run_finish_26 (by decide) ?_
        refine lv_iinc (v := x2_2 + 1) (lv' := [(2, .int (x2_2 + 1)), (3, .int v1), (0, .ref (G.2.2 20)), (1, .int x1_2)]) hx hb d_Run_finish_112 hl (k := 3) rfl rfl (by decide) rfl (fun ls hl => ?_)
        refine lv_goto (tgt := 2) hx hb d_Run_finish_115 (by decide) ?_
        exact ih_2 _ _ _ _ _ hf hP hS (lv_sub hl [2, 3, 0] rfl)
      rw [if_pos c1] at hf
      refine lv_aload_n hx hb d_Run_finish_29 rfl (lv_at hl 1 rfl) ?_
      refine xg_20_up hC hP wq_71 d_Run_finish_30 ?_
      refine lv_iload_n hx hb d_Run_finish_33 rfl (lv_at hl 3 rfl) ?_
      refine lv_dup2_11 hx hb d_Run_finish_34 rfl rfl ?_
      obtain ⟨hi, hf⟩ := q_grd_some hf
      obtain ⟨v2, e_v2, hf⟩ := q_lt_some hf
      refine xl_24 hC hP e_v2 hi d_Run_finish_35 ?_
      refine lv_aload_n hx hb d_Run_finish_36 rfl (lv_at hl 1 rfl) ?_
      refine xg_20_hangsUp hC hP wq_74 d_Run_finish_37 ?_
      refine lv_iload_n hx hb d_Run_finish_40 rfl (lv_at hl 3 rfl) ?_
      obtain ⟨hi, hf⟩ := q_grd_some hf
      obtain ⟨v3, e_v3, hf⟩ := q_lt_some hf
      refine xl_28 hC hP e_v3 hi d_Run_finish_41 ?_
      refine lv_aload_n hx hb d_Run_finish_42 rfl (lv_at hl 1 rfl) ?_
      refine xg_20_up hC hP wq_71 d_Run_finish_43 ?_
      refine lv_iload_n hx hb d_Run_finish_46 rfl (lv_at hl 0 rfl) ?_
      obtain ⟨hi, hf⟩ := q_grd_some hf
      obtain ⟨v4, e_v4, hf⟩ := q_lt_some hf
      refine xl_24 hC hP e_v4 hi d_Run_finish_47 ?_
      refine lv_iadd hx hb d_Run_finish_48 ?_
      refine lv_iadd hx hb d_Run_finish_49 ?_
      obtain ⟨hi, hf⟩ := q_grd_some hf
      obtain ⟨s5, e_s5, hf⟩ := q_lt_some hf
      refine xs_24 hC hP hD hS e_s5 hi d_Run_finish_50 (fun H locs hP hS => ?_)
      refine lv_aload_n hx hb d_Run_finish_51 rfl (lv_at hl 1 rfl) ?_
      refine xg_20_hangsByCursive hC hP wq_75 d_Run_finish_52 ?_
      refine lv_iload_n hx hb d_Run_finish_55 rfl (lv_at hl 3 rfl) ?_
      obtain ⟨hi, hf⟩ := q_grd_some hf
      obtain ⟨v6, e_v6, hf⟩ := q_lt_some hf
      refine xl_26 hC hP e_v6 hi d_Run_finish_56 ?_
      refine lv_if_eq (tgt := 63) hx hb d_Run_finish_57 (by decide) (fun c1 => ?_) (fun c1 => ?_)
      rotate_left
      · rw [if_neg c1] at hf
        refine lv_goto (tgt := 112) hx hb d_Run_finish_60 (by decide) ?_
        refine lv_iinc (v := x2_2 + 1) (lv' := [(2, .int (x2_2 + 1)), (3, .int v1), (0, .ref (G.2.2 20)), (1, .int x1_2)]) hx hb d_Run_finish_112 hl (k := 3) rfl rfl (by decide) rfl (fun ls hl => ?_)
        refine lv_goto (tgt := 2) hx hb d_Run_finish_115 (by decide) ?_
        exact ih_2 _ _ _ _ _ hf hP hS (lv_sub hl [2, 3, 0] rfl)
      rw [if_pos c1] at hf
      refine lv_aload_n hx hb d_Run_finish_63 rfl (lv_at hl 1 rfl) ?_
      refine xg_20_right hC hP wq_70 d_Run_finish_64 ?_
      refine lv_iload_n hx hb d_Run_finish_67 rfl (lv_at hl 3 rfl) ?_
      refine lv_dup2_11 hx hb d_Run_finish_68 rfl rfl ?_
      obtain ⟨hi, hf⟩ := q_grd_some hf
      obtain ⟨v7, e_v7, hf⟩ := q_lt_some hf
      refine xl_23 hC hP e_v7 hi d_Run_finish_69 ?_
      refine lv_aload_n hx hb d_Run_finish_70 rfl (lv_at hl 1 rfl) ?_
      refine xg_20_hangsRight hC hP wq_76 d_Run_finish_71 ?_
      refine lv_iload_n hx hb d_Run_finish_74 rfl (lv_at hl 3 rfl) ?_
      obtain ⟨hi, hf⟩ := q_grd_some hf
      obtain ⟨v8, e_v8, hf⟩ := q_lt_some hf
      refine xl_27 hC hP e_v8 hi d_Run_finish_75 ?_
      refine lv_aload_n hx hb d_Run_finish_76 rfl (lv_at hl 1 rfl) ?_
      refine xg_20_right hC hP wq_70 d_Run_finish_77 ?_
      refine lv_iload_n hx hb d_Run_finish_80 rfl (lv_at hl 0 rfl) ?_
      obtain ⟨hi, hf⟩ := q_grd_some hf
      obtain ⟨v9, e_v9, hf⟩ := q_lt_some hf
      refine xl_23 hC hP e_v9 hi d_Run_finish_81 ?_
      refine lv_iadd hx hb d_Run_finish_82 ?_
      refine lv_iadd hx hb d_Run_finish_83 ?_
      obtain ⟨hi, hf⟩ := q_grd_some hf
      obtain ⟨s10, e_s10, hf⟩ := q_lt_some hf
      refine xs_23 hC hP hD hS e_s10 hi d_Run_finish_84 (fun H locs hP hS => ?_)
      refine lv_iload_n hx hb d_Run_finish_85 rfl (lv_at hl 2 rfl) ?_
      refine lv_if_eq (tgt := 104) hx hb d_Run_finish_86 (by decide) (fun c1 => ?_) (fun c1 => ?_)
      · rw [if_pos c1] at hf
        refine lv_aload_n hx hb d_Run_finish_104 rfl (lv_at hl 1 rfl) ?_
        refine lv_iload_n hx hb d_Run_finish_105 rfl (lv_at hl 3 rfl) ?_
        refine lv_iload_n hx hb d_Run_finish_106 rfl (lv_at hl 0 rfl) ?_
        refine lv_iload_n hx hb d_Run_finish_107 rfl (lv_at hl 3 rfl) ?_
        refine lv_iconst (v := (-1)) hx hb d_Run_finish_108 (by decide) ?_
        obtain ⟨sr11, h_r11, hf⟩ := q_bv_some hf
        refine q_callVv (As := [.int x2_2, .int v1, .int x2_2, .int (-1)]) (rest := []) (q0 := 20) hC (c_xRun_goOver l G h_r11) cal_Run_goOver wq_77 ⟨rfl, rfl, Nat.le_of_ble_eq_true rfl, Nat.le_of_ble_eq_true rfl⟩ rfl rfl hP hD hA hS rfl hl.1 rfl (Nat.le_of_ble_eq_true rfl) d_Run_finish_109 (fun H locs hP hS => ?_)
        refine lv_iinc (v := x2_2 + 1) (lv' := [(2, .int (x2_2 + 1)), (3, .int v1), (0, .ref (G.2.2 20)), (1, .int x1_2)]) hx hb d_Run_finish_112 hl (k := 3) rfl rfl (by decide) rfl (fun ls hl => ?_)
        refine lv_goto (tgt := 2) hx hb d_Run_finish_115 (by decide) ?_
        exact ih_2 _ _ _ _ _ hf hP hS (lv_sub hl [2, 3, 0] rfl)
      rw [if_neg c1] at hf
      refine lv_aload_n hx hb d_Run_finish_89 rfl (lv_at hl 1 rfl) ?_
      refine lv_iload_n hx hb d_Run_finish_90 rfl (lv_at hl 3 rfl) ?_
      refine lv_iload_n hx hb d_Run_finish_91 rfl (lv_at hl 0 rfl) ?_
      refine lv_iconst (v := 1) hx hb d_Run_finish_92 (by decide) ?_
      refine lv_iadd hx hb d_Run_finish_93 ?_
      refine lv_iload_n hx hb d_Run_finish_94 rfl (lv_at hl 3 rfl) ?_
      refine lv_iconst (v := 1) hx hb d_Run_finish_95 (by decide) ?_
      refine lv_iadd hx hb d_Run_finish_96 ?_
      refine lv_iconst (v := 1) hx hb d_Run_finish_97 (by decide) ?_
      obtain ⟨sr12, h_r12, hf⟩ := q_bv_some hf
      refine q_callVv (As := [.int x2_2, .int (v1 + 1), .int (x2_2 + 1), .int 1]) (rest := []) (q0 := 20) hC (c_xRun_goOver l G h_r12) cal_Run_goOver wq_77 ⟨rfl, rfl, Nat.le_of_ble_eq_true rfl, Nat.le_of_ble_eq_true rfl⟩ rfl rfl hP hD hA hS rfl hl.1 rfl (Nat.le_of_ble_eq_true rfl) d_Run_finish_98 (fun H locs hP hS => ?_)
      refine lv_goto (tgt := 112) hx hb d_Run_finish_101 (by decide) ?_
      refine lv_iinc (v := x2_2 + 1) (lv' := [(2, .int (x2_2 + 1)), (3, .int v1), (0, .ref (G.2.2 20)), (1, .int x1_2)]) hx hb d_Run_finish_112 hl (k := 3) rfl rfl (by decide) rfl (fun ls hl => ?_)
      refine lv_goto (tgt := 2) hx hb d_Run_finish_115 (by decide) ?_
      exact ih_2 _ _ _ _ _ hf hP hS (lv_sub hl [2, 3, 0] rfl)
  unfold xRun_finish at hf
  refine lv_iconst (v := 0) hx hb d_Run_finish_0 (by decide) ?_
  refine lv_istore_n (lv' := [(2, .int 0), (0, .ref (G.2.2 20)), (1, .int x1)]) hx hb d_Run_finish_1 rfl hl (by decide) rfl (fun ls hl => ?_)
  exact L_2 _ _ _ _ _ _ _ hf hP hS (lv_sub hl [1, 2, 0] rfl)
def xRun_widthsBefore_4 (N : Nat) (st : QSt) (x1_4 : Int32) : Nat → Int32 → Int32 → Option Int32
  | 0, _, _ => none
  | n_4 + 1, x2_4, x3_4 => if x1_4 ≤ x3_4 then (some x2_4) else (q_grd (q_vpb x3_4 800) (q_lt (st.2 12 x3_4.toNatClampNeg) (fun v1 => q_lt (x2_4 + v1) (fun x2_1002 => xRun_widthsBefore_4 N st x1_4 n_4 x2_1002 (x3_4 + 1)))))
def xRun_widthsBefore (N : Nat) (x1 : Int32) (st : QSt) : Option Int32 :=
  xRun_widthsBefore_4 N st x1 N 0 0
set_option maxHeartbeats 4000000 in
set_option maxRecDepth 100000 in
theorem c_xRun_widthsBefore (l : Launch) (G : XG) {N : Nat} {x1 : Int32} {st : QSt} {ro : Int32} (hf : xRun_widthsBefore N x1 st = some ro) : q_Mp l y_Run_widthsBefore b_Run_widthsBefore 4 .int ({ frames := 0, cells := 0, slots := 0, locals := 0 } : Room) G.1 (xT G) (wX G) [.ref (G.2.2 20), .int x1] st ro := by
  refine q_Mp_of (by decide) (Nat.le_of_ble_eq_true rfl) (wX_fst G) ?_
  intro p e s m args below meth c ls hC hr hlk hT hP hS hl
  have hx := hC.1.1
  have hb := hC.1.2.1
  have hown := hC.1.2.2.2.1
  have hts := hC.1.2.2.2.2
  have hl : lv_has ls 4 [(0, .ref (G.2.2 20)), (1, .int x1)] := hl
  have L_4 : ∀ (x1_4 : Int32) (n_4 : Nat) (x2_4 x3_4 : Int32) (H : Heap) (locs : List Loc) (ls : Array Slot), xRun_widthsBefore_4 N st x1_4 n_4 x2_4 x3_4 = some ro → va_P G.1 vwCl (wX G st) H → va_S (fun _ => False) s.heap H locs → lv_has ls 4 [(0, .ref (G.2.2 20)), (1, .int x1_4), (2, .int x2_4), (3, .int x3_4)] → W p l e ({ frames := 0, cells := 0, slots := 0, locals := 0 } : Room) s m args below meth c H locs 0 0 (q_Zp below args s ro) (F0 m 4 ls []) := by
    intro x1_4 n_4
    induction n_4 with
    | zero => intro _ _ _ _ _ hf; exact absurd hf (by simp [xRun_widthsBefore_4])
    | succ n_4 ih_4 =>
      intro x2_4 x3_4 H locs ls hf hP hS hl
      rw [xRun_widthsBefore_4] at hf
      refine lv_iload_n hx hb d_Run_widthsBefore_4 rfl (lv_at hl 3 rfl) ?_
      refine lv_iload_n hx hb d_Run_widthsBefore_5 rfl (lv_at hl 1 rfl) ?_
      refine lv_icmp_ge (tgt := 24) hx hb d_Run_widthsBefore_6 (by decide) (fun c1 => ?_) (fun c1 => ?_)
      · rw [if_pos c1] at hf
        refine lv_iload_n hx hb d_Run_widthsBefore_24 rfl (lv_at hl 2 rfl) ?_
        exact q_iretP hC hr hlk hf (by first | rfl | decide) hS d_Run_widthsBefore_25
      rw [if_neg c1] at hf
      refine lv_iload_n hx hb d_Run_widthsBefore_9 rfl (lv_at hl 2 rfl) ?_
      refine lv_aload_n hx hb d_Run_widthsBefore_10 rfl (lv_at hl 0 rfl) ?_
      refine xg_20_width hC hP wq_67 d_Run_widthsBefore_11 ?_
      refine lv_iload_n hx hb d_Run_widthsBefore_14 rfl (lv_at hl 3 rfl) ?_
      obtain ⟨hi, hf⟩ := q_grd_some hf
      obtain ⟨v1, e_v1, hf⟩ := q_lt_some hf
      refine xl_21 hC hP e_v1 hi d_Run_widthsBefore_15 ?_
      refine lv_iadd hx hb d_Run_widthsBefore_16 ?_
      obtain ⟨x2_1002, e_x2_1002, hf⟩ := q_lt_some hf
      refine q_topi e_x2_1002 ?_
      refine lv_istore_n (lv' := [(2, .int x2_1002), (0, .ref (G.2.2 20)), (1, .int x1_4), (3, .int x3_4)]) hx hb d_Run_widthsBefore_17 rfl hl (by decide) rfl (fun ls hl => ?_)
      refine lv_iinc (v := x3_4 + 1) (lv' := [(3, .int (x3_4 + 1)), (2, .int x2_1002), (0, .ref (G.2.2 20)), (1, .int x1_4)]) hx hb d_Run_widthsBefore_18 hl (k := 3) rfl rfl (by decide) rfl (fun ls hl => ?_)
      refine lv_goto (tgt := 4) hx hb d_Run_widthsBefore_21 (by decide) ?_
      exact ih_4 _ _ _ _ _ hf hP hS (lv_sub hl [2, 3, 1, 0] rfl)
  unfold xRun_widthsBefore at hf
  refine lv_iconst (v := 0) hx hb d_Run_widthsBefore_0 (by decide) ?_
  refine lv_istore_n (lv' := [(2, .int 0), (0, .ref (G.2.2 20)), (1, .int x1)]) hx hb d_Run_widthsBefore_1 rfl hl (by decide) rfl (fun ls hl => ?_)
  refine lv_iconst (v := 0) hx hb d_Run_widthsBefore_2 (by decide) ?_
  refine lv_istore_n (lv' := [(3, .int 0), (2, .int 0), (0, .ref (G.2.2 20)), (1, .int x1)]) hx hb d_Run_widthsBefore_3 rfl hl (by decide) rfl (fun ls hl => ?_)
  exact L_4 _ _ _ _ _ _ _ hf hP hS (lv_sub hl [2, 3, 1, 0] rfl)
def xRun_getMore (x1 x2 x3 : Int32) (st : QSt) : Option QSt :=
  if x1 < 0 then (some st) else (if x1 < (st.1 9) then (if x2 = 0 then (q_grd (q_vpb x1 800) (q_lt (st.2 14 x1.toNatClampNeg) (fun v7 => q_grd (q_vpb x1 800) (q_lt (q_pa st 14 x1.toNatClampNeg (v7 + x3)) (fun s8 => some s8))))) else (if x2 = 1 then (q_grd (q_vpb x1 800) (q_lt (st.2 15 x1.toNatClampNeg) (fun v5 => q_grd (q_vpb x1 800) (q_lt (q_pa st 15 x1.toNatClampNeg (v5 + x3)) (fun s6 => some s6))))) else (if x2 = 2 then (q_grd (q_vpb x1 800) (q_lt (st.2 12 x1.toNatClampNeg) (fun v3 => q_grd (q_vpb x1 800) (q_lt (q_pa st 12 x1.toNatClampNeg (v3 + x3)) (fun s4 => some s4))))) else (if x2 = 3 then (q_grd (q_vpb x1 800) (q_lt (st.2 13 x1.toNatClampNeg) (fun v1 => q_grd (q_vpb x1 800) (q_lt (q_pa st 13 x1.toNatClampNeg (v1 + x3)) (fun s2 => some s2))))) else (some st))))) else (some st))
set_option maxHeartbeats 4000000 in
set_option maxRecDepth 100000 in
theorem c_xRun_getMore (l : Launch) (G : XG) {x1 x2 x3 : Int32} {st : QSt} {so : QSt} (hf : xRun_getMore x1 x2 x3 st = some so) : q_Mv l y_Run_getMore b_Run_getMore 4 ({ frames := 0, cells := 0, slots := 0, locals := 0 } : Room) G.1 (xT G) (wX G) [.ref (G.2.2 20), .int x1, .int x2, .int x3] st so := by
  refine q_Mv_of (by decide) (Nat.le_of_ble_eq_true rfl) (wX_fst G) ?_
  intro p e s m args below meth c A ls hC hr hlk hT hD hA hP hS hl
  have hx := hC.1.1
  have hb := hC.1.2.1
  have hown := hC.1.2.2.2.1
  have hts := hC.1.2.2.2.2
  have hl : lv_has ls 4 [(0, .ref (G.2.2 20)), (1, .int x1), (2, .int x2), (3, .int x3)] := hl
  unfold xRun_getMore at hf
  refine lv_iload_n hx hb d_Run_getMore_0 rfl (lv_at hl 1 rfl) ?_
  refine lv_if_lt (tgt := 12) hx hb d_Run_getMore_1 (by decide) (fun c1 => ?_) (fun c1 => ?_)
  · rw [if_pos c1] at hf
    exact q_vret hC hr hlk hf hP hS d_Run_getMore_12
  rw [if_neg c1] at hf
  refine lv_iload_n hx hb d_Run_getMore_4 rfl (lv_at hl 1 rfl) ?_
  refine lv_aload_n hx hb d_Run_getMore_5 rfl (lv_at hl 0 rfl) ?_
  refine xg_20_count hC hP wq_66 d_Run_getMore_6 ?_
  refine lv_icmp_lt (tgt := 13) hx hb d_Run_getMore_9 (by decide) (fun c1 => ?_) (fun c1 => ?_)
  rotate_left
  · rw [if_neg c1] at hf
    exact q_vret hC hr hlk hf hP hS d_Run_getMore_12
  rw [if_pos c1] at hf
  refine lv_iload_n hx hb d_Run_getMore_13 rfl (lv_at hl 2 rfl) ?_
  by_cases c0 : x2 = 0
  · rw [if_pos c0] at hf
    refine lv_tableIn (tgt := 44) hx hb d_Run_getMore_14 (by rw [c0]; decide) (by rw [c0]; decide) (by rw [c0]; rfl) (by decide) ?_
    refine lv_aload_n hx hb d_Run_getMore_44 rfl (lv_at hl 0 rfl) ?_
    refine xg_20_right hC hP wq_70 d_Run_getMore_45 ?_
    refine lv_iload_n hx hb d_Run_getMore_48 rfl (lv_at hl 1 rfl) ?_
    refine lv_dup2_11 hx hb d_Run_getMore_49 rfl rfl ?_
    obtain ⟨hi, hf⟩ := q_grd_some hf
    obtain ⟨v7, e_v7, hf⟩ := q_lt_some hf
    refine xl_23 hC hP e_v7 hi d_Run_getMore_50 ?_
    refine lv_iload_n hx hb d_Run_getMore_51 rfl (lv_at hl 3 rfl) ?_
    refine lv_iadd hx hb d_Run_getMore_52 ?_
    obtain ⟨hi, hf⟩ := q_grd_some hf
    obtain ⟨s8, e_s8, hf⟩ := q_lt_some hf
    refine xs_23 hC hP hD hS e_s8 hi d_Run_getMore_53 (fun H locs hP hS => ?_)
    refine lv_goto (tgt := 96) hx hb d_Run_getMore_54 (by decide) ?_
    exact q_vret hC hr hlk hf hP hS d_Run_getMore_96
  rw [if_neg c0] at hf
  by_cases c1 : x2 = 1
  · rw [if_pos c1] at hf
    refine lv_tableIn (tgt := 57) hx hb d_Run_getMore_14 (by rw [c1]; decide) (by rw [c1]; decide) (by rw [c1]; rfl) (by decide) ?_
    refine lv_aload_n hx hb d_Run_getMore_57 rfl (lv_at hl 0 rfl) ?_
    refine xg_20_up hC hP wq_71 d_Run_getMore_58 ?_
    refine lv_iload_n hx hb d_Run_getMore_61 rfl (lv_at hl 1 rfl) ?_
    refine lv_dup2_11 hx hb d_Run_getMore_62 rfl rfl ?_
    obtain ⟨hi, hf⟩ := q_grd_some hf
    obtain ⟨v5, e_v5, hf⟩ := q_lt_some hf
    refine xl_24 hC hP e_v5 hi d_Run_getMore_63 ?_
    refine lv_iload_n hx hb d_Run_getMore_64 rfl (lv_at hl 3 rfl) ?_
    refine lv_iadd hx hb d_Run_getMore_65 ?_
    obtain ⟨hi, hf⟩ := q_grd_some hf
    obtain ⟨s6, e_s6, hf⟩ := q_lt_some hf
    refine xs_24 hC hP hD hS e_s6 hi d_Run_getMore_66 (fun H locs hP hS => ?_)
    refine lv_goto (tgt := 96) hx hb d_Run_getMore_67 (by decide) ?_
    exact q_vret hC hr hlk hf hP hS d_Run_getMore_96
  rw [if_neg c1] at hf
  by_cases c2 : x2 = 2
  · rw [if_pos c2] at hf
    refine lv_tableIn (tgt := 70) hx hb d_Run_getMore_14 (by rw [c2]; decide) (by rw [c2]; decide) (by rw [c2]; rfl) (by decide) ?_
    refine lv_aload_n hx hb d_Run_getMore_70 rfl (lv_at hl 0 rfl) ?_
    refine xg_20_width hC hP wq_67 d_Run_getMore_71 ?_
    refine lv_iload_n hx hb d_Run_getMore_74 rfl (lv_at hl 1 rfl) ?_
    refine lv_dup2_11 hx hb d_Run_getMore_75 rfl rfl ?_
    obtain ⟨hi, hf⟩ := q_grd_some hf
    obtain ⟨v3, e_v3, hf⟩ := q_lt_some hf
    refine xl_21 hC hP e_v3 hi d_Run_getMore_76 ?_
    refine lv_iload_n hx hb d_Run_getMore_77 rfl (lv_at hl 3 rfl) ?_
    refine lv_iadd hx hb d_Run_getMore_78 ?_
    obtain ⟨hi, hf⟩ := q_grd_some hf
    obtain ⟨s4, e_s4, hf⟩ := q_lt_some hf
    refine xs_21 hC hP hD hS e_s4 hi d_Run_getMore_79 (fun H locs hP hS => ?_)
    refine lv_goto (tgt := 96) hx hb d_Run_getMore_80 (by decide) ?_
    exact q_vret hC hr hlk hf hP hS d_Run_getMore_96
  rw [if_neg c2] at hf
  by_cases c3 : x2 = 3
  · rw [if_pos c3] at hf
    refine lv_tableIn (tgt := 83) hx hb d_Run_getMore_14 (by rw [c3]; decide) (by rw [c3]; decide) (by rw [c3]; rfl) (by decide) ?_
    refine lv_aload_n hx hb d_Run_getMore_83 rfl (lv_at hl 0 rfl) ?_
    refine xg_20_higher hC hP wq_69 d_Run_getMore_84 ?_
    refine lv_iload_n hx hb d_Run_getMore_87 rfl (lv_at hl 1 rfl) ?_
    refine lv_dup2_11 hx hb d_Run_getMore_88 rfl rfl ?_
    obtain ⟨hi, hf⟩ := q_grd_some hf
    obtain ⟨v1, e_v1, hf⟩ := q_lt_some hf
    refine xl_22 hC hP e_v1 hi d_Run_getMore_89 ?_
    refine lv_iload_n hx hb d_Run_getMore_90 rfl (lv_at hl 3 rfl) ?_
    refine lv_iadd hx hb d_Run_getMore_91 ?_
    obtain ⟨hi, hf⟩ := q_grd_some hf
    obtain ⟨s2, e_s2, hf⟩ := q_lt_some hf
    refine xs_22 hC hP hD hS e_s2 hi d_Run_getMore_92 (fun H locs hP hS => ?_)
    refine lv_goto (tgt := 96) hx hb d_Run_getMore_93 (by decide) ?_
    exact q_vret hC hr hlk hf hP hS d_Run_getMore_96
  rw [if_neg c3] at hf
  refine lv_tableOut (tgt := 96) hx hb d_Run_getMore_14 (by have z0 := True.intro; have z1 : (x2).toInt ≠ 0 := q_ine c0; have z2 : (x2).toInt ≠ 1 := q_ine c1; have z3 : (x2).toInt ≠ 2 := q_ine c2; have z4 : (x2).toInt ≠ 3 := q_ine c3; omega) (by decide) ?_
  exact q_vret hC hr hlk hf hP hS d_Run_getMore_96
def xRun_join (x1 x2 x3 x4 : Int32) (st : QSt) : Option QSt :=
  q_grd (q_vpb x1 800) (q_lt (st.2 14 x1.toNatClampNeg) (fun v1 => q_grd (q_vpb x1 800) (q_lt (q_pa st 12 x1.toNatClampNeg (x2 + v1)) (fun s2 => q_grd (q_vpb x3 800) (q_lt (s2.2 14 x3.toNatClampNeg) (fun v3 => q_lt (x4 + v3) (fun x5_1004 => q_grd (q_vpb x3 800) (q_lt (s2.2 12 x3.toNatClampNeg) (fun v5 => q_grd (q_vpb x3 800) (q_lt (q_pa s2 12 x3.toNatClampNeg (v5 - x5_1004)) (fun s6 => q_grd (q_vpb x3 800) (q_lt (s6.2 14 x3.toNatClampNeg) (fun v7 => q_grd (q_vpb x3 800) (q_lt (q_pa s6 14 x3.toNatClampNeg (v7 - x5_1004)) (fun s8 => some s8)))))))))))))))
set_option maxHeartbeats 4000000 in
set_option maxRecDepth 100000 in
theorem c_xRun_join (l : Launch) (G : XG) {x1 x2 x3 x4 : Int32} {st : QSt} {so : QSt} (hf : xRun_join x1 x2 x3 x4 st = some so) : q_Mv l y_Run_join b_Run_join 6 ({ frames := 0, cells := 0, slots := 0, locals := 0 } : Room) G.1 (xT G) (wX G) [.ref (G.2.2 20), .int x1, .int x2, .int x3, .int x4] st so := by
  refine q_Mv_of (by decide) (Nat.le_of_ble_eq_true rfl) (wX_fst G) ?_
  intro p e s m args below meth c A ls hC hr hlk hT hD hA hP hS hl
  have hx := hC.1.1
  have hb := hC.1.2.1
  have hown := hC.1.2.2.2.1
  have hts := hC.1.2.2.2.2
  have hl : lv_has ls 6 [(0, .ref (G.2.2 20)), (1, .int x1), (2, .int x2), (3, .int x3), (4, .int x4)] := hl
  unfold xRun_join at hf
  refine lv_aload_n hx hb d_Run_join_0 rfl (lv_at hl 0 rfl) ?_
  refine xg_20_width hC hP wq_67 d_Run_join_1 ?_
  refine lv_iload_n hx hb d_Run_join_4 rfl (lv_at hl 1 rfl) ?_
  refine lv_iload_n hx hb d_Run_join_5 rfl (lv_at hl 2 rfl) ?_
  refine lv_aload_n hx hb d_Run_join_6 rfl (lv_at hl 0 rfl) ?_
  refine xg_20_right hC hP wq_70 d_Run_join_7 ?_
  refine lv_iload_n hx hb d_Run_join_10 rfl (lv_at hl 1 rfl) ?_
  obtain ⟨hi, hf⟩ := q_grd_some hf
  obtain ⟨v1, e_v1, hf⟩ := q_lt_some hf
  refine xl_23 hC hP e_v1 hi d_Run_join_11 ?_
  refine lv_iadd hx hb d_Run_join_12 ?_
  obtain ⟨hi, hf⟩ := q_grd_some hf
  obtain ⟨s2, e_s2, hf⟩ := q_lt_some hf
  refine xs_21 hC hP hD hS e_s2 hi d_Run_join_13 (fun H locs hP hS => ?_)
  refine lv_iload hx hb d_Run_join_14 (lv_at hl 4 rfl) ?_
  refine lv_aload_n hx hb d_Run_join_16 rfl (lv_at hl 0 rfl) ?_
  refine xg_20_right hC hP wq_70 d_Run_join_17 ?_
  refine lv_iload_n hx hb d_Run_join_20 rfl (lv_at hl 3 rfl) ?_
  obtain ⟨hi, hf⟩ := q_grd_some hf
  obtain ⟨v3, e_v3, hf⟩ := q_lt_some hf
  refine xl_23 hC hP e_v3 hi d_Run_join_21 ?_
  refine lv_iadd hx hb d_Run_join_22 ?_
  obtain ⟨x5_1004, e_x5_1004, hf⟩ := q_lt_some hf
  refine q_topi e_x5_1004 ?_
  refine lv_istore (lv' := [(5, .int x5_1004), (0, .ref (G.2.2 20)), (1, .int x1), (2, .int x2), (3, .int x3), (4, .int x4)]) hx hb d_Run_join_23 hl (by decide) rfl (fun ls hl => ?_)
  refine lv_aload_n hx hb d_Run_join_25 rfl (lv_at hl 1 rfl) ?_
  refine xg_20_width hC hP wq_67 d_Run_join_26 ?_
  refine lv_iload_n hx hb d_Run_join_29 rfl (lv_at hl 4 rfl) ?_
  refine lv_dup2_11 hx hb d_Run_join_30 rfl rfl ?_
  obtain ⟨hi, hf⟩ := q_grd_some hf
  obtain ⟨v5, e_v5, hf⟩ := q_lt_some hf
  refine xl_21 hC hP e_v5 hi d_Run_join_31 ?_
  refine lv_iload hx hb d_Run_join_32 (lv_at hl 0 rfl) ?_
  refine lv_isub hx hb d_Run_join_34 ?_
  obtain ⟨hi, hf⟩ := q_grd_some hf
  obtain ⟨s6, e_s6, hf⟩ := q_lt_some hf
  refine xs_21 hC hP hD hS e_s6 hi d_Run_join_35 (fun H locs hP hS => ?_)
  refine lv_aload_n hx hb d_Run_join_36 rfl (lv_at hl 1 rfl) ?_
  refine xg_20_right hC hP wq_70 d_Run_join_37 ?_
  refine lv_iload_n hx hb d_Run_join_40 rfl (lv_at hl 4 rfl) ?_
  refine lv_dup2_11 hx hb d_Run_join_41 rfl rfl ?_
  obtain ⟨hi, hf⟩ := q_grd_some hf
  obtain ⟨v7, e_v7, hf⟩ := q_lt_some hf
  refine xl_23 hC hP e_v7 hi d_Run_join_42 ?_
  refine lv_iload hx hb d_Run_join_43 (lv_at hl 0 rfl) ?_
  refine lv_isub hx hb d_Run_join_45 ?_
  obtain ⟨hi, hf⟩ := q_grd_some hf
  obtain ⟨s8, e_s8, hf⟩ := q_lt_some hf
  refine xs_23 hC hP hD hS e_s8 hi d_Run_join_46 (fun H locs hP hS => ?_)
  exact q_vret hC hr hlk hf hP hS d_Run_join_47
def xRun_hangByCursive (x1 x2 x3 : Int32) (st : QSt) : Option QSt :=
  q_grd (q_vpb x1 800) (q_lt (q_pa st 16 x1.toNatClampNeg x2) (fun s1 => q_grd (q_vpb x1 800) (q_lt (q_pa s1 17 x1.toNatClampNeg (vp_nar .boolean 1)) (fun s2 => q_grd (q_vpb x1 800) (q_lt (q_pa s2 19 x1.toNatClampNeg x3) (fun s3 => some s3))))))
set_option maxHeartbeats 4000000 in
set_option maxRecDepth 100000 in
theorem c_xRun_hangByCursive (l : Launch) (G : XG) {x1 x2 x3 : Int32} {st : QSt} {so : QSt} (hf : xRun_hangByCursive x1 x2 x3 st = some so) : q_Mv l y_Run_hangByCursive b_Run_hangByCursive 4 ({ frames := 0, cells := 0, slots := 0, locals := 0 } : Room) G.1 (xT G) (wX G) [.ref (G.2.2 20), .int x1, .int x2, .int x3] st so := by
  refine q_Mv_of (by decide) (Nat.le_of_ble_eq_true rfl) (wX_fst G) ?_
  intro p e s m args below meth c A ls hC hr hlk hT hD hA hP hS hl
  have hx := hC.1.1
  have hb := hC.1.2.1
  have hown := hC.1.2.2.2.1
  have hts := hC.1.2.2.2.2
  have hl : lv_has ls 4 [(0, .ref (G.2.2 20)), (1, .int x1), (2, .int x2), (3, .int x3)] := hl
  unfold xRun_hangByCursive at hf
  refine lv_aload_n hx hb d_Run_hangByCursive_0 rfl (lv_at hl 0 rfl) ?_
  refine xg_20_hangsOn hC hP wq_72 d_Run_hangByCursive_1 ?_
  refine lv_iload_n hx hb d_Run_hangByCursive_4 rfl (lv_at hl 1 rfl) ?_
  refine lv_iload_n hx hb d_Run_hangByCursive_5 rfl (lv_at hl 2 rfl) ?_
  obtain ⟨hi, hf⟩ := q_grd_some hf
  obtain ⟨s1, e_s1, hf⟩ := q_lt_some hf
  refine xs_25 hC hP hD hS e_s1 hi d_Run_hangByCursive_6 (fun H locs hP hS => ?_)
  refine lv_aload_n hx hb d_Run_hangByCursive_7 rfl (lv_at hl 0 rfl) ?_
  refine xg_20_hangsByCursive hC hP wq_75 d_Run_hangByCursive_8 ?_
  refine lv_iload_n hx hb d_Run_hangByCursive_11 rfl (lv_at hl 1 rfl) ?_
  refine lv_iconst (v := 1) hx hb d_Run_hangByCursive_12 (by decide) ?_
  obtain ⟨hi, hf⟩ := q_grd_some hf
  obtain ⟨s2, e_s2, hf⟩ := q_lt_some hf
  refine xs_26 hC hP hD hS e_s2 hi d_Run_hangByCursive_13 (fun H locs hP hS => ?_)
  refine lv_aload_n hx hb d_Run_hangByCursive_14 rfl (lv_at hl 0 rfl) ?_
  refine xg_20_hangsUp hC hP wq_74 d_Run_hangByCursive_15 ?_
  refine lv_iload_n hx hb d_Run_hangByCursive_18 rfl (lv_at hl 1 rfl) ?_
  refine lv_iload_n hx hb d_Run_hangByCursive_19 rfl (lv_at hl 3 rfl) ?_
  obtain ⟨hi, hf⟩ := q_grd_some hf
  obtain ⟨s3, e_s3, hf⟩ := q_lt_some hf
  refine xs_28 hC hP hD hS e_s3 hi d_Run_hangByCursive_20 (fun H locs hP hS => ?_)
  exact q_vret hC hr hlk hf hP hS d_Run_hangByCursive_21
def xRun_hangByMark (x1 x2 x3 x4 : Int32) (st : QSt) : Option QSt :=
  q_grd (q_vpb x1 800) (q_lt (q_pa st 16 x1.toNatClampNeg x2) (fun s1 => q_grd (q_vpb x1 800) (q_lt (q_pa s1 17 x1.toNatClampNeg (vp_nar .boolean 0)) (fun s2 => q_grd (q_vpb x1 800) (q_lt (q_pa s2 18 x1.toNatClampNeg x3) (fun s3 => q_grd (q_vpb x1 800) (q_lt (q_pa s3 19 x1.toNatClampNeg x4) (fun s4 => q_grd (q_vpb x1 800) (q_lt (q_pa s4 14 x1.toNatClampNeg 0) (fun s5 => q_grd (q_vpb x1 800) (q_lt (q_pa s5 15 x1.toNatClampNeg 0) (fun s6 => some s6))))))))))))
set_option maxHeartbeats 4000000 in
set_option maxRecDepth 100000 in
theorem c_xRun_hangByMark (l : Launch) (G : XG) {x1 x2 x3 x4 : Int32} {st : QSt} {so : QSt} (hf : xRun_hangByMark x1 x2 x3 x4 st = some so) : q_Mv l y_Run_hangByMark b_Run_hangByMark 5 ({ frames := 0, cells := 0, slots := 0, locals := 0 } : Room) G.1 (xT G) (wX G) [.ref (G.2.2 20), .int x1, .int x2, .int x3, .int x4] st so := by
  refine q_Mv_of (by decide) (Nat.le_of_ble_eq_true rfl) (wX_fst G) ?_
  intro p e s m args below meth c A ls hC hr hlk hT hD hA hP hS hl
  have hx := hC.1.1
  have hb := hC.1.2.1
  have hown := hC.1.2.2.2.1
  have hts := hC.1.2.2.2.2
  have hl : lv_has ls 5 [(0, .ref (G.2.2 20)), (1, .int x1), (2, .int x2), (3, .int x3), (4, .int x4)] := hl
  unfold xRun_hangByMark at hf
  refine lv_aload_n hx hb d_Run_hangByMark_0 rfl (lv_at hl 0 rfl) ?_
  refine xg_20_hangsOn hC hP wq_72 d_Run_hangByMark_1 ?_
  refine lv_iload_n hx hb d_Run_hangByMark_4 rfl (lv_at hl 1 rfl) ?_
  refine lv_iload_n hx hb d_Run_hangByMark_5 rfl (lv_at hl 2 rfl) ?_
  obtain ⟨hi, hf⟩ := q_grd_some hf
  obtain ⟨s1, e_s1, hf⟩ := q_lt_some hf
  refine xs_25 hC hP hD hS e_s1 hi d_Run_hangByMark_6 (fun H locs hP hS => ?_)
  refine lv_aload_n hx hb d_Run_hangByMark_7 rfl (lv_at hl 0 rfl) ?_
  refine xg_20_hangsByCursive hC hP wq_75 d_Run_hangByMark_8 ?_
  refine lv_iload_n hx hb d_Run_hangByMark_11 rfl (lv_at hl 1 rfl) ?_
  refine lv_iconst (v := 0) hx hb d_Run_hangByMark_12 (by decide) ?_
  obtain ⟨hi, hf⟩ := q_grd_some hf
  obtain ⟨s2, e_s2, hf⟩ := q_lt_some hf
  refine xs_26 hC hP hD hS e_s2 hi d_Run_hangByMark_13 (fun H locs hP hS => ?_)
  refine lv_aload_n hx hb d_Run_hangByMark_14 rfl (lv_at hl 0 rfl) ?_
  refine xg_20_hangsRight hC hP wq_76 d_Run_hangByMark_15 ?_
  refine lv_iload_n hx hb d_Run_hangByMark_18 rfl (lv_at hl 1 rfl) ?_
  refine lv_iload_n hx hb d_Run_hangByMark_19 rfl (lv_at hl 3 rfl) ?_
  obtain ⟨hi, hf⟩ := q_grd_some hf
  obtain ⟨s3, e_s3, hf⟩ := q_lt_some hf
  refine xs_27 hC hP hD hS e_s3 hi d_Run_hangByMark_20 (fun H locs hP hS => ?_)
  refine lv_aload_n hx hb d_Run_hangByMark_21 rfl (lv_at hl 0 rfl) ?_
  refine xg_20_hangsUp hC hP wq_74 d_Run_hangByMark_22 ?_
  refine lv_iload_n hx hb d_Run_hangByMark_25 rfl (lv_at hl 1 rfl) ?_
  refine lv_iload hx hb d_Run_hangByMark_26 (lv_at hl 4 rfl) ?_
  obtain ⟨hi, hf⟩ := q_grd_some hf
  obtain ⟨s4, e_s4, hf⟩ := q_lt_some hf
  refine xs_28 hC hP hD hS e_s4 hi d_Run_hangByMark_28 (fun H locs hP hS => ?_)
  refine lv_aload_n hx hb d_Run_hangByMark_29 rfl (lv_at hl 0 rfl) ?_
  refine xg_20_right hC hP wq_70 d_Run_hangByMark_30 ?_
  refine lv_iload_n hx hb d_Run_hangByMark_33 rfl (lv_at hl 1 rfl) ?_
  refine lv_iconst (v := 0) hx hb d_Run_hangByMark_34 (by decide) ?_
  obtain ⟨hi, hf⟩ := q_grd_some hf
  obtain ⟨s5, e_s5, hf⟩ := q_lt_some hf
  refine xs_23 hC hP hD hS e_s5 hi d_Run_hangByMark_35 (fun H locs hP hS => ?_)
  refine lv_aload_n hx hb d_Run_hangByMark_36 rfl (lv_at hl 0 rfl) ?_
  refine xg_20_up hC hP wq_71 d_Run_hangByMark_37 ?_
  refine lv_iload_n hx hb d_Run_hangByMark_40 rfl (lv_at hl 1 rfl) ?_
  refine lv_iconst (v := 0) hx hb d_Run_hangByMark_41 (by decide) ?_
  obtain ⟨hi, hf⟩ := q_grd_some hf
  obtain ⟨s6, e_s6, hf⟩ := q_lt_some hf
  refine xs_24 hC hP hD hS e_s6 hi d_Run_hangByMark_42 (fun H locs hP hS => ?_)
  exact q_vret hC hr hlk hf hP hS d_Run_hangByMark_43
