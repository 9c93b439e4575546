def xSetter_start_89 (N : Nat) (rec_9 : Int32 → Int32 → QSt → Option QSt) (x2_89 x3_89 : Int32) (w1_89 w2_89 : Int32) (st_89 : QSt) : Option QSt :=
  q_grd (q_vpb w1_89 800) (q_lt (q_pa st_89 21 w1_89.toNatClampNeg w2_89) (fun s7 => q_grd (q_vpb x3_89 800) (q_lt (q_pa s7 22 x3_89.toNatClampNeg x2_89) (fun s8 => q_grd (q_vpb x3_89 800) (q_lt (s8.2 20 x3_89.toNatClampNeg) (fun v9 => if v9 = 3 then (rec_9 x2_89 (x3_89 + 1) s8) else (rec_9 x3_89 (x3_89 + 1) s8)))))))
def xSetter_start_63 (N : Nat) (rec_9 : Int32 → Int32 → QSt → Option QSt) (x2_63 x3_63 x4_63 : Int32) (w1_63 w2_63 : Int32) (st_63 : QSt) : Option QSt :=
  q_grd (q_vpb w1_63 800) (q_lt (q_pa st_63 20 w1_63.toNatClampNeg w2_63) (fun s5 => if x4_63 = (-1) then (xSetter_start_89 N rec_9 x2_63 x3_63 x3_63 0 s5) else (q_grd (q_vpb x4_63 256) (q_lt (s5.2 5 x4_63.toNatClampNeg) (fun v6 => xSetter_start_89 N rec_9 x2_63 x3_63 x3_63 v6 s5)))))
def xSetter_start_9 (N : Nat) : Nat → Int32 → Int32 → QSt → Option QSt
  | 0, _, _, _ => none
  | n_9 + 1, x2_9, x3_9, st_9 => if (st_9.1 9) ≤ x3_9 then (some st_9) else (q_grd (q_vpb x3_9 800) (q_lt (st_9.2 8 x3_9.toNatClampNeg) (fun v2 => q_bn (xKinds_rangeOf N v2 st_9) (fun r3 => if r3 = (-1) then (xSetter_start_63 N (xSetter_start_9 N n_9) x2_9 x3_9 r3 x3_9 0 st_9) else (q_grd (q_vpb r3 256) (q_lt (st_9.2 4 r3.toNatClampNeg) (fun v4 => xSetter_start_63 N (xSetter_start_9 N n_9) x2_9 x3_9 r3 x3_9 v4 st_9)))))))
def xSetter_start (N : Nat) (x1 : Int32) (st : QSt) : Option QSt :=
  q_grd (q_isb x1) (q_lt (q_ps st 10 x1) (fun s1 => xSetter_start_9 N N (-1) 0 s1))
set_option maxHeartbeats 4000000 in
set_option maxRecDepth 100000 in
theorem c_xSetter_start (l : Launch) (G : XG) {N : Nat} {x1 : Int32} {st : QSt} {so : QSt} (hf : xSetter_start N x1 st = some so) : q_Mv l y_Setter_start b_Setter_start 5 ({ frames := 1, cells := 0, slots := 0, locals := 22 } : Room) G.1 (xT G) (wX G) [.ref (G.2.2 29), .int x1] st so := by
  refine q_Mv_of (by decide) (Nat.le_of_ble_eq_true rfl) (wX_fst G) ?_
  intro p e s m args below meth c A ls hC hr hlk hT hD hA hP hS hl
  have hx := hC.1.1
  have hb := hC.1.2.1
  have hown := hC.1.2.2.2.1
  have hts := hC.1.2.2.2.2
  have hl : lv_has ls 5 [(0, .ref (G.2.2 29)), (1, .int x1)] := hl
  have L_9 : ∀ (n_9 : Nat) (x2_9 x3_9 : Int32) (st_9 : QSt) (H : Heap) (locs : List Loc) (ls : Array Slot), xSetter_start_9 N n_9 x2_9 x3_9 st_9 = some so → va_P G.1 vwCl (wX G st_9) H → va_S A s.heap H locs → lv_has ls 5 [(0, .ref (G.2.2 29)), (2, .int x2_9), (3, .int x3_9)] → W p l e ({ frames := 1, cells := 0, slots := 0, locals := 22 } : Room) s m args below meth c H locs 0 0 (q_Zv below args s G.1 (wX G) so A) (F0 m 9 ls []) := by
    intro n_9
    induction n_9 with
    | zero => intro _ _ _ _ _ _ hf; exact absurd hf (by simp [xSetter_start_9])
    | succ n_9 ih_9 =>
      have J_89 : ∀ (x2_89 x3_89 w1_89 w2_89 : Int32) (st_89 : QSt) (H : Heap) (locs : List Loc) (ls : Array Slot), xSetter_start_89 N (xSetter_start_9 N n_9) x2_89 x3_89 w1_89 w2_89 st_89 = some so → va_P G.1 vwCl (wX G st_89) H → va_S A s.heap H locs → lv_has ls 5 [(0, .ref (G.2.2 29)), (2, .int x2_89), (3, .int x3_89)] → W p l e ({ frames := 1, cells := 0, slots := 0, locals := 22 } : Room) s m args below meth c H locs 0 0 (q_Zv below args s G.1 (wX G) so A) (F0 m 89 ls [.int w2_89, .int w1_89, .ref (G.2.2 31)]) := by
        intro x2_89 x3_89 w1_89 w2_89 st_89 H locs ls hf hP hS hl
        unfold xSetter_start_89 at hf
        obtain ⟨hi, hf⟩ := q_grd_some hf
        obtain ⟨s7, e_s7, hf⟩ := q_lt_some hf
        refine xs_31 hC hP hD hS e_s7 hi d_Setter_start_89 (fun H locs hP hS => ?_)
        refine lv_aload_n hx hb d_Setter_start_90 rfl (lv_at hl 0 rfl) ?_
        refine xg_29_noMarkBefore hC hP wq_78 d_Setter_start_91 ?_
        refine lv_iload_n hx hb d_Setter_start_94 rfl (lv_at hl 2 rfl) ?_
        refine lv_iload_n hx hb d_Setter_start_95 rfl (lv_at hl 1 rfl) ?_
        obtain ⟨hi, hf⟩ := q_grd_some hf
        obtain ⟨s8, e_s8, hf⟩ := q_lt_some hf
        refine xs_32 hC hP hD hS e_s8 hi d_Setter_start_96 (fun H locs hP hS => ?_)
        refine lv_aload_n hx hb d_Setter_start_97 rfl (lv_at hl 0 rfl) ?_
        refine xg_29_kind hC hP wq_79 d_Setter_start_98 ?_
        refine lv_iload_n hx hb d_Setter_start_101 rfl (lv_at hl 2 rfl) ?_
        obtain ⟨hi, hf⟩ := q_grd_some hf
        obtain ⟨v9, e_v9, hf⟩ := q_lt_some hf
        refine xl_30 hC hP e_v9 hi d_Setter_start_102 ?_
        refine lv_iconst (v := 3) hx hb d_Setter_start_103 (by decide) ?_
        refine lv_icmp_eq (tgt := 109) hx hb d_Setter_start_104 (by decide) (fun c1 => ?_) (fun c1 => ?_)
        · rw [if_pos c1] at hf
          refine lv_iinc (v := x3_89 + 1) (lv' := [(3, .int (x3_89 + 1)), (0, .ref (G.2.2 29)), (2, .int x2_89)]) hx hb d_Setter_start_109 hl (k := 2) rfl rfl (by decide) rfl (fun ls hl => ?_)
          refine lv_goto (tgt := 9) hx hb d_Setter_start_112 (by decide) ?_
          exact ih_9 _ _ _ _ _ _ hf hP hS (lv_sub hl [1, 2, 0] rfl)
        rw [if_neg c1] at hf
        refine lv_iload_n hx hb d_Setter_start_107 rfl (lv_at hl 2 rfl) ?_
        refine lv_istore_n (lv' := [(2, .int x3_89), (0, .ref (G.2.2 29)), (3, .int x3_89)]) hx hb d_Setter_start_108 rfl hl (by decide) rfl (fun ls hl => ?_)
        refine lv_iinc (v := x3_89 + 1) (lv' := [(3, .int (x3_89 + 1)), (2, .int x3_89), (0, .ref (G.2.2 29))]) hx hb d_Setter_start_109 hl (k := 2) rfl rfl (by decide) rfl (fun ls hl => ?_)
        refine lv_goto (tgt := 9) hx hb d_Setter_start_112 (by decide) ?_
        exact ih_9 _ _ _ _ _ _ hf hP hS (lv_sub hl [2, 1, 0] rfl)
      have J_63 : ∀ (x2_63 x3_63 x4_63 w1_63 w2_63 : Int32) (st_63 : QSt) (H : Heap) (locs : List Loc) (ls : Array Slot), xSetter_start_63 N (xSetter_start_9 N n_9) x2_63 x3_63 x4_63 w1_63 w2_63 st_63 = some so → va_P G.1 vwCl (wX G st_63) H → va_S A s.heap H locs → lv_has ls 5 [(0, .ref (G.2.2 29)), (2, .int x2_63), (3, .int x3_63), (4, .int x4_63)] → W p l e ({ frames := 1, cells := 0, slots := 0, locals := 22 } : Room) s m args below meth c H locs 0 0 (q_Zv below args s G.1 (wX G) so A) (F0 m 63 ls [.int w2_63, .int w1_63, .ref (G.2.2 30)]) := by
        intro x2_63 x3_63 x4_63 w1_63 w2_63 st_63 H locs ls hf hP hS hl
        unfold xSetter_start_63 at hf
        obtain ⟨hi, hf⟩ := q_grd_some hf
        obtain ⟨s5, e_s5, hf⟩ := q_lt_some hf
        refine xs_30 hC hP hD hS e_s5 hi d_Setter_start_63 (fun H locs hP hS => ?_)
        refine lv_aload_n hx hb d_Setter_start_64 rfl (lv_at hl 0 rfl) ?_
        refine xg_29_marks hC hP wq_80 d_Setter_start_65 ?_
        refine lv_iload_n hx hb d_Setter_start_68 rfl (lv_at hl 2 rfl) ?_
        refine lv_iload hx hb d_Setter_start_69 (lv_at hl 3 rfl) ?_
        refine lv_iconst (v := (-1)) hx hb d_Setter_start_71 (by decide) ?_
        refine lv_icmp_ne (tgt := 79) hx hb d_Setter_start_72 (by decide) (fun c1 => ?_) (fun c1 => ?_)
        rotate_left
        · rw [if_pos c1] at hf
          refine lv_iconst (v := 0) hx hb d_Setter_start_75 (by decide) ?_
          refine lv_goto (tgt := 89) hx hb d_Setter_start_76 (by decide) ?_
          exact J_89 _ _ _ _ _ _ _ _ hf hP hS (lv_sub hl [0, 1, 2] rfl)
        rw [if_neg c1] at hf
        refine lv_aload_n hx hb d_Setter_start_79 rfl (lv_at hl 0 rfl) ?_
        refine xg_29_kinds hC hP wq_81 d_Setter_start_80 ?_
        refine xgN_6_marks hC hP wq_82 d_Setter_start_83 ?_
        refine lv_iload hx hb d_Setter_start_86 (lv_at hl 3 rfl) ?_
        obtain ⟨hi, hf⟩ := q_grd_some hf
        obtain ⟨v6, e_v6, hf⟩ := q_lt_some hf
        refine xl_10 hC hP e_v6 hi d_Setter_start_88 ?_
        exact J_89 _ _ _ _ _ _ _ _ hf hP hS (lv_sub hl [0, 1, 2] rfl)
      intro x2_9 x3_9 st_9 H locs ls hf hP hS hl
      rw [xSetter_start_9] at hf
      refine lv_iload_n hx hb d_Setter_start_9 rfl (lv_at hl 2 rfl) ?_
      refine lv_aload_n hx hb d_Setter_start_10 rfl (lv_at hl 0 rfl) ?_
      refine xg_29_run hC hP wq_83 d_Setter_start_11 ?_
      refine xgN_20_count hC hP wq_84 d_Setter_start_14 ?_
      refine lv_icmp_ge (tgt := 115) hx hb d_Setter_start_17 (by decide) (fun c1 => ?_) (fun c1 => ?_)
      · rw [if_pos c1] at hf
        exact q_vret hC hr hlk hf hP hS d_Setter_start_115
      rw [if_neg c1] at hf
      refine lv_aload_n hx hb d_Setter_start_20 rfl (lv_at hl 0 rfl) ?_
      refine xg_29_kinds hC hP wq_81 d_Setter_start_21 ?_
      refine lv_aload_n hx hb d_Setter_start_24 rfl (lv_at hl 0 rfl) ?_
      refine xg_29_told hC hP wq_85 d_Setter_start_25 ?_
      refine xgN_14_glyph hC hP wq_86 d_Setter_start_28 ?_
      refine lv_iload_n hx hb d_Setter_start_31 rfl (lv_at hl 2 rfl) ?_
      obtain ⟨hi, hf⟩ := q_grd_some hf
      obtain ⟨v2, e_v2, hf⟩ := q_lt_some hf
      refine xl_15 hC hP e_v2 hi d_Setter_start_32 ?_
      obtain ⟨r3, h_r3, hf⟩ := q_bn_some hf
      refine q_callVp (As := [.int v2]) (rest := []) (q0 := 6) hC (c_xKinds_rangeOf l G h_r3) cal_Kinds_rangeOf wq_87 ⟨rfl, rfl, Nat.le_of_ble_eq_true rfl, Nat.le_of_ble_eq_true rfl⟩ rfl rfl hP hT hS rfl hl.1 rfl (Nat.le_of_ble_eq_true rfl) d_Setter_start_33 (fun H locs hP hS => ?_)
      refine lv_istore (lv' := [(4, .int r3), (0, .ref (G.2.2 29)), (2, .int x2_9), (3, .int x3_9)]) hx hb d_Setter_start_36 hl (by decide) rfl (fun ls hl => ?_)
      refine lv_aload_n hx hb d_Setter_start_38 rfl (lv_at hl 1 rfl) ?_
      refine xg_29_kind hC hP wq_79 d_Setter_start_39 ?_
      refine lv_iload_n hx hb d_Setter_start_42 rfl (lv_at hl 3 rfl) ?_
      refine lv_iload hx hb d_Setter_start_43 (lv_at hl 0 rfl) ?_
      refine lv_iconst (v := (-1)) hx hb d_Setter_start_45 (by decide) ?_
      refine lv_icmp_ne (tgt := 53) hx hb d_Setter_start_46 (by decide) (fun c1 => ?_) (fun c1 => ?_)
      rotate_left
      · rw [if_pos c1] at hf
        refine lv_iconst (v := 0) hx hb d_Setter_start_49 (by decide) ?_
        refine lv_goto (tgt := 63) hx hb d_Setter_start_50 (by decide) ?_
        exact J_63 _ _ _ _ _ _ _ _ _ hf hP hS (lv_sub hl [1, 2, 3, 0] rfl)
      rw [if_neg c1] at hf
      refine lv_aload_n hx hb d_Setter_start_53 rfl (lv_at hl 1 rfl) ?_
      refine xg_29_kinds hC hP wq_81 d_Setter_start_54 ?_
      refine xgN_6_kind hC hP wq_88 d_Setter_start_57 ?_
      refine lv_iload hx hb d_Setter_start_60 (lv_at hl 0 rfl) ?_
      obtain ⟨hi, hf⟩ := q_grd_some hf
      obtain ⟨v4, e_v4, hf⟩ := q_lt_some hf
      refine xl_9 hC hP e_v4 hi d_Setter_start_62 ?_
      exact J_63 _ _ _ _ _ _ _ _ _ hf hP hS (lv_sub hl [1, 2, 3, 0] rfl)
  unfold xSetter_start at hf
  refine lv_aload_n hx hb d_Setter_start_0 rfl (lv_at hl 0 rfl) ?_
  refine lv_iload_n hx hb d_Setter_start_1 rfl (lv_at hl 1 rfl) ?_
  obtain ⟨hi, hf⟩ := q_grd_some hf
  obtain ⟨s1, e_s1, hf⟩ := q_lt_some hf
  refine xp_29_back hC hP hD hS e_s1 hi wq_89 d_Setter_start_2 (fun H locs hP hS => ?_)
  refine lv_iconst (v := (-1)) hx hb d_Setter_start_5 (by decide) ?_
  refine lv_istore_n (lv' := [(2, .int (-1)), (0, .ref (G.2.2 29)), (1, .int x1)]) hx hb d_Setter_start_6 rfl hl (by decide) rfl (fun ls hl => ?_)
  refine lv_iconst (v := 0) hx hb d_Setter_start_7 (by decide) ?_
  refine lv_istore_n (lv' := [(3, .int 0), (2, .int (-1)), (0, .ref (G.2.2 29)), (1, .int x1)]) hx hb d_Setter_start_8 rfl hl (by decide) rfl (fun ls hl => ?_)
  exact L_9 _ _ _ _ _ _ _ hf hP hS (lv_sub hl [2, 1, 0] rfl)
def xSetter_passesOver (x0 x1 x2 : Int32) : Option Int32 :=
  q_lt (x0 >>> (8 &&& 31)) (fun x3_1001 => if x1 = 1 then (if (x0 &&& 2) = 0 then (some 0) else (some 1)) else (if x1 = 2 then (if (x0 &&& 4) = 0 then (some 0) else (some 1)) else (if x1 = 3 then (if (x0 &&& 8) = 0 then (if x3_1001 = 0 then (some 0) else (if x3_1001 = x2 then (some 0) else (some 1))) else (some 1)) else (some 0))))
set_option maxHeartbeats 4000000 in
set_option maxRecDepth 100000 in
theorem c_xSetter_passesOver (l : Launch) (G : XG) {x0 x1 x2 : Int32} {st : QSt} {ro : Int32} (hf : xSetter_passesOver x0 x1 x2 = some ro) : q_Mp l y_Setter_passesOver b_Setter_passesOver 4 .boolean ({ frames := 0, cells := 0, slots := 0, locals := 0 } : Room) G.1 (xT G) (wX G) [.int x0, .int x1, .int x2] st ro := by
  refine q_Mp_of (by decide) (Nat.le_of_ble_eq_true rfl) (wX_fst G) ?_
  intro p e s m args below meth c ls hC hr hlk hT hP hS hl
  have hx := hC.1.1
  have hb := hC.1.2.1
  have hown := hC.1.2.2.2.1
  have hts := hC.1.2.2.2.2
  have hl : lv_has ls 4 [(0, .int x0), (1, .int x1), (2, .int x2)] := hl
  unfold xSetter_passesOver at hf
  refine lv_iload_n hx hb d_Setter_passesOver_0 rfl (lv_at hl 0 rfl) ?_
  refine lv_bipush (v := 8) hx hb d_Setter_passesOver_1 (by decide) ?_
  refine lv_ishr hx hb d_Setter_passesOver_3 ?_
  obtain ⟨x3_1001, e_x3_1001, hf⟩ := q_lt_some hf
  refine q_topi e_x3_1001 ?_
  refine lv_istore_n (lv' := [(3, .int x3_1001), (0, .int x0), (1, .int x1), (2, .int x2)]) hx hb d_Setter_passesOver_4 rfl hl (by decide) rfl (fun ls hl => ?_)
  refine lv_iload_n hx hb d_Setter_passesOver_5 rfl (lv_at hl 2 rfl) ?_
  by_cases c1 : x1 = 1
  · rw [if_pos c1] at hf
    refine lv_tableIn (tgt := 32) hx hb d_Setter_passesOver_6 (by rw [c1]; decide) (by rw [c1]; decide) (by rw [c1]; rfl) (by decide) ?_
    refine lv_iload_n hx hb d_Setter_passesOver_32 rfl (lv_at hl 1 rfl) ?_
    refine lv_iconst (v := 2) hx hb d_Setter_passesOver_33 (by decide) ?_
    refine lv_iand hx hb d_Setter_passesOver_34 ?_
    refine lv_if_eq (tgt := 42) hx hb d_Setter_passesOver_35 (by decide) (fun c1 => ?_) (fun c1 => ?_)
    · rw [if_pos c1] at hf
      refine lv_iconst (v := 0) hx hb d_Setter_passesOver_42 (by decide) ?_
      exact q_iretP hC hr hlk hf (by first | rfl | decide) hS d_Setter_passesOver_43
    rw [if_neg c1] at hf
    refine lv_iconst (v := 1) hx hb d_Setter_passesOver_38 (by decide) ?_
    refine lv_goto (tgt := 43) hx hb d_Setter_passesOver_39 (by decide) ?_
    exact q_iretP hC hr hlk hf (by first | rfl | decide) hS d_Setter_passesOver_43
  rw [if_neg c1] at hf
  by_cases c2 : x1 = 2
  · rw [if_pos c2] at hf
    refine lv_tableIn (tgt := 44) hx hb d_Setter_passesOver_6 (by rw [c2]; decide) (by rw [c2]; decide) (by rw [c2]; rfl) (by decide) ?_
    refine lv_iload_n hx hb d_Setter_passesOver_44 rfl (lv_at hl 1 rfl) ?_
    refine lv_iconst (v := 4) hx hb d_Setter_passesOver_45 (by decide) ?_
    refine lv_iand hx hb d_Setter_passesOver_46 ?_
    refine lv_if_eq (tgt := 54) hx hb d_Setter_passesOver_47 (by decide) (fun c1 => ?_) (fun c1 => ?_)
    · rw [if_pos c1] at hf
      refine lv_iconst (v := 0) hx hb d_Setter_passesOver_54 (by decide) ?_
      exact q_iretP hC hr hlk hf (by first | rfl | decide) hS d_Setter_passesOver_55
    rw [if_neg c1] at hf
    refine lv_iconst (v := 1) hx hb d_Setter_passesOver_50 (by decide) ?_
    refine lv_goto (tgt := 55) hx hb d_Setter_passesOver_51 (by decide) ?_
    exact q_iretP hC hr hlk hf (by first | rfl | decide) hS d_Setter_passesOver_55
  rw [if_neg c2] at hf
  by_cases c3 : x1 = 3
  · rw [if_pos c3] at hf
    refine lv_tableIn (tgt := 56) hx hb d_Setter_passesOver_6 (by rw [c3]; decide) (by rw [c3]; decide) (by rw [c3]; rfl) (by decide) ?_
    refine lv_iload_n hx hb d_Setter_passesOver_56 rfl (lv_at hl 1 rfl) ?_
    refine lv_bipush (v := 8) hx hb d_Setter_passesOver_57 (by decide) ?_
    refine lv_iand hx hb d_Setter_passesOver_59 ?_
    refine lv_if_ne (tgt := 72) hx hb d_Setter_passesOver_60 (by decide) (fun c1 => ?_) (fun c1 => ?_)
    · rw [if_neg c1] at hf
      refine lv_iconst (v := 1) hx hb d_Setter_passesOver_72 (by decide) ?_
      refine lv_goto (tgt := 77) hx hb d_Setter_passesOver_73 (by decide) ?_
      exact q_iretP hC hr hlk hf (by first | rfl | decide) hS d_Setter_passesOver_77
    rw [if_pos c1] at hf
    refine lv_iload_n hx hb d_Setter_passesOver_63 rfl (lv_at hl 0 rfl) ?_
    refine lv_if_eq (tgt := 76) hx hb d_Setter_passesOver_64 (by decide) (fun c1 => ?_) (fun c1 => ?_)
    · rw [if_pos c1] at hf
      refine lv_iconst (v := 0) hx hb d_Setter_passesOver_76 (by decide) ?_
      exact q_iretP hC hr hlk hf (by first | rfl | decide) hS d_Setter_passesOver_77
    rw [if_neg c1] at hf
    refine lv_iload_n hx hb d_Setter_passesOver_67 rfl (lv_at hl 0 rfl) ?_
    refine lv_iload_n hx hb d_Setter_passesOver_68 rfl (lv_at hl 3 rfl) ?_
    refine lv_icmp_eq (tgt := 76) hx hb d_Setter_passesOver_69 (by decide) (fun c1 => ?_) (fun c1 => ?_)
    · rw [if_pos c1] at hf
      refine lv_iconst (v := 0) hx hb d_Setter_passesOver_76 (by decide) ?_
      exact q_iretP hC hr hlk hf (by first | rfl | decide) hS d_Setter_passesOver_77
    rw [if_neg c1] at hf
    refine lv_iconst (v := 1) hx hb d_Setter_passesOver_72 (by decide) ?_
    refine lv_goto (tgt := 77) hx hb d_Setter_passesOver_73 (by decide) ?_
    exact q_iretP hC hr hlk hf (by first | rfl | decide) hS d_Setter_passesOver_77
  rw [if_neg c3] at hf
  refine lv_tableOut (tgt := 78) hx hb d_Setter_passesOver_6 (by have z0 := True.intro; have z2 : (x1).toInt ≠ 1 := q_ine c1; have z3 : (x1).toInt ≠ 2 := q_ine c2; have z4 : (x1).toInt ≠ 3 := q_ine c3; omega) (by decide) ?_
  refine lv_iconst (v := 0) hx hb d_Setter_passesOver_78 (by decide) ?_
  exact q_iretP hC hr hlk hf (by first | rfl | decide) hS d_Setter_passesOver_79
def xSetter_findPassedOver_77 (N : Nat) : Nat → Int32 → Int32 → QSt → Option QSt
  | 0, _, _, _ => none
  | n_77 + 1, x2_77, x3_77, st_77 => if x3_77 < 0 then (some st_77) else (q_grd (q_vpb x3_77 800) (q_lt (q_pa st_77 25 x3_77.toNatClampNeg x2_77) (fun s2 => q_grd (q_vpb x3_77 800) (q_lt (s2.2 23 x3_77.toNatClampNeg) (fun v3 => if v3 = 0 then (xSetter_findPassedOver_77 N n_77 x3_77 (x3_77 + (-1)) s2) else (xSetter_findPassedOver_77 N n_77 x2_77 (x3_77 + (-1)) s2))))))
def xSetter_findPassedOver_4 (N : Nat) (x1_4 : Int32) : Nat → Int32 → Int32 → QSt → Option QSt
  | 0, _, _, _ => none
  | n_4 + 1, x2_4, x3_4, st_4 => if (st_4.1 9) ≤ x3_4 then (q_lt ((st_4.1 9) - 1) (fun x3_1001 => xSetter_findPassedOver_77 N N (-1) x3_1001 st_4)) else (q_grd (q_vpb x3_4 800) (q_lt (st_4.2 20 x3_4.toNatClampNeg) (fun v4 => q_grd (q_vpb x3_4 800) (q_lt (st_4.2 21 x3_4.toNatClampNeg) (fun v5 => q_bn (xSetter_passesOver x1_4 v4 v5) (fun r6 => q_grd (q_vpb x3_4 800) (q_lt (q_pa st_4 23 x3_4.toNatClampNeg (vp_nar .boolean r6)) (fun s7 => q_grd (q_vpb x3_4 800) (q_lt (q_pa s7 24 x3_4.toNatClampNeg x2_4) (fun s8 => q_grd (q_vpb x3_4 800) (q_lt (s8.2 23 x3_4.toNatClampNeg) (fun v9 => if v9 = 0 then (xSetter_findPassedOver_4 N x1_4 n_4 x3_4 (x3_4 + 1) s8) else (xSetter_findPassedOver_4 N x1_4 n_4 x2_4 (x3_4 + 1) s8)))))))))))))
def xSetter_findPassedOver (N : Nat) (x1 : Int32) (st : QSt) : Option QSt :=
  xSetter_findPassedOver_4 N x1 N (-1) 0 st
set_option maxHeartbeats 4000000 in
set_option maxRecDepth 100000 in
theorem c_xSetter_findPassedOver (l : Launch) (G : XG) {N : Nat} {x1 : Int32} {st : QSt} {so : QSt} (hf : xSetter_findPassedOver N x1 st = some so) : q_Mv l y_Setter_findPassedOver b_Setter_findPassedOver 4 ({ frames := 1, cells := 0, slots := 0, locals := 23 } : Room) G.1 (xT G) (wX G) [.ref (G.2.2 29), .int x1] st so := by
  refine q_Mv_of (by decide) (Nat.le_of_ble_eq_true rfl) (wX_fst G) ?_
  intro p e s m args below meth c A ls hC hr hlk hT hD hA hP hS hl
  have hx := hC.1.1
  have hb := hC.1.2.1
  have hown := hC.1.2.2.2.1
  have hts := hC.1.2.2.2.2
  have hl : lv_has ls 4 [(0, .ref (G.2.2 29)), (1, .int x1)] := hl
  have L_77 : ∀ (n_77 : Nat) (x2_77 x3_77 : Int32) (st_77 : QSt) (H : Heap) (locs : List Loc) (ls : Array Slot), xSetter_findPassedOver_77 N n_77 x2_77 x3_77 st_77 = some so → va_P G.1 vwCl (wX G st_77) H → va_S A s.heap H locs → lv_has ls 4 [(0, .ref (G.2.2 29)), (2, .int x2_77), (3, .int x3_77)] → W p l e ({ frames := 1, cells := 0, slots := 0, locals := 23 } : Room) s m args below meth c H locs 0 0 (q_Zv below args s G.1 (wX G) so A) (F0 m 77 ls []) := by
    intro n_77
    induction n_77 with
    | zero => intro _ _ _ _ _ _ hf; exact absurd hf (by simp [xSetter_findPassedOver_77])
    | succ n_77 ih_77 =>
      intro x2_77 x3_77 st_77 H locs ls hf hP hS hl
      rw [xSetter_findPassedOver_77] at hf
      refine lv_iload_n hx hb d_Setter_findPassedOver_77 rfl (lv_at hl 2 rfl) ?_
      refine lv_if_lt (tgt := 109) hx hb d_Setter_findPassedOver_78 (by decide) (fun c1 => ?_) (fun c1 => ?_)
      · rw [if_pos c1] at hf
        exact q_vret hC hr hlk hf hP hS d_Setter_findPassedOver_109
      rw [if_neg c1] at hf
      refine lv_aload_n hx hb d_Setter_findPassedOver_81 rfl (lv_at hl 0 rfl) ?_
      refine xg_29_next hC hP wq_90 d_Setter_findPassedOver_82 ?_
      refine lv_iload_n hx hb d_Setter_findPassedOver_85 rfl (lv_at hl 2 rfl) ?_
      refine lv_iload_n hx hb d_Setter_findPassedOver_86 rfl (lv_at hl 1 rfl) ?_
      obtain ⟨hi, hf⟩ := q_grd_some hf
      obtain ⟨s2, e_s2, hf⟩ := q_lt_some hf
      refine xs_35 hC hP hD hS e_s2 hi d_Setter_findPassedOver_87 (fun H locs hP hS => ?_)
      refine lv_aload_n hx hb d_Setter_findPassedOver_88 rfl (lv_at hl 0 rfl) ?_
      refine xg_29_passedOver hC hP wq_91 d_Setter_findPassedOver_89 ?_
      refine lv_iload_n hx hb d_Setter_findPassedOver_92 rfl (lv_at hl 2 rfl) ?_
      obtain ⟨hi, hf⟩ := q_grd_some hf
      obtain ⟨v3, e_v3, hf⟩ := q_lt_some hf
      refine xl_33 hC hP e_v3 hi d_Setter_findPassedOver_93 ?_
      refine lv_if_eq (tgt := 101) hx hb d_Setter_findPassedOver_94 (by decide) (fun c1 => ?_) (fun c1 => ?_)
      · rw [if_pos c1] at hf
        refine lv_iload_n hx hb d_Setter_findPassedOver_101 rfl (lv_at hl 2 rfl) ?_
        refine lv_istore_n (lv' := [(2, .int x3_77), (0, .ref (G.2.2 29)), (3, .int x3_77)]) hx hb d_Setter_findPassedOver_102 rfl hl (by decide) rfl (fun ls hl => ?_)
        refine lv_iinc (v := x3_77 + (-1)) (lv' := [(3, .int (x3_77 + (-1))), (2, .int x3_77), (0, .ref (G.2.2 29))]) hx hb d_Setter_findPassedOver_103 hl (k := 2) rfl rfl (by decide) rfl (fun ls hl => ?_)
        refine lv_goto (tgt := 77) hx hb d_Setter_findPassedOver_106 (by decide) ?_
        exact ih_77 _ _ _ _ _ _ hf hP hS (lv_sub hl [2, 1, 0] rfl)
      rw [if_neg c1] at hf
      refine lv_iload_n hx hb d_Setter_findPassedOver_97 rfl (lv_at hl 1 rfl) ?_
      refine lv_goto (tgt := 102) hx hb d_Setter_findPassedOver_98 (by decide) ?_
      refine lv_istore_n (lv' := [(2, .int x2_77), (0, .ref (G.2.2 29)), (3, .int x3_77)]) hx hb d_Setter_findPassedOver_102 rfl hl (by decide) rfl (fun ls hl => ?_)
      refine lv_iinc (v := x3_77 + (-1)) (lv' := [(3, .int (x3_77 + (-1))), (2, .int x2_77), (0, .ref (G.2.2 29))]) hx hb d_Setter_findPassedOver_103 hl (k := 2) rfl rfl (by decide) rfl (fun ls hl => ?_)
      refine lv_goto (tgt := 77) hx hb d_Setter_findPassedOver_106 (by decide) ?_
      exact ih_77 _ _ _ _ _ _ hf hP hS (lv_sub hl [2, 1, 0] rfl)
  have L_4 : ∀ (x1_4 : Int32) (n_4 : Nat) (x2_4 x3_4 : Int32) (st_4 : QSt) (H : Heap) (locs : List Loc) (ls : Array Slot), xSetter_findPassedOver_4 N x1_4 n_4 x2_4 x3_4 st_4 = some so → va_P G.1 vwCl (wX G st_4) H → va_S A s.heap H locs → lv_has ls 4 [(0, .ref (G.2.2 29)), (1, .int x1_4), (2, .int x2_4), (3, .int x3_4)] → W p l e ({ frames := 1, cells := 0, slots := 0, locals := 23 } : Room) s m args below meth c H locs 0 0 (q_Zv below args s G.1 (wX G) so A) (F0 m 4 ls []) := by
    intro x1_4 n_4
    induction n_4 with
    | zero => intro _ _ _ _ _ _ hf; exact absurd hf (by simp [xSetter_findPassedOver_4])
    | succ n_4 ih_4 =>
      intro x2_4 x3_4 st_4 H locs ls hf hP hS hl
      rw [xSetter_findPassedOver_4] at hf
      refine lv_iload_n hx hb d_Setter_findPassedOver_4 rfl (lv_at hl 3 rfl) ?_
      refine lv_aload_n hx hb d_Setter_findPassedOver_5 rfl (lv_at hl 0 rfl) ?_
      refine xg_29_run hC hP wq_83 d_Setter_findPassedOver_6 ?_
      refine xgN_20_count hC hP wq_84 d_Setter_findPassedOver_9 ?_
      refine lv_icmp_ge (tgt := 65) hx hb d_Setter_findPassedOver_12 (by decide) (fun c1 => ?_) (fun c1 => ?_)
      · rw [if_pos c1] at hf
        refine lv_iconst (v := (-1)) hx hb d_Setter_findPassedOver_65 (by decide) ?_
        refine lv_istore_n (lv' := [(2, .int (-1)), (0, .ref (G.2.2 29)), (1, .int x1_4), (3, .int x3_4)]) hx hb d_Setter_findPassedOver_66 rfl hl (by decide) rfl (fun ls hl => ?_)
        refine lv_aload_n hx hb d_Setter_findPassedOver_67 rfl (lv_at hl 1 rfl) ?_
        refine xg_29_run hC hP wq_83 d_Setter_findPassedOver_68 ?_
        refine xgN_20_count hC hP wq_84 d_Setter_findPassedOver_71 ?_
        refine lv_iconst (v := 1) hx hb d_Setter_findPassedOver_74 (by decide) ?_
        refine lv_isub hx hb d_Setter_findPassedOver_75 ?_
        obtain ⟨x3_1001, e_x3_1001, hf⟩ := q_lt_some hf
        refine q_topi e_x3_1001 ?_
        refine lv_istore_n (lv' := [(3, .int x3_1001), (2, .int (-1)), (0, .ref (G.2.2 29)), (1, .int x1_4)]) hx hb d_Setter_findPassedOver_76 rfl hl (by decide) rfl (fun ls hl => ?_)
        exact L_77 _ _ _ _ _ _ _ hf hP hS (lv_sub hl [2, 1, 0] rfl)
      rw [if_neg c1] at hf
      refine lv_aload_n hx hb d_Setter_findPassedOver_15 rfl (lv_at hl 0 rfl) ?_
      refine xg_29_passedOver hC hP wq_91 d_Setter_findPassedOver_16 ?_
      refine lv_iload_n hx hb d_Setter_findPassedOver_19 rfl (lv_at hl 3 rfl) ?_
      refine lv_iload_n hx hb d_Setter_findPassedOver_20 rfl (lv_at hl 1 rfl) ?_
      refine lv_aload_n hx hb d_Setter_findPassedOver_21 rfl (lv_at hl 0 rfl) ?_
      refine xg_29_kind hC hP wq_79 d_Setter_findPassedOver_22 ?_
      refine lv_iload_n hx hb d_Setter_findPassedOver_25 rfl (lv_at hl 3 rfl) ?_
      obtain ⟨hi, hf⟩ := q_grd_some hf
      obtain ⟨v4, e_v4, hf⟩ := q_lt_some hf
      refine xl_30 hC hP e_v4 hi d_Setter_findPassedOver_26 ?_
      refine lv_aload_n hx hb d_Setter_findPassedOver_27 rfl (lv_at hl 0 rfl) ?_
      refine xg_29_marks hC hP wq_80 d_Setter_findPassedOver_28 ?_
      refine lv_iload_n hx hb d_Setter_findPassedOver_31 rfl (lv_at hl 3 rfl) ?_
      obtain ⟨hi, hf⟩ := q_grd_some hf
      obtain ⟨v5, e_v5, hf⟩ := q_lt_some hf
      refine xl_31 hC hP e_v5 hi d_Setter_findPassedOver_32 ?_
      obtain ⟨r6, h_r6, hf⟩ := q_bn_some hf
      refine q_callSp (As := [.int x1_4, .int v4, .int v5]) (rest := [.int x3_4, .ref (G.2.2 33)]) hC (c_xSetter_passesOver l G h_r6) cal_Setter_passesOver wq_92 ⟨rfl, rfl, Nat.le_of_ble_eq_true rfl, Nat.le_of_ble_eq_true rfl⟩ hP hT hS rfl hl.1 rfl (Nat.le_of_ble_eq_true rfl) d_Setter_findPassedOver_33 (fun H locs hP hS => ?_)
      obtain ⟨hi, hf⟩ := q_grd_some hf
      obtain ⟨s7, e_s7, hf⟩ := q_lt_some hf
      refine xs_33 hC hP hD hS e_s7 hi d_Setter_findPassedOver_36 (fun H locs hP hS => ?_)
      refine lv_aload_n hx hb d_Setter_findPassedOver_37 rfl (lv_at hl 0 rfl) ?_
      refine xg_29_before hC hP wq_93 d_Setter_findPassedOver_38 ?_
      refine lv_iload_n hx hb d_Setter_findPassedOver_41 rfl (lv_at hl 3 rfl) ?_
      refine lv_iload_n hx hb d_Setter_findPassedOver_42 rfl (lv_at hl 2 rfl) ?_
      obtain ⟨hi, hf⟩ := q_grd_some hf
      obtain ⟨s8, e_s8, hf⟩ := q_lt_some hf
      refine xs_34 hC hP hD hS e_s8 hi d_Setter_findPassedOver_43 (fun H locs hP hS => ?_)
      refine lv_aload_n hx hb d_Setter_findPassedOver_44 rfl (lv_at hl 0 rfl) ?_
      refine xg_29_passedOver hC hP wq_91 d_Setter_findPassedOver_45 ?_
      refine lv_iload_n hx hb d_Setter_findPassedOver_48 rfl (lv_at hl 3 rfl) ?_
      obtain ⟨hi, hf⟩ := q_grd_some hf
      obtain ⟨v9, e_v9, hf⟩ := q_lt_some hf
      refine xl_33 hC hP e_v9 hi d_Setter_findPassedOver_49 ?_
      refine lv_if_eq (tgt := 57) hx hb d_Setter_findPassedOver_50 (by decide) (fun c1 => ?_) (fun c1 => ?_)
      · rw [if_pos c1] at hf
        refine lv_iload_n hx hb d_Setter_findPassedOver_57 rfl (lv_at hl 3 rfl) ?_
        refine lv_istore_n (lv' := [(2, .int x3_4), (0, .ref (G.2.2 29)), (1, .int x1_4), (3, .int x3_4)]) hx hb d_Setter_findPassedOver_58 rfl hl (by decide) rfl (fun ls hl => ?_)
        refine lv_iinc (v := x3_4 + 1) (lv' := [(3, .int (x3_4 + 1)), (2, .int x3_4), (0, .ref (G.2.2 29)), (1, .int x1_4)]) hx hb d_Setter_findPassedOver_59 hl (k := 3) rfl rfl (by decide) rfl (fun ls hl => ?_)
        refine lv_goto (tgt := 4) hx hb d_Setter_findPassedOver_62 (by decide) ?_
        exact ih_4 _ _ _ _ _ _ hf hP hS (lv_sub hl [2, 3, 1, 0] rfl)
      rw [if_neg c1] at hf
      refine lv_iload_n hx hb d_Setter_findPassedOver_53 rfl (lv_at hl 2 rfl) ?_
      refine lv_goto (tgt := 58) hx hb d_Setter_findPassedOver_54 (by decide) ?_
      refine lv_istore_n (lv' := [(2, .int x2_4), (0, .ref (G.2.2 29)), (1, .int x1_4), (3, .int x3_4)]) hx hb d_Setter_findPassedOver_58 rfl hl (by decide) rfl (fun ls hl => ?_)
      refine lv_iinc (v := x3_4 + 1) (lv' := [(3, .int (x3_4 + 1)), (2, .int x2_4), (0, .ref (G.2.2 29)), (1, .int x1_4)]) hx hb d_Setter_findPassedOver_59 hl (k := 3) rfl rfl (by decide) rfl (fun ls hl => ?_)
      refine lv_goto (tgt := 4) hx hb d_Setter_findPassedOver_62 (by decide) ?_
      exact ih_4 _ _ _ _ _ _ hf hP hS (lv_sub hl [2, 3, 1, 0] rfl)
  unfold xSetter_findPassedOver at hf
  refine lv_iconst (v := (-1)) hx hb d_Setter_findPassedOver_0 (by decide) ?_
  refine lv_istore_n (lv' := [(2, .int (-1)), (0, .ref (G.2.2 29)), (1, .int x1)]) hx hb d_Setter_findPassedOver_1 rfl hl (by decide) rfl (fun ls hl => ?_)
  refine lv_iconst (v := 0) hx hb d_Setter_findPassedOver_2 (by decide) ?_
  refine lv_istore_n (lv' := [(3, .int 0), (2, .int (-1)), (0, .ref (G.2.2 29)), (1, .int x1)]) hx hb d_Setter_findPassedOver_3 rfl hl (by decide) rfl (fun ls hl => ?_)
  exact L_4 _ _ _ _ _ _ _ _ hf hP hS (lv_sub hl [2, 3, 1, 0] rfl)
def xGlyphSets_lastUpTo_6 (N : Nat) (st : QSt) (x1_6 x3_6 x4_6 : Int32) : Nat → Int32 → Int32 → Option Int32
  | 0, _, _ => none
  | n_6 + 1, x5_6, x6_6 => if x6_6 ≤ x5_6 then (some (x5_6 - 1)) else (q_lt (q_ush (x5_6 + x6_6) 1) (fun x7_1001 => q_bn (xTable_u16_3 (x1_6 + (x3_6 * x7_1001)) st) (fun r2 => if x4_6 < r2 then (xGlyphSets_lastUpTo_6 N st x1_6 x3_6 x4_6 n_6 x5_6 x7_1001) else (q_lt (x7_1001 + 1) (fun x5_1003 => xGlyphSets_lastUpTo_6 N st x1_6 x3_6 x4_6 n_6 x5_1003 x6_6)))))
def xGlyphSets_lastUpTo (N : Nat) (x1 x2 x3 x4 : Int32) (st : QSt) : Option Int32 :=
  xGlyphSets_lastUpTo_6 N st x1 x3 x4 N 0 x2
set_option maxHeartbeats 4000000 in
set_option maxRecDepth 100000 in
theorem c_xGlyphSets_lastUpTo (l : Launch) (G : XG) {N : Nat} {x1 x2 x3 x4 : Int32} {st : QSt} {ro : Int32} (hf : xGlyphSets_lastUpTo N x1 x2 x3 x4 st = some ro) : q_Mp l y_GlyphSets_lastUpTo b_GlyphSets_lastUpTo 8 .int ({ frames := 1, cells := 0, slots := 0, locals := 21 } : Room) G.1 (xT G) (wX G) [.ref (G.2.2 3), .int x1, .int x2, .int x3, .int x4] st ro := by
  refine q_Mp_of (by decide) (Nat.le_of_ble_eq_true rfl) (wX_fst G) ?_
  intro p e s m args below meth c ls hC hr hlk hT hP hS hl
  have hx := hC.1.1
  have hb := hC.1.2.1
  have hown := hC.1.2.2.2.1
  have hts := hC.1.2.2.2.2
  have hl : lv_has ls 8 [(0, .ref (G.2.2 3)), (1, .int x1), (2, .int x2), (3, .int x3), (4, .int x4)] := hl
  have L_6 : ∀ (x1_6 x3_6 x4_6 : Int32) (n_6 : Nat) (x5_6 x6_6 : Int32) (H : Heap) (locs : List Loc) (ls : Array Slot), xGlyphSets_lastUpTo_6 N st x1_6 x3_6 x4_6 n_6 x5_6 x6_6 = some ro → va_P G.1 vwCl (wX G st) H → va_S (fun _ => False) s.heap H locs → lv_has ls 8 [(0, .ref (G.2.2 3)), (1, .int x1_6), (3, .int x3_6), (4, .int x4_6), (5, .int x5_6), (6, .int x6_6)] → W p l e ({ frames := 1, cells := 0, slots := 0, locals := 21 } : Room) s m args below meth c H locs 0 0 (q_Zp below args s ro) (F0 m 6 ls []) := by
    intro x1_6 x3_6 x4_6 n_6
    induction n_6 with
    | zero => intro _ _ _ _ _ hf; exact absurd hf (by simp [xGlyphSets_lastUpTo_6])
    | succ n_6 ih_6 =>
      intro x5_6 x6_6 H locs ls hf hP hS hl
      rw [xGlyphSets_lastUpTo_6] at hf
      refine lv_iload hx hb d_GlyphSets_lastUpTo_6 (lv_at hl 4 rfl) ?_
      refine lv_iload hx hb d_GlyphSets_lastUpTo_8 (lv_at hl 5 rfl) ?_
      refine lv_icmp_ge (tgt := 53) hx hb d_GlyphSets_lastUpTo_10 (by decide) (fun c1 => ?_) (fun c1 => ?_)
      · rw [if_pos c1] at hf
        refine lv_iload hx hb d_GlyphSets_lastUpTo_53 (lv_at hl 4 rfl) ?_
        refine lv_iconst (v := 1) hx hb d_GlyphSets_lastUpTo_55 (by decide) ?_
        refine lv_isub hx hb d_GlyphSets_lastUpTo_56 ?_
        exact q_iretP hC hr hlk hf (by first | rfl | decide) hS d_GlyphSets_lastUpTo_57
      rw [if_neg c1] at hf
      refine lv_iload hx hb d_GlyphSets_lastUpTo_13 (lv_at hl 4 rfl) ?_
      refine lv_iload hx hb d_GlyphSets_lastUpTo_15 (lv_at hl 5 rfl) ?_
      refine lv_iadd hx hb d_GlyphSets_lastUpTo_17 ?_
      refine lv_iconst (v := 1) hx hb d_GlyphSets_lastUpTo_18 (by decide) ?_
      refine lv_iushr (v := q_ush (x5_6 + x6_6) 1) hx hb d_GlyphSets_lastUpTo_19 rfl ?_
      obtain ⟨x7_1001, e_x7_1001, hf⟩ := q_lt_some hf
      refine q_topi e_x7_1001 ?_
      refine lv_istore (lv' := [(7, .int x7_1001), (0, .ref (G.2.2 3)), (1, .int x1_6), (3, .int x3_6), (4, .int x4_6), (5, .int x5_6), (6, .int x6_6)]) hx hb d_GlyphSets_lastUpTo_20 hl (by decide) rfl (fun ls hl => ?_)
      refine lv_aload_n hx hb d_GlyphSets_lastUpTo_22 rfl (lv_at hl 1 rfl) ?_
      refine lv_iload_n hx hb d_GlyphSets_lastUpTo_23 rfl (lv_at hl 2 rfl) ?_
      refine lv_iload_n hx hb d_GlyphSets_lastUpTo_24 rfl (lv_at hl 3 rfl) ?_
      refine lv_iload hx hb d_GlyphSets_lastUpTo_25 (lv_at hl 0 rfl) ?_
      refine lv_imul hx hb d_GlyphSets_lastUpTo_27 ?_
      refine lv_iadd hx hb d_GlyphSets_lastUpTo_28 ?_
      obtain ⟨r2, h_r2, hf⟩ := q_bn_some hf
      refine q_callVp (As := [.int (x1_6 + (x3_6 * x7_1001))]) (rest := []) (q0 := 3) hC (c_xTable_u16_3 l G h_r2) cal_Table_u16 wq_94 ⟨rfl, rfl, Nat.le_of_ble_eq_true rfl, Nat.le_of_ble_eq_true rfl⟩ rfl rfl hP hT hS rfl hl.1 rfl (Nat.le_of_ble_eq_true rfl) d_GlyphSets_lastUpTo_29 (fun H locs hP hS => ?_)
      refine lv_iload hx hb d_GlyphSets_lastUpTo_32 (lv_at hl 4 rfl) ?_
      refine lv_icmp_gt (tgt := 46) hx hb d_GlyphSets_lastUpTo_34 (by decide) (fun c1 => ?_) (fun c1 => ?_)
      · rw [if_pos c1] at hf
        refine lv_iload hx hb d_GlyphSets_lastUpTo_46 (lv_at hl 0 rfl) ?_
        refine lv_istore (lv' := [(6, .int x7_1001), (7, .int x7_1001), (0, .ref (G.2.2 3)), (1, .int x1_6), (3, .int x3_6), (4, .int x4_6), (5, .int x5_6)]) hx hb d_GlyphSets_lastUpTo_48 hl (by decide) rfl (fun ls hl => ?_)
        refine lv_goto (tgt := 6) hx hb d_GlyphSets_lastUpTo_50 (by decide) ?_
        exact ih_6 _ _ _ _ _ hf hP hS (lv_sub hl [2, 3, 4, 5, 6, 0] rfl)
      rw [if_neg c1] at hf
      refine lv_iload hx hb d_GlyphSets_lastUpTo_37 (lv_at hl 0 rfl) ?_
      refine lv_iconst (v := 1) hx hb d_GlyphSets_lastUpTo_39 (by decide) ?_
      refine lv_iadd hx hb d_GlyphSets_lastUpTo_40 ?_
      obtain ⟨x5_1003, e_x5_1003, hf⟩ := q_lt_some hf
      refine q_topi e_x5_1003 ?_
      refine lv_istore (lv' := [(5, .int x5_1003), (7, .int x7_1001), (0, .ref (G.2.2 3)), (1, .int x1_6), (3, .int x3_6), (4, .int x4_6), (6, .int x6_6)]) hx hb d_GlyphSets_lastUpTo_41 hl (by decide) rfl (fun ls hl => ?_)
      refine lv_goto (tgt := 50) hx hb d_GlyphSets_lastUpTo_43 (by decide) ?_
      refine lv_goto (tgt := 6) hx hb d_GlyphSets_lastUpTo_50 (by decide) ?_
      exact ih_6 _ _ _ _ _ hf hP hS (lv_sub hl [2, 3, 4, 5, 0, 6] rfl)
  unfold xGlyphSets_lastUpTo at hf
  refine lv_iconst (v := 0) hx hb d_GlyphSets_lastUpTo_0 (by decide) ?_
  refine lv_istore (lv' := [(5, .int 0), (0, .ref (G.2.2 3)), (1, .int x1), (2, .int x2), (3, .int x3), (4, .int x4)]) hx hb d_GlyphSets_lastUpTo_1 hl (by decide) rfl (fun ls hl => ?_)
  refine lv_iload_n hx hb d_GlyphSets_lastUpTo_3 rfl (lv_at hl 3 rfl) ?_
  refine lv_istore (lv' := [(6, .int x2), (5, .int 0), (0, .ref (G.2.2 3)), (1, .int x1), (2, .int x2), (3, .int x3), (4, .int x4)]) hx hb d_GlyphSets_lastUpTo_4 hl (by decide) rfl (fun ls hl => ?_)
  exact L_6 _ _ _ _ _ _ _ _ _ hf hP hS (lv_sub hl [2, 3, 5, 6, 1, 0] rfl)
def xGlyphSets_indexOf_25 (N : Nat) (st : QSt) (x1_25 x2_25 x3_25 : Int32) (w0_25 : Int32) : Option Int32 :=
  q_bn (xTable_u16_3 (x1_25 + 2) st) (fun r2 => q_bn (xGlyphSets_lastUpTo N (x1_25 + 4) r2 w0_25 x2_25 st) (fun r3 => if r3 = (-1) then (some (-1)) else (q_lt ((x1_25 + 4) + (w0_25 * r3)) (fun x6_1004 => if x3_25 = 0 then (q_bn (xTable_u16_3 x6_1004 st) (fun r5 => if x2_25 = r5 then (some r3) else (some (-1)))) else (q_bn (xTable_u16_3 x6_1004 st) (fun r6 => q_lt (x2_25 - r6) (fun x7_1007 => q_bn (xTable_u16_3 (x6_1004 + 2) st) (fun r8 => if r8 < x2_25 then (some (-1)) else (q_bn (xTable_u16_3 (x6_1004 + 4) st) (fun r9 => some (r9 + x7_1007)))))))))))
def xGlyphSets_indexOf_14 (N : Nat) (st : QSt) (x1_14 x2_14 : Int32) (w0_14 : Int32) : Option Int32 :=
  if w0_14 = 0 then (xGlyphSets_indexOf_25 N st x1_14 x2_14 w0_14 2) else (xGlyphSets_indexOf_25 N st x1_14 x2_14 w0_14 6)
def xGlyphSets_indexOf (N : Nat) (x1 x2 : Int32) (st : QSt) : Option Int32 :=
  q_bn (xTable_u16_3 x1 st) (fun r1 => if r1 = 2 then (xGlyphSets_indexOf_14 N st x1 x2 1) else (xGlyphSets_indexOf_14 N st x1 x2 0))
set_option maxHeartbeats 4000000 in
set_option maxRecDepth 100000 in
theorem c_xGlyphSets_indexOf (l : Launch) (G : XG) {N : Nat} {x1 x2 : Int32} {st : QSt} {ro : Int32} (hf : xGlyphSets_indexOf N x1 x2 st = some ro) : q_Mp l y_GlyphSets_indexOf b_GlyphSets_indexOf 8 .int ({ frames := 2, cells := 0, slots := 0, locals := 48 } : Room) G.1 (xT G) (wX G) [.ref (G.2.2 3), .int x1, .int x2] st ro := by
  refine q_Mp_of (by decide) (Nat.le_of_ble_eq_true rfl) (wX_fst G) ?_
  intro p e s m args below meth c ls hC hr hlk hT hP hS hl
  have hx := hC.1.1
  have hb := hC.1.2.1
  have hown := hC.1.2.2.2.1
  have hts := hC.1.2.2.2.2
  have hl : lv_has ls 8 [(0, .ref (G.2.2 3)), (1, .int x1), (2, .int x2)] := hl
  have J_25 : ∀ (x1_25 x2_25 x3_25 w0_25 : Int32) (H : Heap) (locs : List Loc) (ls : Array Slot), xGlyphSets_indexOf_25 N st x1_25 x2_25 x3_25 w0_25 = some ro → va_P G.1 vwCl (wX G st) H → va_S (fun _ => False) s.heap H locs → lv_has ls 8 [(0, .ref (G.2.2 3)), (1, .int x1_25), (2, .int x2_25), (3, .int x3_25)] → W p l e ({ frames := 2, cells := 0, slots := 0, locals := 48 } : Room) s m args below meth c H locs 0 0 (q_Zp below args s ro) (F0 m 25 ls [.int w0_25]) := by
    intro x1_25 x2_25 x3_25 w0_25 H locs ls hf hP hS hl
    unfold xGlyphSets_indexOf_25 at hf
    refine lv_istore (lv' := [(4, .int w0_25), (0, .ref (G.2.2 3)), (1, .int x1_25), (2, .int x2_25), (3, .int x3_25)]) hx hb d_GlyphSets_indexOf_25 hl (by decide) rfl (fun ls hl => ?_)
    refine lv_aload_n hx hb d_GlyphSets_indexOf_27 rfl (lv_at hl 1 rfl) ?_
    refine lv_iload_n hx hb d_GlyphSets_indexOf_28 rfl (lv_at hl 2 rfl) ?_
    refine lv_iconst (v := 4) hx hb d_GlyphSets_indexOf_29 (by decide) ?_
    refine lv_iadd hx hb d_GlyphSets_indexOf_30 ?_
    refine lv_aload_n hx hb d_GlyphSets_indexOf_31 rfl (lv_at hl 1 rfl) ?_
    refine lv_iload_n hx hb d_GlyphSets_indexOf_32 rfl (lv_at hl 2 rfl) ?_
    refine lv_iconst (v := 2) hx hb d_GlyphSets_indexOf_33 (by decide) ?_
    refine lv_iadd hx hb d_GlyphSets_indexOf_34 ?_
    obtain ⟨r2, h_r2, hf⟩ := q_bn_some hf
    refine q_callVp (As := [.int (x1_25 + 2)]) (rest := [.int (x1_25 + 4), .ref (G.2.2 3)]) (q0 := 3) hC (c_xTable_u16_3 l G h_r2) cal_Table_u16 wq_94 ⟨rfl, rfl, Nat.le_of_ble_eq_true rfl, Nat.le_of_ble_eq_true rfl⟩ rfl rfl hP hT hS rfl hl.1 rfl (Nat.le_of_ble_eq_true rfl) d_GlyphSets_indexOf_35 (fun H locs hP hS => ?_)
    refine lv_iload hx hb d_GlyphSets_indexOf_38 (lv_at hl 0 rfl) ?_
    refine lv_iload_n hx hb d_GlyphSets_indexOf_40 rfl (lv_at hl 3 rfl) ?_
    obtain ⟨r3, h_r3, hf⟩ := q_bn_some hf
    refine q_callSp (As := [.ref (G.2.2 3), .int (x1_25 + 4), .int r2, .int w0_25, .int x2_25]) (rest := []) hC (c_xGlyphSets_lastUpTo l G h_r3) cal_GlyphSets_lastUpTo wq_95 ⟨rfl, rfl, Nat.le_of_ble_eq_true rfl, Nat.le_of_ble_eq_true rfl⟩ hP hT hS rfl hl.1 rfl (Nat.le_of_ble_eq_true rfl) d_GlyphSets_indexOf_41 (fun H locs hP hS => ?_)
    refine lv_istore (lv' := [(5, .int r3), (4, .int w0_25), (0, .ref (G.2.2 3)), (1, .int x1_25), (2, .int x2_25), (3, .int x3_25)]) hx hb d_GlyphSets_indexOf_44 hl (by decide) rfl (fun ls hl => ?_)
    refine lv_iload hx hb d_GlyphSets_indexOf_46 (lv_at hl 0 rfl) ?_
    refine lv_iconst (v := (-1)) hx hb d_GlyphSets_indexOf_48 (by decide) ?_
    refine lv_icmp_ne (tgt := 54) hx hb d_GlyphSets_indexOf_49 (by decide) (fun c1 => ?_) (fun c1 => ?_)
    rotate_left
    · rw [if_pos c1] at hf
      refine lv_iconst (v := (-1)) hx hb d_GlyphSets_indexOf_52 (by decide) ?_
      exact q_iretP hC hr hlk hf (by first | rfl | decide) hS d_GlyphSets_indexOf_53
    rw [if_neg c1] at hf
    refine lv_iload_n hx hb d_GlyphSets_indexOf_54 rfl (lv_at hl 3 rfl) ?_
    refine lv_iconst (v := 4) hx hb d_GlyphSets_indexOf_55 (by decide) ?_
    refine lv_iadd hx hb d_GlyphSets_indexOf_56 ?_
    refine lv_iload hx hb d_GlyphSets_indexOf_57 (lv_at hl 1 rfl) ?_
    refine lv_iload hx hb d_GlyphSets_indexOf_59 (lv_at hl 0 rfl) ?_
    refine lv_imul hx hb d_GlyphSets_indexOf_61 ?_
    refine lv_iadd hx hb d_GlyphSets_indexOf_62 ?_
    obtain ⟨x6_1004, e_x6_1004, hf⟩ := q_lt_some hf
    refine q_topi e_x6_1004 ?_
    refine lv_istore (lv' := [(6, .int x6_1004), (5, .int r3), (4, .int w0_25), (0, .ref (G.2.2 3)), (1, .int x1_25), (2, .int x2_25), (3, .int x3_25)]) hx hb d_GlyphSets_indexOf_63 hl (by decide) rfl (fun ls hl => ?_)
    refine lv_iload_n hx hb d_GlyphSets_indexOf_65 rfl (lv_at hl 6 rfl) ?_
    refine lv_if_eq (tgt := 107) hx hb d_GlyphSets_indexOf_66 (by decide) (fun c1 => ?_) (fun c1 => ?_)
    · rw [if_pos c1] at hf
      refine lv_iload_n hx hb d_GlyphSets_indexOf_107 rfl (lv_at hl 5 rfl) ?_
      refine lv_aload_n hx hb d_GlyphSets_indexOf_108 rfl (lv_at hl 3 rfl) ?_
      refine lv_iload hx hb d_GlyphSets_indexOf_109 (lv_at hl 0 rfl) ?_
      obtain ⟨r5, h_r5, hf⟩ := q_bn_some hf
      refine q_callVp (As := [.int x6_1004]) (rest := [.int x2_25]) (q0 := 3) hC (c_xTable_u16_3 l G h_r5) cal_Table_u16 wq_94 ⟨rfl, rfl, Nat.le_of_ble_eq_true rfl, Nat.le_of_ble_eq_true rfl⟩ rfl rfl hP hT hS rfl hl.1 rfl (Nat.le_of_ble_eq_true rfl) d_GlyphSets_indexOf_111 (fun H locs hP hS => ?_)
      refine lv_icmp_ne (tgt := 122) hx hb d_GlyphSets_indexOf_114 (by decide) (fun c1 => ?_) (fun c1 => ?_)
      · rw [if_neg c1] at hf
        refine lv_iconst (v := (-1)) hx hb d_GlyphSets_indexOf_122 (by decide) ?_
        exact q_iretP hC hr hlk hf (by first | rfl | decide) hS d_GlyphSets_indexOf_123
      rw [if_pos c1] at hf
      refine lv_iload hx hb d_GlyphSets_indexOf_117 (lv_at hl 1 rfl) ?_
      refine lv_goto (tgt := 123) hx hb d_GlyphSets_indexOf_119 (by decide) ?_
      exact q_iretP hC hr hlk hf (by first | rfl | decide) hS d_GlyphSets_indexOf_123
    rw [if_neg c1] at hf
    refine lv_iload_n hx hb d_GlyphSets_indexOf_69 rfl (lv_at hl 5 rfl) ?_
    refine lv_aload_n hx hb d_GlyphSets_indexOf_70 rfl (lv_at hl 3 rfl) ?_
    refine lv_iload hx hb d_GlyphSets_indexOf_71 (lv_at hl 0 rfl) ?_
    obtain ⟨r6, h_r6, hf⟩ := q_bn_some hf
    refine q_callVp (As := [.int x6_1004]) (rest := [.int x2_25]) (q0 := 3) hC (c_xTable_u16_3 l G h_r6) cal_Table_u16 wq_94 ⟨rfl, rfl, Nat.le_of_ble_eq_true rfl, Nat.le_of_ble_eq_true rfl⟩ rfl rfl hP hT hS rfl hl.1 rfl (Nat.le_of_ble_eq_true rfl) d_GlyphSets_indexOf_73 (fun H locs hP hS => ?_)
    refine lv_isub hx hb d_GlyphSets_indexOf_76 ?_
    obtain ⟨x7_1007, e_x7_1007, hf⟩ := q_lt_some hf
    refine q_topi e_x7_1007 ?_
    refine lv_istore (lv' := [(7, .int x7_1007), (6, .int x6_1004), (5, .int r3), (4, .int w0_25), (0, .ref (G.2.2 3)), (1, .int x1_25), (2, .int x2_25), (3, .int x3_25)]) hx hb d_GlyphSets_indexOf_77 hl (by decide) rfl (fun ls hl => ?_)
    refine lv_iload_n hx hb d_GlyphSets_indexOf_79 rfl (lv_at hl 6 rfl) ?_
    refine lv_aload_n hx hb d_GlyphSets_indexOf_80 rfl (lv_at hl 4 rfl) ?_
    refine lv_iload hx hb d_GlyphSets_indexOf_81 (lv_at hl 1 rfl) ?_
    refine lv_iconst (v := 2) hx hb d_GlyphSets_indexOf_83 (by decide) ?_
    refine lv_iadd hx hb d_GlyphSets_indexOf_84 ?_
    obtain ⟨r8, h_r8, hf⟩ := q_bn_some hf
    refine q_callVp (As := [.int (x6_1004 + 2)]) (rest := [.int x2_25]) (q0 := 3) hC (c_xTable_u16_3 l G h_r8) cal_Table_u16 wq_94 ⟨rfl, rfl, Nat.le_of_ble_eq_true rfl, Nat.le_of_ble_eq_true rfl⟩ rfl rfl hP hT hS rfl hl.1 rfl (Nat.le_of_ble_eq_true rfl) d_GlyphSets_indexOf_85 (fun H locs hP hS => ?_)
    refine lv_icmp_gt (tgt := 105) hx hb d_GlyphSets_indexOf_88 (by decide) (fun c1 => ?_) (fun c1 => ?_)
    · rw [if_pos c1] at hf
      refine lv_iconst (v := (-1)) hx hb d_GlyphSets_indexOf_105 (by decide) ?_
      exact q_iretP hC hr hlk hf (by first | rfl | decide) hS d_GlyphSets_indexOf_106
    rw [if_neg c1] at hf
    refine lv_aload_n hx hb d_GlyphSets_indexOf_91 rfl (lv_at hl 4 rfl) ?_
    refine lv_iload hx hb d_GlyphSets_indexOf_92 (lv_at hl 1 rfl) ?_
    refine lv_iconst (v := 4) hx hb d_GlyphSets_indexOf_94 (by decide) ?_
    refine lv_iadd hx hb d_GlyphSets_indexOf_95 ?_
    obtain ⟨r9, h_r9, hf⟩ := q_bn_some hf
    refine q_callVp (As := [.int (x6_1004 + 4)]) (rest := []) (q0 := 3) hC (c_xTable_u16_3 l G h_r9) cal_Table_u16 wq_94 ⟨rfl, rfl, Nat.le_of_ble_eq_true rfl, Nat.le_of_ble_eq_true rfl⟩ rfl rfl hP hT hS rfl hl.1 rfl (Nat.le_of_ble_eq_true rfl) d_GlyphSets_indexOf_96 (fun H locs hP hS => ?_)
    refine lv_iload hx hb d_GlyphSets_indexOf_99 (lv_at hl 0 rfl) ?_
    refine lv_iadd hx hb d_GlyphSets_indexOf_101 ?_
    refine lv_goto (tgt := 106) hx hb d_GlyphSets_indexOf_102 (by decide) ?_
    exact q_iretP hC hr hlk hf (by first | rfl | decide) hS d_GlyphSets_indexOf_106
  have J_14 : ∀ (x1_14 x2_14 w0_14 : Int32) (H : Heap) (locs : List Loc) (ls : Array Slot), xGlyphSets_indexOf_14 N st x1_14 x2_14 w0_14 = some ro → va_P G.1 vwCl (wX G st) H → va_S (fun _ => False) s.heap H locs → lv_has ls 8 [(0, .ref (G.2.2 3)), (1, .int x1_14), (2, .int x2_14)] → W p l e ({ frames := 2, cells := 0, slots := 0, locals := 48 } : Room) s m args below meth c H locs 0 0 (q_Zp below args s ro) (F0 m 14 ls [.int w0_14]) := by
    intro x1_14 x2_14 w0_14 H locs ls hf hP hS hl
    unfold xGlyphSets_indexOf_14 at hf
    refine lv_istore_n (lv' := [(3, .int w0_14), (0, .ref (G.2.2 3)), (1, .int x1_14), (2, .int x2_14)]) hx hb d_GlyphSets_indexOf_14 rfl hl (by decide) rfl (fun ls hl => ?_)
    refine lv_iload_n hx hb d_GlyphSets_indexOf_15 rfl (lv_at hl 0 rfl) ?_
    refine lv_if_eq (tgt := 24) hx hb d_GlyphSets_indexOf_16 (by decide) (fun c1 => ?_) (fun c1 => ?_)
    · rw [if_pos c1] at hf
      refine lv_iconst (v := 2) hx hb d_GlyphSets_indexOf_24 (by decide) ?_
      exact J_25 _ _ _ _ _ _ _ hf hP hS (lv_sub hl [1, 2, 3, 0] rfl)
    rw [if_neg c1] at hf
    refine lv_bipush (v := 6) hx hb d_GlyphSets_indexOf_19 (by decide) ?_
    refine lv_goto (tgt := 25) hx hb d_GlyphSets_indexOf_21 (by decide) ?_
    exact J_25 _ _ _ _ _ _ _ hf hP hS (lv_sub hl [1, 2, 3, 0] rfl)
  unfold xGlyphSets_indexOf at hf
  refine lv_aload_n hx hb d_GlyphSets_indexOf_0 rfl (lv_at hl 0 rfl) ?_
  refine lv_iload_n hx hb d_GlyphSets_indexOf_1 rfl (lv_at hl 1 rfl) ?_
  obtain ⟨r1, h_r1, hf⟩ := q_bn_some hf
  refine q_callVp (As := [.int x1]) (rest := []) (q0 := 3) hC (c_xTable_u16_3 l G h_r1) cal_Table_u16 wq_94 ⟨rfl, rfl, Nat.le_of_ble_eq_true rfl, Nat.le_of_ble_eq_true rfl⟩ rfl rfl hP hT hS rfl hl.1 rfl (Nat.le_of_ble_eq_true rfl) d_GlyphSets_indexOf_2 (fun H locs hP hS => ?_)
  refine lv_iconst (v := 2) hx hb d_GlyphSets_indexOf_5 (by decide) ?_
  refine lv_icmp_ne (tgt := 13) hx hb d_GlyphSets_indexOf_6 (by decide) (fun c1 => ?_) (fun c1 => ?_)
  · rw [if_neg c1] at hf
    refine lv_iconst (v := 0) hx hb d_GlyphSets_indexOf_13 (by decide) ?_
    exact J_14 _ _ _ _ _ _ hf hP hS hl
  rw [if_pos c1] at hf
  refine lv_iconst (v := 1) hx hb d_GlyphSets_indexOf_9 (by decide) ?_
  refine lv_goto (tgt := 14) hx hb d_GlyphSets_indexOf_10 (by decide) ?_
  exact J_14 _ _ _ _ _ _ hf hP hS hl
def xSetter_indexAt (N : Nat) (x1 x2 x3 : Int32) (st : QSt) : Option Int32 :=
  q_bn (xTable_u16_3 x1 st) (fun r1 => q_grd (q_vpb x3 800) (q_lt (st.2 8 x3.toNatClampNeg) (fun v2 => q_bn (xGlyphSets_indexOf N (x2 + r1) v2 st) (fun r3 => some r3))))
set_option maxHeartbeats 4000000 in
set_option maxRecDepth 100000 in
theorem c_xSetter_indexAt (l : Launch) (G : XG) {N : Nat} {x1 x2 x3 : Int32} {st : QSt} {ro : Int32} (hf : xSetter_indexAt N x1 x2 x3 st = some ro) : q_Mp l y_Setter_indexAt b_Setter_indexAt 4 .int ({ frames := 3, cells := 0, slots := 0, locals := 75 } : Room) G.1 (xT G) (wX G) [.ref (G.2.2 29), .int x1, .int x2, .int x3] st ro := by
  refine q_Mp_of (by decide) (Nat.le_of_ble_eq_true rfl) (wX_fst G) ?_
  intro p e s m args below meth c ls hC hr hlk hT hP hS hl
  have hx := hC.1.1
  have hb := hC.1.2.1
  have hown := hC.1.2.2.2.1
  have hts := hC.1.2.2.2.2
  have hl : lv_has ls 4 [(0, .ref (G.2.2 29)), (1, .int x1), (2, .int x2), (3, .int x3)] := hl
  unfold xSetter_indexAt at hf
  refine lv_aload_n hx hb d_Setter_indexAt_0 rfl (lv_at hl 0 rfl) ?_
  refine xg_29_font hC hP wq_96 d_Setter_indexAt_1 ?_
  refine lv_iload_n hx hb d_Setter_indexAt_4 rfl (lv_at hl 2 rfl) ?_
  refine lv_aload_n hx hb d_Setter_indexAt_5 rfl (lv_at hl 0 rfl) ?_
  refine xg_29_font hC hP wq_96 d_Setter_indexAt_6 ?_
  refine lv_iload_n hx hb d_Setter_indexAt_9 rfl (lv_at hl 1 rfl) ?_
  obtain ⟨r1, h_r1, hf⟩ := q_bn_some hf
  refine q_callVp (As := [.int x1]) (rest := [.int x2, .ref (G.2.2 3)]) (q0 := 3) hC (c_xTable_u16_3 l G h_r1) cal_Table_u16 wq_97 ⟨rfl, rfl, Nat.le_of_ble_eq_true rfl, Nat.le_of_ble_eq_true rfl⟩ rfl rfl hP hT hS rfl hl.1 rfl (Nat.le_of_ble_eq_true rfl) d_Setter_indexAt_10 (fun H locs hP hS => ?_)
  refine lv_iadd hx hb d_Setter_indexAt_13 ?_
  refine lv_aload_n hx hb d_Setter_indexAt_14 rfl (lv_at hl 0 rfl) ?_
  refine xg_29_told hC hP wq_85 d_Setter_indexAt_15 ?_
  refine xgN_14_glyph hC hP wq_86 d_Setter_indexAt_18 ?_
  refine lv_iload_n hx hb d_Setter_indexAt_21 rfl (lv_at hl 3 rfl) ?_
  obtain ⟨hi, hf⟩ := q_grd_some hf
  obtain ⟨v2, e_v2, hf⟩ := q_lt_some hf
  refine xl_15 hC hP e_v2 hi d_Setter_indexAt_22 ?_
  obtain ⟨r3, h_r3, hf⟩ := q_bn_some hf
  refine q_callSp (As := [.ref (G.2.2 3), .int (x2 + r1), .int v2]) (rest := []) hC (c_xGlyphSets_indexOf l G h_r3) cal_GlyphSets_indexOf wq_98 ⟨rfl, rfl, Nat.le_of_ble_eq_true rfl, Nat.le_of_ble_eq_true rfl⟩ hP hT hS rfl hl.1 rfl (Nat.le_of_ble_eq_true rfl) d_Setter_indexAt_23 (fun H locs hP hS => ?_)
  exact q_iretP hC hr hlk hf (by first | rfl | decide) hS d_Setter_indexAt_26
def xSetter_anchorAt (x1 x2 : Int32) (st : QSt) : Option Int32 :=
  q_bn (xTable_u16_3 x1 st) (fun r1 => if r1 = 0 then (some (-1)) else (some (x2 + r1)))
set_option maxHeartbeats 4000000 in
set_option maxRecDepth 100000 in
theorem c_xSetter_anchorAt (l : Launch) (G : XG) {x1 x2 : Int32} {st : QSt} {ro : Int32} (hf : xSetter_anchorAt x1 x2 st = some ro) : q_Mp l y_Setter_anchorAt b_Setter_anchorAt 4 .int ({ frames := 1, cells := 0, slots := 0, locals := 21 } : Room) G.1 (xT G) (wX G) [.ref (G.2.2 29), .int x1, .int x2] st ro := by
  refine q_Mp_of (by decide) (Nat.le_of_ble_eq_true rfl) (wX_fst G) ?_
  intro p e s m args below meth c ls hC hr hlk hT hP hS hl
  have hx := hC.1.1
  have hb := hC.1.2.1
  have hown := hC.1.2.2.2.1
  have hts := hC.1.2.2.2.2
  have hl : lv_has ls 4 [(0, .ref (G.2.2 29)), (1, .int x1), (2, .int x2)] := hl
  unfold xSetter_anchorAt at hf
  refine lv_aload_n hx hb d_Setter_anchorAt_0 rfl (lv_at hl 0 rfl) ?_
  refine xg_29_font hC hP wq_96 d_Setter_anchorAt_1 ?_
  refine lv_iload_n hx hb d_Setter_anchorAt_4 rfl (lv_at hl 1 rfl) ?_
  obtain ⟨r1, h_r1, hf⟩ := q_bn_some hf
  refine q_callVp (As := [.int x1]) (rest := []) (q0 := 3) hC (c_xTable_u16_3 l G h_r1) cal_Table_u16 wq_97 ⟨rfl, rfl, Nat.le_of_ble_eq_true rfl, Nat.le_of_ble_eq_true rfl⟩ rfl rfl hP hT hS rfl hl.1 rfl (Nat.le_of_ble_eq_true rfl) d_Setter_anchorAt_5 (fun H locs hP hS => ?_)
  refine lv_istore_n (lv' := [(3, .int r1), (0, .ref (G.2.2 29)), (1, .int x1), (2, .int x2)]) hx hb d_Setter_anchorAt_8 rfl hl (by decide) rfl (fun ls hl => ?_)
  refine lv_iload_n hx hb d_Setter_anchorAt_9 rfl (lv_at hl 0 rfl) ?_
  refine lv_if_ne (tgt := 17) hx hb d_Setter_anchorAt_10 (by decide) (fun c1 => ?_) (fun c1 => ?_)
  rotate_left
  · rw [if_pos c1] at hf
    refine lv_iconst (v := (-1)) hx hb d_Setter_anchorAt_13 (by decide) ?_
    refine lv_goto (tgt := 20) hx hb d_Setter_anchorAt_14 (by decide) ?_
    exact q_iretP hC hr hlk hf (by first | rfl | decide) hS d_Setter_anchorAt_20
  rw [if_neg c1] at hf
  refine lv_iload_n hx hb d_Setter_anchorAt_17 rfl (lv_at hl 3 rfl) ?_
  refine lv_iload_n hx hb d_Setter_anchorAt_18 rfl (lv_at hl 0 rfl) ?_
  refine lv_iadd hx hb d_Setter_anchorAt_19 ?_
  exact q_iretP hC hr hlk hf (by first | rfl | decide) hS d_Setter_anchorAt_20
def xSetter_anchorOn_104 (st : QSt) (x4_104 x6_104 x8_104 : Int32) (w0_104 : Int32) : Option Int32 :=
  q_bn (xSetter_anchorAt ((x8_104 + 2) + (2 * (((w0_104 - 1) * x6_104) + x4_104))) x8_104 st) (fun r7 => some r7)
def xSetter_anchorOn_97 (st : QSt) (x4_97 x6_97 x8_97 x9_97 : Int32) : Option Int32 :=
  xSetter_anchorOn_104 st x4_97 x6_97 x8_97 x9_97
def xSetter_anchorOn (x1 x2 x3 x4 x5 : Int32) (st : QSt) : Option Int32 :=
  q_bn (xTable_u16_3 (x2 + 6) st) (fun r1 => q_bn (xTable_u16_3 (x2 + 10) st) (fun r2 => q_lt (x2 + r2) (fun x7_1003 => if x1 = 5 then (q_bn (xTable_u16_3 ((x7_1003 + 2) + (2 * x3)) st) (fun r4 => q_lt (x7_1003 + r4) (fun x8_1005 => q_bn (xTable_u16_3 x8_1005 st) (fun r6 => if x5 = 0 then (xSetter_anchorOn_97 st x4 r1 x8_1005 r6) else (if x5 ≤ r6 then (xSetter_anchorOn_104 st x4 r1 x8_1005 x5) else (xSetter_anchorOn_97 st x4 r1 x8_1005 r6)))))) else (q_bn (xSetter_anchorAt ((x7_1003 + 2) + (2 * ((x3 * r1) + x4))) x7_1003 st) (fun r8 => some r8)))))
set_option maxHeartbeats 4000000 in
set_option maxRecDepth 100000 in
theorem c_xSetter_anchorOn (l : Launch) (G : XG) {x1 x2 x3 x4 x5 : Int32} {st : QSt} {ro : Int32} (hf : xSetter_anchorOn x1 x2 x3 x4 x5 st = some ro) : q_Mp l y_Setter_anchorOn b_Setter_anchorOn 11 .int ({ frames := 2, cells := 0, slots := 0, locals := 44 } : Room) G.1 (xT G) (wX G) [.ref (G.2.2 29), .int x1, .int x2, .int x3, .int x4, .int x5] st ro := by
  refine q_Mp_of (by decide) (Nat.le_of_ble_eq_true rfl) (wX_fst G) ?_
  intro p e s m args below meth c ls hC hr hlk hT hP hS hl
  have hx := hC.1.1
  have hb := hC.1.2.1
  have hown := hC.1.2.2.2.1
  have hts := hC.1.2.2.2.2
  have hl : lv_has ls 11 [(0, .ref (G.2.2 29)), (1, .int x1), (2, .int x2), (3, .int x3), (4, .int x4), (5, .int x5)] := hl
  have J_104 : ∀ (x4_104 x6_104 x8_104 w0_104 : Int32) (H : Heap) (locs : List Loc) (ls : Array Slot), xSetter_anchorOn_104 st x4_104 x6_104 x8_104 w0_104 = some ro → va_P G.1 vwCl (wX G st) H → va_S (fun _ => False) s.heap H locs → lv_has ls 11 [(0, .ref (G.2.2 29)), (4, .int x4_104), (6, .int x6_104), (8, .int x8_104)] → W p l e ({ frames := 2, cells := 0, slots := 0, locals := 44 } : Room) s m args below meth c H locs 0 0 (q_Zp below args s ro) (F0 m 104 ls [.int w0_104]) := by
    intro x4_104 x6_104 x8_104 w0_104 H locs ls hf hP hS hl
    unfold xSetter_anchorOn_104 at hf
    refine lv_istore (lv' := [(10, .int w0_104), (0, .ref (G.2.2 29)), (4, .int x4_104), (6, .int x6_104), (8, .int x8_104)]) hx hb d_Setter_anchorOn_104 hl (by decide) rfl (fun ls hl => ?_)
    refine lv_aload_n hx hb d_Setter_anchorOn_106 rfl (lv_at hl 1 rfl) ?_
    refine lv_iload hx hb d_Setter_anchorOn_107 (lv_at hl 4 rfl) ?_
    refine lv_iconst (v := 2) hx hb d_Setter_anchorOn_109 (by decide) ?_
    refine lv_iadd hx hb d_Setter_anchorOn_110 ?_
    refine lv_iconst (v := 2) hx hb d_Setter_anchorOn_111 (by decide) ?_
    refine lv_iload hx hb d_Setter_anchorOn_112 (lv_at hl 0 rfl) ?_
    refine lv_iconst (v := 1) hx hb d_Setter_anchorOn_114 (by decide) ?_
    refine lv_isub hx hb d_Setter_anchorOn_115 ?_
    refine lv_iload hx hb d_Setter_anchorOn_116 (lv_at hl 3 rfl) ?_
    refine lv_imul hx hb d_Setter_anchorOn_118 ?_
    refine lv_iload hx hb d_Setter_anchorOn_119 (lv_at hl 2 rfl) ?_
    refine lv_iadd hx hb d_Setter_anchorOn_121 ?_
    refine lv_imul hx hb d_Setter_anchorOn_122 ?_
    refine lv_iadd hx hb d_Setter_anchorOn_123 ?_
    refine lv_iload hx hb d_Setter_anchorOn_124 (lv_at hl 4 rfl) ?_
    obtain ⟨r7, h_r7, hf⟩ := q_bn_some hf
    refine q_callVp (As := [.int ((x8_104 + 2) + (2 * (((w0_104 - 1) * x6_104) + x4_104))), .int x8_104]) (rest := []) (q0 := 29) hC (c_xSetter_anchorAt l G h_r7) cal_Setter_anchorAt wq_99 ⟨rfl, rfl, Nat.le_of_ble_eq_true rfl, Nat.le_of_ble_eq_true rfl⟩ rfl rfl hP hT hS rfl hl.1 rfl (Nat.le_of_ble_eq_true rfl) d_Setter_anchorOn_126 (fun H locs hP hS => ?_)
    exact q_iretP hC hr hlk hf (by first | rfl | decide) hS d_Setter_anchorOn_129
  have J_97 : ∀ (x4_97 x6_97 x8_97 x9_97 : Int32) (H : Heap) (locs : List Loc) (ls : Array Slot), xSetter_anchorOn_97 st x4_97 x6_97 x8_97 x9_97 = some ro → va_P G.1 vwCl (wX G st) H → va_S (fun _ => False) s.heap H locs → lv_has ls 11 [(0, .ref (G.2.2 29)), (4, .int x4_97), (6, .int x6_97), (8, .int x8_97), (9, .int x9_97)] → W p l e ({ frames := 2, cells := 0, slots := 0, locals := 44 } : Room) s m args below meth c H locs 0 0 (q_Zp below args s ro) (F0 m 97 ls []) := by
    intro x4_97 x6_97 x8_97 x9_97 H locs ls hf hP hS hl
    unfold xSetter_anchorOn_97 at hf
    refine lv_iload hx hb d_Setter_anchorOn_97 (lv_at hl 4 rfl) ?_
    refine lv_goto (tgt := 104) hx hb d_Setter_anchorOn_99 (by decide) ?_
    exact J_104 _ _ _ _ _ _ _ hf hP hS (lv_sub hl [0, 1, 2, 3] rfl)
  unfold xSetter_anchorOn at hf
  refine lv_aload_n hx hb d_Setter_anchorOn_0 rfl (lv_at hl 0 rfl) ?_
  refine xg_29_font hC hP wq_96 d_Setter_anchorOn_1 ?_
  refine lv_iload_n hx hb d_Setter_anchorOn_4 rfl (lv_at hl 2 rfl) ?_
  refine lv_bipush (v := 6) hx hb d_Setter_anchorOn_5 (by decide) ?_
  refine lv_iadd hx hb d_Setter_anchorOn_7 ?_
  obtain ⟨r1, h_r1, hf⟩ := q_bn_some hf
  refine q_callVp (As := [.int (x2 + 6)]) (rest := []) (q0 := 3) hC (c_xTable_u16_3 l G h_r1) cal_Table_u16 wq_97 ⟨rfl, rfl, Nat.le_of_ble_eq_true rfl, Nat.le_of_ble_eq_true rfl⟩ rfl rfl hP hT hS rfl hl.1 rfl (Nat.le_of_ble_eq_true rfl) d_Setter_anchorOn_8 (fun H locs hP hS => ?_)
  refine lv_istore (lv' := [(6, .int r1), (0, .ref (G.2.2 29)), (1, .int x1), (2, .int x2), (3, .int x3), (4, .int x4), (5, .int x5)]) hx hb d_Setter_anchorOn_11 hl (by decide) rfl (fun ls hl => ?_)
  refine lv_iload_n hx hb d_Setter_anchorOn_13 rfl (lv_at hl 3 rfl) ?_
  refine lv_aload_n hx hb d_Setter_anchorOn_14 rfl (lv_at hl 1 rfl) ?_
  refine xg_29_font hC hP wq_96 d_Setter_anchorOn_15 ?_
  refine lv_iload_n hx hb d_Setter_anchorOn_18 rfl (lv_at hl 3 rfl) ?_
  refine lv_bipush (v := 10) hx hb d_Setter_anchorOn_19 (by decide) ?_
  refine lv_iadd hx hb d_Setter_anchorOn_21 ?_
  obtain ⟨r2, h_r2, hf⟩ := q_bn_some hf
  refine q_callVp (As := [.int (x2 + 10)]) (rest := [.int x2]) (q0 := 3) hC (c_xTable_u16_3 l G h_r2) cal_Table_u16 wq_97 ⟨rfl, rfl, Nat.le_of_ble_eq_true rfl, Nat.le_of_ble_eq_true rfl⟩ rfl rfl hP hT hS rfl hl.1 rfl (Nat.le_of_ble_eq_true rfl) d_Setter_anchorOn_22 (fun H locs hP hS => ?_)
  refine lv_iadd hx hb d_Setter_anchorOn_25 ?_
  obtain ⟨x7_1003, e_x7_1003, hf⟩ := q_lt_some hf
  refine q_topi e_x7_1003 ?_
  refine lv_istore (lv' := [(7, .int x7_1003), (6, .int r1), (0, .ref (G.2.2 29)), (1, .int x1), (2, .int x2), (3, .int x3), (4, .int x4), (5, .int x5)]) hx hb d_Setter_anchorOn_26 hl (by decide) rfl (fun ls hl => ?_)
  refine lv_iload_n hx hb d_Setter_anchorOn_28 rfl (lv_at hl 3 rfl) ?_
  refine lv_iconst (v := 5) hx hb d_Setter_anchorOn_29 (by decide) ?_
  refine lv_icmp_eq (tgt := 54) hx hb d_Setter_anchorOn_30 (by decide) (fun c1 => ?_) (fun c1 => ?_)
  rotate_left
  · rw [if_neg c1] at hf
    refine lv_aload_n hx hb d_Setter_anchorOn_33 rfl (lv_at hl 2 rfl) ?_
    refine lv_iload hx hb d_Setter_anchorOn_34 (lv_at hl 0 rfl) ?_
    refine lv_iconst (v := 2) hx hb d_Setter_anchorOn_36 (by decide) ?_
    refine lv_iadd hx hb d_Setter_anchorOn_37 ?_
    refine lv_iconst (v := 2) hx hb d_Setter_anchorOn_38 (by decide) ?_
    refine lv_iload_n hx hb d_Setter_anchorOn_39 rfl (lv_at hl 5 rfl) ?_
    refine lv_iload hx hb d_Setter_anchorOn_40 (lv_at hl 1 rfl) ?_
    refine lv_imul hx hb d_Setter_anchorOn_42 ?_
    refine lv_iload hx hb d_Setter_anchorOn_43 (lv_at hl 6 rfl) ?_
    refine lv_iadd hx hb d_Setter_anchorOn_45 ?_
    refine lv_imul hx hb d_Setter_anchorOn_46 ?_
    refine lv_iadd hx hb d_Setter_anchorOn_47 ?_
    refine lv_iload hx hb d_Setter_anchorOn_48 (lv_at hl 0 rfl) ?_
    obtain ⟨r8, h_r8, hf⟩ := q_bn_some hf
    refine q_callVp (As := [.int ((x7_1003 + 2) + (2 * ((x3 * r1) + x4))), .int x7_1003]) (rest := []) (q0 := 29) hC (c_xSetter_anchorAt l G h_r8) cal_Setter_anchorAt wq_99 ⟨rfl, rfl, Nat.le_of_ble_eq_true rfl, Nat.le_of_ble_eq_true rfl⟩ rfl rfl hP hT hS rfl hl.1 rfl (Nat.le_of_ble_eq_true rfl) d_Setter_anchorOn_50 (fun H locs hP hS => ?_)
    exact q_iretP hC hr hlk hf (by first | rfl | decide) hS d_Setter_anchorOn_53
  rw [if_pos c1] at hf
  refine lv_iload hx hb d_Setter_anchorOn_54 (lv_at hl 0 rfl) ?_
  refine lv_aload_n hx hb d_Setter_anchorOn_56 rfl (lv_at hl 2 rfl) ?_
  refine xg_29_font hC hP wq_96 d_Setter_anchorOn_57 ?_
  refine lv_iload hx hb d_Setter_anchorOn_60 (lv_at hl 0 rfl) ?_
  refine lv_iconst (v := 2) hx hb d_Setter_anchorOn_62 (by decide) ?_
  refine lv_iadd hx hb d_Setter_anchorOn_63 ?_
  refine lv_iconst (v := 2) hx hb d_Setter_anchorOn_64 (by decide) ?_
  refine lv_iload_n hx hb d_Setter_anchorOn_65 rfl (lv_at hl 5 rfl) ?_
  refine lv_imul hx hb d_Setter_anchorOn_66 ?_
  refine lv_iadd hx hb d_Setter_anchorOn_67 ?_
  obtain ⟨r4, h_r4, hf⟩ := q_bn_some hf
  refine q_callVp (As := [.int ((x7_1003 + 2) + (2 * x3))]) (rest := [.int x7_1003]) (q0 := 3) hC (c_xTable_u16_3 l G h_r4) cal_Table_u16 wq_97 ⟨rfl, rfl, Nat.le_of_ble_eq_true rfl, Nat.le_of_ble_eq_true rfl⟩ rfl rfl hP hT hS rfl hl.1 rfl (Nat.le_of_ble_eq_true rfl) d_Setter_anchorOn_68 (fun H locs hP hS => ?_)
  refine lv_iadd hx hb d_Setter_anchorOn_71 ?_
  obtain ⟨x8_1005, e_x8_1005, hf⟩ := q_lt_some hf
  refine q_topi e_x8_1005 ?_
  refine lv_istore (lv' := [(8, .int x8_1005), (7, .int x7_1003), (6, .int r1), (0, .ref (G.2.2 29)), (1, .int x1), (2, .int x2), (3, .int x3), (4, .int x4), (5, .int x5)]) hx hb d_Setter_anchorOn_72 hl (by decide) rfl (fun ls hl => ?_)
  refine lv_aload_n hx hb d_Setter_anchorOn_74 rfl (lv_at hl 3 rfl) ?_
  refine xg_29_font hC hP wq_96 d_Setter_anchorOn_75 ?_
  refine lv_iload hx hb d_Setter_anchorOn_78 (lv_at hl 0 rfl) ?_
  obtain ⟨r6, h_r6, hf⟩ := q_bn_some hf
  refine q_callVp (As := [.int x8_1005]) (rest := []) (q0 := 3) hC (c_xTable_u16_3 l G h_r6) cal_Table_u16 wq_97 ⟨rfl, rfl, Nat.le_of_ble_eq_true rfl, Nat.le_of_ble_eq_true rfl⟩ rfl rfl hP hT hS rfl hl.1 rfl (Nat.le_of_ble_eq_true rfl) d_Setter_anchorOn_80 (fun H locs hP hS => ?_)
  refine lv_istore (lv' := [(9, .int r6), (8, .int x8_1005), (7, .int x7_1003), (6, .int r1), (0, .ref (G.2.2 29)), (1, .int x1), (2, .int x2), (3, .int x3), (4, .int x4), (5, .int x5)]) hx hb d_Setter_anchorOn_83 hl (by decide) rfl (fun ls hl => ?_)
  refine lv_iload hx hb d_Setter_anchorOn_85 (lv_at hl 9 rfl) ?_
  refine lv_if_eq (tgt := 97) hx hb d_Setter_anchorOn_87 (by decide) (fun c1 => ?_) (fun c1 => ?_)
  · rw [if_pos c1] at hf
    exact J_97 _ _ _ _ _ _ _ hf hP hS (lv_sub hl [4, 8, 3, 1, 0] rfl)
  rw [if_neg c1] at hf
  refine lv_iload hx hb d_Setter_anchorOn_90 (lv_at hl 9 rfl) ?_
  refine lv_iload hx hb d_Setter_anchorOn_92 (lv_at hl 0 rfl) ?_
  refine lv_icmp_le (tgt := 102) hx hb d_Setter_anchorOn_94 (by decide) (fun c1 => ?_) (fun c1 => ?_)
  rotate_left
  · rw [if_neg c1] at hf
    exact J_97 _ _ _ _ _ _ _ hf hP hS (lv_sub hl [4, 8, 3, 1, 0] rfl)
  rw [if_pos c1] at hf
  refine lv_iload hx hb d_Setter_anchorOn_102 (lv_at hl 9 rfl) ?_
  exact J_104 _ _ _ _ _ _ _ hf hP hS (lv_sub hl [4, 8, 3, 1] rfl)
def xSetter_takeMark_48 (N : Nat) (x1_48 x2_48 x3_48 x4_48 : Int32) (st_48 : QSt) : Option (Int32 × QSt) :=
  q_bn (xSetter_indexAt N (x2_48 + 2) x2_48 x3_48 st_48) (fun r2 => q_bn (xSetter_indexAt N (x2_48 + 4) x2_48 x4_48 st_48) (fun r3 => if r2 = (-1) then (some (0, st_48)) else (if r3 = (-1) then (some (0, st_48)) else (q_bn (xTable_u16_3 (x2_48 + 8) st_48) (fun r4 => q_lt (x2_48 + r4) (fun x7_1005 => q_lt ((x7_1005 + 2) + (4 * r2)) (fun x8_1006 => q_bn (xTable_u16_3 (x8_1006 + 2) st_48) (fun r7 => q_lt (x7_1005 + r7) (fun x9_1008 => q_bn (xTable_u16_3 x8_1006 st_48) (fun r9 => q_grd (q_vpb x3_48 800) (q_lt (st_48.2 10 x3_48.toNatClampNeg) (fun v10 => q_bn (xSetter_anchorOn x1_48 x2_48 r3 r9 v10 st_48) (fun r11 => if r11 = (-1) then (some (0, st_48)) else (q_bn (xTable_s16 (r11 + 2) st_48) (fun r12 => q_bn (xTable_s16 (x9_1008 + 2) st_48) (fun r13 => q_bn (xTable_s16 (r11 + 4) st_48) (fun r14 => q_bn (xTable_s16 (x9_1008 + 4) st_48) (fun r15 => q_bv (xRun_hangByMark x3_48 x4_48 (r12 - r13) (r14 - r15) st_48) (fun sr16 => some (1, sr16))))))))))))))))))))
def xSetter_takeMark_21 (N : Nat) (x1_21 x2_21 x3_21 : Int32) (w0_21 : Int32) (st_21 : QSt) : Option (Int32 × QSt) :=
  if w0_21 = (-1) then (some (0, st_21)) else (if x1_21 = 6 then (q_grd (q_vpb w0_21 800) (q_lt (st_21.2 20 w0_21.toNatClampNeg) (fun v17 => if v17 = 3 then (xSetter_takeMark_48 N x1_21 x2_21 x3_21 w0_21 st_21) else (some (0, st_21))))) else (xSetter_takeMark_48 N x1_21 x2_21 x3_21 w0_21 st_21))
def xSetter_takeMark (N : Nat) (x1 x2 x3 : Int32) (st : QSt) : Option (Int32 × QSt) :=
  if x1 = 6 then (q_grd (q_vpb x3 800) (q_lt (st.2 24 x3.toNatClampNeg) (fun v18 => xSetter_takeMark_21 N x1 x2 x3 v18 st))) else (q_grd (q_vpb x3 800) (q_lt (st.2 22 x3.toNatClampNeg) (fun v1 => xSetter_takeMark_21 N x1 x2 x3 v1 st)))
set_option maxHeartbeats 4000000 in
set_option maxRecDepth 100000 in
theorem c_xSetter_takeMark (l : Launch) (G : XG) {N : Nat} {x1 x2 x3 : Int32} {st : QSt} {ro : Int32} {so : QSt} (hf : xSetter_takeMark N x1 x2 x3 st = some (ro, so)) : q_Mi l y_Setter_takeMark b_Setter_takeMark 11 .boolean ({ frames := 4, cells := 0, slots := 0, locals := 98 } : Room) G.1 (xT G) (wX G) [.ref (G.2.2 29), .int x1, .int x2, .int x3] st ro so := by
  refine q_Mi_of (by decide) (Nat.le_of_ble_eq_true rfl) (wX_fst G) ?_
  intro p e s m args below meth c A ls hC hr hlk hT hD hA hP hS hl
  have hx := hC.1.1
  have hb := hC.1.2.1
  have hown := hC.1.2.2.2.1
  have hts := hC.1.2.2.2.2
  have hl : lv_has ls 11 [(0, .ref (G.2.2 29)), (1, .int x1), (2, .int x2), (3, .int x3)] := hl
  have J_48 : ∀ (x1_48 x2_48 x3_48 x4_48 : Int32) (st_48 : QSt) (H : Heap) (locs : List Loc) (ls : Array Slot), xSetter_takeMark_48 N x1_48 x2_48 x3_48 x4_48 st_48 = some (ro, so) → va_P G.1 vwCl (wX G st_48) H → va_S A s.heap H locs → lv_has ls 11 [(0, .ref (G.2.2 29)), (1, .int x1_48), (2, .int x2_48), (3, .int x3_48), (4, .int x4_48)] → W p l e ({ frames := 4, cells := 0, slots := 0, locals := 98 } : Room) s m args below meth c H locs 0 0 (q_Zi below args s G.1 (wX G) ro so A) (F0 m 48 ls []) := by
    intro x1_48 x2_48 x3_48 x4_48 st_48 H locs ls hf hP hS hl
    unfold xSetter_takeMark_48 at hf
    refine lv_aload_n hx hb d_Setter_takeMark_48 rfl (lv_at hl 0 rfl) ?_
    refine lv_iload_n hx hb d_Setter_takeMark_49 rfl (lv_at hl 2 rfl) ?_
    refine lv_iconst (v := 2) hx hb d_Setter_takeMark_50 (by decide) ?_
    refine lv_iadd hx hb d_Setter_takeMark_51 ?_
    refine lv_iload_n hx hb d_Setter_takeMark_52 rfl (lv_at hl 2 rfl) ?_
    refine lv_iload_n hx hb d_Setter_takeMark_53 rfl (lv_at hl 3 rfl) ?_
    obtain ⟨r2, h_r2, hf⟩ := q_bn_some hf
    refine q_callVp (As := [.int (x2_48 + 2), .int x2_48, .int x3_48]) (rest := []) (q0 := 29) hC (c_xSetter_indexAt l G h_r2) cal_Setter_indexAt wq_100 ⟨rfl, rfl, Nat.le_of_ble_eq_true rfl, Nat.le_of_ble_eq_true rfl⟩ rfl rfl hP hT hS rfl hl.1 rfl (Nat.le_of_ble_eq_true rfl) d_Setter_takeMark_54 (fun H locs hP hS => ?_)
    refine lv_istore (lv' := [(5, .int r2), (0, .ref (G.2.2 29)), (1, .int x1_48), (2, .int x2_48), (3, .int x3_48), (4, .int x4_48)]) hx hb d_Setter_takeMark_57 hl (by decide) rfl (fun ls hl => ?_)
    refine lv_aload_n hx hb d_Setter_takeMark_59 rfl (lv_at hl 1 rfl) ?_
    refine lv_iload_n hx hb d_Setter_takeMark_60 rfl (lv_at hl 3 rfl) ?_
    refine lv_iconst (v := 4) hx hb d_Setter_takeMark_61 (by decide) ?_
    refine lv_iadd hx hb d_Setter_takeMark_62 ?_
    refine lv_iload_n hx hb d_Setter_takeMark_63 rfl (lv_at hl 3 rfl) ?_
    refine lv_iload hx hb d_Setter_takeMark_64 (lv_at hl 5 rfl) ?_
    obtain ⟨r3, h_r3, hf⟩ := q_bn_some hf
    refine q_callVp (As := [.int (x2_48 + 4), .int x2_48, .int x4_48]) (rest := []) (q0 := 29) hC (c_xSetter_indexAt l G h_r3) cal_Setter_indexAt wq_100 ⟨rfl, rfl, Nat.le_of_ble_eq_true rfl, Nat.le_of_ble_eq_true rfl⟩ rfl rfl hP hT hS rfl hl.1 rfl (Nat.le_of_ble_eq_true rfl) d_Setter_takeMark_66 (fun H locs hP hS => ?_)
    refine lv_istore (lv' := [(6, .int r3), (5, .int r2), (0, .ref (G.2.2 29)), (1, .int x1_48), (2, .int x2_48), (3, .int x3_48), (4, .int x4_48)]) hx hb d_Setter_takeMark_69 hl (by decide) rfl (fun ls hl => ?_)
    refine lv_iload hx hb d_Setter_takeMark_71 (lv_at hl 1 rfl) ?_
    refine lv_iconst (v := (-1)) hx hb d_Setter_takeMark_73 (by decide) ?_
    refine lv_icmp_eq (tgt := 83) hx hb d_Setter_takeMark_74 (by decide) (fun c1 => ?_) (fun c1 => ?_)
    · rw [if_pos c1] at hf
      refine lv_iconst (v := 0) hx hb d_Setter_takeMark_83 (by decide) ?_
      exact q_iret hC hr hlk hf (by first | rfl | decide) hP hS d_Setter_takeMark_84
    rw [if_neg c1] at hf
    refine lv_iload hx hb d_Setter_takeMark_77 (lv_at hl 0 rfl) ?_
    refine lv_iconst (v := (-1)) hx hb d_Setter_takeMark_79 (by decide) ?_
    refine lv_icmp_ne (tgt := 85) hx hb d_Setter_takeMark_80 (by decide) (fun c1 => ?_) (fun c1 => ?_)
    rotate_left
    · rw [if_pos c1] at hf
      refine lv_iconst (v := 0) hx hb d_Setter_takeMark_83 (by decide) ?_
      exact q_iret hC hr hlk hf (by first | rfl | decide) hP hS d_Setter_takeMark_84
    rw [if_neg c1] at hf
    refine lv_iload_n hx hb d_Setter_takeMark_85 rfl (lv_at hl 4 rfl) ?_
    refine lv_aload_n hx hb d_Setter_takeMark_86 rfl (lv_at hl 2 rfl) ?_
    refine xg_29_font hC hP wq_96 d_Setter_takeMark_87 ?_
    refine lv_iload_n hx hb d_Setter_takeMark_90 rfl (lv_at hl 4 rfl) ?_
    refine lv_bipush (v := 8) hx hb d_Setter_takeMark_91 (by decide) ?_
    refine lv_iadd hx hb d_Setter_takeMark_93 ?_
    obtain ⟨r4, h_r4, hf⟩ := q_bn_some hf
    refine q_callVp (As := [.int (x2_48 + 8)]) (rest := [.int x2_48]) (q0 := 3) hC (c_xTable_u16_3 l G h_r4) cal_Table_u16 wq_97 ⟨rfl, rfl, Nat.le_of_ble_eq_true rfl, Nat.le_of_ble_eq_true rfl⟩ rfl rfl hP hT hS rfl hl.1 rfl (Nat.le_of_ble_eq_true rfl) d_Setter_takeMark_94 (fun H locs hP hS => ?_)
    refine lv_iadd hx hb d_Setter_takeMark_97 ?_
    obtain ⟨x7_1005, e_x7_1005, hf⟩ := q_lt_some hf
    refine q_topi e_x7_1005 ?_
    refine lv_istore (lv' := [(7, .int x7_1005), (6, .int r3), (5, .int r2), (0, .ref (G.2.2 29)), (1, .int x1_48), (2, .int x2_48), (3, .int x3_48), (4, .int x4_48)]) hx hb d_Setter_takeMark_98 hl (by decide) rfl (fun ls hl => ?_)
    refine lv_iload hx hb d_Setter_takeMark_100 (lv_at hl 0 rfl) ?_
    refine lv_iconst (v := 2) hx hb d_Setter_takeMark_102 (by decide) ?_
    refine lv_iadd hx hb d_Setter_takeMark_103 ?_
    refine lv_iconst (v := 4) hx hb d_Setter_takeMark_104 (by decide) ?_
    refine lv_iload hx hb d_Setter_takeMark_105 (lv_at hl 2 rfl) ?_
    refine lv_imul hx hb d_Setter_takeMark_107 ?_
    refine lv_iadd hx hb d_Setter_takeMark_108 ?_
    obtain ⟨x8_1006, e_x8_1006, hf⟩ := q_lt_some hf
    refine q_topi e_x8_1006 ?_
    refine lv_istore (lv' := [(8, .int x8_1006), (7, .int x7_1005), (6, .int r3), (5, .int r2), (0, .ref (G.2.2 29)), (1, .int x1_48), (2, .int x2_48), (3, .int x3_48), (4, .int x4_48)]) hx hb d_Setter_takeMark_109 hl (by decide) rfl (fun ls hl => ?_)
    refine lv_iload hx hb d_Setter_takeMark_111 (lv_at hl 1 rfl) ?_
    refine lv_aload_n hx hb d_Setter_takeMark_113 rfl (lv_at hl 4 rfl) ?_
    refine xg_29_font hC hP wq_96 d_Setter_takeMark_114 ?_
    refine lv_iload hx hb d_Setter_takeMark_117 (lv_at hl 0 rfl) ?_
    refine lv_iconst (v := 2) hx hb d_Setter_takeMark_119 (by decide) ?_
    refine lv_iadd hx hb d_Setter_takeMark_120 ?_
    obtain ⟨r7, h_r7, hf⟩ := q_bn_some hf
    refine q_callVp (As := [.int (x8_1006 + 2)]) (rest := [.int x7_1005]) (q0 := 3) hC (c_xTable_u16_3 l G h_r7) cal_Table_u16 wq_97 ⟨rfl, rfl, Nat.le_of_ble_eq_true rfl, Nat.le_of_ble_eq_true rfl⟩ rfl rfl hP hT hS rfl hl.1 rfl (Nat.le_of_ble_eq_true rfl) d_Setter_takeMark_121 (fun H locs hP hS => ?_)
    refine lv_iadd hx hb d_Setter_takeMark_124 ?_
    obtain ⟨x9_1008, e_x9_1008, hf⟩ := q_lt_some hf
    refine q_topi e_x9_1008 ?_
    refine lv_istore (lv' := [(9, .int x9_1008), (8, .int x8_1006), (7, .int x7_1005), (6, .int r3), (5, .int r2), (0, .ref (G.2.2 29)), (1, .int x1_48), (2, .int x2_48), (3, .int x3_48), (4, .int x4_48)]) hx hb d_Setter_takeMark_125 hl (by decide) rfl (fun ls hl => ?_)
    refine lv_aload_n hx hb d_Setter_takeMark_127 rfl (lv_at hl 5 rfl) ?_
    refine lv_iload_n hx hb d_Setter_takeMark_128 rfl (lv_at hl 6 rfl) ?_
    refine lv_iload_n hx hb d_Setter_takeMark_129 rfl (lv_at hl 7 rfl) ?_
    refine lv_iload hx hb d_Setter_takeMark_130 (lv_at hl 3 rfl) ?_
    refine lv_aload_n hx hb d_Setter_takeMark_132 rfl (lv_at hl 5 rfl) ?_
    refine xg_29_font hC hP wq_96 d_Setter_takeMark_133 ?_
    refine lv_iload hx hb d_Setter_takeMark_136 (lv_at hl 1 rfl) ?_
    obtain ⟨r9, h_r9, hf⟩ := q_bn_some hf
    refine q_callVp (As := [.int x8_1006]) (rest := [.int r3, .int x2_48, .int x1_48, .ref (G.2.2 29)]) (q0 := 3) hC (c_xTable_u16_3 l G h_r9) cal_Table_u16 wq_97 ⟨rfl, rfl, Nat.le_of_ble_eq_true rfl, Nat.le_of_ble_eq_true rfl⟩ rfl rfl hP hT hS rfl hl.1 rfl (Nat.le_of_ble_eq_true rfl) d_Setter_takeMark_138 (fun H locs hP hS => ?_)
    refine lv_aload_n hx hb d_Setter_takeMark_141 rfl (lv_at hl 5 rfl) ?_
    refine xg_29_told hC hP wq_85 d_Setter_takeMark_142 ?_
    refine xgN_14_part hC hP wq_101 d_Setter_takeMark_145 ?_
    refine lv_iload_n hx hb d_Setter_takeMark_148 rfl (lv_at hl 8 rfl) ?_
    obtain ⟨hi, hf⟩ := q_grd_some hf
    obtain ⟨v10, e_v10, hf⟩ := q_lt_some hf
    refine xl_17 hC hP e_v10 hi d_Setter_takeMark_149 ?_
    obtain ⟨r11, h_r11, hf⟩ := q_bn_some hf
    refine q_callVp (As := [.int x1_48, .int x2_48, .int r3, .int r9, .int v10]) (rest := []) (q0 := 29) hC (c_xSetter_anchorOn l G h_r11) cal_Setter_anchorOn wq_102 ⟨rfl, rfl, Nat.le_of_ble_eq_true rfl, Nat.le_of_ble_eq_true rfl⟩ rfl rfl hP hT hS rfl hl.1 rfl (Nat.le_of_ble_eq_true rfl) d_Setter_takeMark_150 (fun H locs hP hS => ?_)
    refine lv_istore (lv' := [(10, .int r11), (9, .int x9_1008), (8, .int x8_1006), (7, .int x7_1005), (6, .int r3), (5, .int r2), (0, .ref (G.2.2 29)), (1, .int x1_48), (2, .int x2_48), (3, .int x3_48), (4, .int x4_48)]) hx hb d_Setter_takeMark_153 hl (by decide) rfl (fun ls hl => ?_)
    refine lv_iload hx hb d_Setter_takeMark_155 (lv_at hl 0 rfl) ?_
    refine lv_iconst (v := (-1)) hx hb d_Setter_takeMark_157 (by decide) ?_
    refine lv_icmp_ne (tgt := 163) hx hb d_Setter_takeMark_158 (by decide) (fun c1 => ?_) (fun c1 => ?_)
    rotate_left
    · rw [if_pos c1] at hf
      refine lv_iconst (v := 0) hx hb d_Setter_takeMark_161 (by decide) ?_
      exact q_iret hC hr hlk hf (by first | rfl | decide) hP hS d_Setter_takeMark_162
    rw [if_neg c1] at hf
    refine lv_aload_n hx hb d_Setter_takeMark_163 rfl (lv_at hl 6 rfl) ?_
    refine xg_29_run hC hP wq_83 d_Setter_takeMark_164 ?_
    refine lv_iload_n hx hb d_Setter_takeMark_167 rfl (lv_at hl 9 rfl) ?_
    refine lv_iload hx hb d_Setter_takeMark_168 (lv_at hl 10 rfl) ?_
    refine lv_aload_n hx hb d_Setter_takeMark_170 rfl (lv_at hl 6 rfl) ?_
    refine xg_29_font hC hP wq_96 d_Setter_takeMark_171 ?_
    refine lv_iload hx hb d_Setter_takeMark_174 (lv_at hl 0 rfl) ?_
    refine lv_iconst (v := 2) hx hb d_Setter_takeMark_176 (by decide) ?_
    refine lv_iadd hx hb d_Setter_takeMark_177 ?_
    obtain ⟨r12, h_r12, hf⟩ := q_bn_some hf
    refine q_callVp (As := [.int (r11 + 2)]) (rest := [.int x4_48, .int x3_48, .ref (G.2.2 20)]) (q0 := 3) hC (c_xTable_s16 l G h_r12) cal_Table_s16 wq_103 ⟨rfl, rfl, Nat.le_of_ble_eq_true rfl, Nat.le_of_ble_eq_true rfl⟩ rfl rfl hP hT hS rfl hl.1 rfl (Nat.le_of_ble_eq_true rfl) d_Setter_takeMark_178 (fun H locs hP hS => ?_)
    refine lv_aload_n hx hb d_Setter_takeMark_181 rfl (lv_at hl 6 rfl) ?_
    refine xg_29_font hC hP wq_96 d_Setter_takeMark_182 ?_
    refine lv_iload hx hb d_Setter_takeMark_185 (lv_at hl 1 rfl) ?_
    refine lv_iconst (v := 2) hx hb d_Setter_takeMark_187 (by decide) ?_
    refine lv_iadd hx hb d_Setter_takeMark_188 ?_
    obtain ⟨r13, h_r13, hf⟩ := q_bn_some hf
    refine q_callVp (As := [.int (x9_1008 + 2)]) (rest := [.int r12, .int x4_48, .int x3_48, .ref (G.2.2 20)]) (q0 := 3) hC (c_xTable_s16 l G h_r13) cal_Table_s16 wq_103 ⟨rfl, rfl, Nat.le_of_ble_eq_true rfl, Nat.le_of_ble_eq_true rfl⟩ rfl rfl hP hT hS rfl hl.1 rfl (Nat.le_of_ble_eq_true rfl) d_Setter_takeMark_189 (fun H locs hP hS => ?_)
    refine lv_isub hx hb d_Setter_takeMark_192 ?_
    refine lv_aload_n hx hb d_Setter_takeMark_193 rfl (lv_at hl 6 rfl) ?_
    refine xg_29_font hC hP wq_96 d_Setter_takeMark_194 ?_
    refine lv_iload hx hb d_Setter_takeMark_197 (lv_at hl 0 rfl) ?_
    refine lv_iconst (v := 4) hx hb d_Setter_takeMark_199 (by decide) ?_
    refine lv_iadd hx hb d_Setter_takeMark_200 ?_
    obtain ⟨r14, h_r14, hf⟩ := q_bn_some hf
    refine q_callVp (As := [.int (r11 + 4)]) (rest := [.int (r12 - r13), .int x4_48, .int x3_48, .ref (G.2.2 20)]) (q0 := 3) hC (c_xTable_s16 l G h_r14) cal_Table_s16 wq_103 ⟨rfl, rfl, Nat.le_of_ble_eq_true rfl, Nat.le_of_ble_eq_true rfl⟩ rfl rfl hP hT hS rfl hl.1 rfl (Nat.le_of_ble_eq_true rfl) d_Setter_takeMark_201 (fun H locs hP hS => ?_)
    refine lv_aload_n hx hb d_Setter_takeMark_204 rfl (lv_at hl 6 rfl) ?_
    refine xg_29_font hC hP wq_96 d_Setter_takeMark_205 ?_
    refine lv_iload hx hb d_Setter_takeMark_208 (lv_at hl 1 rfl) ?_
    refine lv_iconst (v := 4) hx hb d_Setter_takeMark_210 (by decide) ?_
    refine lv_iadd hx hb d_Setter_takeMark_211 ?_
    obtain ⟨r15, h_r15, hf⟩ := q_bn_some hf
    refine q_callVp (As := [.int (x9_1008 + 4)]) (rest := [.int r14, .int (r12 - r13), .int x4_48, .int x3_48, .ref (G.2.2 20)]) (q0 := 3) hC (c_xTable_s16 l G h_r15) cal_Table_s16 wq_103 ⟨rfl, rfl, Nat.le_of_ble_eq_true rfl, Nat.le_of_ble_eq_true rfl⟩ rfl rfl hP hT hS rfl hl.1 rfl (Nat.le_of_ble_eq_true rfl) d_Setter_takeMark_212 (fun H locs hP hS => ?_)
    refine lv_isub hx hb d_Setter_takeMark_215 ?_
    obtain ⟨sr16, h_r16, hf⟩ := q_bv_some hf
    refine q_callVv (As := [.int x3_48, .int x4_48, .int (r12 - r13), .int (r14 - r15)]) (rest := []) (q0 := 20) hC (c_xRun_hangByMark l G h_r16) cal_Run_hangByMark wq_104 ⟨rfl, rfl, Nat.le_of_ble_eq_true rfl, Nat.le_of_ble_eq_true rfl⟩ rfl rfl hP hD hA hS rfl hl.1 rfl (Nat.le_of_ble_eq_true rfl) d_Setter_takeMark_216 (fun H locs hP hS => ?_)
    refine lv_iconst (v := 1) hx hb d_Setter_takeMark_219 (by decide) ?_
    exact q_iret hC hr hlk hf (by first | rfl | decide) hP hS d_Setter_takeMark_220
  have J_21 : ∀ (x1_21 x2_21 x3_21 w0_21 : Int32) (st_21 : QSt) (H : Heap) (locs : List Loc) (ls : Array Slot), xSetter_takeMark_21 N x1_21 x2_21 x3_21 w0_21 st_21 = some (ro, so) → va_P G.1 vwCl (wX G st_21) H → va_S A s.heap H locs → lv_has ls 11 [(0, .ref (G.2.2 29)), (1, .int x1_21), (2, .int x2_21), (3, .int x3_21)] → W p l e ({ frames := 4, cells := 0, slots := 0, locals := 98 } : Room) s m args below meth c H locs 0 0 (q_Zi below args s G.1 (wX G) ro so A) (F0 m 21 ls [.int w0_21]) := by
    intro x1_21 x2_21 x3_21 w0_21 st_21 H locs ls hf hP hS hl
    unfold xSetter_takeMark_21 at hf
    refine lv_istore (lv' := [(4, .int w0_21), (0, .ref (G.2.2 29)), (1, .int x1_21), (2, .int x2_21), (3, .int x3_21)]) hx hb d_Setter_takeMark_21 hl (by decide) rfl (fun ls hl => ?_)
    refine lv_iload hx hb d_Setter_takeMark_23 (lv_at hl 0 rfl) ?_
    refine lv_iconst (v := (-1)) hx hb d_Setter_takeMark_25 (by decide) ?_
    refine lv_icmp_eq (tgt := 46) hx hb d_Setter_takeMark_26 (by decide) (fun c1 => ?_) (fun c1 => ?_)
    · rw [if_pos c1] at hf
      refine lv_iconst (v := 0) hx hb d_Setter_takeMark_46 (by decide) ?_
      exact q_iret hC hr hlk hf (by first | rfl | decide) hP hS d_Setter_takeMark_47
    rw [if_neg c1] at hf
    refine lv_iload_n hx hb d_Setter_takeMark_29 rfl (lv_at hl 2 rfl) ?_
    refine lv_bipush (v := 6) hx hb d_Setter_takeMark_30 (by decide) ?_
    refine lv_icmp_ne (tgt := 48) hx hb d_Setter_takeMark_32 (by decide) (fun c1 => ?_) (fun c1 => ?_)
    · rw [if_neg c1] at hf
      exact J_48 _ _ _ _ _ _ _ _ hf hP hS (lv_sub hl [1, 2, 3, 4, 0] rfl)
    rw [if_pos c1] at hf
    refine lv_aload_n hx hb d_Setter_takeMark_35 rfl (lv_at hl 1 rfl) ?_
    refine xg_29_kind hC hP wq_79 d_Setter_takeMark_36 ?_
    refine lv_iload hx hb d_Setter_takeMark_39 (lv_at hl 0 rfl) ?_
    obtain ⟨hi, hf⟩ := q_grd_some hf
    obtain ⟨v17, e_v17, hf⟩ := q_lt_some hf
    refine xl_30 hC hP e_v17 hi d_Setter_takeMark_41 ?_
    refine lv_iconst (v := 3) hx hb d_Setter_takeMark_42 (by decide) ?_
    refine lv_icmp_eq (tgt := 48) hx hb d_Setter_takeMark_43 (by decide) (fun c1 => ?_) (fun c1 => ?_)
    · rw [if_pos c1] at hf
      exact J_48 _ _ _ _ _ _ _ _ hf hP hS (lv_sub hl [1, 2, 3, 4, 0] rfl)
    rw [if_neg c1] at hf
    refine lv_iconst (v := 0) hx hb d_Setter_takeMark_46 (by decide) ?_
    exact q_iret hC hr hlk hf (by first | rfl | decide) hP hS d_Setter_takeMark_47
  unfold xSetter_takeMark at hf
  refine lv_iload_n hx hb d_Setter_takeMark_0 rfl (lv_at hl 1 rfl) ?_
  refine lv_bipush (v := 6) hx hb d_Setter_takeMark_1 (by decide) ?_
  refine lv_icmp_ne (tgt := 15) hx hb d_Setter_takeMark_3 (by decide) (fun c1 => ?_) (fun c1 => ?_)
  · rw [if_neg c1] at hf
    refine lv_aload_n hx hb d_Setter_takeMark_15 rfl (lv_at hl 0 rfl) ?_
    refine xg_29_noMarkBefore hC hP wq_78 d_Setter_takeMark_16 ?_
    refine lv_iload_n hx hb d_Setter_takeMark_19 rfl (lv_at hl 3 rfl) ?_
    obtain ⟨hi, hf⟩ := q_grd_some hf
    obtain ⟨v1, e_v1, hf⟩ := q_lt_some hf
    refine xl_32 hC hP e_v1 hi d_Setter_takeMark_20 ?_
    exact J_21 _ _ _ _ _ _ _ _ hf hP hS hl
  rw [if_pos c1] at hf
  refine lv_aload_n hx hb d_Setter_takeMark_6 rfl (lv_at hl 0 rfl) ?_
  refine xg_29_before hC hP wq_93 d_Setter_takeMark_7 ?_
  refine lv_iload_n hx hb d_Setter_takeMark_10 rfl (lv_at hl 3 rfl) ?_
  obtain ⟨hi, hf⟩ := q_grd_some hf
  obtain ⟨v18, e_v18, hf⟩ := q_lt_some hf
  refine xl_34 hC hP e_v18 hi d_Setter_takeMark_11 ?_
  refine lv_goto (tgt := 21) hx hb d_Setter_takeMark_12 (by decide) ?_
  exact J_21 _ _ _ _ _ _ _ _ hf hP hS hl
def xSetter_takeCursive_168 (N : Nat) (x2_168 x3_168 x6_168 x7_168 : Int32) (st_168 : QSt) : Option (Int32 × QSt) :=
  q_bn (xTable_s16 (x6_168 + 4) st_168) (fun r9 => q_bn (xTable_s16 (x7_168 + 4) st_168) (fun r10 => q_bv (xRun_hangByCursive x3_168 x2_168 (r9 - r10) st_168) (fun sr11 => some (1, sr11))))
def xSetter_takeCursive (N : Nat) (x1 x2 : Int32) (st : QSt) : Option (Int32 × QSt) :=
  q_grd (q_vpb x2 800) (q_lt (st.2 25 x2.toNatClampNeg) (fun v1 => if v1 = (-1) then (some (0, st)) else (q_bn (xSetter_indexAt N (x1 + 2) x1 x2 st) (fun r2 => q_bn (xSetter_indexAt N (x1 + 2) x1 v1 st) (fun r3 => if r2 = (-1) then (some (0, st)) else (if r3 = (-1) then (some (0, st)) else (q_bn (xSetter_anchorAt ((x1 + 8) + (4 * r2)) x1 st) (fun r4 => q_bn (xSetter_anchorAt ((x1 + 6) + (4 * r3)) x1 st) (fun r5 => if r4 = (-1) then (some (0, st)) else (if r5 = (-1) then (some (0, st)) else (if (st.1 10) = 0 then (q_bn (xTable_s16 (r4 + 2) st) (fun r6 => q_bn (xTable_s16 (r5 + 2) st) (fun r7 => q_bv (xRun_join x2 r6 v1 r7 st) (fun sr8 => xSetter_takeCursive_168 N x2 v1 r4 r5 sr8)))) else (q_bn (xTable_s16 (r5 + 2) st) (fun r12 => q_bn (xTable_s16 (r4 + 2) st) (fun r13 => q_bv (xRun_join v1 r12 x2 r13 st) (fun sr14 => xSetter_takeCursive_168 N x2 v1 r4 r5 sr14)))))))))))))))
set_option maxHeartbeats 4000000 in
set_option maxRecDepth 100000 in
theorem c_xSetter_takeCursive (l : Launch) (G : XG) {N : Nat} {x1 x2 : Int32} {st : QSt} {ro : Int32} {so : QSt} (hf : xSetter_takeCursive N x1 x2 st = some (ro, so)) : q_Mi l y_Setter_takeCursive b_Setter_takeCursive 8 .boolean ({ frames := 4, cells := 0, slots := 0, locals := 98 } : Room) G.1 (xT G) (wX G) [.ref (G.2.2 29), .int x1, .int x2] st ro so := by
  refine q_Mi_of (by decide) (Nat.le_of_ble_eq_true rfl) (wX_fst G) ?_
  intro p e s m args below meth c A ls hC hr hlk hT hD hA hP hS hl
  have hx := hC.1.1
  have hb := hC.1.2.1
  have hown := hC.1.2.2.2.1
  have hts := hC.1.2.2.2.2
  have hl : lv_has ls 8 [(0, .ref (G.2.2 29)), (1, .int x1), (2, .int x2)] := hl
  have J_168 : ∀ (x2_168 x3_168 x6_168 x7_168 : Int32) (st_168 : QSt) (H : Heap) (locs : List Loc) (ls : Array Slot), xSetter_takeCursive_168 N x2_168 x3_168 x6_168 x7_168 st_168 = some (ro, so) → va_P G.1 vwCl (wX G st_168) H → va_S A s.heap H locs → lv_has ls 8 [(0, .ref (G.2.2 29)), (2, .int x2_168), (3, .int x3_168), (6, .int x6_168), (7, .int x7_168)] → W p l e ({ frames := 4, cells := 0, slots := 0, locals := 98 } : Room) s m args below meth c H locs 0 0 (q_Zi below args s G.1 (wX G) ro so A) (F0 m 168 ls []) := by
    intro x2_168 x3_168 x6_168 x7_168 st_168 H locs ls hf hP hS hl
    unfold xSetter_takeCursive_168 at hf
    refine lv_aload_n hx hb d_Setter_takeCursive_168 rfl (lv_at hl 0 rfl) ?_
    refine xg_29_run hC hP wq_83 d_Setter_takeCursive_169 ?_
    refine lv_iload_n hx hb d_Setter_takeCursive_172 rfl (lv_at hl 2 rfl) ?_
    refine lv_iload_n hx hb d_Setter_takeCursive_173 rfl (lv_at hl 1 rfl) ?_
    refine lv_aload_n hx hb d_Setter_takeCursive_174 rfl (lv_at hl 0 rfl) ?_
    refine xg_29_font hC hP wq_96 d_Setter_takeCursive_175 ?_
    refine lv_iload hx hb d_Setter_takeCursive_178 (lv_at hl 3 rfl) ?_
    refine lv_iconst (v := 4) hx hb d_Setter_takeCursive_180 (by decide) ?_
    refine lv_iadd hx hb d_Setter_takeCursive_181 ?_
    obtain ⟨r9, h_r9, hf⟩ := q_bn_some hf
    refine q_callVp (As := [.int (x6_168 + 4)]) (rest := [.int x2_168, .int x3_168, .ref (G.2.2 20)]) (q0 := 3) hC (c_xTable_s16 l G h_r9) cal_Table_s16 wq_103 ⟨rfl, rfl, Nat.le_of_ble_eq_true rfl, Nat.le_of_ble_eq_true rfl⟩ rfl rfl hP hT hS rfl hl.1 rfl (Nat.le_of_ble_eq_true rfl) d_Setter_takeCursive_182 (fun H locs hP hS => ?_)
    refine lv_aload_n hx hb d_Setter_takeCursive_185 rfl (lv_at hl 0 rfl) ?_
    refine xg_29_font hC hP wq_96 d_Setter_takeCursive_186 ?_
    refine lv_iload hx hb d_Setter_takeCursive_189 (lv_at hl 4 rfl) ?_
    refine lv_iconst (v := 4) hx hb d_Setter_takeCursive_191 (by decide) ?_
    refine lv_iadd hx hb d_Setter_takeCursive_192 ?_
    obtain ⟨r10, h_r10, hf⟩ := q_bn_some hf
    refine q_callVp (As := [.int (x7_168 + 4)]) (rest := [.int r9, .int x2_168, .int x3_168, .ref (G.2.2 20)]) (q0 := 3) hC (c_xTable_s16 l G h_r10) cal_Table_s16 wq_103 ⟨rfl, rfl, Nat.le_of_ble_eq_true rfl, Nat.le_of_ble_eq_true rfl⟩ rfl rfl hP hT hS rfl hl.1 rfl (Nat.le_of_ble_eq_true rfl) d_Setter_takeCursive_193 (fun H locs hP hS => ?_)
    refine lv_isub hx hb d_Setter_takeCursive_196 ?_
    obtain ⟨sr11, h_r11, hf⟩ := q_bv_some hf
    refine q_callVv (As := [.int x3_168, .int x2_168, .int (r9 - r10)]) (rest := []) (q0 := 20) hC (c_xRun_hangByCursive l G h_r11) cal_Run_hangByCursive wq_105 ⟨rfl, rfl, Nat.le_of_ble_eq_true rfl, Nat.le_of_ble_eq_true rfl⟩ rfl rfl hP hD hA hS rfl hl.1 rfl (Nat.le_of_ble_eq_true rfl) d_Setter_takeCursive_197 (fun H locs hP hS => ?_)
    refine lv_iconst (v := 1) hx hb d_Setter_takeCursive_200 (by decide) ?_
    exact q_iret hC hr hlk hf (by first | rfl | decide) hP hS d_Setter_takeCursive_201
  unfold xSetter_takeCursive at hf
  refine lv_aload_n hx hb d_Setter_takeCursive_0 rfl (lv_at hl 0 rfl) ?_
  refine xg_29_next hC hP wq_90 d_Setter_takeCursive_1 ?_
  refine lv_iload_n hx hb d_Setter_takeCursive_4 rfl (lv_at hl 2 rfl) ?_
  obtain ⟨hi, hf⟩ := q_grd_some hf
  obtain ⟨v1, e_v1, hf⟩ := q_lt_some hf
  refine xl_35 hC hP e_v1 hi d_Setter_takeCursive_5 ?_
  refine lv_istore_n (lv' := [(3, .int v1), (0, .ref (G.2.2 29)), (1, .int x1), (2, .int x2)]) hx hb d_Setter_takeCursive_6 rfl hl (by decide) rfl (fun ls hl => ?_)
  refine lv_iload_n hx hb d_Setter_takeCursive_7 rfl (lv_at hl 0 rfl) ?_
  refine lv_iconst (v := (-1)) hx hb d_Setter_takeCursive_8 (by decide) ?_
  refine lv_icmp_ne (tgt := 14) hx hb d_Setter_takeCursive_9 (by decide) (fun c1 => ?_) (fun c1 => ?_)
  rotate_left
  · rw [if_pos c1] at hf
    refine lv_iconst (v := 0) hx hb d_Setter_takeCursive_12 (by decide) ?_
    exact q_iret hC hr hlk hf (by first | rfl | decide) hP hS d_Setter_takeCursive_13
  rw [if_neg c1] at hf
  refine lv_aload_n hx hb d_Setter_takeCursive_14 rfl (lv_at hl 1 rfl) ?_
  refine lv_iload_n hx hb d_Setter_takeCursive_15 rfl (lv_at hl 2 rfl) ?_
  refine lv_iconst (v := 2) hx hb d_Setter_takeCursive_16 (by decide) ?_
  refine lv_iadd hx hb d_Setter_takeCursive_17 ?_
  refine lv_iload_n hx hb d_Setter_takeCursive_18 rfl (lv_at hl 2 rfl) ?_
  refine lv_iload_n hx hb d_Setter_takeCursive_19 rfl (lv_at hl 3 rfl) ?_
  obtain ⟨r2, h_r2, hf⟩ := q_bn_some hf
  refine q_callVp (As := [.int (x1 + 2), .int x1, .int x2]) (rest := []) (q0 := 29) hC (c_xSetter_indexAt l G h_r2) cal_Setter_indexAt wq_100 ⟨rfl, rfl, Nat.le_of_ble_eq_true rfl, Nat.le_of_ble_eq_true rfl⟩ rfl rfl hP hT hS rfl hl.1 rfl (Nat.le_of_ble_eq_true rfl) d_Setter_takeCursive_20 (fun H locs hP hS => ?_)
  refine lv_istore (lv' := [(4, .int r2), (3, .int v1), (0, .ref (G.2.2 29)), (1, .int x1), (2, .int x2)]) hx hb d_Setter_takeCursive_23 hl (by decide) rfl (fun ls hl => ?_)
  refine lv_aload_n hx hb d_Setter_takeCursive_25 rfl (lv_at hl 2 rfl) ?_
  refine lv_iload_n hx hb d_Setter_takeCursive_26 rfl (lv_at hl 3 rfl) ?_
  refine lv_iconst (v := 2) hx hb d_Setter_takeCursive_27 (by decide) ?_
  refine lv_iadd hx hb d_Setter_takeCursive_28 ?_
  refine lv_iload_n hx hb d_Setter_takeCursive_29 rfl (lv_at hl 3 rfl) ?_
  refine lv_iload_n hx hb d_Setter_takeCursive_30 rfl (lv_at hl 1 rfl) ?_
  obtain ⟨r3, h_r3, hf⟩ := q_bn_some hf
  refine q_callVp (As := [.int (x1 + 2), .int x1, .int v1]) (rest := []) (q0 := 29) hC (c_xSetter_indexAt l G h_r3) cal_Setter_indexAt wq_100 ⟨rfl, rfl, Nat.le_of_ble_eq_true rfl, Nat.le_of_ble_eq_true rfl⟩ rfl rfl hP hT hS rfl hl.1 rfl (Nat.le_of_ble_eq_true rfl) d_Setter_takeCursive_31 (fun H locs hP hS => ?_)
  refine lv_istore (lv' := [(5, .int r3), (4, .int r2), (3, .int v1), (0, .ref (G.2.2 29)), (1, .int x1), (2, .int x2)]) hx hb d_Setter_takeCursive_34 hl (by decide) rfl (fun ls hl => ?_)
  refine lv_iload hx hb d_Setter_takeCursive_36 (lv_at hl 1 rfl) ?_
  refine lv_iconst (v := (-1)) hx hb d_Setter_takeCursive_38 (by decide) ?_
  refine lv_icmp_eq (tgt := 48) hx hb d_Setter_takeCursive_39 (by decide) (fun c1 => ?_) (fun c1 => ?_)
  · rw [if_pos c1] at hf
    refine lv_iconst (v := 0) hx hb d_Setter_takeCursive_48 (by decide) ?_
    exact q_iret hC hr hlk hf (by first | rfl | decide) hP hS d_Setter_takeCursive_49
  rw [if_neg c1] at hf
  refine lv_iload hx hb d_Setter_takeCursive_42 (lv_at hl 0 rfl) ?_
  refine lv_iconst (v := (-1)) hx hb d_Setter_takeCursive_44 (by decide) ?_
  refine lv_icmp_ne (tgt := 50) hx hb d_Setter_takeCursive_45 (by decide) (fun c1 => ?_) (fun c1 => ?_)
  rotate_left
  · rw [if_pos c1] at hf
    refine lv_iconst (v := 0) hx hb d_Setter_takeCursive_48 (by decide) ?_
    exact q_iret hC hr hlk hf (by first | rfl | decide) hP hS d_Setter_takeCursive_49
  rw [if_neg c1] at hf
  refine lv_aload_n hx hb d_Setter_takeCursive_50 rfl (lv_at hl 3 rfl) ?_
  refine lv_iload_n hx hb d_Setter_takeCursive_51 rfl (lv_at hl 4 rfl) ?_
  refine lv_bipush (v := 8) hx hb d_Setter_takeCursive_52 (by decide) ?_
  refine lv_iadd hx hb d_Setter_takeCursive_54 ?_
  refine lv_iconst (v := 4) hx hb d_Setter_takeCursive_55 (by decide) ?_
  refine lv_iload hx hb d_Setter_takeCursive_56 (lv_at hl 1 rfl) ?_
  refine lv_imul hx hb d_Setter_takeCursive_58 ?_
  refine lv_iadd hx hb d_Setter_takeCursive_59 ?_
  refine lv_iload_n hx hb d_Setter_takeCursive_60 rfl (lv_at hl 4 rfl) ?_
  obtain ⟨r4, h_r4, hf⟩ := q_bn_some hf
  refine q_callVp (As := [.int ((x1 + 8) + (4 * r2)), .int x1]) (rest := []) (q0 := 29) hC (c_xSetter_anchorAt l G h_r4) cal_Setter_anchorAt wq_99 ⟨rfl, rfl, Nat.le_of_ble_eq_true rfl, Nat.le_of_ble_eq_true rfl⟩ rfl rfl hP hT hS rfl hl.1 rfl (Nat.le_of_ble_eq_true rfl) d_Setter_takeCursive_61 (fun H locs hP hS => ?_)
  refine lv_istore (lv' := [(6, .int r4), (5, .int r3), (4, .int r2), (3, .int v1), (0, .ref (G.2.2 29)), (1, .int x1), (2, .int x2)]) hx hb d_Setter_takeCursive_64 hl (by decide) rfl (fun ls hl => ?_)
  refine lv_aload_n hx hb d_Setter_takeCursive_66 rfl (lv_at hl 4 rfl) ?_
  refine lv_iload_n hx hb d_Setter_takeCursive_67 rfl (lv_at hl 5 rfl) ?_
  refine lv_bipush (v := 6) hx hb d_Setter_takeCursive_68 (by decide) ?_
  refine lv_iadd hx hb d_Setter_takeCursive_70 ?_
  refine lv_iconst (v := 4) hx hb d_Setter_takeCursive_71 (by decide) ?_
  refine lv_iload hx hb d_Setter_takeCursive_72 (lv_at hl 1 rfl) ?_
  refine lv_imul hx hb d_Setter_takeCursive_74 ?_
  refine lv_iadd hx hb d_Setter_takeCursive_75 ?_
  refine lv_iload_n hx hb d_Setter_takeCursive_76 rfl (lv_at hl 5 rfl) ?_
  obtain ⟨r5, h_r5, hf⟩ := q_bn_some hf
  refine q_callVp (As := [.int ((x1 + 6) + (4 * r3)), .int x1]) (rest := []) (q0 := 29) hC (c_xSetter_anchorAt l G h_r5) cal_Setter_anchorAt wq_99 ⟨rfl, rfl, Nat.le_of_ble_eq_true rfl, Nat.le_of_ble_eq_true rfl⟩ rfl rfl hP hT hS rfl hl.1 rfl (Nat.le_of_ble_eq_true rfl) d_Setter_takeCursive_77 (fun H locs hP hS => ?_)
  refine lv_istore (lv' := [(7, .int r5), (6, .int r4), (5, .int r3), (4, .int r2), (3, .int v1), (0, .ref (G.2.2 29)), (1, .int x1), (2, .int x2)]) hx hb d_Setter_takeCursive_80 hl (by decide) rfl (fun ls hl => ?_)
  refine lv_iload hx hb d_Setter_takeCursive_82 (lv_at hl 1 rfl) ?_
  refine lv_iconst (v := (-1)) hx hb d_Setter_takeCursive_84 (by decide) ?_
  refine lv_icmp_eq (tgt := 94) hx hb d_Setter_takeCursive_85 (by decide) (fun c1 => ?_) (fun c1 => ?_)
  · rw [if_pos c1] at hf
    refine lv_iconst (v := 0) hx hb d_Setter_takeCursive_94 (by decide) ?_
    exact q_iret hC hr hlk hf (by first | rfl | decide) hP hS d_Setter_takeCursive_95
  rw [if_neg c1] at hf
  refine lv_iload hx hb d_Setter_takeCursive_88 (lv_at hl 0 rfl) ?_
  refine lv_iconst (v := (-1)) hx hb d_Setter_takeCursive_90 (by decide) ?_
  refine lv_icmp_ne (tgt := 96) hx hb d_Setter_takeCursive_91 (by decide) (fun c1 => ?_) (fun c1 => ?_)
  rotate_left
  · rw [if_pos c1] at hf
    refine lv_iconst (v := 0) hx hb d_Setter_takeCursive_94 (by decide) ?_
    exact q_iret hC hr hlk hf (by first | rfl | decide) hP hS d_Setter_takeCursive_95
  rw [if_neg c1] at hf
  refine lv_aload_n hx hb d_Setter_takeCursive_96 rfl (lv_at hl 5 rfl) ?_
  refine xg_29_back hC hP wq_89 d_Setter_takeCursive_97 ?_
  refine lv_if_eq (tgt := 137) hx hb d_Setter_takeCursive_100 (by decide) (fun c1 => ?_) (fun c1 => ?_)
  · rw [if_pos c1] at hf
    refine lv_aload_n hx hb d_Setter_takeCursive_137 rfl (lv_at hl 5 rfl) ?_
    refine xg_29_run hC hP wq_83 d_Setter_takeCursive_138 ?_
    refine lv_iload_n hx hb d_Setter_takeCursive_141 rfl (lv_at hl 7 rfl) ?_
    refine lv_aload_n hx hb d_Setter_takeCursive_142 rfl (lv_at hl 5 rfl) ?_
    refine xg_29_font hC hP wq_96 d_Setter_takeCursive_143 ?_
    refine lv_iload hx hb d_Setter_takeCursive_146 (lv_at hl 1 rfl) ?_
    refine lv_iconst (v := 2) hx hb d_Setter_takeCursive_148 (by decide) ?_
    refine lv_iadd hx hb d_Setter_takeCursive_149 ?_
    obtain ⟨r6, h_r6, hf⟩ := q_bn_some hf
    refine q_callVp (As := [.int (r4 + 2)]) (rest := [.int x2, .ref (G.2.2 20)]) (q0 := 3) hC (c_xTable_s16 l G h_r6) cal_Table_s16 wq_103 ⟨rfl, rfl, Nat.le_of_ble_eq_true rfl, Nat.le_of_ble_eq_true rfl⟩ rfl rfl hP hT hS rfl hl.1 rfl (Nat.le_of_ble_eq_true rfl) d_Setter_takeCursive_150 (fun H locs hP hS => ?_)
    refine lv_iload_n hx hb d_Setter_takeCursive_153 rfl (lv_at hl 4 rfl) ?_
    refine lv_aload_n hx hb d_Setter_takeCursive_154 rfl (lv_at hl 5 rfl) ?_
    refine xg_29_font hC hP wq_96 d_Setter_takeCursive_155 ?_
    refine lv_iload hx hb d_Setter_takeCursive_158 (lv_at hl 0 rfl) ?_
    refine lv_iconst (v := 2) hx hb d_Setter_takeCursive_160 (by decide) ?_
    refine lv_iadd hx hb d_Setter_takeCursive_161 ?_
    obtain ⟨r7, h_r7, hf⟩ := q_bn_some hf
    refine q_callVp (As := [.int (r5 + 2)]) (rest := [.int v1, .int r6, .int x2, .ref (G.2.2 20)]) (q0 := 3) hC (c_xTable_s16 l G h_r7) cal_Table_s16 wq_103 ⟨rfl, rfl, Nat.le_of_ble_eq_true rfl, Nat.le_of_ble_eq_true rfl⟩ rfl rfl hP hT hS rfl hl.1 rfl (Nat.le_of_ble_eq_true rfl) d_Setter_takeCursive_162 (fun H locs hP hS => ?_)
    obtain ⟨sr8, h_r8, hf⟩ := q_bv_some hf
    refine q_callVv (As := [.int x2, .int r6, .int v1, .int r7]) (rest := []) (q0 := 20) hC (c_xRun_join l G h_r8) cal_Run_join wq_106 ⟨rfl, rfl, Nat.le_of_ble_eq_true rfl, Nat.le_of_ble_eq_true rfl⟩ rfl rfl hP hD hA hS rfl hl.1 rfl (Nat.le_of_ble_eq_true rfl) d_Setter_takeCursive_165 (fun H locs hP hS => ?_)
    exact J_168 _ _ _ _ _ _ _ _ hf hP hS (lv_sub hl [5, 7, 4, 1, 0] rfl)
  rw [if_neg c1] at hf
  refine lv_aload_n hx hb d_Setter_takeCursive_103 rfl (lv_at hl 5 rfl) ?_
  refine xg_29_run hC hP wq_83 d_Setter_takeCursive_104 ?_
  refine lv_iload_n hx hb d_Setter_takeCursive_107 rfl (lv_at hl 4 rfl) ?_
  refine lv_aload_n hx hb d_Setter_takeCursive_108 rfl (lv_at hl 5 rfl) ?_
  refine xg_29_font hC hP wq_96 d_Setter_takeCursive_109 ?_
  refine lv_iload hx hb d_Setter_takeCursive_112 (lv_at hl 0 rfl) ?_
  refine lv_iconst (v := 2) hx hb d_Setter_takeCursive_114 (by decide) ?_
  refine lv_iadd hx hb d_Setter_takeCursive_115 ?_
  obtain ⟨r12, h_r12, hf⟩ := q_bn_some hf
  refine q_callVp (As := [.int (r5 + 2)]) (rest := [.int v1, .ref (G.2.2 20)]) (q0 := 3) hC (c_xTable_s16 l G h_r12) cal_Table_s16 wq_103 ⟨rfl, rfl, Nat.le_of_ble_eq_true rfl, Nat.le_of_ble_eq_true rfl⟩ rfl rfl hP hT hS rfl hl.1 rfl (Nat.le_of_ble_eq_true rfl) d_Setter_takeCursive_116 (fun H locs hP hS => ?_)
  refine lv_iload_n hx hb d_Setter_takeCursive_119 rfl (lv_at hl 7 rfl) ?_
  refine lv_aload_n hx hb d_Setter_takeCursive_120 rfl (lv_at hl 5 rfl) ?_
  refine xg_29_font hC hP wq_96 d_Setter_takeCursive_121 ?_
  refine lv_iload hx hb d_Setter_takeCursive_124 (lv_at hl 1 rfl) ?_
  refine lv_iconst (v := 2) hx hb d_Setter_takeCursive_126 (by decide) ?_
  refine lv_iadd hx hb d_Setter_takeCursive_127 ?_
  obtain ⟨r13, h_r13, hf⟩ := q_bn_some hf
  refine q_callVp (As := [.int (r4 + 2)]) (rest := [.int x2, .int r12, .int v1, .ref (G.2.2 20)]) (q0 := 3) hC (c_xTable_s16 l G h_r13) cal_Table_s16 wq_103 ⟨rfl, rfl, Nat.le_of_ble_eq_true rfl, Nat.le_of_ble_eq_true rfl⟩ rfl rfl hP hT hS rfl hl.1 rfl (Nat.le_of_ble_eq_true rfl) d_Setter_takeCursive_128 (fun H locs hP hS => ?_)
  obtain ⟨sr14, h_r14, hf⟩ := q_bv_some hf
  refine q_callVv (As := [.int v1, .int r12, .int x2, .int r13]) (rest := []) (q0 := 20) hC (c_xRun_join l G h_r14) cal_Run_join wq_106 ⟨rfl, rfl, Nat.le_of_ble_eq_true rfl, Nat.le_of_ble_eq_true rfl⟩ rfl rfl hP hD hA hS rfl hl.1 rfl (Nat.le_of_ble_eq_true rfl) d_Setter_takeCursive_131 (fun H locs hP hS => ?_)
  refine lv_goto (tgt := 168) hx hb d_Setter_takeCursive_134 (by decide) ?_
  exact J_168 _ _ _ _ _ _ _ _ hf hP hS (lv_sub hl [5, 7, 4, 1, 0] rfl)
def xGlyphSets_classOf (N : Nat) (x1 x2 : Int32) (st : QSt) : Option Int32 :=
  q_bn (xTable_u16_3 x1 st) (fun r1 => if r1 = 1 then (q_bn (xTable_u16_3 (x1 + 2) st) (fun r7 => q_lt (x2 - r7) (fun x3_1008 => if x3_1008 < 0 then (some 0) else (q_bn (xTable_u16_3 (x1 + 4) st) (fun r9 => if r9 ≤ x3_1008 then (some 0) else (q_bn (xTable_u16_3 ((x1 + 6) + (2 * x3_1008)) st) (fun r10 => some r10))))))) else (q_bn (xTable_u16_3 (x1 + 2) st) (fun r2 => q_bn (xGlyphSets_lastUpTo N (x1 + 4) r2 6 x2 st) (fun r3 => q_lt ((x1 + 4) + (6 * r3)) (fun x4_1004 => if r3 = (-1) then (some 0) else (q_bn (xTable_u16_3 (x4_1004 + 2) st) (fun r5 => if r5 < x2 then (some 0) else (q_bn (xTable_u16_3 (x4_1004 + 4) st) (fun r6 => some r6)))))))))
set_option maxHeartbeats 4000000 in
set_option maxRecDepth 100000 in
theorem c_xGlyphSets_classOf (l : Launch) (G : XG) {N : Nat} {x1 x2 : Int32} {st : QSt} {ro : Int32} (hf : xGlyphSets_classOf N x1 x2 st = some ro) : q_Mp l y_GlyphSets_classOf b_GlyphSets_classOf 5 .int ({ frames := 2, cells := 0, slots := 0, locals := 48 } : Room) G.1 (xT G) (wX G) [.ref (G.2.2 3), .int x1, .int x2] st ro := by
  refine q_Mp_of (by decide) (Nat.le_of_ble_eq_true rfl) (wX_fst G) ?_
  intro p e s m args below meth c ls hC hr hlk hT hP hS hl
  have hx := hC.1.1
  have hb := hC.1.2.1
  have hown := hC.1.2.2.2.1
  have hts := hC.1.2.2.2.2
  have hl : lv_has ls 5 [(0, .ref (G.2.2 3)), (1, .int x1), (2, .int x2)] := hl
  unfold xGlyphSets_classOf at hf
  refine lv_aload_n hx hb d_GlyphSets_classOf_0 rfl (lv_at hl 0 rfl) ?_
  refine lv_iload_n hx hb d_GlyphSets_classOf_1 rfl (lv_at hl 1 rfl) ?_
  obtain ⟨r1, h_r1, hf⟩ := q_bn_some hf
  refine q_callVp (As := [.int x1]) (rest := []) (q0 := 3) hC (c_xTable_u16_3 l G h_r1) cal_Table_u16 wq_94 ⟨rfl, rfl, Nat.le_of_ble_eq_true rfl, Nat.le_of_ble_eq_true rfl⟩ rfl rfl hP hT hS rfl hl.1 rfl (Nat.le_of_ble_eq_true rfl) d_GlyphSets_classOf_2 (fun H locs hP hS => ?_)
  refine lv_iconst (v := 1) hx hb d_GlyphSets_classOf_5 (by decide) ?_
  refine lv_icmp_ne (tgt := 51) hx hb d_GlyphSets_classOf_6 (by decide) (fun c1 => ?_) (fun c1 => ?_)
  rotate_left
  · rw [if_pos c1] at hf
    refine lv_iload_n hx hb d_GlyphSets_classOf_9 rfl (lv_at hl 2 rfl) ?_
    refine lv_aload_n hx hb d_GlyphSets_classOf_10 rfl (lv_at hl 0 rfl) ?_
    refine lv_iload_n hx hb d_GlyphSets_classOf_11 rfl (lv_at hl 1 rfl) ?_
    refine lv_iconst (v := 2) hx hb d_GlyphSets_classOf_12 (by decide) ?_
    refine lv_iadd hx hb d_GlyphSets_classOf_13 ?_
    obtain ⟨r7, h_r7, hf⟩ := q_bn_some hf
    refine q_callVp (As := [.int (x1 + 2)]) (rest := [.int x2]) (q0 := 3) hC (c_xTable_u16_3 l G h_r7) cal_Table_u16 wq_94 ⟨rfl, rfl, Nat.le_of_ble_eq_true rfl, Nat.le_of_ble_eq_true rfl⟩ rfl rfl hP hT hS rfl hl.1 rfl (Nat.le_of_ble_eq_true rfl) d_GlyphSets_classOf_14 (fun H locs hP hS => ?_)
    refine lv_isub hx hb d_GlyphSets_classOf_17 ?_
    obtain ⟨x3_1008, e_x3_1008, hf⟩ := q_lt_some hf
    refine q_topi e_x3_1008 ?_
    refine lv_istore_n (lv' := [(3, .int x3_1008), (0, .ref (G.2.2 3)), (1, .int x1), (2, .int x2)]) hx hb d_GlyphSets_classOf_18 rfl hl (by decide) rfl (fun ls hl => ?_)
    refine lv_iload_n hx hb d_GlyphSets_classOf_19 rfl (lv_at hl 0 rfl) ?_
    refine lv_if_lt (tgt := 49) hx hb d_GlyphSets_classOf_20 (by decide) (fun c1 => ?_) (fun c1 => ?_)
    · rw [if_pos c1] at hf
      refine lv_iconst (v := 0) hx hb d_GlyphSets_classOf_49 (by decide) ?_
      exact q_iretP hC hr hlk hf (by first | rfl | decide) hS d_GlyphSets_classOf_50
    rw [if_neg c1] at hf
    refine lv_iload_n hx hb d_GlyphSets_classOf_23 rfl (lv_at hl 0 rfl) ?_
    refine lv_aload_n hx hb d_GlyphSets_classOf_24 rfl (lv_at hl 1 rfl) ?_
    refine lv_iload_n hx hb d_GlyphSets_classOf_25 rfl (lv_at hl 2 rfl) ?_
    refine lv_iconst (v := 4) hx hb d_GlyphSets_classOf_26 (by decide) ?_
    refine lv_iadd hx hb d_GlyphSets_classOf_27 ?_
    obtain ⟨r9, h_r9, hf⟩ := q_bn_some hf
    refine q_callVp (As := [.int (x1 + 4)]) (rest := [.int x3_1008]) (q0 := 3) hC (c_xTable_u16_3 l G h_r9) cal_Table_u16 wq_94 ⟨rfl, rfl, Nat.le_of_ble_eq_true rfl, Nat.le_of_ble_eq_true rfl⟩ rfl rfl hP hT hS rfl hl.1 rfl (Nat.le_of_ble_eq_true rfl) d_GlyphSets_classOf_28 (fun H locs hP hS => ?_)
    refine lv_icmp_ge (tgt := 49) hx hb d_GlyphSets_classOf_31 (by decide) (fun c1 => ?_) (fun c1 => ?_)
    · rw [if_pos c1] at hf
      refine lv_iconst (v := 0) hx hb d_GlyphSets_classOf_49 (by decide) ?_
      exact q_iretP hC hr hlk hf (by first | rfl | decide) hS d_GlyphSets_classOf_50
    rw [if_neg c1] at hf
    refine lv_aload_n hx hb d_GlyphSets_classOf_34 rfl (lv_at hl 1 rfl) ?_
    refine lv_iload_n hx hb d_GlyphSets_classOf_35 rfl (lv_at hl 2 rfl) ?_
    refine lv_bipush (v := 6) hx hb d_GlyphSets_classOf_36 (by decide) ?_
    refine lv_iadd hx hb d_GlyphSets_classOf_38 ?_
    refine lv_iconst (v := 2) hx hb d_GlyphSets_classOf_39 (by decide) ?_
    refine lv_iload_n hx hb d_GlyphSets_classOf_40 rfl (lv_at hl 0 rfl) ?_
    refine lv_imul hx hb d_GlyphSets_classOf_41 ?_
    refine lv_iadd hx hb d_GlyphSets_classOf_42 ?_
    obtain ⟨r10, h_r10, hf⟩ := q_bn_some hf
    refine q_callVp (As := [.int ((x1 + 6) + (2 * x3_1008))]) (rest := []) (q0 := 3) hC (c_xTable_u16_3 l G h_r10) cal_Table_u16 wq_94 ⟨rfl, rfl, Nat.le_of_ble_eq_true rfl, Nat.le_of_ble_eq_true rfl⟩ rfl rfl hP hT hS rfl hl.1 rfl (Nat.le_of_ble_eq_true rfl) d_GlyphSets_classOf_43 (fun H locs hP hS => ?_)
    refine lv_goto (tgt := 50) hx hb d_GlyphSets_classOf_46 (by decide) ?_
    exact q_iretP hC hr hlk hf (by first | rfl | decide) hS d_GlyphSets_classOf_50
  rw [if_neg c1] at hf
  refine lv_aload_n hx hb d_GlyphSets_classOf_51 rfl (lv_at hl 0 rfl) ?_
  refine lv_iload_n hx hb d_GlyphSets_classOf_52 rfl (lv_at hl 1 rfl) ?_
  refine lv_iconst (v := 4) hx hb d_GlyphSets_classOf_53 (by decide) ?_
  refine lv_iadd hx hb d_GlyphSets_classOf_54 ?_
  refine lv_aload_n hx hb d_GlyphSets_classOf_55 rfl (lv_at hl 0 rfl) ?_
  refine lv_iload_n hx hb d_GlyphSets_classOf_56 rfl (lv_at hl 1 rfl) ?_
  refine lv_iconst (v := 2) hx hb d_GlyphSets_classOf_57 (by decide) ?_
  refine lv_iadd hx hb d_GlyphSets_classOf_58 ?_
  obtain ⟨r2, h_r2, hf⟩ := q_bn_some hf
  refine q_callVp (As := [.int (x1 + 2)]) (rest := [.int (x1 + 4), .ref (G.2.2 3)]) (q0 := 3) hC (c_xTable_u16_3 l G h_r2) cal_Table_u16 wq_94 ⟨rfl, rfl, Nat.le_of_ble_eq_true rfl, Nat.le_of_ble_eq_true rfl⟩ rfl rfl hP hT hS rfl hl.1 rfl (Nat.le_of_ble_eq_true rfl) d_GlyphSets_classOf_59 (fun H locs hP hS => ?_)
  refine lv_bipush (v := 6) hx hb d_GlyphSets_classOf_62 (by decide) ?_
  refine lv_iload_n hx hb d_GlyphSets_classOf_64 rfl (lv_at hl 2 rfl) ?_
  obtain ⟨r3, h_r3, hf⟩ := q_bn_some hf
  refine q_callSp (As := [.ref (G.2.2 3), .int (x1 + 4), .int r2, .int 6, .int x2]) (rest := []) hC (c_xGlyphSets_lastUpTo l G h_r3) cal_GlyphSets_lastUpTo wq_95 ⟨rfl, rfl, Nat.le_of_ble_eq_true rfl, Nat.le_of_ble_eq_true rfl⟩ hP hT hS rfl hl.1 rfl (Nat.le_of_ble_eq_true rfl) d_GlyphSets_classOf_65 (fun H locs hP hS => ?_)
  refine lv_istore_n (lv' := [(3, .int r3), (0, .ref (G.2.2 3)), (1, .int x1), (2, .int x2)]) hx hb d_GlyphSets_classOf_68 rfl hl (by decide) rfl (fun ls hl => ?_)
  refine lv_iload_n hx hb d_GlyphSets_classOf_69 rfl (lv_at hl 2 rfl) ?_
  refine lv_iconst (v := 4) hx hb d_GlyphSets_classOf_70 (by decide) ?_
  refine lv_iadd hx hb d_GlyphSets_classOf_71 ?_
  refine lv_bipush (v := 6) hx hb d_GlyphSets_classOf_72 (by decide) ?_
  refine lv_iload_n hx hb d_GlyphSets_classOf_74 rfl (lv_at hl 0 rfl) ?_
  refine lv_imul hx hb d_GlyphSets_classOf_75 ?_
  refine lv_iadd hx hb d_GlyphSets_classOf_76 ?_
  obtain ⟨x4_1004, e_x4_1004, hf⟩ := q_lt_some hf
  refine q_topi e_x4_1004 ?_
  refine lv_istore (lv' := [(4, .int x4_1004), (3, .int r3), (0, .ref (G.2.2 3)), (1, .int x1), (2, .int x2)]) hx hb d_GlyphSets_classOf_77 hl (by decide) rfl (fun ls hl => ?_)
  refine lv_iload_n hx hb d_GlyphSets_classOf_79 rfl (lv_at hl 1 rfl) ?_
  refine lv_iconst (v := (-1)) hx hb d_GlyphSets_classOf_80 (by decide) ?_
  refine lv_icmp_eq (tgt := 107) hx hb d_GlyphSets_classOf_81 (by decide) (fun c1 => ?_) (fun c1 => ?_)
  · rw [if_pos c1] at hf
    refine lv_iconst (v := 0) hx hb d_GlyphSets_classOf_107 (by decide) ?_
    exact q_iretP hC hr hlk hf (by first | rfl | decide) hS d_GlyphSets_classOf_108
  rw [if_neg c1] at hf
  refine lv_iload_n hx hb d_GlyphSets_classOf_84 rfl (lv_at hl 4 rfl) ?_
  refine lv_aload_n hx hb d_GlyphSets_classOf_85 rfl (lv_at hl 2 rfl) ?_
  refine lv_iload hx hb d_GlyphSets_classOf_86 (lv_at hl 0 rfl) ?_
  refine lv_iconst (v := 2) hx hb d_GlyphSets_classOf_88 (by decide) ?_
  refine lv_iadd hx hb d_GlyphSets_classOf_89 ?_
  obtain ⟨r5, h_r5, hf⟩ := q_bn_some hf
  refine q_callVp (As := [.int (x4_1004 + 2)]) (rest := [.int x2]) (q0 := 3) hC (c_xTable_u16_3 l G h_r5) cal_Table_u16 wq_94 ⟨rfl, rfl, Nat.le_of_ble_eq_true rfl, Nat.le_of_ble_eq_true rfl⟩ rfl rfl hP hT hS rfl hl.1 rfl (Nat.le_of_ble_eq_true rfl) d_GlyphSets_classOf_90 (fun H locs hP hS => ?_)
  refine lv_icmp_gt (tgt := 107) hx hb d_GlyphSets_classOf_93 (by decide) (fun c1 => ?_) (fun c1 => ?_)
  · rw [if_pos c1] at hf
    refine lv_iconst (v := 0) hx hb d_GlyphSets_classOf_107 (by decide) ?_
    exact q_iretP hC hr hlk hf (by first | rfl | decide) hS d_GlyphSets_classOf_108
  rw [if_neg c1] at hf
  refine lv_aload_n hx hb d_GlyphSets_classOf_96 rfl (lv_at hl 2 rfl) ?_
  refine lv_iload hx hb d_GlyphSets_classOf_97 (lv_at hl 0 rfl) ?_
  refine lv_iconst (v := 4) hx hb d_GlyphSets_classOf_99 (by decide) ?_
  refine lv_iadd hx hb d_GlyphSets_classOf_100 ?_
  obtain ⟨r6, h_r6, hf⟩ := q_bn_some hf
  refine q_callVp (As := [.int (x4_1004 + 4)]) (rest := []) (q0 := 3) hC (c_xTable_u16_3 l G h_r6) cal_Table_u16 wq_94 ⟨rfl, rfl, Nat.le_of_ble_eq_true rfl, Nat.le_of_ble_eq_true rfl⟩ rfl rfl hP hT hS rfl hl.1 rfl (Nat.le_of_ble_eq_true rfl) d_GlyphSets_classOf_101 (fun H locs hP hS => ?_)
  refine lv_goto (tgt := 108) hx hb d_GlyphSets_classOf_104 (by decide) ?_
  exact q_iretP hC hr hlk hf (by first | rfl | decide) hS d_GlyphSets_classOf_108
def xSetter_valuesByClasses (N : Nat) (x1 x2 x3 x4 : Int32) (st : QSt) : Option Int32 :=
  q_bn (xTable_u16_3 (x1 + 8) st) (fun r1 => q_grd (q_vpb x3 800) (q_lt (st.2 8 x3.toNatClampNeg) (fun v2 => q_bn (xGlyphSets_classOf N (x1 + r1) v2 st) (fun r3 => q_bn (xTable_u16_3 (x1 + 10) st) (fun r4 => q_grd (q_vpb x4 800) (q_lt (st.2 8 x4.toNatClampNeg) (fun v5 => q_bn (xGlyphSets_classOf N (x1 + r4) v5 st) (fun r6 => q_bn (xTable_u16_3 (x1 + 12) st) (fun r7 => q_bn (xTable_u16_3 (x1 + 14) st) (fun r8 => if r7 ≤ r3 then (some (-1)) else (if r6 < r8 then (some ((x1 + 16) + (((r3 * r8) + r6) * x2))) else (some (-1)))))))))))))
set_option maxHeartbeats 4000000 in
set_option maxRecDepth 100000 in
theorem c_xSetter_valuesByClasses (l : Launch) (G : XG) {N : Nat} {x1 x2 x3 x4 : Int32} {st : QSt} {ro : Int32} (hf : xSetter_valuesByClasses N x1 x2 x3 x4 st = some ro) : q_Mp l y_Setter_valuesByClasses b_Setter_valuesByClasses 9 .int ({ frames := 3, cells := 0, slots := 0, locals := 72 } : Room) G.1 (xT G) (wX G) [.ref (G.2.2 29), .int x1, .int x2, .int x3, .int x4] st ro := by
  refine q_Mp_of (by decide) (Nat.le_of_ble_eq_true rfl) (wX_fst G) ?_
  intro p e s m args below meth c ls hC hr hlk hT hP hS hl
  have hx := hC.1.1
  have hb := hC.1.2.1
  have hown := hC.1.2.2.2.1
  have hts := hC.1.2.2.2.2
  have hl : lv_has ls 9 [(0, .ref (G.2.2 29)), (1, .int x1), (2, .int x2), (3, .int x3), (4, .int x4)] := hl
  unfold xSetter_valuesByClasses at hf
  refine lv_aload_n hx hb d_Setter_valuesByClasses_0 rfl (lv_at hl 0 rfl) ?_
  refine xg_29_font hC hP wq_96 d_Setter_valuesByClasses_1 ?_
  refine lv_iload_n hx hb d_Setter_valuesByClasses_4 rfl (lv_at hl 1 rfl) ?_
  refine lv_aload_n hx hb d_Setter_valuesByClasses_5 rfl (lv_at hl 0 rfl) ?_
  refine xg_29_font hC hP wq_96 d_Setter_valuesByClasses_6 ?_
  refine lv_iload_n hx hb d_Setter_valuesByClasses_9 rfl (lv_at hl 1 rfl) ?_
  refine lv_bipush (v := 8) hx hb d_Setter_valuesByClasses_10 (by decide) ?_
  refine lv_iadd hx hb d_Setter_valuesByClasses_12 ?_
  obtain ⟨r1, h_r1, hf⟩ := q_bn_some hf
  refine q_callVp (As := [.int (x1 + 8)]) (rest := [.int x1, .ref (G.2.2 3)]) (q0 := 3) hC (c_xTable_u16_3 l G h_r1) cal_Table_u16 wq_97 ⟨rfl, rfl, Nat.le_of_ble_eq_true rfl, Nat.le_of_ble_eq_true rfl⟩ rfl rfl hP hT hS rfl hl.1 rfl (Nat.le_of_ble_eq_true rfl) d_Setter_valuesByClasses_13 (fun H locs hP hS => ?_)
  refine lv_iadd hx hb d_Setter_valuesByClasses_16 ?_
  refine lv_aload_n hx hb d_Setter_valuesByClasses_17 rfl (lv_at hl 0 rfl) ?_
  refine xg_29_told hC hP wq_85 d_Setter_valuesByClasses_18 ?_
  refine xgN_14_glyph hC hP wq_86 d_Setter_valuesByClasses_21 ?_
  refine lv_iload_n hx hb d_Setter_valuesByClasses_24 rfl (lv_at hl 3 rfl) ?_
  obtain ⟨hi, hf⟩ := q_grd_some hf
  obtain ⟨v2, e_v2, hf⟩ := q_lt_some hf
  refine xl_15 hC hP e_v2 hi d_Setter_valuesByClasses_25 ?_
  obtain ⟨r3, h_r3, hf⟩ := q_bn_some hf
  refine q_callSp (As := [.ref (G.2.2 3), .int (x1 + r1), .int v2]) (rest := []) hC (c_xGlyphSets_classOf l G h_r3) cal_GlyphSets_classOf wq_107 ⟨rfl, rfl, Nat.le_of_ble_eq_true rfl, Nat.le_of_ble_eq_true rfl⟩ hP hT hS rfl hl.1 rfl (Nat.le_of_ble_eq_true rfl) d_Setter_valuesByClasses_26 (fun H locs hP hS => ?_)
  refine lv_istore (lv' := [(5, .int r3), (0, .ref (G.2.2 29)), (1, .int x1), (2, .int x2), (3, .int x3), (4, .int x4)]) hx hb d_Setter_valuesByClasses_29 hl (by decide) rfl (fun ls hl => ?_)
  refine lv_aload_n hx hb d_Setter_valuesByClasses_31 rfl (lv_at hl 1 rfl) ?_
  refine xg_29_font hC hP wq_96 d_Setter_valuesByClasses_32 ?_
  refine lv_iload_n hx hb d_Setter_valuesByClasses_35 rfl (lv_at hl 2 rfl) ?_
  refine lv_aload_n hx hb d_Setter_valuesByClasses_36 rfl (lv_at hl 1 rfl) ?_
  refine xg_29_font hC hP wq_96 d_Setter_valuesByClasses_37 ?_
  refine lv_iload_n hx hb d_Setter_valuesByClasses_40 rfl (lv_at hl 2 rfl) ?_
  refine lv_bipush (v := 10) hx hb d_Setter_valuesByClasses_41 (by decide) ?_
  refine lv_iadd hx hb d_Setter_valuesByClasses_43 ?_
  obtain ⟨r4, h_r4, hf⟩ := q_bn_some hf
  refine q_callVp (As := [.int (x1 + 10)]) (rest := [.int x1, .ref (G.2.2 3)]) (q0 := 3) hC (c_xTable_u16_3 l G h_r4) cal_Table_u16 wq_97 ⟨rfl, rfl, Nat.le_of_ble_eq_true rfl, Nat.le_of_ble_eq_true rfl⟩ rfl rfl hP hT hS rfl hl.1 rfl (Nat.le_of_ble_eq_true rfl) d_Setter_valuesByClasses_44 (fun H locs hP hS => ?_)
  refine lv_iadd hx hb d_Setter_valuesByClasses_47 ?_
  refine lv_aload_n hx hb d_Setter_valuesByClasses_48 rfl (lv_at hl 1 rfl) ?_
  refine xg_29_told hC hP wq_85 d_Setter_valuesByClasses_49 ?_
  refine xgN_14_glyph hC hP wq_86 d_Setter_valuesByClasses_52 ?_
  refine lv_iload hx hb d_Setter_valuesByClasses_55 (lv_at hl 5 rfl) ?_
  obtain ⟨hi, hf⟩ := q_grd_some hf
  obtain ⟨v5, e_v5, hf⟩ := q_lt_some hf
  refine xl_15 hC hP e_v5 hi d_Setter_valuesByClasses_57 ?_
  obtain ⟨r6, h_r6, hf⟩ := q_bn_some hf
  refine q_callSp (As := [.ref (G.2.2 3), .int (x1 + r4), .int v5]) (rest := []) hC (c_xGlyphSets_classOf l G h_r6) cal_GlyphSets_classOf wq_107 ⟨rfl, rfl, Nat.le_of_ble_eq_true rfl, Nat.le_of_ble_eq_true rfl⟩ hP hT hS rfl hl.1 rfl (Nat.le_of_ble_eq_true rfl) d_Setter_valuesByClasses_58 (fun H locs hP hS => ?_)
  refine lv_istore (lv' := [(6, .int r6), (5, .int r3), (0, .ref (G.2.2 29)), (1, .int x1), (2, .int x2), (3, .int x3), (4, .int x4)]) hx hb d_Setter_valuesByClasses_61 hl (by decide) rfl (fun ls hl => ?_)
  refine lv_aload_n hx hb d_Setter_valuesByClasses_63 rfl (lv_at hl 2 rfl) ?_
  refine xg_29_font hC hP wq_96 d_Setter_valuesByClasses_64 ?_
  refine lv_iload_n hx hb d_Setter_valuesByClasses_67 rfl (lv_at hl 3 rfl) ?_
  refine lv_bipush (v := 12) hx hb d_Setter_valuesByClasses_68 (by decide) ?_
  refine lv_iadd hx hb d_Setter_valuesByClasses_70 ?_
  obtain ⟨r7, h_r7, hf⟩ := q_bn_some hf
  refine q_callVp (As := [.int (x1 + 12)]) (rest := []) (q0 := 3) hC (c_xTable_u16_3 l G h_r7) cal_Table_u16 wq_97 ⟨rfl, rfl, Nat.le_of_ble_eq_true rfl, Nat.le_of_ble_eq_true rfl⟩ rfl rfl hP hT hS rfl hl.1 rfl (Nat.le_of_ble_eq_true rfl) d_Setter_valuesByClasses_71 (fun H locs hP hS => ?_)
  refine lv_istore (lv' := [(7, .int r7), (6, .int r6), (5, .int r3), (0, .ref (G.2.2 29)), (1, .int x1), (2, .int x2), (3, .int x3), (4, .int x4)]) hx hb d_Setter_valuesByClasses_74 hl (by decide) rfl (fun ls hl => ?_)
  refine lv_aload_n hx hb d_Setter_valuesByClasses_76 rfl (lv_at hl 3 rfl) ?_
  refine xg_29_font hC hP wq_96 d_Setter_valuesByClasses_77 ?_
  refine lv_iload_n hx hb d_Setter_valuesByClasses_80 rfl (lv_at hl 4 rfl) ?_
  refine lv_bipush (v := 14) hx hb d_Setter_valuesByClasses_81 (by decide) ?_
  refine lv_iadd hx hb d_Setter_valuesByClasses_83 ?_
  obtain ⟨r8, h_r8, hf⟩ := q_bn_some hf
  refine q_callVp (As := [.int (x1 + 14)]) (rest := []) (q0 := 3) hC (c_xTable_u16_3 l G h_r8) cal_Table_u16 wq_97 ⟨rfl, rfl, Nat.le_of_ble_eq_true rfl, Nat.le_of_ble_eq_true rfl⟩ rfl rfl hP hT hS rfl hl.1 rfl (Nat.le_of_ble_eq_true rfl) d_Setter_valuesByClasses_84 (fun H locs hP hS => ?_)
  refine lv_istore (lv' := [(8, .int r8), (7, .int r7), (6, .int r6), (5, .int r3), (0, .ref (G.2.2 29)), (1, .int x1), (2, .int x2), (3, .int x3), (4, .int x4)]) hx hb d_Setter_valuesByClasses_87 hl (by decide) rfl (fun ls hl => ?_)
  refine lv_iload hx hb d_Setter_valuesByClasses_89 (lv_at hl 3 rfl) ?_
  refine lv_iload hx hb d_Setter_valuesByClasses_91 (lv_at hl 1 rfl) ?_
  refine lv_icmp_ge (tgt := 103) hx hb d_Setter_valuesByClasses_93 (by decide) (fun c1 => ?_) (fun c1 => ?_)
  · rw [if_pos c1] at hf
    refine lv_iconst (v := (-1)) hx hb d_Setter_valuesByClasses_103 (by decide) ?_
    exact q_iretP hC hr hlk hf (by first | rfl | decide) hS d_Setter_valuesByClasses_104
  rw [if_neg c1] at hf
  refine lv_iload hx hb d_Setter_valuesByClasses_96 (lv_at hl 2 rfl) ?_
  refine lv_iload hx hb d_Setter_valuesByClasses_98 (lv_at hl 0 rfl) ?_
  refine lv_icmp_lt (tgt := 105) hx hb d_Setter_valuesByClasses_100 (by decide) (fun c1 => ?_) (fun c1 => ?_)
  rotate_left
  · rw [if_neg c1] at hf
    refine lv_iconst (v := (-1)) hx hb d_Setter_valuesByClasses_103 (by decide) ?_
    exact q_iretP hC hr hlk hf (by first | rfl | decide) hS d_Setter_valuesByClasses_104
  rw [if_pos c1] at hf
  refine lv_iload_n hx hb d_Setter_valuesByClasses_105 rfl (lv_at hl 5 rfl) ?_
  refine lv_bipush (v := 16) hx hb d_Setter_valuesByClasses_106 (by decide) ?_
  refine lv_iadd hx hb d_Setter_valuesByClasses_108 ?_
  refine lv_iload hx hb d_Setter_valuesByClasses_109 (lv_at hl 3 rfl) ?_
  refine lv_iload hx hb d_Setter_valuesByClasses_111 (lv_at hl 0 rfl) ?_
  refine lv_imul hx hb d_Setter_valuesByClasses_113 ?_
  refine lv_iload hx hb d_Setter_valuesByClasses_114 (lv_at hl 2 rfl) ?_
  refine lv_iadd hx hb d_Setter_valuesByClasses_116 ?_
  refine lv_iload_n hx hb d_Setter_valuesByClasses_117 rfl (lv_at hl 6 rfl) ?_
  refine lv_imul hx hb d_Setter_valuesByClasses_118 ?_
  refine lv_iadd hx hb d_Setter_valuesByClasses_119 ?_
  exact q_iretP hC hr hlk hf (by first | rfl | decide) hS d_Setter_valuesByClasses_120
def xSetter_giveValue_6 (N : Nat) (x1_6 x3_6 : Int32) : Nat → Int32 → Int32 → QSt → Option QSt
  | 0, _, _, _ => none
  | n_6 + 1, x4_6, x5_6, st_6 => if 4 ≤ x5_6 then (some st_6) else (if ((x3_6 >>> (x5_6 &&& 31)) &&& 1) = 0 then (xSetter_giveValue_6 N x1_6 x3_6 n_6 x4_6 (x5_6 + 1) st_6) else (q_bn (xTable_s16 x4_6 st_6) (fun r1 => q_bv (xRun_getMore x1_6 x5_6 r1 st_6) (fun sr2 => xSetter_giveValue_6 N x1_6 x3_6 n_6 (x4_6 + 2) (x5_6 + 1) sr2))))
def xSetter_giveValue (N : Nat) (x1 x2 x3 : Int32) (st : QSt) : Option QSt :=
  xSetter_giveValue_6 N x1 x3 N x2 0 st
set_option maxHeartbeats 4000000 in
set_option maxRecDepth 100000 in
theorem c_xSetter_giveValue (l : Launch) (G : XG) {N : Nat} {x1 x2 x3 : Int32} {st : QSt} {so : QSt} (hf : xSetter_giveValue N x1 x2 x3 st = some so) : q_Mv l y_Setter_giveValue b_Setter_giveValue 6 ({ frames := 2, cells := 0, slots := 0, locals := 42 } : Room) G.1 (xT G) (wX G) [.ref (G.2.2 29), .int x1, .int x2, .int x3] st so := by
  refine q_Mv_of (by decide) (Nat.le_of_ble_eq_true rfl) (wX_fst G) ?_
  intro p e s m args below meth c A ls hC hr hlk hT hD hA hP hS hl
  have hx := hC.1.1
  have hb := hC.1.2.1
  have hown := hC.1.2.2.2.1
  have hts := hC.1.2.2.2.2
  have hl : lv_has ls 6 [(0, .ref (G.2.2 29)), (1, .int x1), (2, .int x2), (3, .int x3)] := hl
  have L_6 : ∀ (x1_6 x3_6 : Int32) (n_6 : Nat) (x4_6 x5_6 : Int32) (st_6 : QSt) (H : Heap) (locs : List Loc) (ls : Array Slot), xSetter_giveValue_6 N x1_6 x3_6 n_6 x4_6 x5_6 st_6 = some so → va_P G.1 vwCl (wX G st_6) H → va_S A s.heap H locs → lv_has ls 6 [(0, .ref (G.2.2 29)), (1, .int x1_6), (3, .int x3_6), (4, .int x4_6), (5, .int x5_6)] → W p l e ({ frames := 2, cells := 0, slots := 0, locals := 42 } : Room) s m args below meth c H locs 0 0 (q_Zv below args s G.1 (wX G) so A) (F0 m 6 ls []) := by
    intro x1_6 x3_6 n_6
    induction n_6 with
    | zero => intro _ _ _ _ _ _ hf; exact absurd hf (by simp [xSetter_giveValue_6])
    | succ n_6 ih_6 =>
      intro x4_6 x5_6 st_6 H locs ls hf hP hS hl
      rw [xSetter_giveValue_6] at hf
      refine lv_iload hx hb d_Setter_giveValue_6 (lv_at hl 4 rfl) ?_
      refine lv_iconst (v := 4) hx hb d_Setter_giveValue_8 (by decide) ?_
      refine lv_icmp_ge (tgt := 49) hx hb d_Setter_giveValue_9 (by decide) (fun c1 => ?_) (fun c1 => ?_)
      · rw [if_pos c1] at hf
        exact q_vret hC hr hlk hf hP hS d_Setter_giveValue_49
      rw [if_neg c1] at hf
      refine lv_iload_n hx hb d_Setter_giveValue_12 rfl (lv_at hl 2 rfl) ?_
      refine lv_iload hx hb d_Setter_giveValue_13 (lv_at hl 4 rfl) ?_
      refine lv_ishr hx hb d_Setter_giveValue_15 ?_
      refine lv_iconst (v := 1) hx hb d_Setter_giveValue_16 (by decide) ?_
      refine lv_iand hx hb d_Setter_giveValue_17 ?_
      refine lv_if_eq (tgt := 43) hx hb d_Setter_giveValue_18 (by decide) (fun c1 => ?_) (fun c1 => ?_)
      · rw [if_pos c1] at hf
        refine lv_iinc (v := x5_6 + 1) (lv' := [(5, .int (x5_6 + 1)), (0, .ref (G.2.2 29)), (1, .int x1_6), (3, .int x3_6), (4, .int x4_6)]) hx hb d_Setter_giveValue_43 hl (k := 4) rfl rfl (by decide) rfl (fun ls hl => ?_)
        refine lv_goto (tgt := 6) hx hb d_Setter_giveValue_46 (by decide) ?_
        exact ih_6 _ _ _ _ _ _ hf hP hS (lv_sub hl [1, 2, 3, 4, 0] rfl)
      rw [if_neg c1] at hf
      refine lv_aload_n hx hb d_Setter_giveValue_21 rfl (lv_at hl 0 rfl) ?_
      refine xg_29_run hC hP wq_83 d_Setter_giveValue_22 ?_
      refine lv_iload_n hx hb d_Setter_giveValue_25 rfl (lv_at hl 1 rfl) ?_
      refine lv_iload hx hb d_Setter_giveValue_26 (lv_at hl 4 rfl) ?_
      refine lv_aload_n hx hb d_Setter_giveValue_28 rfl (lv_at hl 0 rfl) ?_
      refine xg_29_font hC hP wq_96 d_Setter_giveValue_29 ?_
      refine lv_iload hx hb d_Setter_giveValue_32 (lv_at hl 3 rfl) ?_
      obtain ⟨r1, h_r1, hf⟩ := q_bn_some hf
      refine q_callVp (As := [.int x4_6]) (rest := [.int x5_6, .int x1_6, .ref (G.2.2 20)]) (q0 := 3) hC (c_xTable_s16 l G h_r1) cal_Table_s16 wq_103 ⟨rfl, rfl, Nat.le_of_ble_eq_true rfl, Nat.le_of_ble_eq_true rfl⟩ rfl rfl hP hT hS rfl hl.1 rfl (Nat.le_of_ble_eq_true rfl) d_Setter_giveValue_34 (fun H locs hP hS => ?_)
      obtain ⟨sr2, h_r2, hf⟩ := q_bv_some hf
      refine q_callVv (As := [.int x1_6, .int x5_6, .int r1]) (rest := []) (q0 := 20) hC (c_xRun_getMore l G h_r2) cal_Run_getMore wq_108 ⟨rfl, rfl, Nat.le_of_ble_eq_true rfl, Nat.le_of_ble_eq_true rfl⟩ rfl rfl hP hD hA hS rfl hl.1 rfl (Nat.le_of_ble_eq_true rfl) d_Setter_giveValue_37 (fun H locs hP hS => ?_)
      refine lv_iinc (v := x4_6 + 2) (lv' := [(4, .int (x4_6 + 2)), (0, .ref (G.2.2 29)), (1, .int x1_6), (3, .int x3_6), (5, .int x5_6)]) hx hb d_Setter_giveValue_40 hl (k := 3) rfl rfl (by decide) rfl (fun ls hl => ?_)
      refine lv_iinc (v := x5_6 + 1) (lv' := [(5, .int (x5_6 + 1)), (4, .int (x4_6 + 2)), (0, .ref (G.2.2 29)), (1, .int x1_6), (3, .int x3_6)]) hx hb d_Setter_giveValue_43 hl (k := 4) rfl rfl (by decide) rfl (fun ls hl => ?_)
      refine lv_goto (tgt := 6) hx hb d_Setter_giveValue_46 (by decide) ?_
      exact ih_6 _ _ _ _ _ _ hf hP hS (lv_sub hl [2, 3, 4, 1, 0] rfl)
  unfold xSetter_giveValue at hf
  refine lv_iload_n hx hb d_Setter_giveValue_0 rfl (lv_at hl 2 rfl) ?_
  refine lv_istore (lv' := [(4, .int x2), (0, .ref (G.2.2 29)), (1, .int x1), (2, .int x2), (3, .int x3)]) hx hb d_Setter_giveValue_1 hl (by decide) rfl (fun ls hl => ?_)
  refine lv_iconst (v := 0) hx hb d_Setter_giveValue_3 (by decide) ?_
  refine lv_istore (lv' := [(5, .int 0), (4, .int x2), (0, .ref (G.2.2 29)), (1, .int x1), (2, .int x2), (3, .int x3)]) hx hb d_Setter_giveValue_4 hl (by decide) rfl (fun ls hl => ?_)
  exact L_6 _ _ _ _ _ _ _ _ _ hf hP hS (lv_sub hl [2, 3, 5, 1, 0] rfl)
def xSetter_valuesInRow (N : Nat) (x1 x2 x3 : Int32) (st : QSt) : Option Int32 :=
  q_lt (2 + x2) (fun x4_1001 => q_grd (q_vpb x3 800) (q_lt (st.2 8 x3.toNatClampNeg) (fun v2 => q_bn (xTable_u16_3 x1 st) (fun r3 => q_bn (xGlyphSets_lastUpTo N (x1 + 2) r3 x4_1001 v2 st) (fun r4 => q_lt ((x1 + 2) + (x4_1001 * r4)) (fun x7_1005 => if r4 = (-1) then (some (-1)) else (q_bn (xTable_u16_3 x7_1005 st) (fun r6 => if r6 = v2 then (some (x7_1005 + 2)) else (some (-1))))))))))
set_option maxHeartbeats 4000000 in
set_option maxRecDepth 100000 in
theorem c_xSetter_valuesInRow (l : Launch) (G : XG) {N : Nat} {x1 x2 x3 : Int32} {st : QSt} {ro : Int32} (hf : xSetter_valuesInRow N x1 x2 x3 st = some ro) : q_Mp l y_Setter_valuesInRow b_Setter_valuesInRow 8 .int ({ frames := 2, cells := 0, slots := 0, locals := 48 } : Room) G.1 (xT G) (wX G) [.ref (G.2.2 29), .int x1, .int x2, .int x3] st ro := by
  refine q_Mp_of (by decide) (Nat.le_of_ble_eq_true rfl) (wX_fst G) ?_
  intro p e s m args below meth c ls hC hr hlk hT hP hS hl
  have hx := hC.1.1
  have hb := hC.1.2.1
  have hown := hC.1.2.2.2.1
  have hts := hC.1.2.2.2.2
  have hl : lv_has ls 8 [(0, .ref (G.2.2 29)), (1, .int x1), (2, .int x2), (3, .int x3)] := hl
  unfold xSetter_valuesInRow at hf
  refine lv_iconst (v := 2) hx hb d_Setter_valuesInRow_0 (by decide) ?_
  refine lv_iload_n hx hb d_Setter_valuesInRow_1 rfl (lv_at hl 2 rfl) ?_
  refine lv_iadd hx hb d_Setter_valuesInRow_2 ?_
  obtain ⟨x4_1001, e_x4_1001, hf⟩ := q_lt_some hf
  refine q_topi e_x4_1001 ?_
  refine lv_istore (lv' := [(4, .int x4_1001), (0, .ref (G.2.2 29)), (1, .int x1), (2, .int x2), (3, .int x3)]) hx hb d_Setter_valuesInRow_3 hl (by decide) rfl (fun ls hl => ?_)
  refine lv_aload_n hx hb d_Setter_valuesInRow_5 rfl (lv_at hl 1 rfl) ?_
  refine xg_29_told hC hP wq_85 d_Setter_valuesInRow_6 ?_
  refine xgN_14_glyph hC hP wq_86 d_Setter_valuesInRow_9 ?_
  refine lv_iload_n hx hb d_Setter_valuesInRow_12 rfl (lv_at hl 4 rfl) ?_
  obtain ⟨hi, hf⟩ := q_grd_some hf
  obtain ⟨v2, e_v2, hf⟩ := q_lt_some hf
  refine xl_15 hC hP e_v2 hi d_Setter_valuesInRow_13 ?_
  refine lv_istore (lv' := [(5, .int v2), (4, .int x4_1001), (0, .ref (G.2.2 29)), (1, .int x1), (2, .int x2), (3, .int x3)]) hx hb d_Setter_valuesInRow_14 hl (by decide) rfl (fun ls hl => ?_)
  refine lv_aload_n hx hb d_Setter_valuesInRow_16 rfl (lv_at hl 2 rfl) ?_
  refine xg_29_font hC hP wq_96 d_Setter_valuesInRow_17 ?_
  refine lv_iload_n hx hb d_Setter_valuesInRow_20 rfl (lv_at hl 3 rfl) ?_
  refine lv_iconst (v := 2) hx hb d_Setter_valuesInRow_21 (by decide) ?_
  refine lv_iadd hx hb d_Setter_valuesInRow_22 ?_
  refine lv_aload_n hx hb d_Setter_valuesInRow_23 rfl (lv_at hl 2 rfl) ?_
  refine xg_29_font hC hP wq_96 d_Setter_valuesInRow_24 ?_
  refine lv_iload_n hx hb d_Setter_valuesInRow_27 rfl (lv_at hl 3 rfl) ?_
  obtain ⟨r3, h_r3, hf⟩ := q_bn_some hf
  refine q_callVp (As := [.int x1]) (rest := [.int (x1 + 2), .ref (G.2.2 3)]) (q0 := 3) hC (c_xTable_u16_3 l G h_r3) cal_Table_u16 wq_97 ⟨rfl, rfl, Nat.le_of_ble_eq_true rfl, Nat.le_of_ble_eq_true rfl⟩ rfl rfl hP hT hS rfl hl.1 rfl (Nat.le_of_ble_eq_true rfl) d_Setter_valuesInRow_28 (fun H locs hP hS => ?_)
  refine lv_iload hx hb d_Setter_valuesInRow_31 (lv_at hl 1 rfl) ?_
  refine lv_iload hx hb d_Setter_valuesInRow_33 (lv_at hl 0 rfl) ?_
  obtain ⟨r4, h_r4, hf⟩ := q_bn_some hf
  refine q_callSp (As := [.ref (G.2.2 3), .int (x1 + 2), .int r3, .int x4_1001, .int v2]) (rest := []) hC (c_xGlyphSets_lastUpTo l G h_r4) cal_GlyphSets_lastUpTo wq_109 ⟨rfl, rfl, Nat.le_of_ble_eq_true rfl, Nat.le_of_ble_eq_true rfl⟩ hP hT hS rfl hl.1 rfl (Nat.le_of_ble_eq_true rfl) d_Setter_valuesInRow_35 (fun H locs hP hS => ?_)
  refine lv_istore (lv' := [(6, .int r4), (5, .int v2), (4, .int x4_1001), (0, .ref (G.2.2 29)), (1, .int x1), (2, .int x2), (3, .int x3)]) hx hb d_Setter_valuesInRow_38 hl (by decide) rfl (fun ls hl => ?_)
  refine lv_iload_n hx hb d_Setter_valuesInRow_40 rfl (lv_at hl 4 rfl) ?_
  refine lv_iconst (v := 2) hx hb d_Setter_valuesInRow_41 (by decide) ?_
  refine lv_iadd hx hb d_Setter_valuesInRow_42 ?_
  refine lv_iload hx hb d_Setter_valuesInRow_43 (lv_at hl 2 rfl) ?_
  refine lv_iload hx hb d_Setter_valuesInRow_45 (lv_at hl 0 rfl) ?_
  refine lv_imul hx hb d_Setter_valuesInRow_47 ?_
  refine lv_iadd hx hb d_Setter_valuesInRow_48 ?_
  obtain ⟨x7_1005, e_x7_1005, hf⟩ := q_lt_some hf
  refine q_topi e_x7_1005 ?_
  refine lv_istore (lv' := [(7, .int x7_1005), (6, .int r4), (5, .int v2), (4, .int x4_1001), (0, .ref (G.2.2 29)), (1, .int x1), (2, .int x2), (3, .int x3)]) hx hb d_Setter_valuesInRow_49 hl (by decide) rfl (fun ls hl => ?_)
  refine lv_iload hx hb d_Setter_valuesInRow_51 (lv_at hl 1 rfl) ?_
  refine lv_iconst (v := (-1)) hx hb d_Setter_valuesInRow_53 (by decide) ?_
  refine lv_icmp_eq (tgt := 78) hx hb d_Setter_valuesInRow_54 (by decide) (fun c1 => ?_) (fun c1 => ?_)
  · rw [if_pos c1] at hf
    refine lv_iconst (v := (-1)) hx hb d_Setter_valuesInRow_78 (by decide) ?_
    exact q_iretP hC hr hlk hf (by first | rfl | decide) hS d_Setter_valuesInRow_79
  rw [if_neg c1] at hf
  refine lv_aload_n hx hb d_Setter_valuesInRow_57 rfl (lv_at hl 4 rfl) ?_
  refine xg_29_font hC hP wq_96 d_Setter_valuesInRow_58 ?_
  refine lv_iload hx hb d_Setter_valuesInRow_61 (lv_at hl 0 rfl) ?_
  obtain ⟨r6, h_r6, hf⟩ := q_bn_some hf
  refine q_callVp (As := [.int x7_1005]) (rest := []) (q0 := 3) hC (c_xTable_u16_3 l G h_r6) cal_Table_u16 wq_97 ⟨rfl, rfl, Nat.le_of_ble_eq_true rfl, Nat.le_of_ble_eq_true rfl⟩ rfl rfl hP hT hS rfl hl.1 rfl (Nat.le_of_ble_eq_true rfl) d_Setter_valuesInRow_63 (fun H locs hP hS => ?_)
  refine lv_iload hx hb d_Setter_valuesInRow_66 (lv_at hl 2 rfl) ?_
  refine lv_icmp_ne (tgt := 78) hx hb d_Setter_valuesInRow_68 (by decide) (fun c1 => ?_) (fun c1 => ?_)
  · rw [if_neg c1] at hf
    refine lv_iconst (v := (-1)) hx hb d_Setter_valuesInRow_78 (by decide) ?_
    exact q_iretP hC hr hlk hf (by first | rfl | decide) hS d_Setter_valuesInRow_79
  rw [if_pos c1] at hf
  refine lv_iload hx hb d_Setter_valuesInRow_71 (lv_at hl 0 rfl) ?_
  refine lv_iconst (v := 2) hx hb d_Setter_valuesInRow_73 (by decide) ?_
  refine lv_iadd hx hb d_Setter_valuesInRow_74 ?_
  refine lv_goto (tgt := 79) hx hb d_Setter_valuesInRow_75 (by decide) ?_
  exact q_iretP hC hr hlk hf (by first | rfl | decide) hS d_Setter_valuesInRow_79
def xSetter_takePair_119 (N : Nat) (x2_119 x4_119 x5_119 x6_119 : Int32) (w0_119 : Int32) (st_119 : QSt) : Option (Int32 × QSt) :=
  if w0_119 = (-1) then (some ((-1), st_119)) else (q_bv (xSetter_giveValue N x2_119 w0_119 x5_119 st_119) (fun sr10 => q_bn (xGlyphPositions_sizeOfValue x5_119) (fun r11 => q_bv (xSetter_giveValue N x4_119 (w0_119 + r11) x6_119 sr10) (fun sr12 => if x6_119 = 0 then (some (x2_119 + 1, sr12)) else (some (x4_119 + 1, sr12))))))
def xSetter_takePair (N : Nat) (x1 x2 : Int32) (st : QSt) : Option (Int32 × QSt) :=
  q_bn (xSetter_indexAt N (x1 + 2) x1 x2 st) (fun r1 => q_grd (q_vpb x2 800) (q_lt (st.2 25 x2.toNatClampNeg) (fun v2 => if r1 = (-1) then (some ((-1), st)) else (if v2 = (-1) then (some ((-1), st)) else (q_bn (xTable_u16_3 (x1 + 4) st) (fun r3 => q_bn (xTable_u16_3 (x1 + 6) st) (fun r4 => q_bn (xGlyphPositions_sizeOfValue r3) (fun r5 => q_bn (xGlyphPositions_sizeOfValue r4) (fun r6 => q_lt (r5 + r6) (fun x7_1007 => q_bn (xTable_u16_3 x1 st) (fun r8 => if r8 = 1 then (q_bn (xTable_u16_3 ((x1 + 10) + (2 * r1)) st) (fun r13 => q_bn (xSetter_valuesInRow N (x1 + r13) x7_1007 v2 st) (fun r14 => xSetter_takePair_119 N x2 v2 r3 r4 r14 st))) else (q_bn (xSetter_valuesByClasses N x1 x7_1007 x2 v2 st) (fun r9 => xSetter_takePair_119 N x2 v2 r3 r4 r9 st)))))))))))))
set_option maxHeartbeats 4000000 in
set_option maxRecDepth 100000 in
theorem c_xSetter_takePair (l : Launch) (G : XG) {N : Nat} {x1 x2 : Int32} {st : QSt} {ro : Int32} {so : QSt} (hf : xSetter_takePair N x1 x2 st = some (ro, so)) : q_Mi l y_Setter_takePair b_Setter_takePair 9 .int ({ frames := 4, cells := 0, slots := 0, locals := 100 } : Room) G.1 (xT G) (wX G) [.ref (G.2.2 29), .int x1, .int x2] st ro so := by
  refine q_Mi_of (by decide) (Nat.le_of_ble_eq_true rfl) (wX_fst G) ?_
  intro p e s m args below meth c A ls hC hr hlk hT hD hA hP hS hl
  have hx := hC.1.1
  have hb := hC.1.2.1
  have hown := hC.1.2.2.2.1
  have hts := hC.1.2.2.2.2
  have hl : lv_has ls 9 [(0, .ref (G.2.2 29)), (1, .int x1), (2, .int x2)] := hl
  have J_119 : ∀ (x2_119 x4_119 x5_119 x6_119 w0_119 : Int32) (st_119 : QSt) (H : Heap) (locs : List Loc) (ls : Array Slot), xSetter_takePair_119 N x2_119 x4_119 x5_119 x6_119 w0_119 st_119 = some (ro, so) → va_P G.1 vwCl (wX G st_119) H → va_S A s.heap H locs → lv_has ls 9 [(0, .ref (G.2.2 29)), (2, .int x2_119), (4, .int x4_119), (5, .int x5_119), (6, .int x6_119)] → W p l e ({ frames := 4, cells := 0, slots := 0, locals := 100 } : Room) s m args below meth c H locs 0 0 (q_Zi below args s G.1 (wX G) ro so A) (F0 m 119 ls [.int w0_119]) := by
    intro x2_119 x4_119 x5_119 x6_119 w0_119 st_119 H locs ls hf hP hS hl
    unfold xSetter_takePair_119 at hf
    refine lv_istore (lv' := [(8, .int w0_119), (0, .ref (G.2.2 29)), (2, .int x2_119), (4, .int x4_119), (5, .int x5_119), (6, .int x6_119)]) hx hb d_Setter_takePair_119 hl (by decide) rfl (fun ls hl => ?_)
    refine lv_iload hx hb d_Setter_takePair_121 (lv_at hl 0 rfl) ?_
    refine lv_iconst (v := (-1)) hx hb d_Setter_takePair_123 (by decide) ?_
    refine lv_icmp_ne (tgt := 129) hx hb d_Setter_takePair_124 (by decide) (fun c1 => ?_) (fun c1 => ?_)
    rotate_left
    · rw [if_pos c1] at hf
      refine lv_iconst (v := (-1)) hx hb d_Setter_takePair_127 (by decide) ?_
      exact q_iret hC hr hlk hf (by first | rfl | decide) hP hS d_Setter_takePair_128
    rw [if_neg c1] at hf
    refine lv_aload_n hx hb d_Setter_takePair_129 rfl (lv_at hl 1 rfl) ?_
    refine lv_iload_n hx hb d_Setter_takePair_130 rfl (lv_at hl 2 rfl) ?_
    refine lv_iload hx hb d_Setter_takePair_131 (lv_at hl 0 rfl) ?_
    refine lv_iload hx hb d_Setter_takePair_133 (lv_at hl 4 rfl) ?_
    obtain ⟨sr10, h_r10, hf⟩ := q_bv_some hf
    refine q_callVv (As := [.int x2_119, .int w0_119, .int x5_119]) (rest := []) (q0 := 29) hC (c_xSetter_giveValue l G h_r10) cal_Setter_giveValue wq_110 ⟨rfl, rfl, Nat.le_of_ble_eq_true rfl, Nat.le_of_ble_eq_true rfl⟩ rfl rfl hP hD hA hS rfl hl.1 rfl (Nat.le_of_ble_eq_true rfl) d_Setter_takePair_135 (fun H locs hP hS => ?_)
    refine lv_aload_n hx hb d_Setter_takePair_138 rfl (lv_at hl 1 rfl) ?_
    refine lv_iload hx hb d_Setter_takePair_139 (lv_at hl 3 rfl) ?_
    refine lv_iload hx hb d_Setter_takePair_141 (lv_at hl 0 rfl) ?_
    refine lv_iload hx hb d_Setter_takePair_143 (lv_at hl 4 rfl) ?_
    obtain ⟨r11, h_r11, hf⟩ := q_bn_some hf
    refine q_callSNp (As := [.int x5_119]) (rest := [.int w0_119, .int x4_119, .ref (G.2.2 29)]) hC (c_xGlyphPositions_sizeOfValue l G h_r11) cal_GP_sizeOfValue wq_111 ⟨rfl, rfl, Nat.le_of_ble_eq_true rfl, Nat.le_of_ble_eq_true rfl⟩ hP hT hS rfl hl.1 rfl (Nat.le_of_ble_eq_true rfl) d_Setter_takePair_145 (fun H locs hP hS => ?_)
    refine lv_iadd hx hb d_Setter_takePair_148 ?_
    refine lv_iload hx hb d_Setter_takePair_149 (lv_at hl 5 rfl) ?_
    obtain ⟨sr12, h_r12, hf⟩ := q_bv_some hf
    refine q_callVv (As := [.int x4_119, .int (w0_119 + r11), .int x6_119]) (rest := []) (q0 := 29) hC (c_xSetter_giveValue l G h_r12) cal_Setter_giveValue wq_110 ⟨rfl, rfl, Nat.le_of_ble_eq_true rfl, Nat.le_of_ble_eq_true rfl⟩ rfl rfl hP hD hA hS rfl hl.1 rfl (Nat.le_of_ble_eq_true rfl) d_Setter_takePair_151 (fun H locs hP hS => ?_)
    refine lv_iload hx hb d_Setter_takePair_154 (lv_at hl 5 rfl) ?_
    refine lv_if_ne (tgt := 165) hx hb d_Setter_takePair_156 (by decide) (fun c1 => ?_) (fun c1 => ?_)
    · rw [if_neg c1] at hf
      refine lv_iload hx hb d_Setter_takePair_165 (lv_at hl 3 rfl) ?_
      refine lv_iconst (v := 1) hx hb d_Setter_takePair_167 (by decide) ?_
      refine lv_iadd hx hb d_Setter_takePair_168 ?_
      exact q_iret hC hr hlk hf (by first | rfl | decide) hP hS d_Setter_takePair_169
    rw [if_pos c1] at hf
    refine lv_iload_n hx hb d_Setter_takePair_159 rfl (lv_at hl 2 rfl) ?_
    refine lv_iconst (v := 1) hx hb d_Setter_takePair_160 (by decide) ?_
    refine lv_iadd hx hb d_Setter_takePair_161 ?_
    refine lv_goto (tgt := 169) hx hb d_Setter_takePair_162 (by decide) ?_
    exact q_iret hC hr hlk hf (by first | rfl | decide) hP hS d_Setter_takePair_169
  unfold xSetter_takePair at hf
  refine lv_aload_n hx hb d_Setter_takePair_0 rfl (lv_at hl 0 rfl) ?_
  refine lv_iload_n hx hb d_Setter_takePair_1 rfl (lv_at hl 1 rfl) ?_
  refine lv_iconst (v := 2) hx hb d_Setter_takePair_2 (by decide) ?_
  refine lv_iadd hx hb d_Setter_takePair_3 ?_
  refine lv_iload_n hx hb d_Setter_takePair_4 rfl (lv_at hl 1 rfl) ?_
  refine lv_iload_n hx hb d_Setter_takePair_5 rfl (lv_at hl 2 rfl) ?_
  obtain ⟨r1, h_r1, hf⟩ := q_bn_some hf
  refine q_callVp (As := [.int (x1 + 2), .int x1, .int x2]) (rest := []) (q0 := 29) hC (c_xSetter_indexAt l G h_r1) cal_Setter_indexAt wq_100 ⟨rfl, rfl, Nat.le_of_ble_eq_true rfl, Nat.le_of_ble_eq_true rfl⟩ rfl rfl hP hT hS rfl hl.1 rfl (Nat.le_of_ble_eq_true rfl) d_Setter_takePair_6 (fun H locs hP hS => ?_)
  refine lv_istore_n (lv' := [(3, .int r1), (0, .ref (G.2.2 29)), (1, .int x1), (2, .int x2)]) hx hb d_Setter_takePair_9 rfl hl (by decide) rfl (fun ls hl => ?_)
  refine lv_aload_n hx hb d_Setter_takePair_10 rfl (lv_at hl 1 rfl) ?_
  refine xg_29_next hC hP wq_90 d_Setter_takePair_11 ?_
  refine lv_iload_n hx hb d_Setter_takePair_14 rfl (lv_at hl 3 rfl) ?_
  obtain ⟨hi, hf⟩ := q_grd_some hf
  obtain ⟨v2, e_v2, hf⟩ := q_lt_some hf
  refine xl_35 hC hP e_v2 hi d_Setter_takePair_15 ?_
  refine lv_istore (lv' := [(4, .int v2), (3, .int r1), (0, .ref (G.2.2 29)), (1, .int x1), (2, .int x2)]) hx hb d_Setter_takePair_16 hl (by decide) rfl (fun ls hl => ?_)
  refine lv_iload_n hx hb d_Setter_takePair_18 rfl (lv_at hl 1 rfl) ?_
  refine lv_iconst (v := (-1)) hx hb d_Setter_takePair_19 (by decide) ?_
  refine lv_icmp_eq (tgt := 29) hx hb d_Setter_takePair_20 (by decide) (fun c1 => ?_) (fun c1 => ?_)
  · rw [if_pos c1] at hf
    refine lv_iconst (v := (-1)) hx hb d_Setter_takePair_29 (by decide) ?_
    exact q_iret hC hr hlk hf (by first | rfl | decide) hP hS d_Setter_takePair_30
  rw [if_neg c1] at hf
  refine lv_iload hx hb d_Setter_takePair_23 (lv_at hl 0 rfl) ?_
  refine lv_iconst (v := (-1)) hx hb d_Setter_takePair_25 (by decide) ?_
  refine lv_icmp_ne (tgt := 31) hx hb d_Setter_takePair_26 (by decide) (fun c1 => ?_) (fun c1 => ?_)
  rotate_left
  · rw [if_pos c1] at hf
    refine lv_iconst (v := (-1)) hx hb d_Setter_takePair_29 (by decide) ?_
    exact q_iret hC hr hlk hf (by first | rfl | decide) hP hS d_Setter_takePair_30
  rw [if_neg c1] at hf
  refine lv_aload_n hx hb d_Setter_takePair_31 rfl (lv_at hl 2 rfl) ?_
  refine xg_29_font hC hP wq_96 d_Setter_takePair_32 ?_
  refine lv_iload_n hx hb d_Setter_takePair_35 rfl (lv_at hl 3 rfl) ?_
  refine lv_iconst (v := 4) hx hb d_Setter_takePair_36 (by decide) ?_
  refine lv_iadd hx hb d_Setter_takePair_37 ?_
  obtain ⟨r3, h_r3, hf⟩ := q_bn_some hf
  refine q_callVp (As := [.int (x1 + 4)]) (rest := []) (q0 := 3) hC (c_xTable_u16_3 l G h_r3) cal_Table_u16 wq_97 ⟨rfl, rfl, Nat.le_of_ble_eq_true rfl, Nat.le_of_ble_eq_true rfl⟩ rfl rfl hP hT hS rfl hl.1 rfl (Nat.le_of_ble_eq_true rfl) d_Setter_takePair_38 (fun H locs hP hS => ?_)
  refine lv_istore (lv' := [(5, .int r3), (4, .int v2), (3, .int r1), (0, .ref (G.2.2 29)), (1, .int x1), (2, .int x2)]) hx hb d_Setter_takePair_41 hl (by decide) rfl (fun ls hl => ?_)
  refine lv_aload_n hx hb d_Setter_takePair_43 rfl (lv_at hl 3 rfl) ?_
  refine xg_29_font hC hP wq_96 d_Setter_takePair_44 ?_
  refine lv_iload_n hx hb d_Setter_takePair_47 rfl (lv_at hl 4 rfl) ?_
  refine lv_bipush (v := 6) hx hb d_Setter_takePair_48 (by decide) ?_
  refine lv_iadd hx hb d_Setter_takePair_50 ?_
  obtain ⟨r4, h_r4, hf⟩ := q_bn_some hf
  refine q_callVp (As := [.int (x1 + 6)]) (rest := []) (q0 := 3) hC (c_xTable_u16_3 l G h_r4) cal_Table_u16 wq_97 ⟨rfl, rfl, Nat.le_of_ble_eq_true rfl, Nat.le_of_ble_eq_true rfl⟩ rfl rfl hP hT hS rfl hl.1 rfl (Nat.le_of_ble_eq_true rfl) d_Setter_takePair_51 (fun H locs hP hS => ?_)
  refine lv_istore (lv' := [(6, .int r4), (5, .int r3), (4, .int v2), (3, .int r1), (0, .ref (G.2.2 29)), (1, .int x1), (2, .int x2)]) hx hb d_Setter_takePair_54 hl (by decide) rfl (fun ls hl => ?_)
  refine lv_iload hx hb d_Setter_takePair_56 (lv_at hl 1 rfl) ?_
  obtain ⟨r5, h_r5, hf⟩ := q_bn_some hf
  refine q_callSNp (As := [.int r3]) (rest := []) hC (c_xGlyphPositions_sizeOfValue l G h_r5) cal_GP_sizeOfValue wq_111 ⟨rfl, rfl, Nat.le_of_ble_eq_true rfl, Nat.le_of_ble_eq_true rfl⟩ hP hT hS rfl hl.1 rfl (Nat.le_of_ble_eq_true rfl) d_Setter_takePair_58 (fun H locs hP hS => ?_)
  refine lv_iload hx hb d_Setter_takePair_61 (lv_at hl 0 rfl) ?_
  obtain ⟨r6, h_r6, hf⟩ := q_bn_some hf
  refine q_callSNp (As := [.int r4]) (rest := [.int r5]) hC (c_xGlyphPositions_sizeOfValue l G h_r6) cal_GP_sizeOfValue wq_111 ⟨rfl, rfl, Nat.le_of_ble_eq_true rfl, Nat.le_of_ble_eq_true rfl⟩ hP hT hS rfl hl.1 rfl (Nat.le_of_ble_eq_true rfl) d_Setter_takePair_63 (fun H locs hP hS => ?_)
  refine lv_iadd hx hb d_Setter_takePair_66 ?_
  obtain ⟨x7_1007, e_x7_1007, hf⟩ := q_lt_some hf
  refine q_topi e_x7_1007 ?_
  refine lv_istore (lv' := [(7, .int x7_1007), (6, .int r4), (5, .int r3), (4, .int v2), (3, .int r1), (0, .ref (G.2.2 29)), (1, .int x1), (2, .int x2)]) hx hb d_Setter_takePair_67 hl (by decide) rfl (fun ls hl => ?_)
  refine lv_aload_n hx hb d_Setter_takePair_69 rfl (lv_at hl 5 rfl) ?_
  refine xg_29_font hC hP wq_96 d_Setter_takePair_70 ?_
  refine lv_iload_n hx hb d_Setter_takePair_73 rfl (lv_at hl 6 rfl) ?_
  obtain ⟨r8, h_r8, hf⟩ := q_bn_some hf
  refine q_callVp (As := [.int x1]) (rest := []) (q0 := 3) hC (c_xTable_u16_3 l G h_r8) cal_Table_u16 wq_97 ⟨rfl, rfl, Nat.le_of_ble_eq_true rfl, Nat.le_of_ble_eq_true rfl⟩ rfl rfl hP hT hS rfl hl.1 rfl (Nat.le_of_ble_eq_true rfl) d_Setter_takePair_74 (fun H locs hP hS => ?_)
  refine lv_iconst (v := 1) hx hb d_Setter_takePair_77 (by decide) ?_
  refine lv_icmp_ne (tgt := 109) hx hb d_Setter_takePair_78 (by decide) (fun c1 => ?_) (fun c1 => ?_)
  · rw [if_neg c1] at hf
    refine lv_aload_n hx hb d_Setter_takePair_109 rfl (lv_at hl 5 rfl) ?_
    refine lv_iload_n hx hb d_Setter_takePair_110 rfl (lv_at hl 6 rfl) ?_
    refine lv_iload hx hb d_Setter_takePair_111 (lv_at hl 0 rfl) ?_
    refine lv_iload_n hx hb d_Setter_takePair_113 rfl (lv_at hl 7 rfl) ?_
    refine lv_iload hx hb d_Setter_takePair_114 (lv_at hl 3 rfl) ?_
    obtain ⟨r9, h_r9, hf⟩ := q_bn_some hf
    refine q_callVp (As := [.int x1, .int x7_1007, .int x2, .int v2]) (rest := []) (q0 := 29) hC (c_xSetter_valuesByClasses l G h_r9) cal_Setter_valuesByClasses wq_112 ⟨rfl, rfl, Nat.le_of_ble_eq_true rfl, Nat.le_of_ble_eq_true rfl⟩ rfl rfl hP hT hS rfl hl.1 rfl (Nat.le_of_ble_eq_true rfl) d_Setter_takePair_116 (fun H locs hP hS => ?_)
    exact J_119 _ _ _ _ _ _ _ _ _ hf hP hS (lv_sub hl [5, 7, 3, 2, 1] rfl)
  rw [if_pos c1] at hf
  refine lv_aload_n hx hb d_Setter_takePair_81 rfl (lv_at hl 5 rfl) ?_
  refine lv_iload_n hx hb d_Setter_takePair_82 rfl (lv_at hl 6 rfl) ?_
  refine lv_aload_n hx hb d_Setter_takePair_83 rfl (lv_at hl 5 rfl) ?_
  refine xg_29_font hC hP wq_96 d_Setter_takePair_84 ?_
  refine lv_iload_n hx hb d_Setter_takePair_87 rfl (lv_at hl 6 rfl) ?_
  refine lv_bipush (v := 10) hx hb d_Setter_takePair_88 (by decide) ?_
  refine lv_iadd hx hb d_Setter_takePair_90 ?_
  refine lv_iconst (v := 2) hx hb d_Setter_takePair_91 (by decide) ?_
  refine lv_iload_n hx hb d_Setter_takePair_92 rfl (lv_at hl 4 rfl) ?_
  refine lv_imul hx hb d_Setter_takePair_93 ?_
  refine lv_iadd hx hb d_Setter_takePair_94 ?_
  obtain ⟨r13, h_r13, hf⟩ := q_bn_some hf
  refine q_callVp (As := [.int ((x1 + 10) + (2 * r1))]) (rest := [.int x1, .ref (G.2.2 29)]) (q0 := 3) hC (c_xTable_u16_3 l G h_r13) cal_Table_u16 wq_97 ⟨rfl, rfl, Nat.le_of_ble_eq_true rfl, Nat.le_of_ble_eq_true rfl⟩ rfl rfl hP hT hS rfl hl.1 rfl (Nat.le_of_ble_eq_true rfl) d_Setter_takePair_95 (fun H locs hP hS => ?_)
  refine lv_iadd hx hb d_Setter_takePair_98 ?_
  refine lv_iload hx hb d_Setter_takePair_99 (lv_at hl 0 rfl) ?_
  refine lv_iload hx hb d_Setter_takePair_101 (lv_at hl 3 rfl) ?_
  obtain ⟨r14, h_r14, hf⟩ := q_bn_some hf
  refine q_callVp (As := [.int (x1 + r13), .int x7_1007, .int v2]) (rest := []) (q0 := 29) hC (c_xSetter_valuesInRow l G h_r14) cal_Setter_valuesInRow wq_113 ⟨rfl, rfl, Nat.le_of_ble_eq_true rfl, Nat.le_of_ble_eq_true rfl⟩ rfl rfl hP hT hS rfl hl.1 rfl (Nat.le_of_ble_eq_true rfl) d_Setter_takePair_103 (fun H locs hP hS => ?_)
  refine lv_goto (tgt := 119) hx hb d_Setter_takePair_106 (by decide) ?_
  exact J_119 _ _ _ _ _ _ _ _ _ hf hP hS (lv_sub hl [5, 7, 3, 2, 1] rfl)
def xSetter_takeSingle_60 (N : Nat) (x2_60 x4_60 : Int32) (w0_60 : Int32) (st_60 : QSt) : Option (Int32 × QSt) :=
  q_bv (xSetter_giveValue N x2_60 w0_60 x4_60 st_60) (fun sr5 => some (1, sr5))
def xSetter_takeSingle (N : Nat) (x1 x2 : Int32) (st : QSt) : Option (Int32 × QSt) :=
  q_bn (xSetter_indexAt N (x1 + 2) x1 x2 st) (fun r1 => if r1 = (-1) then (some (0, st)) else (q_bn (xTable_u16_3 (x1 + 4) st) (fun r2 => q_bn (xTable_u16_3 x1 st) (fun r3 => if r3 = 1 then (xSetter_takeSingle_60 N x2 r2 (x1 + 6) st) else (q_bn (xGlyphPositions_sizeOfValue r2) (fun r4 => xSetter_takeSingle_60 N x2 r2 ((x1 + 8) + (r1 * r4)) st))))))
set_option maxHeartbeats 4000000 in
set_option maxRecDepth 100000 in
theorem c_xSetter_takeSingle (l : Launch) (G : XG) {N : Nat} {x1 x2 : Int32} {st : QSt} {ro : Int32} {so : QSt} (hf : xSetter_takeSingle N x1 x2 st = some (ro, so)) : q_Mi l y_Setter_takeSingle b_Setter_takeSingle 6 .boolean ({ frames := 4, cells := 0, slots := 0, locals := 98 } : Room) G.1 (xT G) (wX G) [.ref (G.2.2 29), .int x1, .int x2] st ro so := by
  refine q_Mi_of (by decide) (Nat.le_of_ble_eq_true rfl) (wX_fst G) ?_
  intro p e s m args below meth c A ls hC hr hlk hT hD hA hP hS hl
  have hx := hC.1.1
  have hb := hC.1.2.1
  have hown := hC.1.2.2.2.1
  have hts := hC.1.2.2.2.2
  have hl : lv_has ls 6 [(0, .ref (G.2.2 29)), (1, .int x1), (2, .int x2)] := hl
  have J_60 : ∀ (x2_60 x4_60 w0_60 : Int32) (st_60 : QSt) (H : Heap) (locs : List Loc) (ls : Array Slot), xSetter_takeSingle_60 N x2_60 x4_60 w0_60 st_60 = some (ro, so) → va_P G.1 vwCl (wX G st_60) H → va_S A s.heap H locs → lv_has ls 6 [(0, .ref (G.2.2 29)), (2, .int x2_60), (4, .int x4_60)] → W p l e ({ frames := 4, cells := 0, slots := 0, locals := 98 } : Room) s m args below meth c H locs 0 0 (q_Zi below args s G.1 (wX G) ro so A) (F0 m 60 ls [.int w0_60]) := by
    intro x2_60 x4_60 w0_60 st_60 H locs ls hf hP hS hl
    unfold xSetter_takeSingle_60 at hf
    refine lv_istore (lv' := [(5, .int w0_60), (0, .ref (G.2.2 29)), (2, .int x2_60), (4, .int x4_60)]) hx hb d_Setter_takeSingle_60 hl (by decide) rfl (fun ls hl => ?_)
    refine lv_aload_n hx hb d_Setter_takeSingle_62 rfl (lv_at hl 1 rfl) ?_
    refine lv_iload_n hx hb d_Setter_takeSingle_63 rfl (lv_at hl 2 rfl) ?_
    refine lv_iload hx hb d_Setter_takeSingle_64 (lv_at hl 0 rfl) ?_
    refine lv_iload hx hb d_Setter_takeSingle_66 (lv_at hl 3 rfl) ?_
    obtain ⟨sr5, h_r5, hf⟩ := q_bv_some hf
    refine q_callVv (As := [.int x2_60, .int w0_60, .int x4_60]) (rest := []) (q0 := 29) hC (c_xSetter_giveValue l G h_r5) cal_Setter_giveValue wq_110 ⟨rfl, rfl, Nat.le_of_ble_eq_true rfl, Nat.le_of_ble_eq_true rfl⟩ rfl rfl hP hD hA hS rfl hl.1 rfl (Nat.le_of_ble_eq_true rfl) d_Setter_takeSingle_68 (fun H locs hP hS => ?_)
    refine lv_iconst (v := 1) hx hb d_Setter_takeSingle_71 (by decide) ?_
    exact q_iret hC hr hlk hf (by first | rfl | decide) hP hS d_Setter_takeSingle_72
  unfold xSetter_takeSingle at hf
  refine lv_aload_n hx hb d_Setter_takeSingle_0 rfl (lv_at hl 0 rfl) ?_
  refine lv_iload_n hx hb d_Setter_takeSingle_1 rfl (lv_at hl 1 rfl) ?_
  refine lv_iconst (v := 2) hx hb d_Setter_takeSingle_2 (by decide) ?_
  refine lv_iadd hx hb d_Setter_takeSingle_3 ?_
  refine lv_iload_n hx hb d_Setter_takeSingle_4 rfl (lv_at hl 1 rfl) ?_
  refine lv_iload_n hx hb d_Setter_takeSingle_5 rfl (lv_at hl 2 rfl) ?_
  obtain ⟨r1, h_r1, hf⟩ := q_bn_some hf
  refine q_callVp (As := [.int (x1 + 2), .int x1, .int x2]) (rest := []) (q0 := 29) hC (c_xSetter_indexAt l G h_r1) cal_Setter_indexAt wq_100 ⟨rfl, rfl, Nat.le_of_ble_eq_true rfl, Nat.le_of_ble_eq_true rfl⟩ rfl rfl hP hT hS rfl hl.1 rfl (Nat.le_of_ble_eq_true rfl) d_Setter_takeSingle_6 (fun H locs hP hS => ?_)
  refine lv_istore_n (lv' := [(3, .int r1), (0, .ref (G.2.2 29)), (1, .int x1), (2, .int x2)]) hx hb d_Setter_takeSingle_9 rfl hl (by decide) rfl (fun ls hl => ?_)
  refine lv_iload_n hx hb d_Setter_takeSingle_10 rfl (lv_at hl 0 rfl) ?_
  refine lv_iconst (v := (-1)) hx hb d_Setter_takeSingle_11 (by decide) ?_
  refine lv_icmp_ne (tgt := 17) hx hb d_Setter_takeSingle_12 (by decide) (fun c1 => ?_) (fun c1 => ?_)
  rotate_left
  · rw [if_pos c1] at hf
    refine lv_iconst (v := 0) hx hb d_Setter_takeSingle_15 (by decide) ?_
    exact q_iret hC hr hlk hf (by first | rfl | decide) hP hS d_Setter_takeSingle_16
  rw [if_neg c1] at hf
  refine lv_aload_n hx hb d_Setter_takeSingle_17 rfl (lv_at hl 1 rfl) ?_
  refine xg_29_font hC hP wq_96 d_Setter_takeSingle_18 ?_
  refine lv_iload_n hx hb d_Setter_takeSingle_21 rfl (lv_at hl 2 rfl) ?_
  refine lv_iconst (v := 4) hx hb d_Setter_takeSingle_22 (by decide) ?_
  refine lv_iadd hx hb d_Setter_takeSingle_23 ?_
  obtain ⟨r2, h_r2, hf⟩ := q_bn_some hf
  refine q_callVp (As := [.int (x1 + 4)]) (rest := []) (q0 := 3) hC (c_xTable_u16_3 l G h_r2) cal_Table_u16 wq_97 ⟨rfl, rfl, Nat.le_of_ble_eq_true rfl, Nat.le_of_ble_eq_true rfl⟩ rfl rfl hP hT hS rfl hl.1 rfl (Nat.le_of_ble_eq_true rfl) d_Setter_takeSingle_24 (fun H locs hP hS => ?_)
  refine lv_istore (lv' := [(4, .int r2), (3, .int r1), (0, .ref (G.2.2 29)), (1, .int x1), (2, .int x2)]) hx hb d_Setter_takeSingle_27 hl (by decide) rfl (fun ls hl => ?_)
  refine lv_aload_n hx hb d_Setter_takeSingle_29 rfl (lv_at hl 2 rfl) ?_
  refine xg_29_font hC hP wq_96 d_Setter_takeSingle_30 ?_
  refine lv_iload_n hx hb d_Setter_takeSingle_33 rfl (lv_at hl 3 rfl) ?_
  obtain ⟨r3, h_r3, hf⟩ := q_bn_some hf
  refine q_callVp (As := [.int x1]) (rest := []) (q0 := 3) hC (c_xTable_u16_3 l G h_r3) cal_Table_u16 wq_97 ⟨rfl, rfl, Nat.le_of_ble_eq_true rfl, Nat.le_of_ble_eq_true rfl⟩ rfl rfl hP hT hS rfl hl.1 rfl (Nat.le_of_ble_eq_true rfl) d_Setter_takeSingle_34 (fun H locs hP hS => ?_)
  refine lv_iconst (v := 1) hx hb d_Setter_takeSingle_37 (by decide) ?_
  refine lv_icmp_ne (tgt := 48) hx hb d_Setter_takeSingle_38 (by decide) (fun c1 => ?_) (fun c1 => ?_)
  rotate_left
  · rw [if_pos c1] at hf
    refine lv_iload_n hx hb d_Setter_takeSingle_41 rfl (lv_at hl 3 rfl) ?_
    refine lv_bipush (v := 6) hx hb d_Setter_takeSingle_42 (by decide) ?_
    refine lv_iadd hx hb d_Setter_takeSingle_44 ?_
    refine lv_goto (tgt := 60) hx hb d_Setter_takeSingle_45 (by decide) ?_
    exact J_60 _ _ _ _ _ _ _ hf hP hS (lv_sub hl [2, 4, 0] rfl)
  rw [if_neg c1] at hf
  refine lv_iload_n hx hb d_Setter_takeSingle_48 rfl (lv_at hl 3 rfl) ?_
  refine lv_bipush (v := 8) hx hb d_Setter_takeSingle_49 (by decide) ?_
  refine lv_iadd hx hb d_Setter_takeSingle_51 ?_
  refine lv_iload_n hx hb d_Setter_takeSingle_52 rfl (lv_at hl 1 rfl) ?_
  refine lv_iload hx hb d_Setter_takeSingle_53 (lv_at hl 0 rfl) ?_
  obtain ⟨r4, h_r4, hf⟩ := q_bn_some hf
  refine q_callSNp (As := [.int r2]) (rest := [.int r1, .int (x1 + 8)]) hC (c_xGlyphPositions_sizeOfValue l G h_r4) cal_GP_sizeOfValue wq_111 ⟨rfl, rfl, Nat.le_of_ble_eq_true rfl, Nat.le_of_ble_eq_true rfl⟩ hP hT hS rfl hl.1 rfl (Nat.le_of_ble_eq_true rfl) d_Setter_takeSingle_55 (fun H locs hP hS => ?_)
  refine lv_imul hx hb d_Setter_takeSingle_58 ?_
  refine lv_iadd hx hb d_Setter_takeSingle_59 ?_
  exact J_60 _ _ _ _ _ _ _ hf hP hS (lv_sub hl [2, 4, 0] rfl)
def xSetter_take_65 (N : Nat) (x3_65 x4_65 x5_65 : Int32) (st_65 : QSt) : Option (Int32 × QSt) :=
  if x4_65 = 1 then (q_bm (xSetter_takeSingle N x5_65 x3_65 st_65) (fun r7 sr7 => if r7 = 0 then (some ((-1), sr7)) else (some (x3_65 + 1, sr7)))) else (if x4_65 = 2 then (q_bm (xSetter_takePair N x5_65 x3_65 st_65) (fun r6 sr6 => some (r6, sr6))) else (if x4_65 = 3 then (q_bm (xSetter_takeCursive N x5_65 x3_65 st_65) (fun r5 sr5 => if r5 = 0 then (some ((-1), sr5)) else (some (x3_65 + 1, sr5)))) else (q_bm (xSetter_takeMark N x4_65 x5_65 x3_65 st_65) (fun r4 sr4 => if r4 = 0 then (some ((-1), sr4)) else (some (x3_65 + 1, sr4))))))
def xSetter_take (N : Nat) (x1 x2 x3 : Int32) (st : QSt) : Option (Int32 × QSt) :=
  q_bn (xTable_u16_3 x1 st) (fun r1 => q_bn (xTable_u16_3 ((x1 + 6) + (2 * x2)) st) (fun r2 => q_lt (x1 + r2) (fun x5_1003 => if r1 = 9 then (q_bn (xTable_u16_3 (x5_1003 + 2) st) (fun r8 => q_bn (xTable_u32_3 (x5_1003 + 4) st) (fun r9 => q_lt (x5_1003 + r9) (fun x5_1010 => xSetter_take_65 N x3 r8 x5_1010 st)))) else (xSetter_take_65 N x3 r1 x5_1003 st))))
set_option maxHeartbeats 4000000 in
set_option maxRecDepth 100000 in
theorem c_xSetter_take (l : Launch) (G : XG) {N : Nat} {x1 x2 x3 : Int32} {st : QSt} {ro : Int32} {so : QSt} (hf : xSetter_take N x1 x2 x3 st = some (ro, so)) : q_Mi l y_Setter_take b_Setter_take 6 .int ({ frames := 5, cells := 0, slots := 0, locals := 128 } : Room) G.1 (xT G) (wX G) [.ref (G.2.2 29), .int x1, .int x2, .int x3] st ro so := by
  refine q_Mi_of (by decide) (Nat.le_of_ble_eq_true rfl) (wX_fst G) ?_
  intro p e s m args below meth c A ls hC hr hlk hT hD hA hP hS hl
  have hx := hC.1.1
  have hb := hC.1.2.1
  have hown := hC.1.2.2.2.1
  have hts := hC.1.2.2.2.2
  have hl : lv_has ls 6 [(0, .ref (G.2.2 29)), (1, .int x1), (2, .int x2), (3, .int x3)] := hl
  have J_65 : ∀ (x3_65 x4_65 x5_65 : Int32) (st_65 : QSt) (H : Heap) (locs : List Loc) (ls : Array Slot), xSetter_take_65 N x3_65 x4_65 x5_65 st_65 = some (ro, so) → va_P G.1 vwCl (wX G st_65) H → va_S A s.heap H locs → lv_has ls 6 [(0, .ref (G.2.2 29)), (3, .int x3_65), (4, .int x4_65), (5, .int x5_65)] → W p l e ({ frames := 5, cells := 0, slots := 0, locals := 128 } : Room) s m args below meth c H locs 0 0 (q_Zi below args s G.1 (wX G) ro so A) (F0 m 65 ls []) := by
    intro x3_65 x4_65 x5_65 st_65 H locs ls hf hP hS hl
    unfold xSetter_take_65 at hf
    refine lv_iload hx hb d_Setter_take_65 (lv_at hl 2 rfl) ?_
    by_cases c1 : x4_65 = 1
    · rw [if_pos c1] at hf
      refine lv_tableIn (tgt := 92) hx hb d_Setter_take_67 (by rw [c1]; decide) (by rw [c1]; decide) (by rw [c1]; rfl) (by decide) ?_
      refine lv_aload_n hx hb d_Setter_take_92 rfl (lv_at hl 0 rfl) ?_
      refine lv_iload hx hb d_Setter_take_93 (lv_at hl 3 rfl) ?_
      refine lv_iload_n hx hb d_Setter_take_95 rfl (lv_at hl 1 rfl) ?_
      obtain ⟨r7, sr7, h_r7, hf⟩ := q_bm_some hf
      refine q_callVi (As := [.int x5_65, .int x3_65]) (rest := []) (q0 := 29) hC (c_xSetter_takeSingle l G h_r7) cal_Setter_takeSingle wq_114 ⟨rfl, rfl, Nat.le_of_ble_eq_true rfl, Nat.le_of_ble_eq_true rfl⟩ rfl rfl hP hD hA hS rfl hl.1 rfl (Nat.le_of_ble_eq_true rfl) d_Setter_take_96 (fun H locs hP hS => ?_)
      refine lv_if_eq (tgt := 108) hx hb d_Setter_take_99 (by decide) (fun c1 => ?_) (fun c1 => ?_)
      · rw [if_pos c1] at hf
        refine lv_iconst (v := (-1)) hx hb d_Setter_take_108 (by decide) ?_
        exact q_iret hC hr hlk hf (by first | rfl | decide) hP hS d_Setter_take_109
      rw [if_neg c1] at hf
      refine lv_iload_n hx hb d_Setter_take_102 rfl (lv_at hl 1 rfl) ?_
      refine lv_iconst (v := 1) hx hb d_Setter_take_103 (by decide) ?_
      refine lv_iadd hx hb d_Setter_take_104 ?_
      refine lv_goto (tgt := 109) hx hb d_Setter_take_105 (by decide) ?_
      exact q_iret hC hr hlk hf (by first | rfl | decide) hP hS d_Setter_take_109
    rw [if_neg c1] at hf
    by_cases c2 : x4_65 = 2
    · rw [if_pos c2] at hf
      refine lv_tableIn (tgt := 110) hx hb d_Setter_take_67 (by rw [c2]; decide) (by rw [c2]; decide) (by rw [c2]; rfl) (by decide) ?_
      refine lv_aload_n hx hb d_Setter_take_110 rfl (lv_at hl 0 rfl) ?_
      refine lv_iload hx hb d_Setter_take_111 (lv_at hl 3 rfl) ?_
      refine lv_iload_n hx hb d_Setter_take_113 rfl (lv_at hl 1 rfl) ?_
      obtain ⟨r6, sr6, h_r6, hf⟩ := q_bm_some hf
      refine q_callVi (As := [.int x5_65, .int x3_65]) (rest := []) (q0 := 29) hC (c_xSetter_takePair l G h_r6) cal_Setter_takePair wq_115 ⟨rfl, rfl, Nat.le_of_ble_eq_true rfl, Nat.le_of_ble_eq_true rfl⟩ rfl rfl hP hD hA hS rfl hl.1 rfl (Nat.le_of_ble_eq_true rfl) d_Setter_take_114 (fun H locs hP hS => ?_)
      exact q_iret hC hr hlk hf (by first | rfl | decide) hP hS d_Setter_take_117
    rw [if_neg c2] at hf
    by_cases c3 : x4_65 = 3
    · rw [if_pos c3] at hf
      refine lv_tableIn (tgt := 118) hx hb d_Setter_take_67 (by rw [c3]; decide) (by rw [c3]; decide) (by rw [c3]; rfl) (by decide) ?_
      refine lv_aload_n hx hb d_Setter_take_118 rfl (lv_at hl 0 rfl) ?_
      refine lv_iload hx hb d_Setter_take_119 (lv_at hl 3 rfl) ?_
      refine lv_iload_n hx hb d_Setter_take_121 rfl (lv_at hl 1 rfl) ?_
      obtain ⟨r5, sr5, h_r5, hf⟩ := q_bm_some hf
      refine q_callVi (As := [.int x5_65, .int x3_65]) (rest := []) (q0 := 29) hC (c_xSetter_takeCursive l G h_r5) cal_Setter_takeCursive wq_116 ⟨rfl, rfl, Nat.le_of_ble_eq_true rfl, Nat.le_of_ble_eq_true rfl⟩ rfl rfl hP hD hA hS rfl hl.1 rfl (Nat.le_of_ble_eq_true rfl) d_Setter_take_122 (fun H locs hP hS => ?_)
      refine lv_if_eq (tgt := 134) hx hb d_Setter_take_125 (by decide) (fun c1 => ?_) (fun c1 => ?_)
      · rw [if_pos c1] at hf
        refine lv_iconst (v := (-1)) hx hb d_Setter_take_134 (by decide) ?_
        exact q_iret hC hr hlk hf (by first | rfl | decide) hP hS d_Setter_take_135
      rw [if_neg c1] at hf
      refine lv_iload_n hx hb d_Setter_take_128 rfl (lv_at hl 1 rfl) ?_
      refine lv_iconst (v := 1) hx hb d_Setter_take_129 (by decide) ?_
      refine lv_iadd hx hb d_Setter_take_130 ?_
      refine lv_goto (tgt := 135) hx hb d_Setter_take_131 (by decide) ?_
      exact q_iret hC hr hlk hf (by first | rfl | decide) hP hS d_Setter_take_135
    rw [if_neg c3] at hf
    refine lv_tableOut (tgt := 136) hx hb d_Setter_take_67 (by have z0 := True.intro; have z2 : (x4_65).toInt ≠ 1 := q_ine c1; have z3 : (x4_65).toInt ≠ 2 := q_ine c2; have z4 : (x4_65).toInt ≠ 3 := q_ine c3; omega) (by decide) ?_
    refine lv_aload_n hx hb d_Setter_take_136 rfl (lv_at hl 0 rfl) ?_
    refine lv_iload hx hb d_Setter_take_137 (lv_at hl 2 rfl) ?_
    refine lv_iload hx hb d_Setter_take_139 (lv_at hl 3 rfl) ?_
    refine lv_iload_n hx hb d_Setter_take_141 rfl (lv_at hl 1 rfl) ?_
    obtain ⟨r4, sr4, h_r4, hf⟩ := q_bm_some hf
    refine q_callVi (As := [.int x4_65, .int x5_65, .int x3_65]) (rest := []) (q0 := 29) hC (c_xSetter_takeMark l G h_r4) cal_Setter_takeMark wq_117 ⟨rfl, rfl, Nat.le_of_ble_eq_true rfl, Nat.le_of_ble_eq_true rfl⟩ rfl rfl hP hD hA hS rfl hl.1 rfl (Nat.le_of_ble_eq_true rfl) d_Setter_take_142 (fun H locs hP hS => ?_)
    refine lv_if_eq (tgt := 154) hx hb d_Setter_take_145 (by decide) (fun c1 => ?_) (fun c1 => ?_)
    · rw [if_pos c1] at hf
      refine lv_iconst (v := (-1)) hx hb d_Setter_take_154 (by decide) ?_
      exact q_iret hC hr hlk hf (by first | rfl | decide) hP hS d_Setter_take_155
    rw [if_neg c1] at hf
    refine lv_iload_n hx hb d_Setter_take_148 rfl (lv_at hl 1 rfl) ?_
    refine lv_iconst (v := 1) hx hb d_Setter_take_149 (by decide) ?_
    refine lv_iadd hx hb d_Setter_take_150 ?_
    refine lv_goto (tgt := 155) hx hb d_Setter_take_151 (by decide) ?_
    exact q_iret hC hr hlk hf (by first | rfl | decide) hP hS d_Setter_take_155
  unfold xSetter_take at hf
  refine lv_aload_n hx hb d_Setter_take_0 rfl (lv_at hl 0 rfl) ?_
  refine xg_29_font hC hP wq_96 d_Setter_take_1 ?_
  refine lv_iload_n hx hb d_Setter_take_4 rfl (lv_at hl 1 rfl) ?_
  obtain ⟨r1, h_r1, hf⟩ := q_bn_some hf
  refine q_callVp (As := [.int x1]) (rest := []) (q0 := 3) hC (c_xTable_u16_3 l G h_r1) cal_Table_u16 wq_97 ⟨rfl, rfl, Nat.le_of_ble_eq_true rfl, Nat.le_of_ble_eq_true rfl⟩ rfl rfl hP hT hS rfl hl.1 rfl (Nat.le_of_ble_eq_true rfl) d_Setter_take_5 (fun H locs hP hS => ?_)
  refine lv_istore (lv' := [(4, .int r1), (0, .ref (G.2.2 29)), (1, .int x1), (2, .int x2), (3, .int x3)]) hx hb d_Setter_take_8 hl (by decide) rfl (fun ls hl => ?_)
  refine lv_iload_n hx hb d_Setter_take_10 rfl (lv_at hl 2 rfl) ?_
  refine lv_aload_n hx hb d_Setter_take_11 rfl (lv_at hl 1 rfl) ?_
  refine xg_29_font hC hP wq_96 d_Setter_take_12 ?_
  refine lv_iload_n hx hb d_Setter_take_15 rfl (lv_at hl 2 rfl) ?_
  refine lv_bipush (v := 6) hx hb d_Setter_take_16 (by decide) ?_
  refine lv_iadd hx hb d_Setter_take_18 ?_
  refine lv_iconst (v := 2) hx hb d_Setter_take_19 (by decide) ?_
  refine lv_iload_n hx hb d_Setter_take_20 rfl (lv_at hl 3 rfl) ?_
  refine lv_imul hx hb d_Setter_take_21 ?_
  refine lv_iadd hx hb d_Setter_take_22 ?_
  obtain ⟨r2, h_r2, hf⟩ := q_bn_some hf
  refine q_callVp (As := [.int ((x1 + 6) + (2 * x2))]) (rest := [.int x1]) (q0 := 3) hC (c_xTable_u16_3 l G h_r2) cal_Table_u16 wq_97 ⟨rfl, rfl, Nat.le_of_ble_eq_true rfl, Nat.le_of_ble_eq_true rfl⟩ rfl rfl hP hT hS rfl hl.1 rfl (Nat.le_of_ble_eq_true rfl) d_Setter_take_23 (fun H locs hP hS => ?_)
  refine lv_iadd hx hb d_Setter_take_26 ?_
  obtain ⟨x5_1003, e_x5_1003, hf⟩ := q_lt_some hf
  refine q_topi e_x5_1003 ?_
  refine lv_istore (lv' := [(5, .int x5_1003), (4, .int r1), (0, .ref (G.2.2 29)), (1, .int x1), (2, .int x2), (3, .int x3)]) hx hb d_Setter_take_27 hl (by decide) rfl (fun ls hl => ?_)
  refine lv_iload hx hb d_Setter_take_29 (lv_at hl 1 rfl) ?_
  refine lv_bipush (v := 9) hx hb d_Setter_take_31 (by decide) ?_
  refine lv_icmp_ne (tgt := 65) hx hb d_Setter_take_33 (by decide) (fun c1 => ?_) (fun c1 => ?_)
  · rw [if_neg c1] at hf
    exact J_65 _ _ _ _ _ _ _ hf hP hS (lv_sub hl [2, 5, 1, 0] rfl)
  rw [if_pos c1] at hf
  refine lv_aload_n hx hb d_Setter_take_36 rfl (lv_at hl 2 rfl) ?_
  refine xg_29_font hC hP wq_96 d_Setter_take_37 ?_
  refine lv_iload hx hb d_Setter_take_40 (lv_at hl 0 rfl) ?_
  refine lv_iconst (v := 2) hx hb d_Setter_take_42 (by decide) ?_
  refine lv_iadd hx hb d_Setter_take_43 ?_
  obtain ⟨r8, h_r8, hf⟩ := q_bn_some hf
  refine q_callVp (As := [.int (x5_1003 + 2)]) (rest := []) (q0 := 3) hC (c_xTable_u16_3 l G h_r8) cal_Table_u16 wq_97 ⟨rfl, rfl, Nat.le_of_ble_eq_true rfl, Nat.le_of_ble_eq_true rfl⟩ rfl rfl hP hT hS rfl hl.1 rfl (Nat.le_of_ble_eq_true rfl) d_Setter_take_44 (fun H locs hP hS => ?_)
  refine lv_istore (lv' := [(4, .int r8), (5, .int x5_1003), (0, .ref (G.2.2 29)), (1, .int x1), (2, .int x2), (3, .int x3)]) hx hb d_Setter_take_47 hl (by decide) rfl (fun ls hl => ?_)
  refine lv_iload hx hb d_Setter_take_49 (lv_at hl 1 rfl) ?_
  refine lv_aload_n hx hb d_Setter_take_51 rfl (lv_at hl 2 rfl) ?_
  refine xg_29_font hC hP wq_96 d_Setter_take_52 ?_
  refine lv_iload hx hb d_Setter_take_55 (lv_at hl 1 rfl) ?_
  refine lv_iconst (v := 4) hx hb d_Setter_take_57 (by decide) ?_
  refine lv_iadd hx hb d_Setter_take_58 ?_
  obtain ⟨r9, h_r9, hf⟩ := q_bn_some hf
  refine q_callVp (As := [.int (x5_1003 + 4)]) (rest := [.int x5_1003]) (q0 := 3) hC (c_xTable_u32_3 l G h_r9) cal_Table_u32 wq_118 ⟨rfl, rfl, Nat.le_of_ble_eq_true rfl, Nat.le_of_ble_eq_true rfl⟩ rfl rfl hP hT hS rfl hl.1 rfl (Nat.le_of_ble_eq_true rfl) d_Setter_take_59 (fun H locs hP hS => ?_)
  refine lv_iadd hx hb d_Setter_take_62 ?_
  obtain ⟨x5_1010, e_x5_1010, hf⟩ := q_lt_some hf
  refine q_topi e_x5_1010 ?_
  refine lv_istore (lv' := [(5, .int x5_1010), (4, .int r8), (0, .ref (G.2.2 29)), (1, .int x1), (2, .int x2), (3, .int x3)]) hx hb d_Setter_take_63 hl (by decide) rfl (fun ls hl => ?_)
  exact J_65 _ _ _ _ _ _ _ hf hP hS (lv_sub hl [2, 5, 1, 0] rfl)
def xSetter_carryOut_127 (N : Nat) (rec_59 : Int32 → Int32 → QSt → Option QSt) (x3_59 x4_59 x6_127 x7_127 : Int32) (st_127 : QSt) : Option QSt :=
  if x7_127 = (-1) then (q_lt (x6_127 + 1) (fun x5_1008 => rec_59 x5_1008 (x6_127 + 1) st_127)) else (rec_59 x7_127 (x6_127 + 1) st_127)
def xSetter_carryOut_97 (N : Nat) (rec_59 : Int32 → Int32 → QSt → Option QSt) (x3_59 x4_59 x6_97 : Int32) : Nat → Int32 → Int32 → QSt → Option QSt
  | 0, _, _, _ => none
  | n_97 + 1, x7_97, x8_97, st_97 => if x4_59 ≤ x8_97 then (xSetter_carryOut_127 N rec_59 x3_59 x4_59 x6_97 x7_97 st_97) else (if x7_97 = (-1) then (q_bm (xSetter_take N x3_59 x8_97 x6_97 st_97) (fun r9 sr9 => xSetter_carryOut_97 N rec_59 x3_59 x4_59 x6_97 n_97 r9 (x8_97 + 1) sr9)) else (xSetter_carryOut_127 N rec_59 x3_59 x4_59 x6_97 x7_97 st_97))
def xSetter_carryOut_59 (N : Nat) (x3_59 x4_59 : Int32) : Nat → Int32 → Int32 → QSt → Option QSt
  | 0, _, _, _ => none
  | n_59 + 1, x5_59, x6_59, st_59 => if (st_59.1 9) ≤ x6_59 then (some st_59) else (if x6_59 < x5_59 then (xSetter_carryOut_59 N x3_59 x4_59 n_59 x5_59 (x6_59 + 1) st_59) else (q_grd (q_vpb x6_59 800) (q_lt (st_59.2 23 x6_59.toNatClampNeg) (fun v7 => if v7 = 0 then (xSetter_carryOut_97 N (xSetter_carryOut_59 N x3_59 x4_59 n_59) x3_59 x4_59 x6_59 N (-1) 0 st_59) else (xSetter_carryOut_59 N x3_59 x4_59 n_59 x5_59 (x6_59 + 1) st_59)))))
def xSetter_carryOut (N : Nat) (x1 : Int32) (st : QSt) : Option QSt :=
  q_bn (xTable_u16_3 8 st) (fun r1 => q_bn (xTable_u16_3 ((r1 + 2) + (2 * x1)) st) (fun r2 => q_lt (r1 + r2) (fun x3_1003 => q_bn (xTable_u16_3 (x3_1003 + 2) st) (fun r4 => q_bv (xSetter_findPassedOver N r4 st) (fun sr5 => q_bn (xTable_u16_3 (x3_1003 + 4) sr5) (fun r6 => xSetter_carryOut_59 N x3_1003 r6 N 0 0 sr5))))))
set_option maxHeartbeats 4000000 in
set_option maxRecDepth 100000 in
theorem c_xSetter_carryOut (l : Launch) (G : XG) {N : Nat} {x1 : Int32} {st : QSt} {so : QSt} (hf : xSetter_carryOut N x1 st = some so) : q_Mv l y_Setter_carryOut b_Setter_carryOut 9 ({ frames := 6, cells := 0, slots := 0, locals := 153 } : Room) G.1 (xT G) (wX G) [.ref (G.2.2 29), .int x1] st so := by
  refine q_Mv_of (by decide) (Nat.le_of_ble_eq_true rfl) (wX_fst G) ?_
  intro p e s m args below meth c A ls hC hr hlk hT hD hA hP hS hl
  have hx := hC.1.1
  have hb := hC.1.2.1
  have hown := hC.1.2.2.2.1
  have hts := hC.1.2.2.2.2
  have hl : lv_has ls 9 [(0, .ref (G.2.2 29)), (1, .int x1)] := hl
  have L_59 : ∀ (x3_59 x4_59 : Int32) (n_59 : Nat) (x5_59 x6_59 : Int32) (st_59 : QSt) (H : Heap) (locs : List Loc) (ls : Array Slot), xSetter_carryOut_59 N x3_59 x4_59 n_59 x5_59 x6_59 st_59 = some so → va_P G.1 vwCl (wX G st_59) H → va_S A s.heap H locs → lv_has ls 9 [(0, .ref (G.2.2 29)), (3, .int x3_59), (4, .int x4_59), (5, .int x5_59), (6, .int x6_59)] → W p l e ({ frames := 6, cells := 0, slots := 0, locals := 153 } : Room) s m args below meth c H locs 0 0 (q_Zv below args s G.1 (wX G) so A) (F0 m 59 ls []) := by
    intro x3_59 x4_59 n_59
    induction n_59 with
    | zero => intro _ _ _ _ _ _ hf; exact absurd hf (by simp [xSetter_carryOut_59])
    | succ n_59 ih_59 =>
      have J_127 : ∀ (x6_127 x7_127 : Int32) (st_127 : QSt) (H : Heap) (locs : List Loc) (ls : Array Slot), xSetter_carryOut_127 N (xSetter_carryOut_59 N x3_59 x4_59 n_59) x3_59 x4_59 x6_127 x7_127 st_127 = some so → va_P G.1 vwCl (wX G st_127) H → va_S A s.heap H locs → lv_has ls 9 [(0, .ref (G.2.2 29)), (3, .int x3_59), (4, .int x4_59), (6, .int x6_127), (7, .int x7_127)] → W p l e ({ frames := 6, cells := 0, slots := 0, locals := 153 } : Room) s m args below meth c H locs 0 0 (q_Zv below args s G.1 (wX G) so A) (F0 m 127 ls []) := by
        intro x6_127 x7_127 st_127 H locs ls hf hP hS hl
        unfold xSetter_carryOut_127 at hf
        refine lv_iload hx hb d_Setter_carryOut_127 (lv_at hl 4 rfl) ?_
        refine lv_iconst (v := (-1)) hx hb d_Setter_carryOut_129 (by decide) ?_
        refine lv_icmp_ne (tgt := 140) hx hb d_Setter_carryOut_130 (by decide) (fun c1 => ?_) (fun c1 => ?_)
        · rw [if_neg c1] at hf
          refine lv_iload hx hb d_Setter_carryOut_140 (lv_at hl 4 rfl) ?_
          refine lv_istore (lv' := [(5, .int x7_127), (0, .ref (G.2.2 29)), (3, .int x3_59), (4, .int x4_59), (6, .int x6_127), (7, .int x7_127)]) hx hb d_Setter_carryOut_142 hl (by decide) rfl (fun ls hl => ?_)
          refine lv_iinc (v := x6_127 + 1) (lv' := [(6, .int (x6_127 + 1)), (5, .int x7_127), (0, .ref (G.2.2 29)), (3, .int x3_59), (4, .int x4_59), (7, .int x7_127)]) hx hb d_Setter_carryOut_144 hl (k := 4) rfl rfl (by decide) rfl (fun ls hl => ?_)
          refine lv_goto (tgt := 59) hx hb d_Setter_carryOut_147 (by decide) ?_
          exact ih_59 _ _ _ _ _ _ hf hP hS (lv_sub hl [2, 3, 4, 1, 0] rfl)
        rw [if_pos c1] at hf
        refine lv_iload hx hb d_Setter_carryOut_133 (lv_at hl 3 rfl) ?_
        refine lv_iconst (v := 1) hx hb d_Setter_carryOut_135 (by decide) ?_
        refine lv_iadd hx hb d_Setter_carryOut_136 ?_
        refine lv_goto (tgt := 142) hx hb d_Setter_carryOut_137 (by decide) ?_
        obtain ⟨x5_1008, e_x5_1008, hf⟩ := q_lt_some hf
        refine q_topi e_x5_1008 ?_
        refine lv_istore (lv' := [(5, .int x5_1008), (0, .ref (G.2.2 29)), (3, .int x3_59), (4, .int x4_59), (6, .int x6_127), (7, .int x7_127)]) hx hb d_Setter_carryOut_142 hl (by decide) rfl (fun ls hl => ?_)
        refine lv_iinc (v := x6_127 + 1) (lv' := [(6, .int (x6_127 + 1)), (5, .int x5_1008), (0, .ref (G.2.2 29)), (3, .int x3_59), (4, .int x4_59), (7, .int x7_127)]) hx hb d_Setter_carryOut_144 hl (k := 4) rfl rfl (by decide) rfl (fun ls hl => ?_)
        refine lv_goto (tgt := 59) hx hb d_Setter_carryOut_147 (by decide) ?_
        exact ih_59 _ _ _ _ _ _ hf hP hS (lv_sub hl [2, 3, 4, 1, 0] rfl)
      have L_97 : ∀ (x6_97 : Int32) (n_97 : Nat) (x7_97 x8_97 : Int32) (st_97 : QSt) (H : Heap) (locs : List Loc) (ls : Array Slot), xSetter_carryOut_97 N (xSetter_carryOut_59 N x3_59 x4_59 n_59) x3_59 x4_59 x6_97 n_97 x7_97 x8_97 st_97 = some so → va_P G.1 vwCl (wX G st_97) H → va_S A s.heap H locs → lv_has ls 9 [(0, .ref (G.2.2 29)), (3, .int x3_59), (4, .int x4_59), (6, .int x6_97), (7, .int x7_97), (8, .int x8_97)] → W p l e ({ frames := 6, cells := 0, slots := 0, locals := 153 } : Room) s m args below meth c H locs 0 0 (q_Zv below args s G.1 (wX G) so A) (F0 m 97 ls []) := by
        intro x6_97 n_97
        induction n_97 with
        | zero => intro _ _ _ _ _ _ hf; exact absurd hf (by simp [xSetter_carryOut_97])
        | succ n_97 ih_97 =>
          intro x7_97 x8_97 st_97 H locs ls hf hP hS hl
          rw [xSetter_carryOut_97] at hf
          refine lv_iload hx hb d_Setter_carryOut_97 (lv_at hl 5 rfl) ?_
          refine lv_iload hx hb d_Setter_carryOut_99 (lv_at hl 2 rfl) ?_
          refine lv_icmp_ge (tgt := 127) hx hb d_Setter_carryOut_101 (by decide) (fun c1 => ?_) (fun c1 => ?_)
          · rw [if_pos c1] at hf
            exact J_127 _ _ _ _ _ _ hf hP hS (lv_sub hl [0, 1, 2, 3, 4] rfl)
          rw [if_neg c1] at hf
          refine lv_iload hx hb d_Setter_carryOut_104 (lv_at hl 4 rfl) ?_
          refine lv_iconst (v := (-1)) hx hb d_Setter_carryOut_106 (by decide) ?_
          refine lv_icmp_ne (tgt := 127) hx hb d_Setter_carryOut_107 (by decide) (fun c1 => ?_) (fun c1 => ?_)
          · rw [if_neg c1] at hf
            exact J_127 _ _ _ _ _ _ hf hP hS (lv_sub hl [0, 1, 2, 3, 4] rfl)
          rw [if_pos c1] at hf
          refine lv_aload_n hx hb d_Setter_carryOut_110 rfl (lv_at hl 0 rfl) ?_
          refine lv_iload_n hx hb d_Setter_carryOut_111 rfl (lv_at hl 1 rfl) ?_
          refine lv_iload hx hb d_Setter_carryOut_112 (lv_at hl 5 rfl) ?_
          refine lv_iload hx hb d_Setter_carryOut_114 (lv_at hl 3 rfl) ?_
          obtain ⟨r9, sr9, h_r9, hf⟩ := q_bm_some hf
          refine q_callVi (As := [.int x3_59, .int x8_97, .int x6_97]) (rest := []) (q0 := 29) hC (c_xSetter_take l G h_r9) cal_Setter_take wq_119 ⟨rfl, rfl, Nat.le_of_ble_eq_true rfl, Nat.le_of_ble_eq_true rfl⟩ rfl rfl hP hD hA hS rfl hl.1 rfl (Nat.le_of_ble_eq_true rfl) d_Setter_carryOut_116 (fun H locs hP hS => ?_)
          refine lv_istore (lv' := [(7, .int r9), (0, .ref (G.2.2 29)), (3, .int x3_59), (4, .int x4_59), (6, .int x6_97), (8, .int x8_97)]) hx hb d_Setter_carryOut_119 hl (by decide) rfl (fun ls hl => ?_)
          refine lv_iinc (v := x8_97 + 1) (lv' := [(8, .int (x8_97 + 1)), (7, .int r9), (0, .ref (G.2.2 29)), (3, .int x3_59), (4, .int x4_59), (6, .int x6_97)]) hx hb d_Setter_carryOut_121 hl (k := 5) rfl rfl (by decide) rfl (fun ls hl => ?_)
          refine lv_goto (tgt := 97) hx hb d_Setter_carryOut_124 (by decide) ?_
          exact ih_97 _ _ _ _ _ _ hf hP hS (lv_sub hl [2, 3, 4, 5, 1, 0] rfl)
      intro x5_59 x6_59 st_59 H locs ls hf hP hS hl
      rw [xSetter_carryOut_59] at hf
      refine lv_iload hx hb d_Setter_carryOut_59 (lv_at hl 4 rfl) ?_
      refine lv_aload_n hx hb d_Setter_carryOut_61 rfl (lv_at hl 0 rfl) ?_
      refine xg_29_run hC hP wq_83 d_Setter_carryOut_62 ?_
      refine xgN_20_count hC hP wq_84 d_Setter_carryOut_65 ?_
      refine lv_icmp_ge (tgt := 150) hx hb d_Setter_carryOut_68 (by decide) (fun c1 => ?_) (fun c1 => ?_)
      · rw [if_pos c1] at hf
        exact q_vret hC hr hlk hf hP hS d_Setter_carryOut_150
      rw [if_neg c1] at hf
      refine lv_iload hx hb d_Setter_carryOut_71 (lv_at hl 4 rfl) ?_
      refine lv_iload hx hb d_Setter_carryOut_73 (lv_at hl 3 rfl) ?_
      refine lv_icmp_lt (tgt := 144) hx hb d_Setter_carryOut_75 (by decide) (fun c1 => ?_) (fun c1 => ?_)
      · rw [if_pos c1] at hf
        refine lv_iinc (v := x6_59 + 1) (lv' := [(6, .int (x6_59 + 1)), (0, .ref (G.2.2 29)), (3, .int x3_59), (4, .int x4_59), (5, .int x5_59)]) hx hb d_Setter_carryOut_144 hl (k := 4) rfl rfl (by decide) rfl (fun ls hl => ?_)
        refine lv_goto (tgt := 59) hx hb d_Setter_carryOut_147 (by decide) ?_
        exact ih_59 _ _ _ _ _ _ hf hP hS (lv_sub hl [1, 2, 3, 4, 0] rfl)
      rw [if_neg c1] at hf
      refine lv_aload_n hx hb d_Setter_carryOut_78 rfl (lv_at hl 0 rfl) ?_
      refine xg_29_passedOver hC hP wq_91 d_Setter_carryOut_79 ?_
      refine lv_iload hx hb d_Setter_carryOut_82 (lv_at hl 4 rfl) ?_
      obtain ⟨hi, hf⟩ := q_grd_some hf
      obtain ⟨v7, e_v7, hf⟩ := q_lt_some hf
      refine xl_33 hC hP e_v7 hi d_Setter_carryOut_84 ?_
      refine lv_if_eq (tgt := 91) hx hb d_Setter_carryOut_85 (by decide) (fun c1 => ?_) (fun c1 => ?_)
      rotate_left
      · rw [if_neg c1] at hf
        refine lv_goto (tgt := 144) hx hb d_Setter_carryOut_88 (by decide) ?_
        refine lv_iinc (v := x6_59 + 1) (lv' := [(6, .int (x6_59 + 1)), (0, .ref (G.2.2 29)), (3, .int x3_59), (4, .int x4_59), (5, .int x5_59)]) hx hb d_Setter_carryOut_144 hl (k := 4) rfl rfl (by decide) rfl (fun ls hl => ?_)
        refine lv_goto (tgt := 59) hx hb d_Setter_carryOut_147 (by decide) ?_
        exact ih_59 _ _ _ _ _ _ hf hP hS (lv_sub hl [1, 2, 3, 4, 0] rfl)
      rw [if_pos c1] at hf
      refine lv_iconst (v := (-1)) hx hb d_Setter_carryOut_91 (by decide) ?_
      refine lv_istore (lv' := [(7, .int (-1)), (0, .ref (G.2.2 29)), (3, .int x3_59), (4, .int x4_59), (5, .int x5_59), (6, .int x6_59)]) hx hb d_Setter_carryOut_92 hl (by decide) rfl (fun ls hl => ?_)
      refine lv_iconst (v := 0) hx hb d_Setter_carryOut_94 (by decide) ?_
      refine lv_istore (lv' := [(8, .int 0), (7, .int (-1)), (0, .ref (G.2.2 29)), (3, .int x3_59), (4, .int x4_59), (5, .int x5_59), (6, .int x6_59)]) hx hb d_Setter_carryOut_95 hl (by decide) rfl (fun ls hl => ?_)
      exact L_97 _ _ _ _ _ _ _ _ hf hP hS (lv_sub hl [2, 3, 4, 6, 1, 0] rfl)
  unfold xSetter_carryOut at hf
  refine lv_aload_n hx hb d_Setter_carryOut_0 rfl (lv_at hl 0 rfl) ?_
  refine xg_29_font hC hP wq_96 d_Setter_carryOut_1 ?_
  refine lv_bipush (v := 8) hx hb d_Setter_carryOut_4 (by decide) ?_
  obtain ⟨r1, h_r1, hf⟩ := q_bn_some hf
  refine q_callVp (As := [.int 8]) (rest := []) (q0 := 3) hC (c_xTable_u16_3 l G h_r1) cal_Table_u16 wq_97 ⟨rfl, rfl, Nat.le_of_ble_eq_true rfl, Nat.le_of_ble_eq_true rfl⟩ rfl rfl hP hT hS rfl hl.1 rfl (Nat.le_of_ble_eq_true rfl) d_Setter_carryOut_6 (fun H locs hP hS => ?_)
  refine lv_istore_n (lv' := [(2, .int r1), (0, .ref (G.2.2 29)), (1, .int x1)]) hx hb d_Setter_carryOut_9 rfl hl (by decide) rfl (fun ls hl => ?_)
  refine lv_iload_n hx hb d_Setter_carryOut_10 rfl (lv_at hl 0 rfl) ?_
  refine lv_aload_n hx hb d_Setter_carryOut_11 rfl (lv_at hl 1 rfl) ?_
  refine xg_29_font hC hP wq_96 d_Setter_carryOut_12 ?_
  refine lv_iload_n hx hb d_Setter_carryOut_15 rfl (lv_at hl 0 rfl) ?_
  refine lv_iconst (v := 2) hx hb d_Setter_carryOut_16 (by decide) ?_
  refine lv_iadd hx hb d_Setter_carryOut_17 ?_
  refine lv_iconst (v := 2) hx hb d_Setter_carryOut_18 (by decide) ?_
  refine lv_iload_n hx hb d_Setter_carryOut_19 rfl (lv_at hl 2 rfl) ?_
  refine lv_imul hx hb d_Setter_carryOut_20 ?_
  refine lv_iadd hx hb d_Setter_carryOut_21 ?_
  obtain ⟨r2, h_r2, hf⟩ := q_bn_some hf
  refine q_callVp (As := [.int ((r1 + 2) + (2 * x1))]) (rest := [.int r1]) (q0 := 3) hC (c_xTable_u16_3 l G h_r2) cal_Table_u16 wq_97 ⟨rfl, rfl, Nat.le_of_ble_eq_true rfl, Nat.le_of_ble_eq_true rfl⟩ rfl rfl hP hT hS rfl hl.1 rfl (Nat.le_of_ble_eq_true rfl) d_Setter_carryOut_22 (fun H locs hP hS => ?_)
  refine lv_iadd hx hb d_Setter_carryOut_25 ?_
  obtain ⟨x3_1003, e_x3_1003, hf⟩ := q_lt_some hf
  refine q_topi e_x3_1003 ?_
  refine lv_istore_n (lv' := [(3, .int x3_1003), (2, .int r1), (0, .ref (G.2.2 29)), (1, .int x1)]) hx hb d_Setter_carryOut_26 rfl hl (by decide) rfl (fun ls hl => ?_)
  refine lv_aload_n hx hb d_Setter_carryOut_27 rfl (lv_at hl 2 rfl) ?_
  refine lv_aload_n hx hb d_Setter_carryOut_28 rfl (lv_at hl 2 rfl) ?_
  refine xg_29_font hC hP wq_96 d_Setter_carryOut_29 ?_
  refine lv_iload_n hx hb d_Setter_carryOut_32 rfl (lv_at hl 0 rfl) ?_
  refine lv_iconst (v := 2) hx hb d_Setter_carryOut_33 (by decide) ?_
  refine lv_iadd hx hb d_Setter_carryOut_34 ?_
  obtain ⟨r4, h_r4, hf⟩ := q_bn_some hf
  refine q_callVp (As := [.int (x3_1003 + 2)]) (rest := [.ref (G.2.2 29)]) (q0 := 3) hC (c_xTable_u16_3 l G h_r4) cal_Table_u16 wq_97 ⟨rfl, rfl, Nat.le_of_ble_eq_true rfl, Nat.le_of_ble_eq_true rfl⟩ rfl rfl hP hT hS rfl hl.1 rfl (Nat.le_of_ble_eq_true rfl) d_Setter_carryOut_35 (fun H locs hP hS => ?_)
  obtain ⟨sr5, h_r5, hf⟩ := q_bv_some hf
  refine q_callVv (As := [.int r4]) (rest := []) (q0 := 29) hC (c_xSetter_findPassedOver l G h_r5) cal_Setter_findPassedOver wq_120 ⟨rfl, rfl, Nat.le_of_ble_eq_true rfl, Nat.le_of_ble_eq_true rfl⟩ rfl rfl hP hD hA hS rfl hl.1 rfl (Nat.le_of_ble_eq_true rfl) d_Setter_carryOut_38 (fun H locs hP hS => ?_)
  refine lv_aload_n hx hb d_Setter_carryOut_41 rfl (lv_at hl 2 rfl) ?_
  refine xg_29_font hC hP wq_96 d_Setter_carryOut_42 ?_
  refine lv_iload_n hx hb d_Setter_carryOut_45 rfl (lv_at hl 0 rfl) ?_
  refine lv_iconst (v := 4) hx hb d_Setter_carryOut_46 (by decide) ?_
  refine lv_iadd hx hb d_Setter_carryOut_47 ?_
  obtain ⟨r6, h_r6, hf⟩ := q_bn_some hf
  refine q_callVp (As := [.int (x3_1003 + 4)]) (rest := []) (q0 := 3) hC (c_xTable_u16_3 l G h_r6) cal_Table_u16 wq_97 ⟨rfl, rfl, Nat.le_of_ble_eq_true rfl, Nat.le_of_ble_eq_true rfl⟩ rfl rfl hP hT hS rfl hl.1 rfl (Nat.le_of_ble_eq_true rfl) d_Setter_carryOut_48 (fun H locs hP hS => ?_)
  refine lv_istore (lv' := [(4, .int r6), (3, .int x3_1003), (2, .int r1), (0, .ref (G.2.2 29)), (1, .int x1)]) hx hb d_Setter_carryOut_51 hl (by decide) rfl (fun ls hl => ?_)
  refine lv_iconst (v := 0) hx hb d_Setter_carryOut_53 (by decide) ?_
  refine lv_istore (lv' := [(5, .int 0), (4, .int r6), (3, .int x3_1003), (2, .int r1), (0, .ref (G.2.2 29)), (1, .int x1)]) hx hb d_Setter_carryOut_54 hl (by decide) rfl (fun ls hl => ?_)
  refine lv_iconst (v := 0) hx hb d_Setter_carryOut_56 (by decide) ?_
  refine lv_istore (lv' := [(6, .int 0), (5, .int 0), (4, .int r6), (3, .int x3_1003), (2, .int r1), (0, .ref (G.2.2 29)), (1, .int x1)]) hx hb d_Setter_carryOut_57 hl (by decide) rfl (fun ls hl => ?_)
  exact L_59 _ _ _ _ _ _ _ _ _ hf hP hS (lv_sub hl [5, 3, 2, 1, 0] rfl)
