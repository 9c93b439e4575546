def xGlyphPositionsModel_settle_110 (N : Nat) (rec_75 : Int32 → QSt → Option QSt) (x1_75 x2_75 x3_110 : Int32) (w0_110 : Int32) (st_110 : QSt) : Option QSt :=
  q_grd (q_vpb x1_75 800) (q_lt (st_110.2 42 x1_75.toNatClampNeg) (fun v11 => q_grd (q_vpb x3_110 800) (q_lt (st_110.2 40 x3_110.toNatClampNeg) (fun v12 => q_grd (q_vpb x1_75 800) (q_lt (q_pa st_110 42 x1_75.toNatClampNeg (v11 + (w0_110 * v12))) (fun s13 => q_grd (q_vpb x1_75 800) (q_lt (s13.2 43 x1_75.toNatClampNeg) (fun v14 => q_grd (q_vpb x3_110 800) (q_lt (s13.2 41 x3_110.toNatClampNeg) (fun v15 => q_grd (q_vpb x1_75 800) (q_lt (q_pa s13 43 x1_75.toNatClampNeg (v14 + (w0_110 * v15))) (fun s16 => rec_75 (x3_110 + 1) s16))))))))))))
def xGlyphPositionsModel_settle_75 (N : Nat) (x1_75 x2_75 : Int32) : Nat → Int32 → QSt → Option QSt
  | 0, _, _ => none
  | n_75 + 1, x3_75, st_75 => if x1_75 < x3_75 then (some st_75) else (if (st_75.1 22) = 0 then (if x1_75 ≤ x3_75 then (xGlyphPositionsModel_settle_110 N (xGlyphPositionsModel_settle_75 N x1_75 x2_75 n_75) x1_75 x2_75 x3_75 0 st_75) else (xGlyphPositionsModel_settle_110 N (xGlyphPositionsModel_settle_75 N x1_75 x2_75 n_75) x1_75 x2_75 x3_75 (-1) st_75)) else (if x3_75 ≤ x2_75 then (xGlyphPositionsModel_settle_110 N (xGlyphPositionsModel_settle_75 N x1_75 x2_75 n_75) x1_75 x2_75 x3_75 0 st_75) else (xGlyphPositionsModel_settle_110 N (xGlyphPositionsModel_settle_75 N x1_75 x2_75 n_75) x1_75 x2_75 x3_75 1 st_75)))
def xGlyphPositionsModel_settle (N : Nat) (x1 : Int32) (st : QSt) : Option QSt :=
  q_grd (q_vpb x1 800) (q_lt (st.2 44 x1.toNatClampNeg) (fun v1 => if 0 ≤ v1 then (q_grd (q_vpb x1 800) (q_lt (st.2 43 x1.toNatClampNeg) (fun v2 => q_grd (q_vpb x1 800) (q_lt (st.2 47 x1.toNatClampNeg) (fun v3 => q_grd (q_vpb v1 800) (q_lt (st.2 43 v1.toNatClampNeg) (fun v4 => q_grd (q_vpb x1 800) (q_lt (q_pa st 43 x1.toNatClampNeg ((v2 + v3) + v4)) (fun s5 => q_grd (q_vpb x1 800) (q_lt (s5.2 45 x1.toNatClampNeg) (fun v6 => if v6 = 0 then (q_grd (q_vpb x1 800) (q_lt (s5.2 42 x1.toNatClampNeg) (fun v7 => q_grd (q_vpb x1 800) (q_lt (s5.2 46 x1.toNatClampNeg) (fun v8 => q_grd (q_vpb v1 800) (q_lt (s5.2 42 v1.toNatClampNeg) (fun v9 => q_grd (q_vpb x1 800) (q_lt (q_pa s5 42 x1.toNatClampNeg ((v7 + v8) + v9)) (fun s10 => xGlyphPositionsModel_settle_75 N x1 v1 N v1 s10))))))))) else (some s5)))))))))))) else (some st)))
set_option maxHeartbeats 4000000 in
set_option maxRecDepth 100000 in
theorem c_xGlyphPositionsModel_settle (l : Launch) (G : XG) {N : Nat} {x1 : Int32} {st : QSt} {so : QSt} (hf : xGlyphPositionsModel_settle N x1 st = some so) : q_Mv l y_GlyphPositionsModel_settle b_GlyphPositionsModel_settle 5 ({ frames := 0, cells := 0, slots := 0, locals := 0 } : Room) G.1 (xT G) (wX G) [.ref (G.2.2 36), .int x1] st so := by
  refine q_Mv_of (by decide) (Nat.le_of_ble_eq_true rfl) (wX_fst G) ?_
  intro p e s m args below meth c A ls hC hr hlk hT hD hA hP hS hl
  have hx := hC.1.1
  have hb := hC.1.2.1
  have hown := hC.1.2.2.2.1
  have hts := hC.1.2.2.2.2
  have hl : lv_has ls 5 [(0, .ref (G.2.2 36)), (1, .int x1)] := hl
  have L_75 : ∀ (x1_75 x2_75 : Int32) (n_75 : Nat) (x3_75 : Int32) (st_75 : QSt) (H : Heap) (locs : List Loc) (ls : Array Slot), xGlyphPositionsModel_settle_75 N x1_75 x2_75 n_75 x3_75 st_75 = some so → va_P G.1 vwCl (wX G st_75) H → va_S A s.heap H locs → lv_has ls 5 [(0, .ref (G.2.2 36)), (1, .int x1_75), (2, .int x2_75), (3, .int x3_75)] → W p l e ({ frames := 0, cells := 0, slots := 0, locals := 0 } : Room) s m args below meth c H locs 0 0 (q_Zv below args s G.1 (wX G) so A) (F0 m 75 ls []) := by
    intro x1_75 x2_75 n_75
    induction n_75 with
    | zero => intro _ _ _ _ _ hf; exact absurd hf (by simp [xGlyphPositionsModel_settle_75])
    | succ n_75 ih_75 =>
      have J_110 : ∀ (x3_110 w0_110 : Int32) (st_110 : QSt) (H : Heap) (locs : List Loc) (ls : Array Slot), xGlyphPositionsModel_settle_110 N (xGlyphPositionsModel_settle_75 N x1_75 x2_75 n_75) x1_75 x2_75 x3_110 w0_110 st_110 = some so → va_P G.1 vwCl (wX G st_110) H → va_S A s.heap H locs → lv_has ls 5 [(0, .ref (G.2.2 36)), (1, .int x1_75), (2, .int x2_75), (3, .int x3_110)] → W p l e ({ frames := 0, cells := 0, slots := 0, locals := 0 } : Room) s m args below meth c H locs 0 0 (q_Zv below args s G.1 (wX G) so A) (F0 m 110 ls [.int w0_110]) := by
        intro x3_110 w0_110 st_110 H locs ls hf hP hS hl
        unfold xGlyphPositionsModel_settle_110 at hf
        refine lv_istore (lv' := [(4, .int w0_110), (0, .ref (G.2.2 36)), (1, .int x1_75), (2, .int x2_75), (3, .int x3_110)]) hx hb d_GlyphPositionsModel_settle_110 hl (by decide) rfl (fun ls hl => ?_)
        refine lv_aload_n hx hb d_GlyphPositionsModel_settle_112 rfl (lv_at hl 1 rfl) ?_
        refine xg_36_rights hC hP wq_143 d_GlyphPositionsModel_settle_113 ?_
        refine lv_iload_n hx hb d_GlyphPositionsModel_settle_116 rfl (lv_at hl 2 rfl) ?_
        refine lv_aload_n hx hb d_GlyphPositionsModel_settle_117 rfl (lv_at hl 1 rfl) ?_
        refine xg_36_rights hC hP wq_143 d_GlyphPositionsModel_settle_118 ?_
        refine lv_iload_n hx hb d_GlyphPositionsModel_settle_121 rfl (lv_at hl 2 rfl) ?_
        obtain ⟨hi, hf⟩ := q_grd_some hf
        obtain ⟨v11, e_v11, hf⟩ := q_lt_some hf
        refine xl_53 hC hP e_v11 hi d_GlyphPositionsModel_settle_122 ?_
        refine lv_iload hx hb d_GlyphPositionsModel_settle_123 (lv_at hl 0 rfl) ?_
        refine lv_aload_n hx hb d_GlyphPositionsModel_settle_125 rfl (lv_at hl 1 rfl) ?_
        refine xg_36_widths hC hP wq_141 d_GlyphPositionsModel_settle_126 ?_
        refine lv_iload_n hx hb d_GlyphPositionsModel_settle_129 rfl (lv_at hl 4 rfl) ?_
        obtain ⟨hi, hf⟩ := q_grd_some hf
        obtain ⟨v12, e_v12, hf⟩ := q_lt_some hf
        refine xl_51 hC hP e_v12 hi d_GlyphPositionsModel_settle_130 ?_
        refine lv_imul hx hb d_GlyphPositionsModel_settle_131 ?_
        refine lv_iadd hx hb d_GlyphPositionsModel_settle_132 ?_
        obtain ⟨hi, hf⟩ := q_grd_some hf
        obtain ⟨s13, e_s13, hf⟩ := q_lt_some hf
        refine xs_53 hC hP hD hS e_s13 hi d_GlyphPositionsModel_settle_133 (fun H locs hP hS => ?_)
        refine lv_aload_n hx hb d_GlyphPositionsModel_settle_134 rfl (lv_at hl 1 rfl) ?_
        refine xg_36_ups hC hP wq_144 d_GlyphPositionsModel_settle_135 ?_
        refine lv_iload_n hx hb d_GlyphPositionsModel_settle_138 rfl (lv_at hl 2 rfl) ?_
        refine lv_aload_n hx hb d_GlyphPositionsModel_settle_139 rfl (lv_at hl 1 rfl) ?_
        refine xg_36_ups hC hP wq_144 d_GlyphPositionsModel_settle_140 ?_
        refine lv_iload_n hx hb d_GlyphPositionsModel_settle_143 rfl (lv_at hl 2 rfl) ?_
        obtain ⟨hi, hf⟩ := q_grd_some hf
        obtain ⟨v14, e_v14, hf⟩ := q_lt_some hf
        refine xl_54 hC hP e_v14 hi d_GlyphPositionsModel_settle_144 ?_
        refine lv_iload hx hb d_GlyphPositionsModel_settle_145 (lv_at hl 0 rfl) ?_
        refine lv_aload_n hx hb d_GlyphPositionsModel_settle_147 rfl (lv_at hl 1 rfl) ?_
        refine xg_36_heights hC hP wq_142 d_GlyphPositionsModel_settle_148 ?_
        refine lv_iload_n hx hb d_GlyphPositionsModel_settle_151 rfl (lv_at hl 4 rfl) ?_
        obtain ⟨hi, hf⟩ := q_grd_some hf
        obtain ⟨v15, e_v15, hf⟩ := q_lt_some hf
        refine xl_52 hC hP e_v15 hi d_GlyphPositionsModel_settle_152 ?_
        refine lv_imul hx hb d_GlyphPositionsModel_settle_153 ?_
        refine lv_iadd hx hb d_GlyphPositionsModel_settle_154 ?_
        obtain ⟨hi, hf⟩ := q_grd_some hf
        obtain ⟨s16, e_s16, hf⟩ := q_lt_some hf
        refine xs_54 hC hP hD hS e_s16 hi d_GlyphPositionsModel_settle_155 (fun H locs hP hS => ?_)
        refine lv_iinc (v := x3_110 + 1) (lv' := [(3, .int (x3_110 + 1)), (4, .int w0_110), (0, .ref (G.2.2 36)), (1, .int x1_75), (2, .int x2_75)]) hx hb d_GlyphPositionsModel_settle_156 hl (k := 4) rfl rfl (by decide) rfl (fun ls hl => ?_)
        refine lv_goto (tgt := 75) hx hb d_GlyphPositionsModel_settle_159 (by decide) ?_
        exact ih_75 _ _ _ _ _ hf hP hS (lv_sub hl [2, 3, 4, 0] rfl)
      intro x3_75 st_75 H locs ls hf hP hS hl
      rw [xGlyphPositionsModel_settle_75] at hf
      refine lv_iload_n hx hb d_GlyphPositionsModel_settle_75 rfl (lv_at hl 3 rfl) ?_
      refine lv_iload_n hx hb d_GlyphPositionsModel_settle_76 rfl (lv_at hl 1 rfl) ?_
      refine lv_icmp_gt (tgt := 162) hx hb d_GlyphPositionsModel_settle_77 (by decide) (fun c1 => ?_) (fun c1 => ?_)
      · rw [if_pos c1] at hf
        exact q_vret hC hr hlk hf hP hS d_GlyphPositionsModel_settle_162
      rw [if_neg c1] at hf
      refine lv_aload_n hx hb d_GlyphPositionsModel_settle_80 rfl (lv_at hl 0 rfl) ?_
      refine xg_36_isBack hC hP wq_202 d_GlyphPositionsModel_settle_81 ?_
      refine lv_if_eq (tgt := 100) hx hb d_GlyphPositionsModel_settle_84 (by decide) (fun c1 => ?_) (fun c1 => ?_)
      · rw [if_pos c1] at hf
        refine lv_iload_n hx hb d_GlyphPositionsModel_settle_100 rfl (lv_at hl 3 rfl) ?_
        refine lv_iload_n hx hb d_GlyphPositionsModel_settle_101 rfl (lv_at hl 1 rfl) ?_
        refine lv_icmp_ge (tgt := 109) hx hb d_GlyphPositionsModel_settle_102 (by decide) (fun c1 => ?_) (fun c1 => ?_)
        · rw [if_pos c1] at hf
          refine lv_iconst (v := 0) hx hb d_GlyphPositionsModel_settle_109 (by decide) ?_
          exact J_110 _ _ _ _ _ _ hf hP hS hl
        rw [if_neg c1] at hf
        refine lv_iconst (v := (-1)) hx hb d_GlyphPositionsModel_settle_105 (by decide) ?_
        refine lv_goto (tgt := 110) hx hb d_GlyphPositionsModel_settle_106 (by decide) ?_
        exact J_110 _ _ _ _ _ _ hf hP hS hl
      rw [if_neg c1] at hf
      refine lv_iload_n hx hb d_GlyphPositionsModel_settle_87 rfl (lv_at hl 3 rfl) ?_
      refine lv_iload_n hx hb d_GlyphPositionsModel_settle_88 rfl (lv_at hl 2 rfl) ?_
      refine lv_icmp_le (tgt := 96) hx hb d_GlyphPositionsModel_settle_89 (by decide) (fun c1 => ?_) (fun c1 => ?_)
      · rw [if_pos c1] at hf
        refine lv_iconst (v := 0) hx hb d_GlyphPositionsModel_settle_96 (by decide) ?_
        refine lv_goto (tgt := 110) hx hb d_GlyphPositionsModel_settle_97 (by decide) ?_
        exact J_110 _ _ _ _ _ _ hf hP hS hl
      rw [if_neg c1] at hf
      refine lv_iconst (v := 1) hx hb d_GlyphPositionsModel_settle_92 (by decide) ?_
      refine lv_goto (tgt := 110) hx hb d_GlyphPositionsModel_settle_93 (by decide) ?_
      exact J_110 _ _ _ _ _ _ hf hP hS hl
  unfold xGlyphPositionsModel_settle at hf
  refine lv_aload_n hx hb d_GlyphPositionsModel_settle_0 rfl (lv_at hl 0 rfl) ?_
  refine xg_36_hangs hC hP wq_145 d_GlyphPositionsModel_settle_1 ?_
  refine lv_iload_n hx hb d_GlyphPositionsModel_settle_4 rfl (lv_at hl 1 rfl) ?_
  obtain ⟨hi, hf⟩ := q_grd_some hf
  obtain ⟨v1, e_v1, hf⟩ := q_lt_some hf
  refine xl_55 hC hP e_v1 hi d_GlyphPositionsModel_settle_5 ?_
  refine lv_istore_n (lv' := [(2, .int v1), (0, .ref (G.2.2 36)), (1, .int x1)]) hx hb d_GlyphPositionsModel_settle_6 rfl hl (by decide) rfl (fun ls hl => ?_)
  refine lv_iload_n hx hb d_GlyphPositionsModel_settle_7 rfl (lv_at hl 0 rfl) ?_
  refine lv_if_ge (tgt := 12) hx hb d_GlyphPositionsModel_settle_8 (by decide) (fun c1 => ?_) (fun c1 => ?_)
  rotate_left
  · rw [if_neg c1] at hf
    exact q_vret hC hr hlk hf hP hS d_GlyphPositionsModel_settle_11
  rw [if_pos c1] at hf
  refine lv_aload_n hx hb d_GlyphPositionsModel_settle_12 rfl (lv_at hl 1 rfl) ?_
  refine xg_36_ups hC hP wq_144 d_GlyphPositionsModel_settle_13 ?_
  refine lv_iload_n hx hb d_GlyphPositionsModel_settle_16 rfl (lv_at hl 2 rfl) ?_
  refine lv_aload_n hx hb d_GlyphPositionsModel_settle_17 rfl (lv_at hl 1 rfl) ?_
  refine xg_36_ups hC hP wq_144 d_GlyphPositionsModel_settle_18 ?_
  refine lv_iload_n hx hb d_GlyphPositionsModel_settle_21 rfl (lv_at hl 2 rfl) ?_
  obtain ⟨hi, hf⟩ := q_grd_some hf
  obtain ⟨v2, e_v2, hf⟩ := q_lt_some hf
  refine xl_54 hC hP e_v2 hi d_GlyphPositionsModel_settle_22 ?_
  refine lv_aload_n hx hb d_GlyphPositionsModel_settle_23 rfl (lv_at hl 1 rfl) ?_
  refine xg_36_hangUp hC hP wq_203 d_GlyphPositionsModel_settle_24 ?_
  refine lv_iload_n hx hb d_GlyphPositionsModel_settle_27 rfl (lv_at hl 2 rfl) ?_
  obtain ⟨hi, hf⟩ := q_grd_some hf
  obtain ⟨v3, e_v3, hf⟩ := q_lt_some hf
  refine xl_58 hC hP e_v3 hi d_GlyphPositionsModel_settle_28 ?_
  refine lv_iadd hx hb d_GlyphPositionsModel_settle_29 ?_
  refine lv_aload_n hx hb d_GlyphPositionsModel_settle_30 rfl (lv_at hl 1 rfl) ?_
  refine xg_36_ups hC hP wq_144 d_GlyphPositionsModel_settle_31 ?_
  refine lv_iload_n hx hb d_GlyphPositionsModel_settle_34 rfl (lv_at hl 0 rfl) ?_
  obtain ⟨hi, hf⟩ := q_grd_some hf
  obtain ⟨v4, e_v4, hf⟩ := q_lt_some hf
  refine xl_54 hC hP e_v4 hi d_GlyphPositionsModel_settle_35 ?_
  refine lv_iadd hx hb d_GlyphPositionsModel_settle_36 ?_
  obtain ⟨hi, hf⟩ := q_grd_some hf
  obtain ⟨s5, e_s5, hf⟩ := q_lt_some hf
  refine xs_54 hC hP hD hS e_s5 hi d_GlyphPositionsModel_settle_37 (fun H locs hP hS => ?_)
  refine lv_aload_n hx hb d_GlyphPositionsModel_settle_38 rfl (lv_at hl 1 rfl) ?_
  refine xg_36_isJoined hC hP wq_204 d_GlyphPositionsModel_settle_39 ?_
  refine lv_iload_n hx hb d_GlyphPositionsModel_settle_42 rfl (lv_at hl 2 rfl) ?_
  obtain ⟨hi, hf⟩ := q_grd_some hf
  obtain ⟨v6, e_v6, hf⟩ := q_lt_some hf
  refine xl_56 hC hP e_v6 hi d_GlyphPositionsModel_settle_43 ?_
  refine lv_if_ne (tgt := 162) hx hb d_GlyphPositionsModel_settle_44 (by decide) (fun c1 => ?_) (fun c1 => ?_)
  · rw [if_neg c1] at hf
    exact q_vret hC hr hlk hf hP hS d_GlyphPositionsModel_settle_162
  rw [if_pos c1] at hf
  refine lv_aload_n hx hb d_GlyphPositionsModel_settle_47 rfl (lv_at hl 1 rfl) ?_
  refine xg_36_rights hC hP wq_143 d_GlyphPositionsModel_settle_48 ?_
  refine lv_iload_n hx hb d_GlyphPositionsModel_settle_51 rfl (lv_at hl 2 rfl) ?_
  refine lv_aload_n hx hb d_GlyphPositionsModel_settle_52 rfl (lv_at hl 1 rfl) ?_
  refine xg_36_rights hC hP wq_143 d_GlyphPositionsModel_settle_53 ?_
  refine lv_iload_n hx hb d_GlyphPositionsModel_settle_56 rfl (lv_at hl 2 rfl) ?_
  obtain ⟨hi, hf⟩ := q_grd_some hf
  obtain ⟨v7, e_v7, hf⟩ := q_lt_some hf
  refine xl_53 hC hP e_v7 hi d_GlyphPositionsModel_settle_57 ?_
  refine lv_aload_n hx hb d_GlyphPositionsModel_settle_58 rfl (lv_at hl 1 rfl) ?_
  refine xg_36_hangRight hC hP wq_205 d_GlyphPositionsModel_settle_59 ?_
  refine lv_iload_n hx hb d_GlyphPositionsModel_settle_62 rfl (lv_at hl 2 rfl) ?_
  obtain ⟨hi, hf⟩ := q_grd_some hf
  obtain ⟨v8, e_v8, hf⟩ := q_lt_some hf
  refine xl_57 hC hP e_v8 hi d_GlyphPositionsModel_settle_63 ?_
  refine lv_iadd hx hb d_GlyphPositionsModel_settle_64 ?_
  refine lv_aload_n hx hb d_GlyphPositionsModel_settle_65 rfl (lv_at hl 1 rfl) ?_
  refine xg_36_rights hC hP wq_143 d_GlyphPositionsModel_settle_66 ?_
  refine lv_iload_n hx hb d_GlyphPositionsModel_settle_69 rfl (lv_at hl 0 rfl) ?_
  obtain ⟨hi, hf⟩ := q_grd_some hf
  obtain ⟨v9, e_v9, hf⟩ := q_lt_some hf
  refine xl_53 hC hP e_v9 hi d_GlyphPositionsModel_settle_70 ?_
  refine lv_iadd hx hb d_GlyphPositionsModel_settle_71 ?_
  obtain ⟨hi, hf⟩ := q_grd_some hf
  obtain ⟨s10, e_s10, hf⟩ := q_lt_some hf
  refine xs_53 hC hP hD hS e_s10 hi d_GlyphPositionsModel_settle_72 (fun H locs hP hS => ?_)
  refine lv_iload_n hx hb d_GlyphPositionsModel_settle_73 rfl (lv_at hl 0 rfl) ?_
  refine lv_istore_n (lv' := [(3, .int v1), (2, .int v1), (0, .ref (G.2.2 36)), (1, .int x1)]) hx hb d_GlyphPositionsModel_settle_74 rfl hl (by decide) rfl (fun ls hl => ?_)
  exact L_75 _ _ _ _ _ _ _ _ hf hP hS (lv_sub hl [2, 3, 1, 0] rfl)
def xGlyphPositionsModel_lookupAt (x1 : Int32) (st : QSt) : Option Int32 :=
  q_bn (xGlyphPositionsModel_f16 8 st) (fun r1 => q_bn (xGlyphPositionsModel_f16 ((r1 + 2) + (2 * x1)) st) (fun r2 => some (r1 + r2)))
set_option maxHeartbeats 4000000 in
set_option maxRecDepth 100000 in
theorem c_xGlyphPositionsModel_lookupAt (l : Launch) (G : XG) {x1 : Int32} {st : QSt} {ro : Int32} (hf : xGlyphPositionsModel_lookupAt x1 st = some ro) : q_Mp l y_GlyphPositionsModel_lookupAt b_GlyphPositionsModel_lookupAt 3 .int ({ frames := 1, cells := 0, slots := 0, locals := 21 } : Room) G.1 (xT G) (wX G) [.ref (G.2.2 36), .int x1] st ro := by
  refine q_Mp_of (by decide) (Nat.le_of_ble_eq_true rfl) (wX_fst G) ?_
  intro p e s m args below meth c ls hC hr hlk hT hP hS hl
  have hx := hC.1.1
  have hb := hC.1.2.1
  have hown := hC.1.2.2.2.1
  have hts := hC.1.2.2.2.2
  have hl : lv_has ls 3 [(0, .ref (G.2.2 36)), (1, .int x1)] := hl
  unfold xGlyphPositionsModel_lookupAt at hf
  refine lv_aload_n hx hb d_GlyphPositionsModel_lookupAt_0 rfl (lv_at hl 0 rfl) ?_
  refine lv_bipush (v := 8) hx hb d_GlyphPositionsModel_lookupAt_1 (by decide) ?_
  obtain ⟨r1, h_r1, hf⟩ := q_bn_some hf
  refine q_callVp (As := [.int 8]) (rest := []) (q0 := 36) hC (c_xGlyphPositionsModel_f16 l G h_r1) cal_GlyphPositionsModel_f16 wq_193 ⟨rfl, rfl, Nat.le_of_ble_eq_true rfl, Nat.le_of_ble_eq_true rfl⟩ rfl rfl hP hT hS rfl hl.1 rfl (Nat.le_of_ble_eq_true rfl) d_GlyphPositionsModel_lookupAt_3 (fun H locs hP hS => ?_)
  refine lv_istore_n (lv' := [(2, .int r1), (0, .ref (G.2.2 36)), (1, .int x1)]) hx hb d_GlyphPositionsModel_lookupAt_6 rfl hl (by decide) rfl (fun ls hl => ?_)
  refine lv_iload_n hx hb d_GlyphPositionsModel_lookupAt_7 rfl (lv_at hl 0 rfl) ?_
  refine lv_aload_n hx hb d_GlyphPositionsModel_lookupAt_8 rfl (lv_at hl 1 rfl) ?_
  refine lv_iload_n hx hb d_GlyphPositionsModel_lookupAt_9 rfl (lv_at hl 0 rfl) ?_
  refine lv_iconst (v := 2) hx hb d_GlyphPositionsModel_lookupAt_10 (by decide) ?_
  refine lv_iadd hx hb d_GlyphPositionsModel_lookupAt_11 ?_
  refine lv_iconst (v := 2) hx hb d_GlyphPositionsModel_lookupAt_12 (by decide) ?_
  refine lv_iload_n hx hb d_GlyphPositionsModel_lookupAt_13 rfl (lv_at hl 2 rfl) ?_
  refine lv_imul hx hb d_GlyphPositionsModel_lookupAt_14 ?_
  refine lv_iadd hx hb d_GlyphPositionsModel_lookupAt_15 ?_
  obtain ⟨r2, h_r2, hf⟩ := q_bn_some hf
  refine q_callVp (As := [.int ((r1 + 2) + (2 * x1))]) (rest := [.int r1]) (q0 := 36) hC (c_xGlyphPositionsModel_f16 l G h_r2) cal_GlyphPositionsModel_f16 wq_193 ⟨rfl, rfl, Nat.le_of_ble_eq_true rfl, Nat.le_of_ble_eq_true rfl⟩ rfl rfl hP hT hS rfl hl.1 rfl (Nat.le_of_ble_eq_true rfl) d_GlyphPositionsModel_lookupAt_16 (fun H locs hP hS => ?_)
  refine lv_iadd hx hb d_GlyphPositionsModel_lookupAt_19 ?_
  exact q_iretP hC hr hlk hf (by first | rfl | decide) hS d_GlyphPositionsModel_lookupAt_20
def xGlyphPositionsModel_typeOf (x1 : Int32) (st : QSt) : Option Int32 :=
  q_bn (xGlyphPositionsModel_f16 x1 st) (fun r1 => if r1 = 9 then (q_bn (xGlyphPositionsModel_f16 (x1 + 4) st) (fun r2 => if r2 ≤ 0 then (some 0) else (q_bn (xGlyphPositionsModel_f16 (x1 + 6) st) (fun r3 => q_bn (xGlyphPositionsModel_f16 ((x1 + r3) + 2) st) (fun r4 => some r4))))) else (some r1))
set_option maxHeartbeats 4000000 in
set_option maxRecDepth 100000 in
theorem c_xGlyphPositionsModel_typeOf (l : Launch) (G : XG) {x1 : Int32} {st : QSt} {ro : Int32} (hf : xGlyphPositionsModel_typeOf x1 st = some ro) : q_Mp l y_GlyphPositionsModel_typeOf b_GlyphPositionsModel_typeOf 3 .int ({ frames := 1, cells := 0, slots := 0, locals := 21 } : Room) G.1 (xT G) (wX G) [.ref (G.2.2 36), .int x1] st ro := by
  refine q_Mp_of (by decide) (Nat.le_of_ble_eq_true rfl) (wX_fst G) ?_
  intro p e s m args below meth c ls hC hr hlk hT hP hS hl
  have hx := hC.1.1
  have hb := hC.1.2.1
  have hown := hC.1.2.2.2.1
  have hts := hC.1.2.2.2.2
  have hl : lv_has ls 3 [(0, .ref (G.2.2 36)), (1, .int x1)] := hl
  unfold xGlyphPositionsModel_typeOf at hf
  refine lv_aload_n hx hb d_GlyphPositionsModel_typeOf_0 rfl (lv_at hl 0 rfl) ?_
  refine lv_iload_n hx hb d_GlyphPositionsModel_typeOf_1 rfl (lv_at hl 1 rfl) ?_
  obtain ⟨r1, h_r1, hf⟩ := q_bn_some hf
  refine q_callVp (As := [.int x1]) (rest := []) (q0 := 36) hC (c_xGlyphPositionsModel_f16 l G h_r1) cal_GlyphPositionsModel_f16 wq_193 ⟨rfl, rfl, Nat.le_of_ble_eq_true rfl, Nat.le_of_ble_eq_true rfl⟩ rfl rfl hP hT hS rfl hl.1 rfl (Nat.le_of_ble_eq_true rfl) d_GlyphPositionsModel_typeOf_2 (fun H locs hP hS => ?_)
  refine lv_istore_n (lv' := [(2, .int r1), (0, .ref (G.2.2 36)), (1, .int x1)]) hx hb d_GlyphPositionsModel_typeOf_5 rfl hl (by decide) rfl (fun ls hl => ?_)
  refine lv_iload_n hx hb d_GlyphPositionsModel_typeOf_6 rfl (lv_at hl 0 rfl) ?_
  refine lv_bipush (v := 9) hx hb d_GlyphPositionsModel_typeOf_7 (by decide) ?_
  refine lv_icmp_ne (tgt := 45) hx hb d_GlyphPositionsModel_typeOf_9 (by decide) (fun c1 => ?_) (fun c1 => ?_)
  · rw [if_neg c1] at hf
    refine lv_iload_n hx hb d_GlyphPositionsModel_typeOf_45 rfl (lv_at hl 0 rfl) ?_
    exact q_iretP hC hr hlk hf (by first | rfl | decide) hS d_GlyphPositionsModel_typeOf_46
  rw [if_pos c1] at hf
  refine lv_aload_n hx hb d_GlyphPositionsModel_typeOf_12 rfl (lv_at hl 1 rfl) ?_
  refine lv_iload_n hx hb d_GlyphPositionsModel_typeOf_13 rfl (lv_at hl 2 rfl) ?_
  refine lv_iconst (v := 4) hx hb d_GlyphPositionsModel_typeOf_14 (by decide) ?_
  refine lv_iadd hx hb d_GlyphPositionsModel_typeOf_15 ?_
  obtain ⟨r2, h_r2, hf⟩ := q_bn_some hf
  refine q_callVp (As := [.int (x1 + 4)]) (rest := []) (q0 := 36) hC (c_xGlyphPositionsModel_f16 l G h_r2) cal_GlyphPositionsModel_f16 wq_193 ⟨rfl, rfl, Nat.le_of_ble_eq_true rfl, Nat.le_of_ble_eq_true rfl⟩ rfl rfl hP hT hS rfl hl.1 rfl (Nat.le_of_ble_eq_true rfl) d_GlyphPositionsModel_typeOf_16 (fun H locs hP hS => ?_)
  refine lv_if_le (tgt := 41) hx hb d_GlyphPositionsModel_typeOf_19 (by decide) (fun c1 => ?_) (fun c1 => ?_)
  · rw [if_pos c1] at hf
    refine lv_iconst (v := 0) hx hb d_GlyphPositionsModel_typeOf_41 (by decide) ?_
    refine lv_goto (tgt := 46) hx hb d_GlyphPositionsModel_typeOf_42 (by decide) ?_
    exact q_iretP hC hr hlk hf (by first | rfl | decide) hS d_GlyphPositionsModel_typeOf_46
  rw [if_neg c1] at hf
  refine lv_aload_n hx hb d_GlyphPositionsModel_typeOf_22 rfl (lv_at hl 1 rfl) ?_
  refine lv_iload_n hx hb d_GlyphPositionsModel_typeOf_23 rfl (lv_at hl 2 rfl) ?_
  refine lv_aload_n hx hb d_GlyphPositionsModel_typeOf_24 rfl (lv_at hl 1 rfl) ?_
  refine lv_iload_n hx hb d_GlyphPositionsModel_typeOf_25 rfl (lv_at hl 2 rfl) ?_
  refine lv_bipush (v := 6) hx hb d_GlyphPositionsModel_typeOf_26 (by decide) ?_
  refine lv_iadd hx hb d_GlyphPositionsModel_typeOf_28 ?_
  obtain ⟨r3, h_r3, hf⟩ := q_bn_some hf
  refine q_callVp (As := [.int (x1 + 6)]) (rest := [.int x1, .ref (G.2.2 36)]) (q0 := 36) hC (c_xGlyphPositionsModel_f16 l G h_r3) cal_GlyphPositionsModel_f16 wq_193 ⟨rfl, rfl, Nat.le_of_ble_eq_true rfl, Nat.le_of_ble_eq_true rfl⟩ rfl rfl hP hT hS rfl hl.1 rfl (Nat.le_of_ble_eq_true rfl) d_GlyphPositionsModel_typeOf_29 (fun H locs hP hS => ?_)
  refine lv_iadd hx hb d_GlyphPositionsModel_typeOf_32 ?_
  refine lv_iconst (v := 2) hx hb d_GlyphPositionsModel_typeOf_33 (by decide) ?_
  refine lv_iadd hx hb d_GlyphPositionsModel_typeOf_34 ?_
  obtain ⟨r4, h_r4, hf⟩ := q_bn_some hf
  refine q_callVp (As := [.int ((x1 + r3) + 2)]) (rest := []) (q0 := 36) hC (c_xGlyphPositionsModel_f16 l G h_r4) cal_GlyphPositionsModel_f16 wq_193 ⟨rfl, rfl, Nat.le_of_ble_eq_true rfl, Nat.le_of_ble_eq_true rfl⟩ rfl rfl hP hT hS rfl hl.1 rfl (Nat.le_of_ble_eq_true rfl) d_GlyphPositionsModel_typeOf_35 (fun H locs hP hS => ?_)
  refine lv_goto (tgt := 46) hx hb d_GlyphPositionsModel_typeOf_38 (by decide) ?_
  exact q_iretP hC hr hlk hf (by first | rfl | decide) hS d_GlyphPositionsModel_typeOf_46
def xGlyphPositionsModel_rangeOf_4 (N : Nat) (st : QSt) (x1_4 : Int32) : Nat → Int32 → Int32 → Option Int32
  | 0, _, _ => none
  | n_4 + 1, x2_4, x3_4 => if (st.1 16) ≤ x3_4 then (some x2_4) else (q_grd (q_vpb x3_4 256) (q_lt (st.2 28 x3_4.toNatClampNeg) (fun v1 => if x1_4 < v1 then (xGlyphPositionsModel_rangeOf_4 N st x1_4 n_4 x2_4 (x3_4 + 1)) else (q_grd (q_vpb x3_4 256) (q_lt (st.2 29 x3_4.toNatClampNeg) (fun v2 => if v2 < x1_4 then (xGlyphPositionsModel_rangeOf_4 N st x1_4 n_4 x2_4 (x3_4 + 1)) else (xGlyphPositionsModel_rangeOf_4 N st x1_4 n_4 x3_4 (x3_4 + 1))))))))
def xGlyphPositionsModel_rangeOf (N : Nat) (x1 : Int32) (st : QSt) : Option Int32 :=
  xGlyphPositionsModel_rangeOf_4 N st x1 N (-1) 0
set_option maxHeartbeats 4000000 in
set_option maxRecDepth 100000 in
theorem c_xGlyphPositionsModel_rangeOf (l : Launch) (G : XG) {N : Nat} {x1 : Int32} {st : QSt} {ro : Int32} (hf : xGlyphPositionsModel_rangeOf N x1 st = some ro) : q_Mp l y_GlyphPositionsModel_rangeOf b_GlyphPositionsModel_rangeOf 4 .int ({ frames := 0, cells := 0, slots := 0, locals := 0 } : Room) G.1 (xT G) (wX G) [.ref (G.2.2 36), .int x1] st ro := by
  refine q_Mp_of (by decide) (Nat.le_of_ble_eq_true rfl) (wX_fst G) ?_
  intro p e s m args below meth c ls hC hr hlk hT hP hS hl
  have hx := hC.1.1
  have hb := hC.1.2.1
  have hown := hC.1.2.2.2.1
  have hts := hC.1.2.2.2.2
  have hl : lv_has ls 4 [(0, .ref (G.2.2 36)), (1, .int x1)] := hl
  have L_4 : ∀ (x1_4 : Int32) (n_4 : Nat) (x2_4 x3_4 : Int32) (H : Heap) (locs : List Loc) (ls : Array Slot), xGlyphPositionsModel_rangeOf_4 N st x1_4 n_4 x2_4 x3_4 = some ro → va_P G.1 vwCl (wX G st) H → va_S (fun _ => False) s.heap H locs → lv_has ls 4 [(0, .ref (G.2.2 36)), (1, .int x1_4), (2, .int x2_4), (3, .int x3_4)] → W p l e ({ frames := 0, cells := 0, slots := 0, locals := 0 } : Room) s m args below meth c H locs 0 0 (q_Zp below args s ro) (F0 m 4 ls []) := by
    intro x1_4 n_4
    induction n_4 with
    | zero => intro _ _ _ _ _ hf; exact absurd hf (by simp [xGlyphPositionsModel_rangeOf_4])
    | succ n_4 ih_4 =>
      intro x2_4 x3_4 H locs ls hf hP hS hl
      rw [xGlyphPositionsModel_rangeOf_4] at hf
      refine lv_iload_n hx hb d_GlyphPositionsModel_rangeOf_4 rfl (lv_at hl 3 rfl) ?_
      refine lv_aload_n hx hb d_GlyphPositionsModel_rangeOf_5 rfl (lv_at hl 0 rfl) ?_
      refine xg_36_ranges hC hP wq_126 d_GlyphPositionsModel_rangeOf_6 ?_
      refine lv_icmp_ge (tgt := 44) hx hb d_GlyphPositionsModel_rangeOf_9 (by decide) (fun c1 => ?_) (fun c1 => ?_)
      · rw [if_pos c1] at hf
        refine lv_iload_n hx hb d_GlyphPositionsModel_rangeOf_44 rfl (lv_at hl 2 rfl) ?_
        exact q_iretP hC hr hlk hf (by first | rfl | decide) hS d_GlyphPositionsModel_rangeOf_45
      rw [if_neg c1] at hf
      refine lv_iload_n hx hb d_GlyphPositionsModel_rangeOf_12 rfl (lv_at hl 1 rfl) ?_
      refine lv_aload_n hx hb d_GlyphPositionsModel_rangeOf_13 rfl (lv_at hl 0 rfl) ?_
      refine xg_36_firsts hC hP wq_125 d_GlyphPositionsModel_rangeOf_14 ?_
      refine lv_iload_n hx hb d_GlyphPositionsModel_rangeOf_17 rfl (lv_at hl 3 rfl) ?_
      obtain ⟨hi, hf⟩ := q_grd_some hf
      obtain ⟨v1, e_v1, hf⟩ := q_lt_some hf
      refine xl_39 hC hP e_v1 hi d_GlyphPositionsModel_rangeOf_18 ?_
      refine lv_icmp_lt (tgt := 36) hx hb d_GlyphPositionsModel_rangeOf_19 (by decide) (fun c1 => ?_) (fun c1 => ?_)
      · rw [if_pos c1] at hf
        refine lv_iload_n hx hb d_GlyphPositionsModel_rangeOf_36 rfl (lv_at hl 2 rfl) ?_
        refine lv_istore_n (lv' := [(2, .int x2_4), (0, .ref (G.2.2 36)), (1, .int x1_4), (3, .int x3_4)]) hx hb d_GlyphPositionsModel_rangeOf_37 rfl hl (by decide) rfl (fun ls hl => ?_)
        refine lv_iinc (v := x3_4 + 1) (lv' := [(3, .int (x3_4 + 1)), (2, .int x2_4), (0, .ref (G.2.2 36)), (1, .int x1_4)]) hx hb d_GlyphPositionsModel_rangeOf_38 hl (k := 3) rfl rfl (by decide) rfl (fun ls hl => ?_)
        refine lv_goto (tgt := 4) hx hb d_GlyphPositionsModel_rangeOf_41 (by decide) ?_
        exact ih_4 _ _ _ _ _ hf hP hS (lv_sub hl [2, 3, 1, 0] rfl)
      rw [if_neg c1] at hf
      refine lv_iload_n hx hb d_GlyphPositionsModel_rangeOf_22 rfl (lv_at hl 1 rfl) ?_
      refine lv_aload_n hx hb d_GlyphPositionsModel_rangeOf_23 rfl (lv_at hl 0 rfl) ?_
      refine xg_36_lasts hC hP wq_127 d_GlyphPositionsModel_rangeOf_24 ?_
      refine lv_iload_n hx hb d_GlyphPositionsModel_rangeOf_27 rfl (lv_at hl 3 rfl) ?_
      obtain ⟨hi, hf⟩ := q_grd_some hf
      obtain ⟨v2, e_v2, hf⟩ := q_lt_some hf
      refine xl_40 hC hP e_v2 hi d_GlyphPositionsModel_rangeOf_28 ?_
      refine lv_icmp_gt (tgt := 36) hx hb d_GlyphPositionsModel_rangeOf_29 (by decide) (fun c1 => ?_) (fun c1 => ?_)
      · rw [if_pos c1] at hf
        refine lv_iload_n hx hb d_GlyphPositionsModel_rangeOf_36 rfl (lv_at hl 2 rfl) ?_
        refine lv_istore_n (lv' := [(2, .int x2_4), (0, .ref (G.2.2 36)), (1, .int x1_4), (3, .int x3_4)]) hx hb d_GlyphPositionsModel_rangeOf_37 rfl hl (by decide) rfl (fun ls hl => ?_)
        refine lv_iinc (v := x3_4 + 1) (lv' := [(3, .int (x3_4 + 1)), (2, .int x2_4), (0, .ref (G.2.2 36)), (1, .int x1_4)]) hx hb d_GlyphPositionsModel_rangeOf_38 hl (k := 3) rfl rfl (by decide) rfl (fun ls hl => ?_)
        refine lv_goto (tgt := 4) hx hb d_GlyphPositionsModel_rangeOf_41 (by decide) ?_
        exact ih_4 _ _ _ _ _ hf hP hS (lv_sub hl [2, 3, 1, 0] rfl)
      rw [if_neg c1] at hf
      refine lv_iload_n hx hb d_GlyphPositionsModel_rangeOf_32 rfl (lv_at hl 3 rfl) ?_
      refine lv_goto (tgt := 37) hx hb d_GlyphPositionsModel_rangeOf_33 (by decide) ?_
      refine lv_istore_n (lv' := [(2, .int x3_4), (0, .ref (G.2.2 36)), (1, .int x1_4), (3, .int x3_4)]) hx hb d_GlyphPositionsModel_rangeOf_37 rfl hl (by decide) rfl (fun ls hl => ?_)
      refine lv_iinc (v := x3_4 + 1) (lv' := [(3, .int (x3_4 + 1)), (2, .int x3_4), (0, .ref (G.2.2 36)), (1, .int x1_4)]) hx hb d_GlyphPositionsModel_rangeOf_38 hl (k := 3) rfl rfl (by decide) rfl (fun ls hl => ?_)
      refine lv_goto (tgt := 4) hx hb d_GlyphPositionsModel_rangeOf_41 (by decide) ?_
      exact ih_4 _ _ _ _ _ hf hP hS (lv_sub hl [2, 3, 1, 0] rfl)
  unfold xGlyphPositionsModel_rangeOf at hf
  refine lv_iconst (v := (-1)) hx hb d_GlyphPositionsModel_rangeOf_0 (by decide) ?_
  refine lv_istore_n (lv' := [(2, .int (-1)), (0, .ref (G.2.2 36)), (1, .int x1)]) hx hb d_GlyphPositionsModel_rangeOf_1 rfl hl (by decide) rfl (fun ls hl => ?_)
  refine lv_iconst (v := 0) hx hb d_GlyphPositionsModel_rangeOf_2 (by decide) ?_
  refine lv_istore_n (lv' := [(3, .int 0), (2, .int (-1)), (0, .ref (G.2.2 36)), (1, .int x1)]) hx hb d_GlyphPositionsModel_rangeOf_3 rfl hl (by decide) rfl (fun ls hl => ?_)
  exact L_4 _ _ _ _ _ _ _ hf hP hS (lv_sub hl [2, 3, 1, 0] rfl)
def xGlyphPositionsModel_isPassed_58 (N : Nat) (st : QSt) (x1_58 x4_58 x5_58 : Int32) (w0_58 : Int32) : Option Int32 :=
  if w0_58 = 0 then (if x4_58 = 3 then (if (x1_58 / 256) = 0 then (some 0) else (if x5_58 = (x1_58 / 256) then (some 0) else (some 1))) else (some 0)) else (some 1)
def xGlyphPositionsModel_isPassed_57 (N : Nat) (st : QSt) (x1_57 x4_57 x5_57 : Int32) : Option Int32 :=
  xGlyphPositionsModel_isPassed_58 N st x1_57 x4_57 x5_57 0
def xGlyphPositionsModel_isPassed_36 (N : Nat) (st : QSt) (x1_36 x4_36 : Int32) (w0_36 : Int32) : Option Int32 :=
  if x4_36 ≤ 0 then (xGlyphPositionsModel_isPassed_57 N st x1_36 x4_36 w0_36) else (if ((x1_36 >>> (x4_36 &&& 31)) &&& 1) = 1 then (xGlyphPositionsModel_isPassed_58 N st x1_36 x4_36 w0_36 1) else (xGlyphPositionsModel_isPassed_57 N st x1_36 x4_36 w0_36))
def xGlyphPositionsModel_isPassed_20 (N : Nat) (st : QSt) (x1_20 x3_20 : Int32) (w0_20 : Int32) : Option Int32 :=
  if 0 ≤ x3_20 then (q_grd (q_vpb x3_20 256) (q_lt (st.2 31 x3_20.toNatClampNeg) (fun v3 => xGlyphPositionsModel_isPassed_36 N st x1_20 w0_20 v3))) else (xGlyphPositionsModel_isPassed_36 N st x1_20 w0_20 0)
def xGlyphPositionsModel_isPassed (N : Nat) (x1 x2 : Int32) (st : QSt) : Option Int32 :=
  q_bn (xGlyphPositionsModel_rangeOf N x2 st) (fun r1 => if 0 ≤ r1 then (q_grd (q_vpb r1 256) (q_lt (st.2 30 r1.toNatClampNeg) (fun v2 => xGlyphPositionsModel_isPassed_20 N st x1 r1 v2))) else (xGlyphPositionsModel_isPassed_20 N st x1 r1 0))
set_option maxHeartbeats 4000000 in
set_option maxRecDepth 100000 in
theorem c_xGlyphPositionsModel_isPassed (l : Launch) (G : XG) {N : Nat} {x1 x2 : Int32} {st : QSt} {ro : Int32} (hf : xGlyphPositionsModel_isPassed N x1 x2 st = some ro) : q_Mp l y_GlyphPositionsModel_isPassed b_GlyphPositionsModel_isPassed 7 .boolean ({ frames := 1, cells := 0, slots := 0, locals := 23 } : Room) G.1 (xT G) (wX G) [.ref (G.2.2 36), .int x1, .int x2] st ro := by
  refine q_Mp_of (by decide) (Nat.le_of_ble_eq_true rfl) (wX_fst G) ?_
  intro p e s m args below meth c ls hC hr hlk hT hP hS hl
  have hx := hC.1.1
  have hb := hC.1.2.1
  have hown := hC.1.2.2.2.1
  have hts := hC.1.2.2.2.2
  have hl : lv_has ls 7 [(0, .ref (G.2.2 36)), (1, .int x1), (2, .int x2)] := hl
  have J_58 : ∀ (x1_58 x4_58 x5_58 w0_58 : Int32) (H : Heap) (locs : List Loc) (ls : Array Slot), xGlyphPositionsModel_isPassed_58 N st x1_58 x4_58 x5_58 w0_58 = some ro → va_P G.1 vwCl (wX G st) H → va_S (fun _ => False) s.heap H locs → lv_has ls 7 [(1, .int x1_58), (4, .int x4_58), (5, .int x5_58)] → W p l e ({ frames := 1, cells := 0, slots := 0, locals := 23 } : Room) s m args below meth c H locs 0 0 (q_Zp below args s ro) (F0 m 58 ls [.int w0_58]) := by
    intro x1_58 x4_58 x5_58 w0_58 H locs ls hf hP hS hl
    unfold xGlyphPositionsModel_isPassed_58 at hf
    refine lv_istore (lv' := [(6, .int w0_58), (1, .int x1_58), (4, .int x4_58), (5, .int x5_58)]) hx hb d_GlyphPositionsModel_isPassed_58 hl (by decide) rfl (fun ls hl => ?_)
    refine lv_iload hx hb d_GlyphPositionsModel_isPassed_60 (lv_at hl 0 rfl) ?_
    refine lv_if_ne (tgt := 89) hx hb d_GlyphPositionsModel_isPassed_62 (by decide) (fun c1 => ?_) (fun c1 => ?_)
    · rw [if_neg c1] at hf
      refine lv_iconst (v := 1) hx hb d_GlyphPositionsModel_isPassed_89 (by decide) ?_
      refine lv_goto (tgt := 94) hx hb d_GlyphPositionsModel_isPassed_90 (by decide) ?_
      exact q_iretP hC hr hlk hf (by first | rfl | decide) hS d_GlyphPositionsModel_isPassed_94
    rw [if_pos c1] at hf
    refine lv_iload hx hb d_GlyphPositionsModel_isPassed_65 (lv_at hl 2 rfl) ?_
    refine lv_iconst (v := 3) hx hb d_GlyphPositionsModel_isPassed_67 (by decide) ?_
    refine lv_icmp_ne (tgt := 93) hx hb d_GlyphPositionsModel_isPassed_68 (by decide) (fun c1 => ?_) (fun c1 => ?_)
    · rw [if_neg c1] at hf
      refine lv_iconst (v := 0) hx hb d_GlyphPositionsModel_isPassed_93 (by decide) ?_
      exact q_iretP hC hr hlk hf (by first | rfl | decide) hS d_GlyphPositionsModel_isPassed_94
    rw [if_pos c1] at hf
    refine lv_iload_n hx hb d_GlyphPositionsModel_isPassed_71 rfl (lv_at hl 1 rfl) ?_
    refine lv_sipush (v := 256) hx hb d_GlyphPositionsModel_isPassed_72 (by decide) ?_
    refine lv_idiv hx hb d_GlyphPositionsModel_isPassed_75 (by decide) ?_
    refine lv_if_eq (tgt := 93) hx hb d_GlyphPositionsModel_isPassed_76 (by decide) (fun c1 => ?_) (fun c1 => ?_)
    · rw [if_pos c1] at hf
      refine lv_iconst (v := 0) hx hb d_GlyphPositionsModel_isPassed_93 (by decide) ?_
      exact q_iretP hC hr hlk hf (by first | rfl | decide) hS d_GlyphPositionsModel_isPassed_94
    rw [if_neg c1] at hf
    refine lv_iload hx hb d_GlyphPositionsModel_isPassed_79 (lv_at hl 3 rfl) ?_
    refine lv_iload_n hx hb d_GlyphPositionsModel_isPassed_81 rfl (lv_at hl 1 rfl) ?_
    refine lv_sipush (v := 256) hx hb d_GlyphPositionsModel_isPassed_82 (by decide) ?_
    refine lv_idiv hx hb d_GlyphPositionsModel_isPassed_85 (by decide) ?_
    refine lv_icmp_eq (tgt := 93) hx hb d_GlyphPositionsModel_isPassed_86 (by decide) (fun c1 => ?_) (fun c1 => ?_)
    · rw [if_pos c1] at hf
      refine lv_iconst (v := 0) hx hb d_GlyphPositionsModel_isPassed_93 (by decide) ?_
      exact q_iretP hC hr hlk hf (by first | rfl | decide) hS d_GlyphPositionsModel_isPassed_94
    rw [if_neg c1] at hf
    refine lv_iconst (v := 1) hx hb d_GlyphPositionsModel_isPassed_89 (by decide) ?_
    refine lv_goto (tgt := 94) hx hb d_GlyphPositionsModel_isPassed_90 (by decide) ?_
    exact q_iretP hC hr hlk hf (by first | rfl | decide) hS d_GlyphPositionsModel_isPassed_94
  have J_57 : ∀ (x1_57 x4_57 x5_57 : Int32) (H : Heap) (locs : List Loc) (ls : Array Slot), xGlyphPositionsModel_isPassed_57 N st x1_57 x4_57 x5_57 = some ro → va_P G.1 vwCl (wX G st) H → va_S (fun _ => False) s.heap H locs → lv_has ls 7 [(1, .int x1_57), (4, .int x4_57), (5, .int x5_57)] → W p l e ({ frames := 1, cells := 0, slots := 0, locals := 23 } : Room) s m args below meth c H locs 0 0 (q_Zp below args s ro) (F0 m 57 ls []) := by
    intro x1_57 x4_57 x5_57 H locs ls hf hP hS hl
    unfold xGlyphPositionsModel_isPassed_57 at hf
    refine lv_iconst (v := 0) hx hb d_GlyphPositionsModel_isPassed_57 (by decide) ?_
    exact J_58 _ _ _ _ _ _ _ hf hP hS hl
  have J_36 : ∀ (x1_36 x4_36 w0_36 : Int32) (H : Heap) (locs : List Loc) (ls : Array Slot), xGlyphPositionsModel_isPassed_36 N st x1_36 x4_36 w0_36 = some ro → va_P G.1 vwCl (wX G st) H → va_S (fun _ => False) s.heap H locs → lv_has ls 7 [(1, .int x1_36), (4, .int x4_36)] → W p l e ({ frames := 1, cells := 0, slots := 0, locals := 23 } : Room) s m args below meth c H locs 0 0 (q_Zp below args s ro) (F0 m 36 ls [.int w0_36]) := by
    intro x1_36 x4_36 w0_36 H locs ls hf hP hS hl
    unfold xGlyphPositionsModel_isPassed_36 at hf
    refine lv_istore (lv' := [(5, .int w0_36), (1, .int x1_36), (4, .int x4_36)]) hx hb d_GlyphPositionsModel_isPassed_36 hl (by decide) rfl (fun ls hl => ?_)
    refine lv_iload hx hb d_GlyphPositionsModel_isPassed_38 (lv_at hl 2 rfl) ?_
    refine lv_if_le (tgt := 57) hx hb d_GlyphPositionsModel_isPassed_40 (by decide) (fun c1 => ?_) (fun c1 => ?_)
    · rw [if_pos c1] at hf
      exact J_57 _ _ _ _ _ _ hf hP hS (lv_sub hl [1, 2, 0] rfl)
    rw [if_neg c1] at hf
    refine lv_iload_n hx hb d_GlyphPositionsModel_isPassed_43 rfl (lv_at hl 1 rfl) ?_
    refine lv_iload hx hb d_GlyphPositionsModel_isPassed_44 (lv_at hl 2 rfl) ?_
    refine lv_ishr hx hb d_GlyphPositionsModel_isPassed_46 ?_
    refine lv_iconst (v := 1) hx hb d_GlyphPositionsModel_isPassed_47 (by decide) ?_
    refine lv_iand hx hb d_GlyphPositionsModel_isPassed_48 ?_
    refine lv_iconst (v := 1) hx hb d_GlyphPositionsModel_isPassed_49 (by decide) ?_
    refine lv_icmp_ne (tgt := 57) hx hb d_GlyphPositionsModel_isPassed_50 (by decide) (fun c1 => ?_) (fun c1 => ?_)
    · rw [if_neg c1] at hf
      exact J_57 _ _ _ _ _ _ hf hP hS (lv_sub hl [1, 2, 0] rfl)
    rw [if_pos c1] at hf
    refine lv_iconst (v := 1) hx hb d_GlyphPositionsModel_isPassed_53 (by decide) ?_
    refine lv_goto (tgt := 58) hx hb d_GlyphPositionsModel_isPassed_54 (by decide) ?_
    exact J_58 _ _ _ _ _ _ _ hf hP hS (lv_sub hl [1, 2, 0] rfl)
  have J_20 : ∀ (x1_20 x3_20 w0_20 : Int32) (H : Heap) (locs : List Loc) (ls : Array Slot), xGlyphPositionsModel_isPassed_20 N st x1_20 x3_20 w0_20 = some ro → va_P G.1 vwCl (wX G st) H → va_S (fun _ => False) s.heap H locs → lv_has ls 7 [(0, .ref (G.2.2 36)), (1, .int x1_20), (3, .int x3_20)] → W p l e ({ frames := 1, cells := 0, slots := 0, locals := 23 } : Room) s m args below meth c H locs 0 0 (q_Zp below args s ro) (F0 m 20 ls [.int w0_20]) := by
    intro x1_20 x3_20 w0_20 H locs ls hf hP hS hl
    unfold xGlyphPositionsModel_isPassed_20 at hf
    refine lv_istore (lv' := [(4, .int w0_20), (0, .ref (G.2.2 36)), (1, .int x1_20), (3, .int x3_20)]) hx hb d_GlyphPositionsModel_isPassed_20 hl (by decide) rfl (fun ls hl => ?_)
    refine lv_iload_n hx hb d_GlyphPositionsModel_isPassed_22 rfl (lv_at hl 3 rfl) ?_
    refine lv_if_ge (tgt := 30) hx hb d_GlyphPositionsModel_isPassed_23 (by decide) (fun c1 => ?_) (fun c1 => ?_)
    rotate_left
    · rw [if_neg c1] at hf
      refine lv_iconst (v := 0) hx hb d_GlyphPositionsModel_isPassed_26 (by decide) ?_
      refine lv_goto (tgt := 36) hx hb d_GlyphPositionsModel_isPassed_27 (by decide) ?_
      exact J_36 _ _ _ _ _ _ hf hP hS (lv_sub hl [2, 0] rfl)
    rw [if_pos c1] at hf
    refine lv_aload_n hx hb d_GlyphPositionsModel_isPassed_30 rfl (lv_at hl 1 rfl) ?_
    refine xg_36_marks hC hP wq_129 d_GlyphPositionsModel_isPassed_31 ?_
    refine lv_iload_n hx hb d_GlyphPositionsModel_isPassed_34 rfl (lv_at hl 3 rfl) ?_
    obtain ⟨hi, hf⟩ := q_grd_some hf
    obtain ⟨v3, e_v3, hf⟩ := q_lt_some hf
    refine xl_42 hC hP e_v3 hi d_GlyphPositionsModel_isPassed_35 ?_
    exact J_36 _ _ _ _ _ _ hf hP hS (lv_sub hl [2, 0] rfl)
  unfold xGlyphPositionsModel_isPassed at hf
  refine lv_aload_n hx hb d_GlyphPositionsModel_isPassed_0 rfl (lv_at hl 0 rfl) ?_
  refine lv_iload_n hx hb d_GlyphPositionsModel_isPassed_1 rfl (lv_at hl 2 rfl) ?_
  obtain ⟨r1, h_r1, hf⟩ := q_bn_some hf
  refine q_callVp (As := [.int x2]) (rest := []) (q0 := 36) hC (c_xGlyphPositionsModel_rangeOf l G h_r1) cal_GlyphPositionsModel_rangeOf wq_206 ⟨rfl, rfl, Nat.le_of_ble_eq_true rfl, Nat.le_of_ble_eq_true rfl⟩ rfl rfl hP hT hS rfl hl.1 rfl (Nat.le_of_ble_eq_true rfl) d_GlyphPositionsModel_isPassed_2 (fun H locs hP hS => ?_)
  refine lv_istore_n (lv' := [(3, .int r1), (0, .ref (G.2.2 36)), (1, .int x1), (2, .int x2)]) hx hb d_GlyphPositionsModel_isPassed_5 rfl hl (by decide) rfl (fun ls hl => ?_)
  refine lv_iload_n hx hb d_GlyphPositionsModel_isPassed_6 rfl (lv_at hl 0 rfl) ?_
  refine lv_if_ge (tgt := 14) hx hb d_GlyphPositionsModel_isPassed_7 (by decide) (fun c1 => ?_) (fun c1 => ?_)
  rotate_left
  · rw [if_neg c1] at hf
    refine lv_iconst (v := 0) hx hb d_GlyphPositionsModel_isPassed_10 (by decide) ?_
    refine lv_goto (tgt := 20) hx hb d_GlyphPositionsModel_isPassed_11 (by decide) ?_
    exact J_20 _ _ _ _ _ _ hf hP hS (lv_sub hl [1, 2, 0] rfl)
  rw [if_pos c1] at hf
  refine lv_aload_n hx hb d_GlyphPositionsModel_isPassed_14 rfl (lv_at hl 1 rfl) ?_
  refine xg_36_kinds hC hP wq_128 d_GlyphPositionsModel_isPassed_15 ?_
  refine lv_iload_n hx hb d_GlyphPositionsModel_isPassed_18 rfl (lv_at hl 0 rfl) ?_
  obtain ⟨hi, hf⟩ := q_grd_some hf
  obtain ⟨v2, e_v2, hf⟩ := q_lt_some hf
  refine xl_41 hC hP e_v2 hi d_GlyphPositionsModel_isPassed_19 ?_
  exact J_20 _ _ _ _ _ _ hf hP hS (lv_sub hl [1, 2, 0] rfl)
def xGlyphPositionsModel_subtableAt (x1 x2 : Int32) (st : QSt) : Option Int32 :=
  q_bn (xGlyphPositionsModel_f16 ((x1 + 6) + (2 * x2)) st) (fun r1 => q_lt (x1 + r1) (fun x3_1002 => q_bn (xGlyphPositionsModel_f16 x1 st) (fun r3 => if r3 = 9 then (q_bn (xGlyphPositionsModel_f32 (x3_1002 + 4) st) (fun r4 => some (x3_1002 + r4))) else (some x3_1002))))
set_option maxHeartbeats 4000000 in
set_option maxRecDepth 100000 in
theorem c_xGlyphPositionsModel_subtableAt (l : Launch) (G : XG) {x1 x2 : Int32} {st : QSt} {ro : Int32} (hf : xGlyphPositionsModel_subtableAt x1 x2 st = some ro) : q_Mp l y_GlyphPositionsModel_subtableAt b_GlyphPositionsModel_subtableAt 4 .int ({ frames := 2, cells := 0, slots := 0, locals := 42 } : Room) G.1 (xT G) (wX G) [.ref (G.2.2 36), .int x1, .int x2] st ro := by
  refine q_Mp_of (by decide) (Nat.le_of_ble_eq_true rfl) (wX_fst G) ?_
  intro p e s m args below meth c ls hC hr hlk hT hP hS hl
  have hx := hC.1.1
  have hb := hC.1.2.1
  have hown := hC.1.2.2.2.1
  have hts := hC.1.2.2.2.2
  have hl : lv_has ls 4 [(0, .ref (G.2.2 36)), (1, .int x1), (2, .int x2)] := hl
  unfold xGlyphPositionsModel_subtableAt at hf
  refine lv_iload_n hx hb d_GlyphPositionsModel_subtableAt_0 rfl (lv_at hl 1 rfl) ?_
  refine lv_aload_n hx hb d_GlyphPositionsModel_subtableAt_1 rfl (lv_at hl 0 rfl) ?_
  refine lv_iload_n hx hb d_GlyphPositionsModel_subtableAt_2 rfl (lv_at hl 1 rfl) ?_
  refine lv_bipush (v := 6) hx hb d_GlyphPositionsModel_subtableAt_3 (by decide) ?_
  refine lv_iadd hx hb d_GlyphPositionsModel_subtableAt_5 ?_
  refine lv_iconst (v := 2) hx hb d_GlyphPositionsModel_subtableAt_6 (by decide) ?_
  refine lv_iload_n hx hb d_GlyphPositionsModel_subtableAt_7 rfl (lv_at hl 2 rfl) ?_
  refine lv_imul hx hb d_GlyphPositionsModel_subtableAt_8 ?_
  refine lv_iadd hx hb d_GlyphPositionsModel_subtableAt_9 ?_
  obtain ⟨r1, h_r1, hf⟩ := q_bn_some hf
  refine q_callVp (As := [.int ((x1 + 6) + (2 * x2))]) (rest := [.int x1]) (q0 := 36) hC (c_xGlyphPositionsModel_f16 l G h_r1) cal_GlyphPositionsModel_f16 wq_193 ⟨rfl, rfl, Nat.le_of_ble_eq_true rfl, Nat.le_of_ble_eq_true rfl⟩ rfl rfl hP hT hS rfl hl.1 rfl (Nat.le_of_ble_eq_true rfl) d_GlyphPositionsModel_subtableAt_10 (fun H locs hP hS => ?_)
  refine lv_iadd hx hb d_GlyphPositionsModel_subtableAt_13 ?_
  obtain ⟨x3_1002, e_x3_1002, hf⟩ := q_lt_some hf
  refine q_topi e_x3_1002 ?_
  refine lv_istore_n (lv' := [(3, .int x3_1002), (0, .ref (G.2.2 36)), (1, .int x1), (2, .int x2)]) hx hb d_GlyphPositionsModel_subtableAt_14 rfl hl (by decide) rfl (fun ls hl => ?_)
  refine lv_aload_n hx hb d_GlyphPositionsModel_subtableAt_15 rfl (lv_at hl 1 rfl) ?_
  refine lv_iload_n hx hb d_GlyphPositionsModel_subtableAt_16 rfl (lv_at hl 2 rfl) ?_
  obtain ⟨r3, h_r3, hf⟩ := q_bn_some hf
  refine q_callVp (As := [.int x1]) (rest := []) (q0 := 36) hC (c_xGlyphPositionsModel_f16 l G h_r3) cal_GlyphPositionsModel_f16 wq_193 ⟨rfl, rfl, Nat.le_of_ble_eq_true rfl, Nat.le_of_ble_eq_true rfl⟩ rfl rfl hP hT hS rfl hl.1 rfl (Nat.le_of_ble_eq_true rfl) d_GlyphPositionsModel_subtableAt_17 (fun H locs hP hS => ?_)
  refine lv_bipush (v := 9) hx hb d_GlyphPositionsModel_subtableAt_20 (by decide) ?_
  refine lv_icmp_ne (tgt := 37) hx hb d_GlyphPositionsModel_subtableAt_22 (by decide) (fun c1 => ?_) (fun c1 => ?_)
  · rw [if_neg c1] at hf
    refine lv_iload_n hx hb d_GlyphPositionsModel_subtableAt_37 rfl (lv_at hl 0 rfl) ?_
    exact q_iretP hC hr hlk hf (by first | rfl | decide) hS d_GlyphPositionsModel_subtableAt_38
  rw [if_pos c1] at hf
  refine lv_iload_n hx hb d_GlyphPositionsModel_subtableAt_25 rfl (lv_at hl 0 rfl) ?_
  refine lv_aload_n hx hb d_GlyphPositionsModel_subtableAt_26 rfl (lv_at hl 1 rfl) ?_
  refine lv_iload_n hx hb d_GlyphPositionsModel_subtableAt_27 rfl (lv_at hl 0 rfl) ?_
  refine lv_iconst (v := 4) hx hb d_GlyphPositionsModel_subtableAt_28 (by decide) ?_
  refine lv_iadd hx hb d_GlyphPositionsModel_subtableAt_29 ?_
  obtain ⟨r4, h_r4, hf⟩ := q_bn_some hf
  refine q_callVp (As := [.int (x3_1002 + 4)]) (rest := [.int x3_1002]) (q0 := 36) hC (c_xGlyphPositionsModel_f32 l G h_r4) cal_GlyphPositionsModel_f32 wq_194 ⟨rfl, rfl, Nat.le_of_ble_eq_true rfl, Nat.le_of_ble_eq_true rfl⟩ rfl rfl hP hT hS rfl hl.1 rfl (Nat.le_of_ble_eq_true rfl) d_GlyphPositionsModel_subtableAt_30 (fun H locs hP hS => ?_)
  refine lv_iadd hx hb d_GlyphPositionsModel_subtableAt_33 ?_
  refine lv_goto (tgt := 38) hx hb d_GlyphPositionsModel_subtableAt_34 (by decide) ?_
  exact q_iretP hC hr hlk hf (by first | rfl | decide) hS d_GlyphPositionsModel_subtableAt_38
def xGlyphPositionsModel_indexIn_90 (N : Nat) (st : QSt) (rec_12 : Int32 → Int32 → Option Int32) (x1_12 x2_12 x3_12 x4_90 x5_90 x7_90 x8_90 : Int32) (w0_90 : Int32) : Option Int32 :=
  if x2_12 < x7_90 then (rec_12 x4_90 (x5_90 + 1)) else (if x8_90 < x2_12 then (rec_12 x4_90 (x5_90 + 1)) else (q_lt ((w0_90 + x2_12) - x7_90) (fun x4_1007 => rec_12 x4_1007 (x5_90 + 1))))
def xGlyphPositionsModel_indexIn_70 (N : Nat) (st : QSt) (rec_12 : Int32 → Int32 → Option Int32) (x1_12 x2_12 x3_12 x4_70 x5_70 x6_70 x7_70 : Int32) (w0_70 : Int32) : Option Int32 :=
  if x3_12 = 1 then (xGlyphPositionsModel_indexIn_90 N st rec_12 x1_12 x2_12 x3_12 x4_70 x5_70 x7_70 w0_70 x5_70) else (q_bn (xGlyphPositionsModel_f16 (x6_70 + 4) st) (fun r6 => xGlyphPositionsModel_indexIn_90 N st rec_12 x1_12 x2_12 x3_12 x4_70 x5_70 x7_70 w0_70 r6))
def xGlyphPositionsModel_indexIn_38 (N : Nat) (st : QSt) (rec_12 : Int32 → Int32 → Option Int32) (x1_12 x2_12 x3_12 x4_38 x5_38 : Int32) (w0_38 w1_38 : Int32) : Option Int32 :=
  q_lt (w0_38 + (w1_38 * x5_38)) (fun x6_1003 => q_bn (xGlyphPositionsModel_f16 x6_1003 st) (fun r4 => if x3_12 = 1 then (xGlyphPositionsModel_indexIn_70 N st rec_12 x1_12 x2_12 x3_12 x4_38 x5_38 x6_1003 r4 r4) else (q_bn (xGlyphPositionsModel_f16 (x6_1003 + 2) st) (fun r5 => xGlyphPositionsModel_indexIn_70 N st rec_12 x1_12 x2_12 x3_12 x4_38 x5_38 x6_1003 r4 r5))))
def xGlyphPositionsModel_indexIn_12 (N : Nat) (st : QSt) (x1_12 x2_12 x3_12 : Int32) : Nat → Int32 → Int32 → Option Int32
  | 0, _, _ => none
  | n_12 + 1, x4_12, x5_12 => q_bn (xGlyphPositionsModel_f16 (x1_12 + 2) st) (fun r2 => if r2 ≤ x5_12 then (some x4_12) else (if x3_12 = 1 then (xGlyphPositionsModel_indexIn_38 N st (xGlyphPositionsModel_indexIn_12 N st x1_12 x2_12 x3_12 n_12) x1_12 x2_12 x3_12 x4_12 x5_12 (x1_12 + 4) 2) else (xGlyphPositionsModel_indexIn_38 N st (xGlyphPositionsModel_indexIn_12 N st x1_12 x2_12 x3_12 n_12) x1_12 x2_12 x3_12 x4_12 x5_12 (x1_12 + 4) 6)))
def xGlyphPositionsModel_indexIn (N : Nat) (x1 x2 : Int32) (st : QSt) : Option Int32 :=
  q_bn (xGlyphPositionsModel_f16 x1 st) (fun r1 => xGlyphPositionsModel_indexIn_12 N st x1 x2 r1 N (-1) 0)
set_option maxHeartbeats 4000000 in
set_option maxRecDepth 100000 in
theorem c_xGlyphPositionsModel_indexIn (l : Launch) (G : XG) {N : Nat} {x1 x2 : Int32} {st : QSt} {ro : Int32} (hf : xGlyphPositionsModel_indexIn N x1 x2 st = some ro) : q_Mp l y_GlyphPositionsModel_indexIn b_GlyphPositionsModel_indexIn 10 .int ({ frames := 1, cells := 0, slots := 0, locals := 21 } : Room) G.1 (xT G) (wX G) [.ref (G.2.2 36), .int x1, .int x2] st ro := by
  refine q_Mp_of (by decide) (Nat.le_of_ble_eq_true rfl) (wX_fst G) ?_
  intro p e s m args below meth c ls hC hr hlk hT hP hS hl
  have hx := hC.1.1
  have hb := hC.1.2.1
  have hown := hC.1.2.2.2.1
  have hts := hC.1.2.2.2.2
  have hl : lv_has ls 10 [(0, .ref (G.2.2 36)), (1, .int x1), (2, .int x2)] := hl
  have L_12 : ∀ (x1_12 x2_12 x3_12 : Int32) (n_12 : Nat) (x4_12 x5_12 : Int32) (H : Heap) (locs : List Loc) (ls : Array Slot), xGlyphPositionsModel_indexIn_12 N st x1_12 x2_12 x3_12 n_12 x4_12 x5_12 = some ro → va_P G.1 vwCl (wX G st) H → va_S (fun _ => False) s.heap H locs → lv_has ls 10 [(0, .ref (G.2.2 36)), (1, .int x1_12), (2, .int x2_12), (3, .int x3_12), (4, .int x4_12), (5, .int x5_12)] → W p l e ({ frames := 1, cells := 0, slots := 0, locals := 21 } : Room) s m args below meth c H locs 0 0 (q_Zp below args s ro) (F0 m 12 ls []) := by
    intro x1_12 x2_12 x3_12 n_12
    induction n_12 with
    | zero => intro _ _ _ _ _ hf; exact absurd hf (by simp [xGlyphPositionsModel_indexIn_12])
    | succ n_12 ih_12 =>
      have J_90 : ∀ (x4_90 x5_90 x7_90 x8_90 w0_90 : Int32) (H : Heap) (locs : List Loc) (ls : Array Slot), xGlyphPositionsModel_indexIn_90 N st (xGlyphPositionsModel_indexIn_12 N st x1_12 x2_12 x3_12 n_12) x1_12 x2_12 x3_12 x4_90 x5_90 x7_90 x8_90 w0_90 = some ro → va_P G.1 vwCl (wX G st) H → va_S (fun _ => False) s.heap H locs → lv_has ls 10 [(0, .ref (G.2.2 36)), (1, .int x1_12), (2, .int x2_12), (3, .int x3_12), (4, .int x4_90), (5, .int x5_90), (7, .int x7_90), (8, .int x8_90)] → W p l e ({ frames := 1, cells := 0, slots := 0, locals := 21 } : Room) s m args below meth c H locs 0 0 (q_Zp below args s ro) (F0 m 90 ls [.int w0_90]) := by
        intro x4_90 x5_90 x7_90 x8_90 w0_90 H locs ls hf hP hS hl
        unfold xGlyphPositionsModel_indexIn_90 at hf
        refine lv_istore (lv' := [(9, .int w0_90), (0, .ref (G.2.2 36)), (1, .int x1_12), (2, .int x2_12), (3, .int x3_12), (4, .int x4_90), (5, .int x5_90), (7, .int x7_90), (8, .int x8_90)]) hx hb d_GlyphPositionsModel_indexIn_90 hl (by decide) rfl (fun ls hl => ?_)
        refine lv_iload_n hx hb d_GlyphPositionsModel_indexIn_92 rfl (lv_at hl 3 rfl) ?_
        refine lv_iload hx hb d_GlyphPositionsModel_indexIn_93 (lv_at hl 7 rfl) ?_
        refine lv_icmp_lt (tgt := 114) hx hb d_GlyphPositionsModel_indexIn_95 (by decide) (fun c1 => ?_) (fun c1 => ?_)
        · rw [if_pos c1] at hf
          refine lv_iload hx hb d_GlyphPositionsModel_indexIn_114 (lv_at hl 5 rfl) ?_
          refine lv_istore (lv' := [(4, .int x4_90), (9, .int w0_90), (0, .ref (G.2.2 36)), (1, .int x1_12), (2, .int x2_12), (3, .int x3_12), (5, .int x5_90), (7, .int x7_90), (8, .int x8_90)]) hx hb d_GlyphPositionsModel_indexIn_116 hl (by decide) rfl (fun ls hl => ?_)
          refine lv_iinc (v := x5_90 + 1) (lv' := [(5, .int (x5_90 + 1)), (4, .int x4_90), (9, .int w0_90), (0, .ref (G.2.2 36)), (1, .int x1_12), (2, .int x2_12), (3, .int x3_12), (7, .int x7_90), (8, .int x8_90)]) hx hb d_GlyphPositionsModel_indexIn_118 hl (k := 6) rfl rfl (by decide) rfl (fun ls hl => ?_)
          refine lv_goto (tgt := 12) hx hb d_GlyphPositionsModel_indexIn_121 (by decide) ?_
          exact ih_12 _ _ _ _ _ hf hP hS (lv_sub hl [3, 4, 5, 6, 1, 0] rfl)
        rw [if_neg c1] at hf
        refine lv_iload_n hx hb d_GlyphPositionsModel_indexIn_98 rfl (lv_at hl 3 rfl) ?_
        refine lv_iload hx hb d_GlyphPositionsModel_indexIn_99 (lv_at hl 8 rfl) ?_
        refine lv_icmp_gt (tgt := 114) hx hb d_GlyphPositionsModel_indexIn_101 (by decide) (fun c1 => ?_) (fun c1 => ?_)
        · rw [if_pos c1] at hf
          refine lv_iload hx hb d_GlyphPositionsModel_indexIn_114 (lv_at hl 5 rfl) ?_
          refine lv_istore (lv' := [(4, .int x4_90), (9, .int w0_90), (0, .ref (G.2.2 36)), (1, .int x1_12), (2, .int x2_12), (3, .int x3_12), (5, .int x5_90), (7, .int x7_90), (8, .int x8_90)]) hx hb d_GlyphPositionsModel_indexIn_116 hl (by decide) rfl (fun ls hl => ?_)
          refine lv_iinc (v := x5_90 + 1) (lv' := [(5, .int (x5_90 + 1)), (4, .int x4_90), (9, .int w0_90), (0, .ref (G.2.2 36)), (1, .int x1_12), (2, .int x2_12), (3, .int x3_12), (7, .int x7_90), (8, .int x8_90)]) hx hb d_GlyphPositionsModel_indexIn_118 hl (k := 6) rfl rfl (by decide) rfl (fun ls hl => ?_)
          refine lv_goto (tgt := 12) hx hb d_GlyphPositionsModel_indexIn_121 (by decide) ?_
          exact ih_12 _ _ _ _ _ hf hP hS (lv_sub hl [3, 4, 5, 6, 1, 0] rfl)
        rw [if_neg c1] at hf
        refine lv_iload hx hb d_GlyphPositionsModel_indexIn_104 (lv_at hl 0 rfl) ?_
        refine lv_iload_n hx hb d_GlyphPositionsModel_indexIn_106 rfl (lv_at hl 3 rfl) ?_
        refine lv_iadd hx hb d_GlyphPositionsModel_indexIn_107 ?_
        refine lv_iload hx hb d_GlyphPositionsModel_indexIn_108 (lv_at hl 7 rfl) ?_
        refine lv_isub hx hb d_GlyphPositionsModel_indexIn_110 ?_
        refine lv_goto (tgt := 116) hx hb d_GlyphPositionsModel_indexIn_111 (by decide) ?_
        obtain ⟨x4_1007, e_x4_1007, hf⟩ := q_lt_some hf
        refine q_topi e_x4_1007 ?_
        refine lv_istore (lv' := [(4, .int x4_1007), (9, .int w0_90), (0, .ref (G.2.2 36)), (1, .int x1_12), (2, .int x2_12), (3, .int x3_12), (5, .int x5_90), (7, .int x7_90), (8, .int x8_90)]) hx hb d_GlyphPositionsModel_indexIn_116 hl (by decide) rfl (fun ls hl => ?_)
        refine lv_iinc (v := x5_90 + 1) (lv' := [(5, .int (x5_90 + 1)), (4, .int x4_1007), (9, .int w0_90), (0, .ref (G.2.2 36)), (1, .int x1_12), (2, .int x2_12), (3, .int x3_12), (7, .int x7_90), (8, .int x8_90)]) hx hb d_GlyphPositionsModel_indexIn_118 hl (k := 6) rfl rfl (by decide) rfl (fun ls hl => ?_)
        refine lv_goto (tgt := 12) hx hb d_GlyphPositionsModel_indexIn_121 (by decide) ?_
        exact ih_12 _ _ _ _ _ hf hP hS (lv_sub hl [3, 4, 5, 6, 1, 0] rfl)
      have J_70 : ∀ (x4_70 x5_70 x6_70 x7_70 w0_70 : Int32) (H : Heap) (locs : List Loc) (ls : Array Slot), xGlyphPositionsModel_indexIn_70 N st (xGlyphPositionsModel_indexIn_12 N st x1_12 x2_12 x3_12 n_12) x1_12 x2_12 x3_12 x4_70 x5_70 x6_70 x7_70 w0_70 = some ro → va_P G.1 vwCl (wX G st) H → va_S (fun _ => False) s.heap H locs → lv_has ls 10 [(0, .ref (G.2.2 36)), (1, .int x1_12), (2, .int x2_12), (3, .int x3_12), (4, .int x4_70), (5, .int x5_70), (6, .int x6_70), (7, .int x7_70)] → W p l e ({ frames := 1, cells := 0, slots := 0, locals := 21 } : Room) s m args below meth c H locs 0 0 (q_Zp below args s ro) (F0 m 70 ls [.int w0_70]) := by
        intro x4_70 x5_70 x6_70 x7_70 w0_70 H locs ls hf hP hS hl
        unfold xGlyphPositionsModel_indexIn_70 at hf
        refine lv_istore (lv' := [(8, .int w0_70), (0, .ref (G.2.2 36)), (1, .int x1_12), (2, .int x2_12), (3, .int x3_12), (4, .int x4_70), (5, .int x5_70), (6, .int x6_70), (7, .int x7_70)]) hx hb d_GlyphPositionsModel_indexIn_70 hl (by decide) rfl (fun ls hl => ?_)
        refine lv_iload_n hx hb d_GlyphPositionsModel_indexIn_72 rfl (lv_at hl 4 rfl) ?_
        refine lv_iconst (v := 1) hx hb d_GlyphPositionsModel_indexIn_73 (by decide) ?_
        refine lv_icmp_ne (tgt := 82) hx hb d_GlyphPositionsModel_indexIn_74 (by decide) (fun c1 => ?_) (fun c1 => ?_)
        rotate_left
        · rw [if_pos c1] at hf
          refine lv_iload hx hb d_GlyphPositionsModel_indexIn_77 (lv_at hl 6 rfl) ?_
          refine lv_goto (tgt := 90) hx hb d_GlyphPositionsModel_indexIn_79 (by decide) ?_
          exact J_90 _ _ _ _ _ _ _ _ hf hP hS (lv_sub hl [1, 2, 3, 4, 5, 6, 8, 0] rfl)
        rw [if_neg c1] at hf
        refine lv_aload_n hx hb d_GlyphPositionsModel_indexIn_82 rfl (lv_at hl 1 rfl) ?_
        refine lv_iload hx hb d_GlyphPositionsModel_indexIn_83 (lv_at hl 7 rfl) ?_
        refine lv_iconst (v := 4) hx hb d_GlyphPositionsModel_indexIn_85 (by decide) ?_
        refine lv_iadd hx hb d_GlyphPositionsModel_indexIn_86 ?_
        obtain ⟨r6, h_r6, hf⟩ := q_bn_some hf
        refine q_callVp (As := [.int (x6_70 + 4)]) (rest := []) (q0 := 36) hC (c_xGlyphPositionsModel_f16 l G h_r6) cal_GlyphPositionsModel_f16 wq_193 ⟨rfl, rfl, Nat.le_of_ble_eq_true rfl, Nat.le_of_ble_eq_true rfl⟩ rfl rfl hP hT hS rfl hl.1 rfl (Nat.le_of_ble_eq_true rfl) d_GlyphPositionsModel_indexIn_87 (fun H locs hP hS => ?_)
        exact J_90 _ _ _ _ _ _ _ _ hf hP hS (lv_sub hl [1, 2, 3, 4, 5, 6, 8, 0] rfl)
      have J_38 : ∀ (x4_38 x5_38 w0_38 w1_38 : Int32) (H : Heap) (locs : List Loc) (ls : Array Slot), xGlyphPositionsModel_indexIn_38 N st (xGlyphPositionsModel_indexIn_12 N st x1_12 x2_12 x3_12 n_12) x1_12 x2_12 x3_12 x4_38 x5_38 w0_38 w1_38 = some ro → va_P G.1 vwCl (wX G st) H → va_S (fun _ => False) s.heap H locs → lv_has ls 10 [(0, .ref (G.2.2 36)), (1, .int x1_12), (2, .int x2_12), (3, .int x3_12), (4, .int x4_38), (5, .int x5_38)] → W p l e ({ frames := 1, cells := 0, slots := 0, locals := 21 } : Room) s m args below meth c H locs 0 0 (q_Zp below args s ro) (F0 m 38 ls [.int w1_38, .int w0_38]) := by
        intro x4_38 x5_38 w0_38 w1_38 H locs ls hf hP hS hl
        unfold xGlyphPositionsModel_indexIn_38 at hf
        refine lv_iload hx hb d_GlyphPositionsModel_indexIn_38 (lv_at hl 5 rfl) ?_
        refine lv_imul hx hb d_GlyphPositionsModel_indexIn_40 ?_
        refine lv_iadd hx hb d_GlyphPositionsModel_indexIn_41 ?_
        obtain ⟨x6_1003, e_x6_1003, hf⟩ := q_lt_some hf
        refine q_topi e_x6_1003 ?_
        refine lv_istore (lv' := [(6, .int x6_1003), (0, .ref (G.2.2 36)), (1, .int x1_12), (2, .int x2_12), (3, .int x3_12), (4, .int x4_38), (5, .int x5_38)]) hx hb d_GlyphPositionsModel_indexIn_42 hl (by decide) rfl (fun ls hl => ?_)
        refine lv_aload_n hx hb d_GlyphPositionsModel_indexIn_44 rfl (lv_at hl 1 rfl) ?_
        refine lv_iload hx hb d_GlyphPositionsModel_indexIn_45 (lv_at hl 0 rfl) ?_
        obtain ⟨r4, h_r4, hf⟩ := q_bn_some hf
        refine q_callVp (As := [.int x6_1003]) (rest := []) (q0 := 36) hC (c_xGlyphPositionsModel_f16 l G h_r4) cal_GlyphPositionsModel_f16 wq_193 ⟨rfl, rfl, Nat.le_of_ble_eq_true rfl, Nat.le_of_ble_eq_true rfl⟩ rfl rfl hP hT hS rfl hl.1 rfl (Nat.le_of_ble_eq_true rfl) d_GlyphPositionsModel_indexIn_47 (fun H locs hP hS => ?_)
        refine lv_istore (lv' := [(7, .int r4), (6, .int x6_1003), (0, .ref (G.2.2 36)), (1, .int x1_12), (2, .int x2_12), (3, .int x3_12), (4, .int x4_38), (5, .int x5_38)]) hx hb d_GlyphPositionsModel_indexIn_50 hl (by decide) rfl (fun ls hl => ?_)
        refine lv_iload_n hx hb d_GlyphPositionsModel_indexIn_52 rfl (lv_at hl 5 rfl) ?_
        refine lv_iconst (v := 1) hx hb d_GlyphPositionsModel_indexIn_53 (by decide) ?_
        refine lv_icmp_ne (tgt := 62) hx hb d_GlyphPositionsModel_indexIn_54 (by decide) (fun c1 => ?_) (fun c1 => ?_)
        rotate_left
        · rw [if_pos c1] at hf
          refine lv_iload hx hb d_GlyphPositionsModel_indexIn_57 (lv_at hl 0 rfl) ?_
          refine lv_goto (tgt := 70) hx hb d_GlyphPositionsModel_indexIn_59 (by decide) ?_
          exact J_70 _ _ _ _ _ _ _ _ hf hP hS (lv_sub hl [2, 3, 4, 5, 6, 7, 1, 0] rfl)
        rw [if_neg c1] at hf
        refine lv_aload_n hx hb d_GlyphPositionsModel_indexIn_62 rfl (lv_at hl 2 rfl) ?_
        refine lv_iload hx hb d_GlyphPositionsModel_indexIn_63 (lv_at hl 1 rfl) ?_
        refine lv_iconst (v := 2) hx hb d_GlyphPositionsModel_indexIn_65 (by decide) ?_
        refine lv_iadd hx hb d_GlyphPositionsModel_indexIn_66 ?_
        obtain ⟨r5, h_r5, hf⟩ := q_bn_some hf
        refine q_callVp (As := [.int (x6_1003 + 2)]) (rest := []) (q0 := 36) hC (c_xGlyphPositionsModel_f16 l G h_r5) cal_GlyphPositionsModel_f16 wq_193 ⟨rfl, rfl, Nat.le_of_ble_eq_true rfl, Nat.le_of_ble_eq_true rfl⟩ rfl rfl hP hT hS rfl hl.1 rfl (Nat.le_of_ble_eq_true rfl) d_GlyphPositionsModel_indexIn_67 (fun H locs hP hS => ?_)
        exact J_70 _ _ _ _ _ _ _ _ hf hP hS (lv_sub hl [2, 3, 4, 5, 6, 7, 1, 0] rfl)
      intro x4_12 x5_12 H locs ls hf hP hS hl
      rw [xGlyphPositionsModel_indexIn_12] at hf
      refine lv_iload hx hb d_GlyphPositionsModel_indexIn_12 (lv_at hl 5 rfl) ?_
      refine lv_aload_n hx hb d_GlyphPositionsModel_indexIn_14 rfl (lv_at hl 0 rfl) ?_
      refine lv_iload_n hx hb d_GlyphPositionsModel_indexIn_15 rfl (lv_at hl 1 rfl) ?_
      refine lv_iconst (v := 2) hx hb d_GlyphPositionsModel_indexIn_16 (by decide) ?_
      refine lv_iadd hx hb d_GlyphPositionsModel_indexIn_17 ?_
      obtain ⟨r2, h_r2, hf⟩ := q_bn_some hf
      refine q_callVp (As := [.int (x1_12 + 2)]) (rest := [.int x5_12]) (q0 := 36) hC (c_xGlyphPositionsModel_f16 l G h_r2) cal_GlyphPositionsModel_f16 wq_193 ⟨rfl, rfl, Nat.le_of_ble_eq_true rfl, Nat.le_of_ble_eq_true rfl⟩ rfl rfl hP hT hS rfl hl.1 rfl (Nat.le_of_ble_eq_true rfl) d_GlyphPositionsModel_indexIn_18 (fun H locs hP hS => ?_)
      refine lv_icmp_ge (tgt := 124) hx hb d_GlyphPositionsModel_indexIn_21 (by decide) (fun c1 => ?_) (fun c1 => ?_)
      · rw [if_pos c1] at hf
        refine lv_iload hx hb d_GlyphPositionsModel_indexIn_124 (lv_at hl 4 rfl) ?_
        exact q_iretP hC hr hlk hf (by first | rfl | decide) hS d_GlyphPositionsModel_indexIn_126
      rw [if_neg c1] at hf
      refine lv_iload_n hx hb d_GlyphPositionsModel_indexIn_24 rfl (lv_at hl 1 rfl) ?_
      refine lv_iconst (v := 4) hx hb d_GlyphPositionsModel_indexIn_25 (by decide) ?_
      refine lv_iadd hx hb d_GlyphPositionsModel_indexIn_26 ?_
      refine lv_iload_n hx hb d_GlyphPositionsModel_indexIn_27 rfl (lv_at hl 3 rfl) ?_
      refine lv_iconst (v := 1) hx hb d_GlyphPositionsModel_indexIn_28 (by decide) ?_
      refine lv_icmp_ne (tgt := 36) hx hb d_GlyphPositionsModel_indexIn_29 (by decide) (fun c1 => ?_) (fun c1 => ?_)
      · rw [if_neg c1] at hf
        refine lv_bipush (v := 6) hx hb d_GlyphPositionsModel_indexIn_36 (by decide) ?_
        exact J_38 _ _ _ _ _ _ _ hf hP hS hl
      rw [if_pos c1] at hf
      refine lv_iconst (v := 2) hx hb d_GlyphPositionsModel_indexIn_32 (by decide) ?_
      refine lv_goto (tgt := 38) hx hb d_GlyphPositionsModel_indexIn_33 (by decide) ?_
      exact J_38 _ _ _ _ _ _ _ hf hP hS hl
  unfold xGlyphPositionsModel_indexIn at hf
  refine lv_aload_n hx hb d_GlyphPositionsModel_indexIn_0 rfl (lv_at hl 0 rfl) ?_
  refine lv_iload_n hx hb d_GlyphPositionsModel_indexIn_1 rfl (lv_at hl 1 rfl) ?_
  obtain ⟨r1, h_r1, hf⟩ := q_bn_some hf
  refine q_callVp (As := [.int x1]) (rest := []) (q0 := 36) hC (c_xGlyphPositionsModel_f16 l G h_r1) cal_GlyphPositionsModel_f16 wq_193 ⟨rfl, rfl, Nat.le_of_ble_eq_true rfl, Nat.le_of_ble_eq_true rfl⟩ rfl rfl hP hT hS rfl hl.1 rfl (Nat.le_of_ble_eq_true rfl) d_GlyphPositionsModel_indexIn_2 (fun H locs hP hS => ?_)
  refine lv_istore_n (lv' := [(3, .int r1), (0, .ref (G.2.2 36)), (1, .int x1), (2, .int x2)]) hx hb d_GlyphPositionsModel_indexIn_5 rfl hl (by decide) rfl (fun ls hl => ?_)
  refine lv_iconst (v := (-1)) hx hb d_GlyphPositionsModel_indexIn_6 (by decide) ?_
  refine lv_istore (lv' := [(4, .int (-1)), (3, .int r1), (0, .ref (G.2.2 36)), (1, .int x1), (2, .int x2)]) hx hb d_GlyphPositionsModel_indexIn_7 hl (by decide) rfl (fun ls hl => ?_)
  refine lv_iconst (v := 0) hx hb d_GlyphPositionsModel_indexIn_9 (by decide) ?_
  refine lv_istore (lv' := [(5, .int 0), (4, .int (-1)), (3, .int r1), (0, .ref (G.2.2 36)), (1, .int x1), (2, .int x2)]) hx hb d_GlyphPositionsModel_indexIn_10 hl (by decide) rfl (fun ls hl => ?_)
  exact L_12 _ _ _ _ _ _ _ _ _ hf hP hS (lv_sub hl [3, 4, 5, 2, 1, 0] rfl)
def xGlyphPositionsModel_covered (N : Nat) (x1 x2 x3 : Int32) (st : QSt) : Option Int32 :=
  q_bn (xGlyphPositionsModel_f16 (x1 + x2) st) (fun r1 => q_bn (xGlyphPositionsModel_indexIn N (x1 + r1) x3 st) (fun r2 => some r2))
set_option maxHeartbeats 4000000 in
set_option maxRecDepth 100000 in
theorem c_xGlyphPositionsModel_covered (l : Launch) (G : XG) {N : Nat} {x1 x2 x3 : Int32} {st : QSt} {ro : Int32} (hf : xGlyphPositionsModel_covered N x1 x2 x3 st = some ro) : q_Mp l y_GlyphPositionsModel_covered b_GlyphPositionsModel_covered 4 .int ({ frames := 2, cells := 0, slots := 0, locals := 50 } : Room) G.1 (xT G) (wX G) [.ref (G.2.2 36), .int x1, .int x2, .int x3] st ro := by
  refine q_Mp_of (by decide) (Nat.le_of_ble_eq_true rfl) (wX_fst G) ?_
  intro p e s m args below meth c ls hC hr hlk hT hP hS hl
  have hx := hC.1.1
  have hb := hC.1.2.1
  have hown := hC.1.2.2.2.1
  have hts := hC.1.2.2.2.2
  have hl : lv_has ls 4 [(0, .ref (G.2.2 36)), (1, .int x1), (2, .int x2), (3, .int x3)] := hl
  unfold xGlyphPositionsModel_covered at hf
  refine lv_aload_n hx hb d_GlyphPositionsModel_covered_0 rfl (lv_at hl 0 rfl) ?_
  refine lv_iload_n hx hb d_GlyphPositionsModel_covered_1 rfl (lv_at hl 1 rfl) ?_
  refine lv_aload_n hx hb d_GlyphPositionsModel_covered_2 rfl (lv_at hl 0 rfl) ?_
  refine lv_iload_n hx hb d_GlyphPositionsModel_covered_3 rfl (lv_at hl 1 rfl) ?_
  refine lv_iload_n hx hb d_GlyphPositionsModel_covered_4 rfl (lv_at hl 2 rfl) ?_
  refine lv_iadd hx hb d_GlyphPositionsModel_covered_5 ?_
  obtain ⟨r1, h_r1, hf⟩ := q_bn_some hf
  refine q_callVp (As := [.int (x1 + x2)]) (rest := [.int x1, .ref (G.2.2 36)]) (q0 := 36) hC (c_xGlyphPositionsModel_f16 l G h_r1) cal_GlyphPositionsModel_f16 wq_193 ⟨rfl, rfl, Nat.le_of_ble_eq_true rfl, Nat.le_of_ble_eq_true rfl⟩ rfl rfl hP hT hS rfl hl.1 rfl (Nat.le_of_ble_eq_true rfl) d_GlyphPositionsModel_covered_6 (fun H locs hP hS => ?_)
  refine lv_iadd hx hb d_GlyphPositionsModel_covered_9 ?_
  refine lv_iload_n hx hb d_GlyphPositionsModel_covered_10 rfl (lv_at hl 3 rfl) ?_
  obtain ⟨r2, h_r2, hf⟩ := q_bn_some hf
  refine q_callVp (As := [.int (x1 + r1), .int x3]) (rest := []) (q0 := 36) hC (c_xGlyphPositionsModel_indexIn l G h_r2) cal_GlyphPositionsModel_indexIn wq_207 ⟨rfl, rfl, Nat.le_of_ble_eq_true rfl, Nat.le_of_ble_eq_true rfl⟩ rfl rfl hP hT hS rfl hl.1 rfl (Nat.le_of_ble_eq_true rfl) d_GlyphPositionsModel_covered_11 (fun H locs hP hS => ?_)
  exact q_iretP hC hr hlk hf (by first | rfl | decide) hS d_GlyphPositionsModel_covered_14
def xGlyphPositionsModel_kindOfGlyph (N : Nat) (x1 : Int32) (st : QSt) : Option Int32 :=
  q_bn (xGlyphPositionsModel_rangeOf N x1 st) (fun r1 => if 0 ≤ r1 then (q_grd (q_vpb r1 256) (q_lt (st.2 30 r1.toNatClampNeg) (fun v2 => some v2))) else (some 0))
set_option maxHeartbeats 4000000 in
set_option maxRecDepth 100000 in
theorem c_xGlyphPositionsModel_kindOfGlyph (l : Launch) (G : XG) {N : Nat} {x1 : Int32} {st : QSt} {ro : Int32} (hf : xGlyphPositionsModel_kindOfGlyph N x1 st = some ro) : q_Mp l y_GlyphPositionsModel_kindOfGlyph b_GlyphPositionsModel_kindOfGlyph 3 .int ({ frames := 1, cells := 0, slots := 0, locals := 23 } : Room) G.1 (xT G) (wX G) [.ref (G.2.2 36), .int x1] st ro := by
  refine q_Mp_of (by decide) (Nat.le_of_ble_eq_true rfl) (wX_fst G) ?_
  intro p e s m args below meth c ls hC hr hlk hT hP hS hl
  have hx := hC.1.1
  have hb := hC.1.2.1
  have hown := hC.1.2.2.2.1
  have hts := hC.1.2.2.2.2
  have hl : lv_has ls 3 [(0, .ref (G.2.2 36)), (1, .int x1)] := hl
  unfold xGlyphPositionsModel_kindOfGlyph at hf
  refine lv_aload_n hx hb d_GlyphPositionsModel_kindOfGlyph_0 rfl (lv_at hl 0 rfl) ?_
  refine lv_iload_n hx hb d_GlyphPositionsModel_kindOfGlyph_1 rfl (lv_at hl 1 rfl) ?_
  obtain ⟨r1, h_r1, hf⟩ := q_bn_some hf
  refine q_callVp (As := [.int x1]) (rest := []) (q0 := 36) hC (c_xGlyphPositionsModel_rangeOf l G h_r1) cal_GlyphPositionsModel_rangeOf wq_206 ⟨rfl, rfl, Nat.le_of_ble_eq_true rfl, Nat.le_of_ble_eq_true rfl⟩ rfl rfl hP hT hS rfl hl.1 rfl (Nat.le_of_ble_eq_true rfl) d_GlyphPositionsModel_kindOfGlyph_2 (fun H locs hP hS => ?_)
  refine lv_istore_n (lv' := [(2, .int r1), (0, .ref (G.2.2 36)), (1, .int x1)]) hx hb d_GlyphPositionsModel_kindOfGlyph_5 rfl hl (by decide) rfl (fun ls hl => ?_)
  refine lv_iload_n hx hb d_GlyphPositionsModel_kindOfGlyph_6 rfl (lv_at hl 0 rfl) ?_
  refine lv_if_ge (tgt := 14) hx hb d_GlyphPositionsModel_kindOfGlyph_7 (by decide) (fun c1 => ?_) (fun c1 => ?_)
  rotate_left
  · rw [if_neg c1] at hf
    refine lv_iconst (v := 0) hx hb d_GlyphPositionsModel_kindOfGlyph_10 (by decide) ?_
    refine lv_goto (tgt := 20) hx hb d_GlyphPositionsModel_kindOfGlyph_11 (by decide) ?_
    exact q_iretP hC hr hlk hf (by first | rfl | decide) hS d_GlyphPositionsModel_kindOfGlyph_20
  rw [if_pos c1] at hf
  refine lv_aload_n hx hb d_GlyphPositionsModel_kindOfGlyph_14 rfl (lv_at hl 1 rfl) ?_
  refine xg_36_kinds hC hP wq_128 d_GlyphPositionsModel_kindOfGlyph_15 ?_
  refine lv_iload_n hx hb d_GlyphPositionsModel_kindOfGlyph_18 rfl (lv_at hl 0 rfl) ?_
  obtain ⟨hi, hf⟩ := q_grd_some hf
  obtain ⟨v2, e_v2, hf⟩ := q_lt_some hf
  refine xl_41 hC hP e_v2 hi d_GlyphPositionsModel_kindOfGlyph_19 ?_
  exact q_iretP hC hr hlk hf (by first | rfl | decide) hS d_GlyphPositionsModel_kindOfGlyph_20
def xGlyphPositionsModel_baseOf_64 (N : Nat) (st : QSt) : Nat → Int32 → Option Int32
  | 0, _ => none
  | n_64 + 1, x4_64 => if x4_64 < 0 then (some x4_64) else (q_grd (q_vpb x4_64 800) (q_lt (st.2 38 x4_64.toNatClampNeg) (fun v2 => q_bn (xGlyphPositionsModel_kindOfGlyph N v2 st) (fun r3 => if r3 = 3 then (xGlyphPositionsModel_baseOf_64 N st n_64 (x4_64 + (-1))) else (some x4_64)))))
def xGlyphPositionsModel_baseOf_37 (N : Nat) (st : QSt) (x4_37 : Int32) : Option Int32 :=
  if x4_37 < 0 then (some (-1)) else (q_grd (q_vpb x4_37 800) (q_lt (st.2 38 x4_37.toNatClampNeg) (fun v4 => q_bn (xGlyphPositionsModel_kindOfGlyph N v4 st) (fun r5 => if r5 = 3 then (some x4_37) else (some (-1))))))
def xGlyphPositionsModel_baseOf_11 (N : Nat) (st : QSt) (x2_11 : Int32) : Nat → Int32 → Option Int32
  | 0, _ => none
  | n_11 + 1, x4_11 => if x4_11 < 0 then (xGlyphPositionsModel_baseOf_37 N st x4_11) else (q_grd (q_vpb x4_11 800) (q_lt (st.2 38 x4_11.toNatClampNeg) (fun v6 => q_bn (xGlyphPositionsModel_isPassed N x2_11 v6 st) (fun r7 => if r7 = 0 then (xGlyphPositionsModel_baseOf_37 N st x4_11) else (xGlyphPositionsModel_baseOf_11 N st x2_11 n_11 (x4_11 + (-1)))))))
def xGlyphPositionsModel_baseOf (N : Nat) (x1 x2 x3 : Int32) (st : QSt) : Option Int32 :=
  q_lt (x3 - 1) (fun x4_1001 => if x1 = 6 then (xGlyphPositionsModel_baseOf_11 N st x2 N x4_1001) else (xGlyphPositionsModel_baseOf_64 N st N x4_1001))
set_option maxHeartbeats 4000000 in
set_option maxRecDepth 100000 in
theorem c_xGlyphPositionsModel_baseOf (l : Launch) (G : XG) {N : Nat} {x1 x2 x3 : Int32} {st : QSt} {ro : Int32} (hf : xGlyphPositionsModel_baseOf N x1 x2 x3 st = some ro) : q_Mp l y_GlyphPositionsModel_baseOf b_GlyphPositionsModel_baseOf 5 .int ({ frames := 2, cells := 0, slots := 0, locals := 49 } : Room) G.1 (xT G) (wX G) [.ref (G.2.2 36), .int x1, .int x2, .int x3] st ro := by
  refine q_Mp_of (by decide) (Nat.le_of_ble_eq_true rfl) (wX_fst G) ?_
  intro p e s m args below meth c ls hC hr hlk hT hP hS hl
  have hx := hC.1.1
  have hb := hC.1.2.1
  have hown := hC.1.2.2.2.1
  have hts := hC.1.2.2.2.2
  have hl : lv_has ls 5 [(0, .ref (G.2.2 36)), (1, .int x1), (2, .int x2), (3, .int x3)] := hl
  have L_64 : ∀ (n_64 : Nat) (x4_64 : Int32) (H : Heap) (locs : List Loc) (ls : Array Slot), xGlyphPositionsModel_baseOf_64 N st n_64 x4_64 = some ro → va_P G.1 vwCl (wX G st) H → va_S (fun _ => False) s.heap H locs → lv_has ls 5 [(0, .ref (G.2.2 36)), (4, .int x4_64)] → W p l e ({ frames := 2, cells := 0, slots := 0, locals := 49 } : Room) s m args below meth c H locs 0 0 (q_Zp below args s ro) (F0 m 64 ls []) := by
    intro n_64
    induction n_64 with
    | zero => intro _ _ _ _ hf; exact absurd hf (by simp [xGlyphPositionsModel_baseOf_64])
    | succ n_64 ih_64 =>
      intro x4_64 H locs ls hf hP hS hl
      rw [xGlyphPositionsModel_baseOf_64] at hf
      refine lv_iload hx hb d_GlyphPositionsModel_baseOf_64 (lv_at hl 1 rfl) ?_
      refine lv_if_lt (tgt := 90) hx hb d_GlyphPositionsModel_baseOf_66 (by decide) (fun c1 => ?_) (fun c1 => ?_)
      · rw [if_pos c1] at hf
        refine lv_iload hx hb d_GlyphPositionsModel_baseOf_90 (lv_at hl 1 rfl) ?_
        exact q_iretP hC hr hlk hf (by first | rfl | decide) hS d_GlyphPositionsModel_baseOf_92
      rw [if_neg c1] at hf
      refine lv_aload_n hx hb d_GlyphPositionsModel_baseOf_69 rfl (lv_at hl 0 rfl) ?_
      refine lv_aload_n hx hb d_GlyphPositionsModel_baseOf_70 rfl (lv_at hl 0 rfl) ?_
      refine xg_36_glyphs hC hP wq_208 d_GlyphPositionsModel_baseOf_71 ?_
      refine lv_iload hx hb d_GlyphPositionsModel_baseOf_74 (lv_at hl 1 rfl) ?_
      obtain ⟨hi, hf⟩ := q_grd_some hf
      obtain ⟨v2, e_v2, hf⟩ := q_lt_some hf
      refine xl_49 hC hP e_v2 hi d_GlyphPositionsModel_baseOf_76 ?_
      obtain ⟨r3, h_r3, hf⟩ := q_bn_some hf
      refine q_callVp (As := [.int v2]) (rest := []) (q0 := 36) hC (c_xGlyphPositionsModel_kindOfGlyph l G h_r3) cal_GlyphPositionsModel_kindOfGlyph wq_209 ⟨rfl, rfl, Nat.le_of_ble_eq_true rfl, Nat.le_of_ble_eq_true rfl⟩ rfl rfl hP hT hS rfl hl.1 rfl (Nat.le_of_ble_eq_true rfl) d_GlyphPositionsModel_baseOf_77 (fun H locs hP hS => ?_)
      refine lv_iconst (v := 3) hx hb d_GlyphPositionsModel_baseOf_80 (by decide) ?_
      refine lv_icmp_ne (tgt := 90) hx hb d_GlyphPositionsModel_baseOf_81 (by decide) (fun c1 => ?_) (fun c1 => ?_)
      · rw [if_neg c1] at hf
        refine lv_iload hx hb d_GlyphPositionsModel_baseOf_90 (lv_at hl 1 rfl) ?_
        exact q_iretP hC hr hlk hf (by first | rfl | decide) hS d_GlyphPositionsModel_baseOf_92
      rw [if_pos c1] at hf
      refine lv_iinc (v := x4_64 + (-1)) (lv' := [(4, .int (x4_64 + (-1))), (0, .ref (G.2.2 36))]) hx hb d_GlyphPositionsModel_baseOf_84 hl (k := 1) rfl rfl (by decide) rfl (fun ls hl => ?_)
      refine lv_goto (tgt := 64) hx hb d_GlyphPositionsModel_baseOf_87 (by decide) ?_
      exact ih_64 _ _ _ _ hf hP hS (lv_sub hl [1, 0] rfl)
  have J_37 : ∀ (x4_37 : Int32) (H : Heap) (locs : List Loc) (ls : Array Slot), xGlyphPositionsModel_baseOf_37 N st x4_37 = some ro → va_P G.1 vwCl (wX G st) H → va_S (fun _ => False) s.heap H locs → lv_has ls 5 [(0, .ref (G.2.2 36)), (4, .int x4_37)] → W p l e ({ frames := 2, cells := 0, slots := 0, locals := 49 } : Room) s m args below meth c H locs 0 0 (q_Zp below args s ro) (F0 m 37 ls []) := by
    intro x4_37 H locs ls hf hP hS hl
    unfold xGlyphPositionsModel_baseOf_37 at hf
    refine lv_iload hx hb d_GlyphPositionsModel_baseOf_37 (lv_at hl 1 rfl) ?_
    refine lv_if_lt (tgt := 62) hx hb d_GlyphPositionsModel_baseOf_39 (by decide) (fun c1 => ?_) (fun c1 => ?_)
    · rw [if_pos c1] at hf
      refine lv_iconst (v := (-1)) hx hb d_GlyphPositionsModel_baseOf_62 (by decide) ?_
      exact q_iretP hC hr hlk hf (by first | rfl | decide) hS d_GlyphPositionsModel_baseOf_63
    rw [if_neg c1] at hf
    refine lv_aload_n hx hb d_GlyphPositionsModel_baseOf_42 rfl (lv_at hl 0 rfl) ?_
    refine lv_aload_n hx hb d_GlyphPositionsModel_baseOf_43 rfl (lv_at hl 0 rfl) ?_
    refine xg_36_glyphs hC hP wq_208 d_GlyphPositionsModel_baseOf_44 ?_
    refine lv_iload hx hb d_GlyphPositionsModel_baseOf_47 (lv_at hl 1 rfl) ?_
    obtain ⟨hi, hf⟩ := q_grd_some hf
    obtain ⟨v4, e_v4, hf⟩ := q_lt_some hf
    refine xl_49 hC hP e_v4 hi d_GlyphPositionsModel_baseOf_49 ?_
    obtain ⟨r5, h_r5, hf⟩ := q_bn_some hf
    refine q_callVp (As := [.int v4]) (rest := []) (q0 := 36) hC (c_xGlyphPositionsModel_kindOfGlyph l G h_r5) cal_GlyphPositionsModel_kindOfGlyph wq_209 ⟨rfl, rfl, Nat.le_of_ble_eq_true rfl, Nat.le_of_ble_eq_true rfl⟩ rfl rfl hP hT hS rfl hl.1 rfl (Nat.le_of_ble_eq_true rfl) d_GlyphPositionsModel_baseOf_50 (fun H locs hP hS => ?_)
    refine lv_iconst (v := 3) hx hb d_GlyphPositionsModel_baseOf_53 (by decide) ?_
    refine lv_icmp_ne (tgt := 62) hx hb d_GlyphPositionsModel_baseOf_54 (by decide) (fun c1 => ?_) (fun c1 => ?_)
    · rw [if_neg c1] at hf
      refine lv_iconst (v := (-1)) hx hb d_GlyphPositionsModel_baseOf_62 (by decide) ?_
      exact q_iretP hC hr hlk hf (by first | rfl | decide) hS d_GlyphPositionsModel_baseOf_63
    rw [if_pos c1] at hf
    refine lv_iload hx hb d_GlyphPositionsModel_baseOf_57 (lv_at hl 1 rfl) ?_
    refine lv_goto (tgt := 63) hx hb d_GlyphPositionsModel_baseOf_59 (by decide) ?_
    exact q_iretP hC hr hlk hf (by first | rfl | decide) hS d_GlyphPositionsModel_baseOf_63
  have L_11 : ∀ (x2_11 : Int32) (n_11 : Nat) (x4_11 : Int32) (H : Heap) (locs : List Loc) (ls : Array Slot), xGlyphPositionsModel_baseOf_11 N st x2_11 n_11 x4_11 = some ro → va_P G.1 vwCl (wX G st) H → va_S (fun _ => False) s.heap H locs → lv_has ls 5 [(0, .ref (G.2.2 36)), (2, .int x2_11), (4, .int x4_11)] → W p l e ({ frames := 2, cells := 0, slots := 0, locals := 49 } : Room) s m args below meth c H locs 0 0 (q_Zp below args s ro) (F0 m 11 ls []) := by
    intro x2_11 n_11
    induction n_11 with
    | zero => intro _ _ _ _ hf; exact absurd hf (by simp [xGlyphPositionsModel_baseOf_11])
    | succ n_11 ih_11 =>
      intro x4_11 H locs ls hf hP hS hl
      rw [xGlyphPositionsModel_baseOf_11] at hf
      refine lv_iload hx hb d_GlyphPositionsModel_baseOf_11 (lv_at hl 2 rfl) ?_
      refine lv_if_lt (tgt := 37) hx hb d_GlyphPositionsModel_baseOf_13 (by decide) (fun c1 => ?_) (fun c1 => ?_)
      · rw [if_pos c1] at hf
        exact J_37 _ _ _ _ hf hP hS (lv_sub hl [0, 2] rfl)
      rw [if_neg c1] at hf
      refine lv_aload_n hx hb d_GlyphPositionsModel_baseOf_16 rfl (lv_at hl 0 rfl) ?_
      refine lv_iload_n hx hb d_GlyphPositionsModel_baseOf_17 rfl (lv_at hl 1 rfl) ?_
      refine lv_aload_n hx hb d_GlyphPositionsModel_baseOf_18 rfl (lv_at hl 0 rfl) ?_
      refine xg_36_glyphs hC hP wq_208 d_GlyphPositionsModel_baseOf_19 ?_
      refine lv_iload hx hb d_GlyphPositionsModel_baseOf_22 (lv_at hl 2 rfl) ?_
      obtain ⟨hi, hf⟩ := q_grd_some hf
      obtain ⟨v6, e_v6, hf⟩ := q_lt_some hf
      refine xl_49 hC hP e_v6 hi d_GlyphPositionsModel_baseOf_24 ?_
      obtain ⟨r7, h_r7, hf⟩ := q_bn_some hf
      refine q_callVp (As := [.int x2_11, .int v6]) (rest := []) (q0 := 36) hC (c_xGlyphPositionsModel_isPassed l G h_r7) cal_GlyphPositionsModel_isPassed wq_210 ⟨rfl, rfl, Nat.le_of_ble_eq_true rfl, Nat.le_of_ble_eq_true rfl⟩ rfl rfl hP hT hS rfl hl.1 rfl (Nat.le_of_ble_eq_true rfl) d_GlyphPositionsModel_baseOf_25 (fun H locs hP hS => ?_)
      refine lv_if_eq (tgt := 37) hx hb d_GlyphPositionsModel_baseOf_28 (by decide) (fun c1 => ?_) (fun c1 => ?_)
      · rw [if_pos c1] at hf
        exact J_37 _ _ _ _ hf hP hS (lv_sub hl [0, 2] rfl)
      rw [if_neg c1] at hf
      refine lv_iinc (v := x4_11 + (-1)) (lv' := [(4, .int (x4_11 + (-1))), (0, .ref (G.2.2 36)), (2, .int x2_11)]) hx hb d_GlyphPositionsModel_baseOf_31 hl (k := 2) rfl rfl (by decide) rfl (fun ls hl => ?_)
      refine lv_goto (tgt := 11) hx hb d_GlyphPositionsModel_baseOf_34 (by decide) ?_
      exact ih_11 _ _ _ _ hf hP hS (lv_sub hl [1, 2, 0] rfl)
  unfold xGlyphPositionsModel_baseOf at hf
  refine lv_iload_n hx hb d_GlyphPositionsModel_baseOf_0 rfl (lv_at hl 3 rfl) ?_
  refine lv_iconst (v := 1) hx hb d_GlyphPositionsModel_baseOf_1 (by decide) ?_
  refine lv_isub hx hb d_GlyphPositionsModel_baseOf_2 ?_
  obtain ⟨x4_1001, e_x4_1001, hf⟩ := q_lt_some hf
  refine q_topi e_x4_1001 ?_
  refine lv_istore (lv' := [(4, .int x4_1001), (0, .ref (G.2.2 36)), (1, .int x1), (2, .int x2), (3, .int x3)]) hx hb d_GlyphPositionsModel_baseOf_3 hl (by decide) rfl (fun ls hl => ?_)
  refine lv_iload_n hx hb d_GlyphPositionsModel_baseOf_5 rfl (lv_at hl 2 rfl) ?_
  refine lv_bipush (v := 6) hx hb d_GlyphPositionsModel_baseOf_6 (by decide) ?_
  refine lv_icmp_ne (tgt := 64) hx hb d_GlyphPositionsModel_baseOf_8 (by decide) (fun c1 => ?_) (fun c1 => ?_)
  · rw [if_neg c1] at hf
    exact L_64 _ _ _ _ _ hf hP hS (lv_sub hl [1, 0] rfl)
  rw [if_pos c1] at hf
  exact L_11 _ _ _ _ _ _ hf hP hS (lv_sub hl [1, 3, 0] rfl)
def xGlyphPositionsModel_s16 (x1 : Int32) (st : QSt) : Option Int32 :=
  q_bn (xGlyphPositionsModel_f16 x1 st) (fun r1 => some r1.toInt16.toInt32)
set_option maxHeartbeats 4000000 in
set_option maxRecDepth 100000 in
theorem c_xGlyphPositionsModel_s16 (l : Launch) (G : XG) {x1 : Int32} {st : QSt} {ro : Int32} (hf : xGlyphPositionsModel_s16 x1 st = some ro) : q_Mp l y_GlyphPositionsModel_s16 b_GlyphPositionsModel_s16 2 .int ({ frames := 1, cells := 0, slots := 0, locals := 21 } : Room) G.1 (xT G) (wX G) [.ref (G.2.2 36), .int x1] st ro := by
  refine q_Mp_of (by decide) (Nat.le_of_ble_eq_true rfl) (wX_fst G) ?_
  intro p e s m args below meth c ls hC hr hlk hT hP hS hl
  have hx := hC.1.1
  have hb := hC.1.2.1
  have hown := hC.1.2.2.2.1
  have hts := hC.1.2.2.2.2
  have hl : lv_has ls 2 [(0, .ref (G.2.2 36)), (1, .int x1)] := hl
  unfold xGlyphPositionsModel_s16 at hf
  refine lv_aload_n hx hb d_GlyphPositionsModel_s16_0 rfl (lv_at hl 0 rfl) ?_
  refine lv_iload_n hx hb d_GlyphPositionsModel_s16_1 rfl (lv_at hl 1 rfl) ?_
  obtain ⟨r1, h_r1, hf⟩ := q_bn_some hf
  refine q_callVp (As := [.int x1]) (rest := []) (q0 := 36) hC (c_xGlyphPositionsModel_f16 l G h_r1) cal_GlyphPositionsModel_f16 wq_193 ⟨rfl, rfl, Nat.le_of_ble_eq_true rfl, Nat.le_of_ble_eq_true rfl⟩ rfl rfl hP hT hS rfl hl.1 rfl (Nat.le_of_ble_eq_true rfl) d_GlyphPositionsModel_s16_2 (fun H locs hP hS => ?_)
  refine lv_i2s (v := r1.toInt16.toInt32) hx hb d_GlyphPositionsModel_s16_5 rfl ?_
  exact q_iretP hC hr hlk hf (by first | rfl | decide) hS d_GlyphPositionsModel_s16_6
def xGlyphPositionsModel_hang (x1 x2 x3 x4 x5 : Int32) (st : QSt) : Option QSt :=
  q_grd (q_vpb x1 800) (q_lt (q_pa st 44 x1.toNatClampNeg x2) (fun s1 => q_grd (q_vpb x1 800) (q_lt (q_pa s1 45 x1.toNatClampNeg (vp_nar .boolean x3)) (fun s2 => q_grd (q_vpb x1 800) (q_lt (q_pa s2 46 x1.toNatClampNeg x4) (fun s3 => q_grd (q_vpb x1 800) (q_lt (q_pa s3 47 x1.toNatClampNeg x5) (fun s4 => some s4))))))))
set_option maxHeartbeats 4000000 in
set_option maxRecDepth 100000 in
theorem c_xGlyphPositionsModel_hang (l : Launch) (G : XG) {x1 x2 x3 x4 x5 : Int32} {st : QSt} {so : QSt} (hf : xGlyphPositionsModel_hang x1 x2 x3 x4 x5 st = some so) : q_Mv l y_GlyphPositionsModel_hang b_GlyphPositionsModel_hang 6 ({ frames := 0, cells := 0, slots := 0, locals := 0 } : Room) G.1 (xT G) (wX G) [.ref (G.2.2 36), .int x1, .int x2, .int x3, .int x4, .int x5] st so := by
  refine q_Mv_of (by decide) (Nat.le_of_ble_eq_true rfl) (wX_fst G) ?_
  intro p e s m args below meth c A ls hC hr hlk hT hD hA hP hS hl
  have hx := hC.1.1
  have hb := hC.1.2.1
  have hown := hC.1.2.2.2.1
  have hts := hC.1.2.2.2.2
  have hl : lv_has ls 6 [(0, .ref (G.2.2 36)), (1, .int x1), (2, .int x2), (3, .int x3), (4, .int x4), (5, .int x5)] := hl
  unfold xGlyphPositionsModel_hang at hf
  refine lv_aload_n hx hb d_GlyphPositionsModel_hang_0 rfl (lv_at hl 0 rfl) ?_
  refine xg_36_hangs hC hP wq_145 d_GlyphPositionsModel_hang_1 ?_
  refine lv_iload_n hx hb d_GlyphPositionsModel_hang_4 rfl (lv_at hl 1 rfl) ?_
  refine lv_iload_n hx hb d_GlyphPositionsModel_hang_5 rfl (lv_at hl 2 rfl) ?_
  obtain ⟨hi, hf⟩ := q_grd_some hf
  obtain ⟨s1, e_s1, hf⟩ := q_lt_some hf
  refine xs_55 hC hP hD hS e_s1 hi d_GlyphPositionsModel_hang_6 (fun H locs hP hS => ?_)
  refine lv_aload_n hx hb d_GlyphPositionsModel_hang_7 rfl (lv_at hl 0 rfl) ?_
  refine xg_36_isJoined hC hP wq_204 d_GlyphPositionsModel_hang_8 ?_
  refine lv_iload_n hx hb d_GlyphPositionsModel_hang_11 rfl (lv_at hl 1 rfl) ?_
  refine lv_iload_n hx hb d_GlyphPositionsModel_hang_12 rfl (lv_at hl 3 rfl) ?_
  obtain ⟨hi, hf⟩ := q_grd_some hf
  obtain ⟨s2, e_s2, hf⟩ := q_lt_some hf
  refine xs_56 hC hP hD hS e_s2 hi d_GlyphPositionsModel_hang_13 (fun H locs hP hS => ?_)
  refine lv_aload_n hx hb d_GlyphPositionsModel_hang_14 rfl (lv_at hl 0 rfl) ?_
  refine xg_36_hangRight hC hP wq_205 d_GlyphPositionsModel_hang_15 ?_
  refine lv_iload_n hx hb d_GlyphPositionsModel_hang_18 rfl (lv_at hl 1 rfl) ?_
  refine lv_iload hx hb d_GlyphPositionsModel_hang_19 (lv_at hl 4 rfl) ?_
  obtain ⟨hi, hf⟩ := q_grd_some hf
  obtain ⟨s3, e_s3, hf⟩ := q_lt_some hf
  refine xs_57 hC hP hD hS e_s3 hi d_GlyphPositionsModel_hang_21 (fun H locs hP hS => ?_)
  refine lv_aload_n hx hb d_GlyphPositionsModel_hang_22 rfl (lv_at hl 0 rfl) ?_
  refine xg_36_hangUp hC hP wq_203 d_GlyphPositionsModel_hang_23 ?_
  refine lv_iload_n hx hb d_GlyphPositionsModel_hang_26 rfl (lv_at hl 1 rfl) ?_
  refine lv_iload hx hb d_GlyphPositionsModel_hang_27 (lv_at hl 5 rfl) ?_
  obtain ⟨hi, hf⟩ := q_grd_some hf
  obtain ⟨s4, e_s4, hf⟩ := q_lt_some hf
  refine xs_58 hC hP hD hS e_s4 hi d_GlyphPositionsModel_hang_29 (fun H locs hP hS => ?_)
  exact q_vret hC hr hlk hf hP hS d_GlyphPositionsModel_hang_30
def xGlyphPositionsModel_takeMark_229 (N : Nat) (x4_229 x6_229 x11_229 x12_229 x13_229 x14_229 : Int32) (st_229 : QSt) : Option (Int32 × QSt) :=
  q_bn (xGlyphPositionsModel_f16 (x14_229 + (2 * x11_229)) st_229) (fun r15 => if r15 = 0 then (some ((-1), st_229)) else (q_grd (q_vpb x4_229 800) (q_lt (q_pa st_229 42 x4_229.toNatClampNeg 0) (fun s16 => q_grd (q_vpb x4_229 800) (q_lt (q_pa s16 43 x4_229.toNatClampNeg 0) (fun s17 => q_bn (xGlyphPositionsModel_s16 ((x13_229 + r15) + 2) s17) (fun r18 => q_bn (xGlyphPositionsModel_s16 (x12_229 + 2) s17) (fun r19 => q_bn (xGlyphPositionsModel_s16 ((x13_229 + r15) + 4) s17) (fun r20 => q_bn (xGlyphPositionsModel_s16 (x12_229 + 4) s17) (fun r21 => q_bv (xGlyphPositionsModel_hang x4_229 x6_229 0 (r18 - r19) (r20 - r21) s17) (fun sr22 => some (x4_229 + 1, sr22))))))))))))
def xGlyphPositionsModel_takeMark_211 (N : Nat) (x4_211 x6_211 x8_211 x11_211 x12_211 x13_211 : Int32) (w0_211 : Int32) (st_211 : QSt) : Option (Int32 × QSt) :=
  q_lt ((x13_211 + 2) + ((2 * x8_211) * (w0_211 - 1))) (fun x14_1027 => xGlyphPositionsModel_takeMark_229 N x4_211 x6_211 x11_211 x12_211 x13_211 x14_1027 st_211)
def xGlyphPositionsModel_takeMark_199 (N : Nat) (x4_199 x6_199 x8_199 x11_199 x12_199 x13_199 x15_199 : Int32) (st_199 : QSt) : Option (Int32 × QSt) :=
  xGlyphPositionsModel_takeMark_211 N x4_199 x6_199 x8_199 x11_199 x12_199 x13_199 x15_199 st_199
def xGlyphPositionsModel_takeMark_47 (N : Nat) (x1_47 x3_47 x4_47 x5_47 x6_47 : Int32) (w0_47 : Int32) (st_47 : QSt) : Option (Int32 × QSt) :=
  if x5_47 < 0 then (some ((-1), st_47)) else (if 0 ≤ w0_47 then (q_bn (xGlyphPositionsModel_f16 (x3_47 + 6) st_47) (fun r6 => q_bn (xGlyphPositionsModel_f16 (x3_47 + 8) st_47) (fun r7 => q_lt (x3_47 + r7) (fun x9_1008 => q_bn (xGlyphPositionsModel_f16 (x3_47 + 10) st_47) (fun r9 => q_lt (x3_47 + r9) (fun x10_1010 => q_bn (xGlyphPositionsModel_f16 ((x9_1008 + 2) + (4 * x5_47)) st_47) (fun r11 => q_bn (xGlyphPositionsModel_f16 ((x9_1008 + 4) + (4 * x5_47)) st_47) (fun r12 => q_lt (x9_1008 + r12) (fun x12_1013 => q_lt ((x10_1010 + 2) + ((2 * r6) * w0_47)) (fun x14_1014 => if x1_47 = 5 then (q_bn (xGlyphPositionsModel_f16 ((x10_1010 + 2) + (2 * w0_47)) st_47) (fun r23 => q_lt (x10_1010 + r23) (fun x13_1024 => q_bn (xGlyphPositionsModel_f16 x13_1024 st_47) (fun r25 => q_grd (q_vpb x4_47 800) (q_lt (st_47.2 39 x4_47.toNatClampNeg) (fun v26 => if v26 = 0 then (xGlyphPositionsModel_takeMark_199 N x4_47 x6_47 r6 r11 x12_1013 x13_1024 r25 st_47) else (q_grd (q_vpb x4_47 800) (q_lt (st_47.2 39 x4_47.toNatClampNeg) (fun v28 => if v28 ≤ r25 then (q_grd (q_vpb x4_47 800) (q_lt (st_47.2 39 x4_47.toNatClampNeg) (fun v29 => xGlyphPositionsModel_takeMark_211 N x4_47 x6_47 r6 r11 x12_1013 x13_1024 v29 st_47))) else (xGlyphPositionsModel_takeMark_199 N x4_47 x6_47 r6 r11 x12_1013 x13_1024 r25 st_47)))))))))) else (xGlyphPositionsModel_takeMark_229 N x4_47 x6_47 r11 x12_1013 x10_1010 x14_1014 st_47))))))))))) else (some ((-1), st_47)))
def xGlyphPositionsModel_takeMark (N : Nat) (x1 x2 x3 x4 : Int32) (st : QSt) : Option (Int32 × QSt) :=
  q_grd (q_vpb x4 800) (q_lt (st.2 38 x4.toNatClampNeg) (fun v1 => q_bn (xGlyphPositionsModel_covered N x3 2 v1 st) (fun r2 => q_bn (xGlyphPositionsModel_baseOf N x1 x2 x4 st) (fun r3 => if 0 ≤ r3 then (q_grd (q_vpb r3 800) (q_lt (st.2 38 r3.toNatClampNeg) (fun v4 => q_bn (xGlyphPositionsModel_covered N x3 4 v4 st) (fun r5 => xGlyphPositionsModel_takeMark_47 N x1 x3 x4 r2 r3 r5 st)))) else (xGlyphPositionsModel_takeMark_47 N x1 x3 x4 r2 r3 (-1) st)))))
set_option maxHeartbeats 4000000 in
set_option maxRecDepth 100000 in
theorem c_xGlyphPositionsModel_takeMark (l : Launch) (G : XG) {N : Nat} {x1 x2 x3 x4 : Int32} {st : QSt} {ro : Int32} {so : QSt} (hf : xGlyphPositionsModel_takeMark N x1 x2 x3 x4 st = some (ro, so)) : q_Mi l y_GlyphPositionsModel_takeMark b_GlyphPositionsModel_takeMark 17 .int ({ frames := 3, cells := 0, slots := 0, locals := 73 } : Room) G.1 (xT G) (wX G) [.ref (G.2.2 36), .int x1, .int x2, .int x3, .int x4] st ro so := by
  refine q_Mi_of (by decide) (Nat.le_of_ble_eq_true rfl) (wX_fst G) ?_
  intro p e s m args below meth c A ls hC hr hlk hT hD hA hP hS hl
  have hx := hC.1.1
  have hb := hC.1.2.1
  have hown := hC.1.2.2.2.1
  have hts := hC.1.2.2.2.2
  have hl : lv_has ls 17 [(0, .ref (G.2.2 36)), (1, .int x1), (2, .int x2), (3, .int x3), (4, .int x4)] := hl
  have J_229 : ∀ (x4_229 x6_229 x11_229 x12_229 x13_229 x14_229 : Int32) (st_229 : QSt) (H : Heap) (locs : List Loc) (ls : Array Slot), xGlyphPositionsModel_takeMark_229 N x4_229 x6_229 x11_229 x12_229 x13_229 x14_229 st_229 = some (ro, so) → va_P G.1 vwCl (wX G st_229) H → va_S A s.heap H locs → lv_has ls 17 [(0, .ref (G.2.2 36)), (4, .int x4_229), (6, .int x6_229), (11, .int x11_229), (12, .int x12_229), (13, .int x13_229), (14, .int x14_229)] → W p l e ({ frames := 3, cells := 0, slots := 0, locals := 73 } : Room) s m args below meth c H locs 0 0 (q_Zi below args s G.1 (wX G) ro so A) (F0 m 229 ls []) := by
    intro x4_229 x6_229 x11_229 x12_229 x13_229 x14_229 st_229 H locs ls hf hP hS hl
    unfold xGlyphPositionsModel_takeMark_229 at hf
    refine lv_aload_n hx hb d_GlyphPositionsModel_takeMark_229 rfl (lv_at hl 0 rfl) ?_
    refine lv_iload hx hb d_GlyphPositionsModel_takeMark_230 (lv_at hl 6 rfl) ?_
    refine lv_iconst (v := 2) hx hb d_GlyphPositionsModel_takeMark_232 (by decide) ?_
    refine lv_iload hx hb d_GlyphPositionsModel_takeMark_233 (lv_at hl 3 rfl) ?_
    refine lv_imul hx hb d_GlyphPositionsModel_takeMark_235 ?_
    refine lv_iadd hx hb d_GlyphPositionsModel_takeMark_236 ?_
    obtain ⟨r15, h_r15, hf⟩ := q_bn_some hf
    refine q_callVp (As := [.int (x14_229 + (2 * x11_229))]) (rest := []) (q0 := 36) hC (c_xGlyphPositionsModel_f16 l G h_r15) cal_GlyphPositionsModel_f16 wq_193 ⟨rfl, rfl, Nat.le_of_ble_eq_true rfl, Nat.le_of_ble_eq_true rfl⟩ rfl rfl hP hT hS rfl hl.1 rfl (Nat.le_of_ble_eq_true rfl) d_GlyphPositionsModel_takeMark_237 (fun H locs hP hS => ?_)
    refine lv_istore (lv' := [(15, .int r15), (0, .ref (G.2.2 36)), (4, .int x4_229), (6, .int x6_229), (11, .int x11_229), (12, .int x12_229), (13, .int x13_229), (14, .int x14_229)]) hx hb d_GlyphPositionsModel_takeMark_240 hl (by decide) rfl (fun ls hl => ?_)
    refine lv_iload hx hb d_GlyphPositionsModel_takeMark_242 (lv_at hl 0 rfl) ?_
    refine lv_if_ne (tgt := 249) hx hb d_GlyphPositionsModel_takeMark_244 (by decide) (fun c1 => ?_) (fun c1 => ?_)
    rotate_left
    · rw [if_pos c1] at hf
      refine lv_iconst (v := (-1)) hx hb d_GlyphPositionsModel_takeMark_247 (by decide) ?_
      exact q_iret hC hr hlk hf (by first | rfl | decide) hP hS d_GlyphPositionsModel_takeMark_248
    rw [if_neg c1] at hf
    refine lv_aload_n hx hb d_GlyphPositionsModel_takeMark_249 rfl (lv_at hl 1 rfl) ?_
    refine xg_36_rights hC hP wq_143 d_GlyphPositionsModel_takeMark_250 ?_
    refine lv_iload hx hb d_GlyphPositionsModel_takeMark_253 (lv_at hl 2 rfl) ?_
    refine lv_iconst (v := 0) hx hb d_GlyphPositionsModel_takeMark_255 (by decide) ?_
    obtain ⟨hi, hf⟩ := q_grd_some hf
    obtain ⟨s16, e_s16, hf⟩ := q_lt_some hf
    refine xs_53 hC hP hD hS e_s16 hi d_GlyphPositionsModel_takeMark_256 (fun H locs hP hS => ?_)
    refine lv_aload_n hx hb d_GlyphPositionsModel_takeMark_257 rfl (lv_at hl 1 rfl) ?_
    refine xg_36_ups hC hP wq_144 d_GlyphPositionsModel_takeMark_258 ?_
    refine lv_iload hx hb d_GlyphPositionsModel_takeMark_261 (lv_at hl 2 rfl) ?_
    refine lv_iconst (v := 0) hx hb d_GlyphPositionsModel_takeMark_263 (by decide) ?_
    obtain ⟨hi, hf⟩ := q_grd_some hf
    obtain ⟨s17, e_s17, hf⟩ := q_lt_some hf
    refine xs_54 hC hP hD hS e_s17 hi d_GlyphPositionsModel_takeMark_264 (fun H locs hP hS => ?_)
    refine lv_aload_n hx hb d_GlyphPositionsModel_takeMark_265 rfl (lv_at hl 1 rfl) ?_
    refine lv_iload hx hb d_GlyphPositionsModel_takeMark_266 (lv_at hl 2 rfl) ?_
    refine lv_iload hx hb d_GlyphPositionsModel_takeMark_268 (lv_at hl 3 rfl) ?_
    refine lv_iconst (v := 0) hx hb d_GlyphPositionsModel_takeMark_270 (by decide) ?_
    refine lv_aload_n hx hb d_GlyphPositionsModel_takeMark_271 rfl (lv_at hl 1 rfl) ?_
    refine lv_iload hx hb d_GlyphPositionsModel_takeMark_272 (lv_at hl 6 rfl) ?_
    refine lv_iload hx hb d_GlyphPositionsModel_takeMark_274 (lv_at hl 0 rfl) ?_
    refine lv_iadd hx hb d_GlyphPositionsModel_takeMark_276 ?_
    refine lv_iconst (v := 2) hx hb d_GlyphPositionsModel_takeMark_277 (by decide) ?_
    refine lv_iadd hx hb d_GlyphPositionsModel_takeMark_278 ?_
    obtain ⟨r18, h_r18, hf⟩ := q_bn_some hf
    refine q_callVp (As := [.int ((x13_229 + r15) + 2)]) (rest := [.int 0, .int x6_229, .int x4_229, .ref (G.2.2 36)]) (q0 := 36) hC (c_xGlyphPositionsModel_s16 l G h_r18) cal_GlyphPositionsModel_s16 wq_211 ⟨rfl, rfl, Nat.le_of_ble_eq_true rfl, Nat.le_of_ble_eq_true rfl⟩ rfl rfl hP hT hS rfl hl.1 rfl (Nat.le_of_ble_eq_true rfl) d_GlyphPositionsModel_takeMark_279 (fun H locs hP hS => ?_)
    refine lv_aload_n hx hb d_GlyphPositionsModel_takeMark_282 rfl (lv_at hl 1 rfl) ?_
    refine lv_iload hx hb d_GlyphPositionsModel_takeMark_283 (lv_at hl 5 rfl) ?_
    refine lv_iconst (v := 2) hx hb d_GlyphPositionsModel_takeMark_285 (by decide) ?_
    refine lv_iadd hx hb d_GlyphPositionsModel_takeMark_286 ?_
    obtain ⟨r19, h_r19, hf⟩ := q_bn_some hf
    refine q_callVp (As := [.int (x12_229 + 2)]) (rest := [.int r18, .int 0, .int x6_229, .int x4_229, .ref (G.2.2 36)]) (q0 := 36) hC (c_xGlyphPositionsModel_s16 l G h_r19) cal_GlyphPositionsModel_s16 wq_211 ⟨rfl, rfl, Nat.le_of_ble_eq_true rfl, Nat.le_of_ble_eq_true rfl⟩ rfl rfl hP hT hS rfl hl.1 rfl (Nat.le_of_ble_eq_true rfl) d_GlyphPositionsModel_takeMark_287 (fun H locs hP hS => ?_)
    refine lv_isub hx hb d_GlyphPositionsModel_takeMark_290 ?_
    refine lv_aload_n hx hb d_GlyphPositionsModel_takeMark_291 rfl (lv_at hl 1 rfl) ?_
    refine lv_iload hx hb d_GlyphPositionsModel_takeMark_292 (lv_at hl 6 rfl) ?_
    refine lv_iload hx hb d_GlyphPositionsModel_takeMark_294 (lv_at hl 0 rfl) ?_
    refine lv_iadd hx hb d_GlyphPositionsModel_takeMark_296 ?_
    refine lv_iconst (v := 4) hx hb d_GlyphPositionsModel_takeMark_297 (by decide) ?_
    refine lv_iadd hx hb d_GlyphPositionsModel_takeMark_298 ?_
    obtain ⟨r20, h_r20, hf⟩ := q_bn_some hf
    refine q_callVp (As := [.int ((x13_229 + r15) + 4)]) (rest := [.int (r18 - r19), .int 0, .int x6_229, .int x4_229, .ref (G.2.2 36)]) (q0 := 36) hC (c_xGlyphPositionsModel_s16 l G h_r20) cal_GlyphPositionsModel_s16 wq_211 ⟨rfl, rfl, Nat.le_of_ble_eq_true rfl, Nat.le_of_ble_eq_true rfl⟩ rfl rfl hP hT hS rfl hl.1 rfl (Nat.le_of_ble_eq_true rfl) d_GlyphPositionsModel_takeMark_299 (fun H locs hP hS => ?_)
    refine lv_aload_n hx hb d_GlyphPositionsModel_takeMark_302 rfl (lv_at hl 1 rfl) ?_
    refine lv_iload hx hb d_GlyphPositionsModel_takeMark_303 (lv_at hl 5 rfl) ?_
    refine lv_iconst (v := 4) hx hb d_GlyphPositionsModel_takeMark_305 (by decide) ?_
    refine lv_iadd hx hb d_GlyphPositionsModel_takeMark_306 ?_
    obtain ⟨r21, h_r21, hf⟩ := q_bn_some hf
    refine q_callVp (As := [.int (x12_229 + 4)]) (rest := [.int r20, .int (r18 - r19), .int 0, .int x6_229, .int x4_229, .ref (G.2.2 36)]) (q0 := 36) hC (c_xGlyphPositionsModel_s16 l G h_r21) cal_GlyphPositionsModel_s16 wq_211 ⟨rfl, rfl, Nat.le_of_ble_eq_true rfl, Nat.le_of_ble_eq_true rfl⟩ rfl rfl hP hT hS rfl hl.1 rfl (Nat.le_of_ble_eq_true rfl) d_GlyphPositionsModel_takeMark_307 (fun H locs hP hS => ?_)
    refine lv_isub hx hb d_GlyphPositionsModel_takeMark_310 ?_
    obtain ⟨sr22, h_r22, hf⟩ := q_bv_some hf
    refine q_callVv (As := [.int x4_229, .int x6_229, .int 0, .int (r18 - r19), .int (r20 - r21)]) (rest := []) (q0 := 36) hC (c_xGlyphPositionsModel_hang l G h_r22) cal_GlyphPositionsModel_hang wq_212 ⟨rfl, rfl, Nat.le_of_ble_eq_true rfl, Nat.le_of_ble_eq_true rfl⟩ rfl rfl hP hD hA hS rfl hl.1 rfl (Nat.le_of_ble_eq_true rfl) d_GlyphPositionsModel_takeMark_311 (fun H locs hP hS => ?_)
    refine lv_iload hx hb d_GlyphPositionsModel_takeMark_314 (lv_at hl 2 rfl) ?_
    refine lv_iconst (v := 1) hx hb d_GlyphPositionsModel_takeMark_316 (by decide) ?_
    refine lv_iadd hx hb d_GlyphPositionsModel_takeMark_317 ?_
    exact q_iret hC hr hlk hf (by first | rfl | decide) hP hS d_GlyphPositionsModel_takeMark_318
  have J_211 : ∀ (x4_211 x6_211 x8_211 x11_211 x12_211 x13_211 w0_211 : Int32) (st_211 : QSt) (H : Heap) (locs : List Loc) (ls : Array Slot), xGlyphPositionsModel_takeMark_211 N x4_211 x6_211 x8_211 x11_211 x12_211 x13_211 w0_211 st_211 = some (ro, so) → va_P G.1 vwCl (wX G st_211) H → va_S A s.heap H locs → lv_has ls 17 [(0, .ref (G.2.2 36)), (4, .int x4_211), (6, .int x6_211), (8, .int x8_211), (11, .int x11_211), (12, .int x12_211), (13, .int x13_211)] → W p l e ({ frames := 3, cells := 0, slots := 0, locals := 73 } : Room) s m args below meth c H locs 0 0 (q_Zi below args s G.1 (wX G) ro so A) (F0 m 211 ls [.int w0_211]) := by
    intro x4_211 x6_211 x8_211 x11_211 x12_211 x13_211 w0_211 st_211 H locs ls hf hP hS hl
    unfold xGlyphPositionsModel_takeMark_211 at hf
    refine lv_istore (lv' := [(16, .int w0_211), (0, .ref (G.2.2 36)), (4, .int x4_211), (6, .int x6_211), (8, .int x8_211), (11, .int x11_211), (12, .int x12_211), (13, .int x13_211)]) hx hb d_GlyphPositionsModel_takeMark_211 hl (by decide) rfl (fun ls hl => ?_)
    refine lv_iload hx hb d_GlyphPositionsModel_takeMark_213 (lv_at hl 7 rfl) ?_
    refine lv_iconst (v := 2) hx hb d_GlyphPositionsModel_takeMark_215 (by decide) ?_
    refine lv_iadd hx hb d_GlyphPositionsModel_takeMark_216 ?_
    refine lv_iconst (v := 2) hx hb d_GlyphPositionsModel_takeMark_217 (by decide) ?_
    refine lv_iload hx hb d_GlyphPositionsModel_takeMark_218 (lv_at hl 4 rfl) ?_
    refine lv_imul hx hb d_GlyphPositionsModel_takeMark_220 ?_
    refine lv_iload hx hb d_GlyphPositionsModel_takeMark_221 (lv_at hl 0 rfl) ?_
    refine lv_iconst (v := 1) hx hb d_GlyphPositionsModel_takeMark_223 (by decide) ?_
    refine lv_isub hx hb d_GlyphPositionsModel_takeMark_224 ?_
    refine lv_imul hx hb d_GlyphPositionsModel_takeMark_225 ?_
    refine lv_iadd hx hb d_GlyphPositionsModel_takeMark_226 ?_
    obtain ⟨x14_1027, e_x14_1027, hf⟩ := q_lt_some hf
    refine q_topi e_x14_1027 ?_
    refine lv_istore (lv' := [(14, .int x14_1027), (16, .int w0_211), (0, .ref (G.2.2 36)), (4, .int x4_211), (6, .int x6_211), (8, .int x8_211), (11, .int x11_211), (12, .int x12_211), (13, .int x13_211)]) hx hb d_GlyphPositionsModel_takeMark_227 hl (by decide) rfl (fun ls hl => ?_)
    exact J_229 _ _ _ _ _ _ _ _ _ _ hf hP hS (lv_sub hl [2, 3, 4, 6, 7, 8, 0] rfl)
  have J_199 : ∀ (x4_199 x6_199 x8_199 x11_199 x12_199 x13_199 x15_199 : Int32) (st_199 : QSt) (H : Heap) (locs : List Loc) (ls : Array Slot), xGlyphPositionsModel_takeMark_199 N x4_199 x6_199 x8_199 x11_199 x12_199 x13_199 x15_199 st_199 = some (ro, so) → va_P G.1 vwCl (wX G st_199) H → va_S A s.heap H locs → lv_has ls 17 [(0, .ref (G.2.2 36)), (4, .int x4_199), (6, .int x6_199), (8, .int x8_199), (11, .int x11_199), (12, .int x12_199), (13, .int x13_199), (15, .int x15_199)] → W p l e ({ frames := 3, cells := 0, slots := 0, locals := 73 } : Room) s m args below meth c H locs 0 0 (q_Zi below args s G.1 (wX G) ro so A) (F0 m 199 ls []) := by
    intro x4_199 x6_199 x8_199 x11_199 x12_199 x13_199 x15_199 st_199 H locs ls hf hP hS hl
    unfold xGlyphPositionsModel_takeMark_199 at hf
    refine lv_iload hx hb d_GlyphPositionsModel_takeMark_199 (lv_at hl 7 rfl) ?_
    refine lv_goto (tgt := 211) hx hb d_GlyphPositionsModel_takeMark_201 (by decide) ?_
    exact J_211 _ _ _ _ _ _ _ _ _ _ _ hf hP hS (lv_sub hl [0, 1, 2, 3, 4, 5, 6] rfl)
  have J_47 : ∀ (x1_47 x3_47 x4_47 x5_47 x6_47 w0_47 : Int32) (st_47 : QSt) (H : Heap) (locs : List Loc) (ls : Array Slot), xGlyphPositionsModel_takeMark_47 N x1_47 x3_47 x4_47 x5_47 x6_47 w0_47 st_47 = some (ro, so) → va_P G.1 vwCl (wX G st_47) H → va_S A s.heap H locs → lv_has ls 17 [(0, .ref (G.2.2 36)), (1, .int x1_47), (3, .int x3_47), (4, .int x4_47), (5, .int x5_47), (6, .int x6_47)] → W p l e ({ frames := 3, cells := 0, slots := 0, locals := 73 } : Room) s m args below meth c H locs 0 0 (q_Zi below args s G.1 (wX G) ro so A) (F0 m 47 ls [.int w0_47]) := by
    intro x1_47 x3_47 x4_47 x5_47 x6_47 w0_47 st_47 H locs ls hf hP hS hl
    unfold xGlyphPositionsModel_takeMark_47 at hf
    refine lv_istore (lv' := [(7, .int w0_47), (0, .ref (G.2.2 36)), (1, .int x1_47), (3, .int x3_47), (4, .int x4_47), (5, .int x5_47), (6, .int x6_47)]) hx hb d_GlyphPositionsModel_takeMark_47 hl (by decide) rfl (fun ls hl => ?_)
    refine lv_iload hx hb d_GlyphPositionsModel_takeMark_49 (lv_at hl 5 rfl) ?_
    refine lv_if_lt (tgt := 59) hx hb d_GlyphPositionsModel_takeMark_51 (by decide) (fun c1 => ?_) (fun c1 => ?_)
    · rw [if_pos c1] at hf
      refine lv_iconst (v := (-1)) hx hb d_GlyphPositionsModel_takeMark_59 (by decide) ?_
      exact q_iret hC hr hlk hf (by first | rfl | decide) hP hS d_GlyphPositionsModel_takeMark_60
    rw [if_neg c1] at hf
    refine lv_iload hx hb d_GlyphPositionsModel_takeMark_54 (lv_at hl 0 rfl) ?_
    refine lv_if_ge (tgt := 61) hx hb d_GlyphPositionsModel_takeMark_56 (by decide) (fun c1 => ?_) (fun c1 => ?_)
    rotate_left
    · rw [if_neg c1] at hf
      refine lv_iconst (v := (-1)) hx hb d_GlyphPositionsModel_takeMark_59 (by decide) ?_
      exact q_iret hC hr hlk hf (by first | rfl | decide) hP hS d_GlyphPositionsModel_takeMark_60
    rw [if_pos c1] at hf
    refine lv_aload_n hx hb d_GlyphPositionsModel_takeMark_61 rfl (lv_at hl 1 rfl) ?_
    refine lv_iload_n hx hb d_GlyphPositionsModel_takeMark_62 rfl (lv_at hl 3 rfl) ?_
    refine lv_bipush (v := 6) hx hb d_GlyphPositionsModel_takeMark_63 (by decide) ?_
    refine lv_iadd hx hb d_GlyphPositionsModel_takeMark_65 ?_
    obtain ⟨r6, h_r6, hf⟩ := q_bn_some hf
    refine q_callVp (As := [.int (x3_47 + 6)]) (rest := []) (q0 := 36) hC (c_xGlyphPositionsModel_f16 l G h_r6) cal_GlyphPositionsModel_f16 wq_193 ⟨rfl, rfl, Nat.le_of_ble_eq_true rfl, Nat.le_of_ble_eq_true rfl⟩ rfl rfl hP hT hS rfl hl.1 rfl (Nat.le_of_ble_eq_true rfl) d_GlyphPositionsModel_takeMark_66 (fun H locs hP hS => ?_)
    refine lv_istore (lv' := [(8, .int r6), (7, .int w0_47), (0, .ref (G.2.2 36)), (1, .int x1_47), (3, .int x3_47), (4, .int x4_47), (5, .int x5_47), (6, .int x6_47)]) hx hb d_GlyphPositionsModel_takeMark_69 hl (by decide) rfl (fun ls hl => ?_)
    refine lv_iload_n hx hb d_GlyphPositionsModel_takeMark_71 rfl (lv_at hl 4 rfl) ?_
    refine lv_aload_n hx hb d_GlyphPositionsModel_takeMark_72 rfl (lv_at hl 2 rfl) ?_
    refine lv_iload_n hx hb d_GlyphPositionsModel_takeMark_73 rfl (lv_at hl 4 rfl) ?_
    refine lv_bipush (v := 8) hx hb d_GlyphPositionsModel_takeMark_74 (by decide) ?_
    refine lv_iadd hx hb d_GlyphPositionsModel_takeMark_76 ?_
    obtain ⟨r7, h_r7, hf⟩ := q_bn_some hf
    refine q_callVp (As := [.int (x3_47 + 8)]) (rest := [.int x3_47]) (q0 := 36) hC (c_xGlyphPositionsModel_f16 l G h_r7) cal_GlyphPositionsModel_f16 wq_193 ⟨rfl, rfl, Nat.le_of_ble_eq_true rfl, Nat.le_of_ble_eq_true rfl⟩ rfl rfl hP hT hS rfl hl.1 rfl (Nat.le_of_ble_eq_true rfl) d_GlyphPositionsModel_takeMark_77 (fun H locs hP hS => ?_)
    refine lv_iadd hx hb d_GlyphPositionsModel_takeMark_80 ?_
    obtain ⟨x9_1008, e_x9_1008, hf⟩ := q_lt_some hf
    refine q_topi e_x9_1008 ?_
    refine lv_istore (lv' := [(9, .int x9_1008), (8, .int r6), (7, .int w0_47), (0, .ref (G.2.2 36)), (1, .int x1_47), (3, .int x3_47), (4, .int x4_47), (5, .int x5_47), (6, .int x6_47)]) hx hb d_GlyphPositionsModel_takeMark_81 hl (by decide) rfl (fun ls hl => ?_)
    refine lv_iload_n hx hb d_GlyphPositionsModel_takeMark_83 rfl (lv_at hl 5 rfl) ?_
    refine lv_aload_n hx hb d_GlyphPositionsModel_takeMark_84 rfl (lv_at hl 3 rfl) ?_
    refine lv_iload_n hx hb d_GlyphPositionsModel_takeMark_85 rfl (lv_at hl 5 rfl) ?_
    refine lv_bipush (v := 10) hx hb d_GlyphPositionsModel_takeMark_86 (by decide) ?_
    refine lv_iadd hx hb d_GlyphPositionsModel_takeMark_88 ?_
    obtain ⟨r9, h_r9, hf⟩ := q_bn_some hf
    refine q_callVp (As := [.int (x3_47 + 10)]) (rest := [.int x3_47]) (q0 := 36) hC (c_xGlyphPositionsModel_f16 l G h_r9) cal_GlyphPositionsModel_f16 wq_193 ⟨rfl, rfl, Nat.le_of_ble_eq_true rfl, Nat.le_of_ble_eq_true rfl⟩ rfl rfl hP hT hS rfl hl.1 rfl (Nat.le_of_ble_eq_true rfl) d_GlyphPositionsModel_takeMark_89 (fun H locs hP hS => ?_)
    refine lv_iadd hx hb d_GlyphPositionsModel_takeMark_92 ?_
    obtain ⟨x10_1010, e_x10_1010, hf⟩ := q_lt_some hf
    refine q_topi e_x10_1010 ?_
    refine lv_istore (lv' := [(10, .int x10_1010), (9, .int x9_1008), (8, .int r6), (7, .int w0_47), (0, .ref (G.2.2 36)), (1, .int x1_47), (3, .int x3_47), (4, .int x4_47), (5, .int x5_47), (6, .int x6_47)]) hx hb d_GlyphPositionsModel_takeMark_93 hl (by decide) rfl (fun ls hl => ?_)
    refine lv_aload_n hx hb d_GlyphPositionsModel_takeMark_95 rfl (lv_at hl 4 rfl) ?_
    refine lv_iload hx hb d_GlyphPositionsModel_takeMark_96 (lv_at hl 1 rfl) ?_
    refine lv_iconst (v := 2) hx hb d_GlyphPositionsModel_takeMark_98 (by decide) ?_
    refine lv_iadd hx hb d_GlyphPositionsModel_takeMark_99 ?_
    refine lv_iconst (v := 4) hx hb d_GlyphPositionsModel_takeMark_100 (by decide) ?_
    refine lv_iload hx hb d_GlyphPositionsModel_takeMark_101 (lv_at hl 8 rfl) ?_
    refine lv_imul hx hb d_GlyphPositionsModel_takeMark_103 ?_
    refine lv_iadd hx hb d_GlyphPositionsModel_takeMark_104 ?_
    obtain ⟨r11, h_r11, hf⟩ := q_bn_some hf
    refine q_callVp (As := [.int ((x9_1008 + 2) + (4 * x5_47))]) (rest := []) (q0 := 36) hC (c_xGlyphPositionsModel_f16 l G h_r11) cal_GlyphPositionsModel_f16 wq_193 ⟨rfl, rfl, Nat.le_of_ble_eq_true rfl, Nat.le_of_ble_eq_true rfl⟩ rfl rfl hP hT hS rfl hl.1 rfl (Nat.le_of_ble_eq_true rfl) d_GlyphPositionsModel_takeMark_105 (fun H locs hP hS => ?_)
    refine lv_istore (lv' := [(11, .int r11), (10, .int x10_1010), (9, .int x9_1008), (8, .int r6), (7, .int w0_47), (0, .ref (G.2.2 36)), (1, .int x1_47), (3, .int x3_47), (4, .int x4_47), (5, .int x5_47), (6, .int x6_47)]) hx hb d_GlyphPositionsModel_takeMark_108 hl (by decide) rfl (fun ls hl => ?_)
    refine lv_iload hx hb d_GlyphPositionsModel_takeMark_110 (lv_at hl 2 rfl) ?_
    refine lv_aload_n hx hb d_GlyphPositionsModel_takeMark_112 rfl (lv_at hl 5 rfl) ?_
    refine lv_iload hx hb d_GlyphPositionsModel_takeMark_113 (lv_at hl 2 rfl) ?_
    refine lv_iconst (v := 4) hx hb d_GlyphPositionsModel_takeMark_115 (by decide) ?_
    refine lv_iadd hx hb d_GlyphPositionsModel_takeMark_116 ?_
    refine lv_iconst (v := 4) hx hb d_GlyphPositionsModel_takeMark_117 (by decide) ?_
    refine lv_iload hx hb d_GlyphPositionsModel_takeMark_118 (lv_at hl 9 rfl) ?_
    refine lv_imul hx hb d_GlyphPositionsModel_takeMark_120 ?_
    refine lv_iadd hx hb d_GlyphPositionsModel_takeMark_121 ?_
    obtain ⟨r12, h_r12, hf⟩ := q_bn_some hf
    refine q_callVp (As := [.int ((x9_1008 + 4) + (4 * x5_47))]) (rest := [.int x9_1008]) (q0 := 36) hC (c_xGlyphPositionsModel_f16 l G h_r12) cal_GlyphPositionsModel_f16 wq_193 ⟨rfl, rfl, Nat.le_of_ble_eq_true rfl, Nat.le_of_ble_eq_true rfl⟩ rfl rfl hP hT hS rfl hl.1 rfl (Nat.le_of_ble_eq_true rfl) d_GlyphPositionsModel_takeMark_122 (fun H locs hP hS => ?_)
    refine lv_iadd hx hb d_GlyphPositionsModel_takeMark_125 ?_
    obtain ⟨x12_1013, e_x12_1013, hf⟩ := q_lt_some hf
    refine q_topi e_x12_1013 ?_
    refine lv_istore (lv' := [(12, .int x12_1013), (11, .int r11), (10, .int x10_1010), (9, .int x9_1008), (8, .int r6), (7, .int w0_47), (0, .ref (G.2.2 36)), (1, .int x1_47), (3, .int x3_47), (4, .int x4_47), (5, .int x5_47), (6, .int x6_47)]) hx hb d_GlyphPositionsModel_takeMark_126 hl (by decide) rfl (fun ls hl => ?_)
    refine lv_iload hx hb d_GlyphPositionsModel_takeMark_128 (lv_at hl 2 rfl) ?_
    refine lv_istore (lv' := [(13, .int x10_1010), (12, .int x12_1013), (11, .int r11), (10, .int x10_1010), (9, .int x9_1008), (8, .int r6), (7, .int w0_47), (0, .ref (G.2.2 36)), (1, .int x1_47), (3, .int x3_47), (4, .int x4_47), (5, .int x5_47), (6, .int x6_47)]) hx hb d_GlyphPositionsModel_takeMark_130 hl (by decide) rfl (fun ls hl => ?_)
    refine lv_iload hx hb d_GlyphPositionsModel_takeMark_132 (lv_at hl 3 rfl) ?_
    refine lv_iconst (v := 2) hx hb d_GlyphPositionsModel_takeMark_134 (by decide) ?_
    refine lv_iadd hx hb d_GlyphPositionsModel_takeMark_135 ?_
    refine lv_iconst (v := 2) hx hb d_GlyphPositionsModel_takeMark_136 (by decide) ?_
    refine lv_iload hx hb d_GlyphPositionsModel_takeMark_137 (lv_at hl 5 rfl) ?_
    refine lv_imul hx hb d_GlyphPositionsModel_takeMark_139 ?_
    refine lv_iload hx hb d_GlyphPositionsModel_takeMark_140 (lv_at hl 6 rfl) ?_
    refine lv_imul hx hb d_GlyphPositionsModel_takeMark_142 ?_
    refine lv_iadd hx hb d_GlyphPositionsModel_takeMark_143 ?_
    obtain ⟨x14_1014, e_x14_1014, hf⟩ := q_lt_some hf
    refine q_topi e_x14_1014 ?_
    refine lv_istore (lv' := [(14, .int x14_1014), (13, .int x10_1010), (12, .int x12_1013), (11, .int r11), (10, .int x10_1010), (9, .int x9_1008), (8, .int r6), (7, .int w0_47), (0, .ref (G.2.2 36)), (1, .int x1_47), (3, .int x3_47), (4, .int x4_47), (5, .int x5_47), (6, .int x6_47)]) hx hb d_GlyphPositionsModel_takeMark_144 hl (by decide) rfl (fun ls hl => ?_)
    refine lv_iload_n hx hb d_GlyphPositionsModel_takeMark_146 rfl (lv_at hl 9 rfl) ?_
    refine lv_iconst (v := 5) hx hb d_GlyphPositionsModel_takeMark_147 (by decide) ?_
    refine lv_icmp_ne (tgt := 229) hx hb d_GlyphPositionsModel_takeMark_148 (by decide) (fun c1 => ?_) (fun c1 => ?_)
    · rw [if_neg c1] at hf
      exact J_229 _ _ _ _ _ _ _ _ _ _ hf hP hS (lv_sub hl [8, 11, 13, 3, 2, 1, 0] rfl)
    rw [if_pos c1] at hf
    refine lv_iload hx hb d_GlyphPositionsModel_takeMark_151 (lv_at hl 4 rfl) ?_
    refine lv_aload_n hx hb d_GlyphPositionsModel_takeMark_153 rfl (lv_at hl 8 rfl) ?_
    refine lv_iload hx hb d_GlyphPositionsModel_takeMark_154 (lv_at hl 4 rfl) ?_
    refine lv_iconst (v := 2) hx hb d_GlyphPositionsModel_takeMark_156 (by decide) ?_
    refine lv_iadd hx hb d_GlyphPositionsModel_takeMark_157 ?_
    refine lv_iconst (v := 2) hx hb d_GlyphPositionsModel_takeMark_158 (by decide) ?_
    refine lv_iload hx hb d_GlyphPositionsModel_takeMark_159 (lv_at hl 7 rfl) ?_
    refine lv_imul hx hb d_GlyphPositionsModel_takeMark_161 ?_
    refine lv_iadd hx hb d_GlyphPositionsModel_takeMark_162 ?_
    obtain ⟨r23, h_r23, hf⟩ := q_bn_some hf
    refine q_callVp (As := [.int ((x10_1010 + 2) + (2 * w0_47))]) (rest := [.int x10_1010]) (q0 := 36) hC (c_xGlyphPositionsModel_f16 l G h_r23) cal_GlyphPositionsModel_f16 wq_193 ⟨rfl, rfl, Nat.le_of_ble_eq_true rfl, Nat.le_of_ble_eq_true rfl⟩ rfl rfl hP hT hS rfl hl.1 rfl (Nat.le_of_ble_eq_true rfl) d_GlyphPositionsModel_takeMark_163 (fun H locs hP hS => ?_)
    refine lv_iadd hx hb d_GlyphPositionsModel_takeMark_166 ?_
    obtain ⟨x13_1024, e_x13_1024, hf⟩ := q_lt_some hf
    refine q_topi e_x13_1024 ?_
    refine lv_istore (lv' := [(13, .int x13_1024), (14, .int x14_1014), (12, .int x12_1013), (11, .int r11), (10, .int x10_1010), (9, .int x9_1008), (8, .int r6), (7, .int w0_47), (0, .ref (G.2.2 36)), (1, .int x1_47), (3, .int x3_47), (4, .int x4_47), (5, .int x5_47), (6, .int x6_47)]) hx hb d_GlyphPositionsModel_takeMark_167 hl (by decide) rfl (fun ls hl => ?_)
    refine lv_aload_n hx hb d_GlyphPositionsModel_takeMark_169 rfl (lv_at hl 8 rfl) ?_
    refine lv_iload hx hb d_GlyphPositionsModel_takeMark_170 (lv_at hl 0 rfl) ?_
    obtain ⟨r25, h_r25, hf⟩ := q_bn_some hf
    refine q_callVp (As := [.int x13_1024]) (rest := []) (q0 := 36) hC (c_xGlyphPositionsModel_f16 l G h_r25) cal_GlyphPositionsModel_f16 wq_193 ⟨rfl, rfl, Nat.le_of_ble_eq_true rfl, Nat.le_of_ble_eq_true rfl⟩ rfl rfl hP hT hS rfl hl.1 rfl (Nat.le_of_ble_eq_true rfl) d_GlyphPositionsModel_takeMark_172 (fun H locs hP hS => ?_)
    refine lv_istore (lv' := [(15, .int r25), (13, .int x13_1024), (14, .int x14_1014), (12, .int x12_1013), (11, .int r11), (10, .int x10_1010), (9, .int x9_1008), (8, .int r6), (7, .int w0_47), (0, .ref (G.2.2 36)), (1, .int x1_47), (3, .int x3_47), (4, .int x4_47), (5, .int x5_47), (6, .int x6_47)]) hx hb d_GlyphPositionsModel_takeMark_175 hl (by decide) rfl (fun ls hl => ?_)
    refine lv_aload_n hx hb d_GlyphPositionsModel_takeMark_177 rfl (lv_at hl 9 rfl) ?_
    refine xg_36_parts hC hP wq_213 d_GlyphPositionsModel_takeMark_178 ?_
    refine lv_iload hx hb d_GlyphPositionsModel_takeMark_181 (lv_at hl 12 rfl) ?_
    obtain ⟨hi, hf⟩ := q_grd_some hf
    obtain ⟨v26, e_v26, hf⟩ := q_lt_some hf
    refine xl_50 hC hP e_v26 hi d_GlyphPositionsModel_takeMark_183 ?_
    refine lv_if_eq (tgt := 199) hx hb d_GlyphPositionsModel_takeMark_184 (by decide) (fun c1 => ?_) (fun c1 => ?_)
    · rw [if_pos c1] at hf
      exact J_199 _ _ _ _ _ _ _ _ _ _ _ hf hP hS (lv_sub hl [9, 12, 14, 7, 4, 3, 1, 0] rfl)
    rw [if_neg c1] at hf
    refine lv_aload_n hx hb d_GlyphPositionsModel_takeMark_187 rfl (lv_at hl 9 rfl) ?_
    refine xg_36_parts hC hP wq_213 d_GlyphPositionsModel_takeMark_188 ?_
    refine lv_iload hx hb d_GlyphPositionsModel_takeMark_191 (lv_at hl 12 rfl) ?_
    obtain ⟨hi, hf⟩ := q_grd_some hf
    obtain ⟨v28, e_v28, hf⟩ := q_lt_some hf
    refine xl_50 hC hP e_v28 hi d_GlyphPositionsModel_takeMark_193 ?_
    refine lv_iload hx hb d_GlyphPositionsModel_takeMark_194 (lv_at hl 0 rfl) ?_
    refine lv_icmp_le (tgt := 204) hx hb d_GlyphPositionsModel_takeMark_196 (by decide) (fun c1 => ?_) (fun c1 => ?_)
    rotate_left
    · rw [if_neg c1] at hf
      exact J_199 _ _ _ _ _ _ _ _ _ _ _ hf hP hS (lv_sub hl [9, 12, 14, 7, 4, 3, 1, 0] rfl)
    rw [if_pos c1] at hf
    refine lv_aload_n hx hb d_GlyphPositionsModel_takeMark_204 rfl (lv_at hl 9 rfl) ?_
    refine xg_36_parts hC hP wq_213 d_GlyphPositionsModel_takeMark_205 ?_
    refine lv_iload hx hb d_GlyphPositionsModel_takeMark_208 (lv_at hl 12 rfl) ?_
    obtain ⟨hi, hf⟩ := q_grd_some hf
    obtain ⟨v29, e_v29, hf⟩ := q_lt_some hf
    refine xl_50 hC hP e_v29 hi d_GlyphPositionsModel_takeMark_210 ?_
    exact J_211 _ _ _ _ _ _ _ _ _ _ _ hf hP hS (lv_sub hl [9, 12, 14, 7, 4, 3, 1] rfl)
  unfold xGlyphPositionsModel_takeMark at hf
  refine lv_aload_n hx hb d_GlyphPositionsModel_takeMark_0 rfl (lv_at hl 0 rfl) ?_
  refine lv_iload_n hx hb d_GlyphPositionsModel_takeMark_1 rfl (lv_at hl 3 rfl) ?_
  refine lv_iconst (v := 2) hx hb d_GlyphPositionsModel_takeMark_2 (by decide) ?_
  refine lv_aload_n hx hb d_GlyphPositionsModel_takeMark_3 rfl (lv_at hl 0 rfl) ?_
  refine xg_36_glyphs hC hP wq_208 d_GlyphPositionsModel_takeMark_4 ?_
  refine lv_iload hx hb d_GlyphPositionsModel_takeMark_7 (lv_at hl 4 rfl) ?_
  obtain ⟨hi, hf⟩ := q_grd_some hf
  obtain ⟨v1, e_v1, hf⟩ := q_lt_some hf
  refine xl_49 hC hP e_v1 hi d_GlyphPositionsModel_takeMark_9 ?_
  obtain ⟨r2, h_r2, hf⟩ := q_bn_some hf
  refine q_callVp (As := [.int x3, .int 2, .int v1]) (rest := []) (q0 := 36) hC (c_xGlyphPositionsModel_covered l G h_r2) cal_GlyphPositionsModel_covered wq_214 ⟨rfl, rfl, Nat.le_of_ble_eq_true rfl, Nat.le_of_ble_eq_true rfl⟩ rfl rfl hP hT hS rfl hl.1 rfl (Nat.le_of_ble_eq_true rfl) d_GlyphPositionsModel_takeMark_10 (fun H locs hP hS => ?_)
  refine lv_istore (lv' := [(5, .int r2), (0, .ref (G.2.2 36)), (1, .int x1), (2, .int x2), (3, .int x3), (4, .int x4)]) hx hb d_GlyphPositionsModel_takeMark_13 hl (by decide) rfl (fun ls hl => ?_)
  refine lv_aload_n hx hb d_GlyphPositionsModel_takeMark_15 rfl (lv_at hl 1 rfl) ?_
  refine lv_iload_n hx hb d_GlyphPositionsModel_takeMark_16 rfl (lv_at hl 2 rfl) ?_
  refine lv_iload_n hx hb d_GlyphPositionsModel_takeMark_17 rfl (lv_at hl 3 rfl) ?_
  refine lv_iload hx hb d_GlyphPositionsModel_takeMark_18 (lv_at hl 5 rfl) ?_
  obtain ⟨r3, h_r3, hf⟩ := q_bn_some hf
  refine q_callVp (As := [.int x1, .int x2, .int x4]) (rest := []) (q0 := 36) hC (c_xGlyphPositionsModel_baseOf l G h_r3) cal_GlyphPositionsModel_baseOf wq_215 ⟨rfl, rfl, Nat.le_of_ble_eq_true rfl, Nat.le_of_ble_eq_true rfl⟩ rfl rfl hP hT hS rfl hl.1 rfl (Nat.le_of_ble_eq_true rfl) d_GlyphPositionsModel_takeMark_20 (fun H locs hP hS => ?_)
  refine lv_istore (lv' := [(6, .int r3), (5, .int r2), (0, .ref (G.2.2 36)), (1, .int x1), (2, .int x2), (3, .int x3), (4, .int x4)]) hx hb d_GlyphPositionsModel_takeMark_23 hl (by decide) rfl (fun ls hl => ?_)
  refine lv_iload hx hb d_GlyphPositionsModel_takeMark_25 (lv_at hl 0 rfl) ?_
  refine lv_if_ge (tgt := 34) hx hb d_GlyphPositionsModel_takeMark_27 (by decide) (fun c1 => ?_) (fun c1 => ?_)
  rotate_left
  · rw [if_neg c1] at hf
    refine lv_iconst (v := (-1)) hx hb d_GlyphPositionsModel_takeMark_30 (by decide) ?_
    refine lv_goto (tgt := 47) hx hb d_GlyphPositionsModel_takeMark_31 (by decide) ?_
    exact J_47 _ _ _ _ _ _ _ _ _ _ hf hP hS (lv_sub hl [2, 3, 5, 6, 1, 0] rfl)
  rw [if_pos c1] at hf
  refine lv_aload_n hx hb d_GlyphPositionsModel_takeMark_34 rfl (lv_at hl 2 rfl) ?_
  refine lv_iload_n hx hb d_GlyphPositionsModel_takeMark_35 rfl (lv_at hl 5 rfl) ?_
  refine lv_iconst (v := 4) hx hb d_GlyphPositionsModel_takeMark_36 (by decide) ?_
  refine lv_aload_n hx hb d_GlyphPositionsModel_takeMark_37 rfl (lv_at hl 2 rfl) ?_
  refine xg_36_glyphs hC hP wq_208 d_GlyphPositionsModel_takeMark_38 ?_
  refine lv_iload hx hb d_GlyphPositionsModel_takeMark_41 (lv_at hl 0 rfl) ?_
  obtain ⟨hi, hf⟩ := q_grd_some hf
  obtain ⟨v4, e_v4, hf⟩ := q_lt_some hf
  refine xl_49 hC hP e_v4 hi d_GlyphPositionsModel_takeMark_43 ?_
  obtain ⟨r5, h_r5, hf⟩ := q_bn_some hf
  refine q_callVp (As := [.int x3, .int 4, .int v4]) (rest := []) (q0 := 36) hC (c_xGlyphPositionsModel_covered l G h_r5) cal_GlyphPositionsModel_covered wq_214 ⟨rfl, rfl, Nat.le_of_ble_eq_true rfl, Nat.le_of_ble_eq_true rfl⟩ rfl rfl hP hT hS rfl hl.1 rfl (Nat.le_of_ble_eq_true rfl) d_GlyphPositionsModel_takeMark_44 (fun H locs hP hS => ?_)
  exact J_47 _ _ _ _ _ _ _ _ _ _ hf hP hS (lv_sub hl [2, 3, 5, 6, 1, 0] rfl)
def xGlyphPositionsModel_nextOf_32 (N : Nat) (st : QSt) (x3_32 : Int32) : Option Int32 :=
  if (st.1 21) ≤ x3_32 then (some (-1)) else (some x3_32)
def xGlyphPositionsModel_nextOf_4 (N : Nat) (st : QSt) (x1_4 : Int32) : Nat → Int32 → Option Int32
  | 0, _ => none
  | n_4 + 1, x3_4 => if (st.1 21) ≤ x3_4 then (xGlyphPositionsModel_nextOf_32 N st x3_4) else (q_grd (q_vpb x3_4 800) (q_lt (st.2 38 x3_4.toNatClampNeg) (fun v2 => q_bn (xGlyphPositionsModel_isPassed N x1_4 v2 st) (fun r3 => if r3 = 0 then (xGlyphPositionsModel_nextOf_32 N st x3_4) else (xGlyphPositionsModel_nextOf_4 N st x1_4 n_4 (x3_4 + 1))))))
def xGlyphPositionsModel_nextOf (N : Nat) (x1 x2 : Int32) (st : QSt) : Option Int32 :=
  q_lt (x2 + 1) (fun x3_1001 => xGlyphPositionsModel_nextOf_4 N st x1 N x3_1001)
set_option maxHeartbeats 4000000 in
set_option maxRecDepth 100000 in
theorem c_xGlyphPositionsModel_nextOf (l : Launch) (G : XG) {N : Nat} {x1 x2 : Int32} {st : QSt} {ro : Int32} (hf : xGlyphPositionsModel_nextOf N x1 x2 st = some ro) : q_Mp l y_GlyphPositionsModel_nextOf b_GlyphPositionsModel_nextOf 4 .int ({ frames := 2, cells := 0, slots := 0, locals := 49 } : Room) G.1 (xT G) (wX G) [.ref (G.2.2 36), .int x1, .int x2] st ro := by
  refine q_Mp_of (by decide) (Nat.le_of_ble_eq_true rfl) (wX_fst G) ?_
  intro p e s m args below meth c ls hC hr hlk hT hP hS hl
  have hx := hC.1.1
  have hb := hC.1.2.1
  have hown := hC.1.2.2.2.1
  have hts := hC.1.2.2.2.2
  have hl : lv_has ls 4 [(0, .ref (G.2.2 36)), (1, .int x1), (2, .int x2)] := hl
  have J_32 : ∀ (x3_32 : Int32) (H : Heap) (locs : List Loc) (ls : Array Slot), xGlyphPositionsModel_nextOf_32 N st x3_32 = some ro → va_P G.1 vwCl (wX G st) H → va_S (fun _ => False) s.heap H locs → lv_has ls 4 [(0, .ref (G.2.2 36)), (3, .int x3_32)] → W p l e ({ frames := 2, cells := 0, slots := 0, locals := 49 } : Room) s m args below meth c H locs 0 0 (q_Zp below args s ro) (F0 m 32 ls []) := by
    intro x3_32 H locs ls hf hP hS hl
    unfold xGlyphPositionsModel_nextOf_32 at hf
    refine lv_iload_n hx hb d_GlyphPositionsModel_nextOf_32 rfl (lv_at hl 1 rfl) ?_
    refine lv_aload_n hx hb d_GlyphPositionsModel_nextOf_33 rfl (lv_at hl 0 rfl) ?_
    refine xg_36_many hC hP wq_146 d_GlyphPositionsModel_nextOf_34 ?_
    refine lv_icmp_ge (tgt := 44) hx hb d_GlyphPositionsModel_nextOf_37 (by decide) (fun c1 => ?_) (fun c1 => ?_)
    · rw [if_pos c1] at hf
      refine lv_iconst (v := (-1)) hx hb d_GlyphPositionsModel_nextOf_44 (by decide) ?_
      exact q_iretP hC hr hlk hf (by first | rfl | decide) hS d_GlyphPositionsModel_nextOf_45
    rw [if_neg c1] at hf
    refine lv_iload_n hx hb d_GlyphPositionsModel_nextOf_40 rfl (lv_at hl 1 rfl) ?_
    refine lv_goto (tgt := 45) hx hb d_GlyphPositionsModel_nextOf_41 (by decide) ?_
    exact q_iretP hC hr hlk hf (by first | rfl | decide) hS d_GlyphPositionsModel_nextOf_45
  have L_4 : ∀ (x1_4 : Int32) (n_4 : Nat) (x3_4 : Int32) (H : Heap) (locs : List Loc) (ls : Array Slot), xGlyphPositionsModel_nextOf_4 N st x1_4 n_4 x3_4 = some ro → va_P G.1 vwCl (wX G st) H → va_S (fun _ => False) s.heap H locs → lv_has ls 4 [(0, .ref (G.2.2 36)), (1, .int x1_4), (3, .int x3_4)] → W p l e ({ frames := 2, cells := 0, slots := 0, locals := 49 } : Room) s m args below meth c H locs 0 0 (q_Zp below args s ro) (F0 m 4 ls []) := by
    intro x1_4 n_4
    induction n_4 with
    | zero => intro _ _ _ _ hf; exact absurd hf (by simp [xGlyphPositionsModel_nextOf_4])
    | succ n_4 ih_4 =>
      intro x3_4 H locs ls hf hP hS hl
      rw [xGlyphPositionsModel_nextOf_4] at hf
      refine lv_iload_n hx hb d_GlyphPositionsModel_nextOf_4 rfl (lv_at hl 2 rfl) ?_
      refine lv_aload_n hx hb d_GlyphPositionsModel_nextOf_5 rfl (lv_at hl 0 rfl) ?_
      refine xg_36_many hC hP wq_146 d_GlyphPositionsModel_nextOf_6 ?_
      refine lv_icmp_ge (tgt := 32) hx hb d_GlyphPositionsModel_nextOf_9 (by decide) (fun c1 => ?_) (fun c1 => ?_)
      · rw [if_pos c1] at hf
        exact J_32 _ _ _ _ hf hP hS (lv_sub hl [0, 2] rfl)
      rw [if_neg c1] at hf
      refine lv_aload_n hx hb d_GlyphPositionsModel_nextOf_12 rfl (lv_at hl 0 rfl) ?_
      refine lv_iload_n hx hb d_GlyphPositionsModel_nextOf_13 rfl (lv_at hl 1 rfl) ?_
      refine lv_aload_n hx hb d_GlyphPositionsModel_nextOf_14 rfl (lv_at hl 0 rfl) ?_
      refine xg_36_glyphs hC hP wq_208 d_GlyphPositionsModel_nextOf_15 ?_
      refine lv_iload_n hx hb d_GlyphPositionsModel_nextOf_18 rfl (lv_at hl 2 rfl) ?_
      obtain ⟨hi, hf⟩ := q_grd_some hf
      obtain ⟨v2, e_v2, hf⟩ := q_lt_some hf
      refine xl_49 hC hP e_v2 hi d_GlyphPositionsModel_nextOf_19 ?_
      obtain ⟨r3, h_r3, hf⟩ := q_bn_some hf
      refine q_callVp (As := [.int x1_4, .int v2]) (rest := []) (q0 := 36) hC (c_xGlyphPositionsModel_isPassed l G h_r3) cal_GlyphPositionsModel_isPassed wq_210 ⟨rfl, rfl, Nat.le_of_ble_eq_true rfl, Nat.le_of_ble_eq_true rfl⟩ rfl rfl hP hT hS rfl hl.1 rfl (Nat.le_of_ble_eq_true rfl) d_GlyphPositionsModel_nextOf_20 (fun H locs hP hS => ?_)
      refine lv_if_eq (tgt := 32) hx hb d_GlyphPositionsModel_nextOf_23 (by decide) (fun c1 => ?_) (fun c1 => ?_)
      · rw [if_pos c1] at hf
        exact J_32 _ _ _ _ hf hP hS (lv_sub hl [0, 2] rfl)
      rw [if_neg c1] at hf
      refine lv_iinc (v := x3_4 + 1) (lv' := [(3, .int (x3_4 + 1)), (0, .ref (G.2.2 36)), (1, .int x1_4)]) hx hb d_GlyphPositionsModel_nextOf_26 hl (k := 2) rfl rfl (by decide) rfl (fun ls hl => ?_)
      refine lv_goto (tgt := 4) hx hb d_GlyphPositionsModel_nextOf_29 (by decide) ?_
      exact ih_4 _ _ _ _ hf hP hS (lv_sub hl [1, 2, 0] rfl)
  unfold xGlyphPositionsModel_nextOf at hf
  refine lv_iload_n hx hb d_GlyphPositionsModel_nextOf_0 rfl (lv_at hl 2 rfl) ?_
  refine lv_iconst (v := 1) hx hb d_GlyphPositionsModel_nextOf_1 (by decide) ?_
  refine lv_iadd hx hb d_GlyphPositionsModel_nextOf_2 ?_
  obtain ⟨x3_1001, e_x3_1001, hf⟩ := q_lt_some hf
  refine q_topi e_x3_1001 ?_
  refine lv_istore_n (lv' := [(3, .int x3_1001), (0, .ref (G.2.2 36)), (1, .int x1), (2, .int x2)]) hx hb d_GlyphPositionsModel_nextOf_3 rfl hl (by decide) rfl (fun ls hl => ?_)
  exact L_4 _ _ _ _ _ _ hf hP hS (lv_sub hl [1, 2, 0] rfl)
def xGlyphPositionsModel_takeJoin_230 (N : Nat) (x2_230 x3_230 x5_230 x7_230 x8_230 : Int32) (st_230 : QSt) : Option (Int32 × QSt) :=
  q_bn (xGlyphPositionsModel_s16 ((x2_230 + x7_230) + 4) st_230) (fun r19 => q_bn (xGlyphPositionsModel_s16 ((x2_230 + x8_230) + 4) st_230) (fun r20 => q_bv (xGlyphPositionsModel_hang x5_230 x3_230 1 0 (r19 - r20) st_230) (fun sr21 => some (x3_230 + 1, sr21))))
def xGlyphPositionsModel_takeJoin_44 (N : Nat) (x2_44 x3_44 x4_44 x5_44 : Int32) (w0_44 : Int32) (st_44 : QSt) : Option (Int32 × QSt) :=
  if x4_44 < 0 then (some ((-1), st_44)) else (if 0 ≤ w0_44 then (q_bn (xGlyphPositionsModel_f16 ((x2_44 + 8) + (4 * x4_44)) st_44) (fun r6 => q_bn (xGlyphPositionsModel_f16 ((x2_44 + 6) + (4 * w0_44)) st_44) (fun r7 => if r6 = 0 then (some ((-1), st_44)) else (if r7 = 0 then (some ((-1), st_44)) else (q_bn (xGlyphPositionsModel_s16 ((x2_44 + r6) + 2) st_44) (fun r8 => q_grd (q_vpb x3_44 800) (q_lt (st_44.2 42 x3_44.toNatClampNeg) (fun v9 => q_lt (r8 + v9) (fun x9_1010 => q_bn (xGlyphPositionsModel_s16 ((x2_44 + r7) + 2) st_44) (fun r11 => q_grd (q_vpb x5_44 800) (q_lt (st_44.2 42 x5_44.toNatClampNeg) (fun v12 => q_lt (r11 + v12) (fun x10_1013 => if (st_44.1 22) = 0 then (q_grd (q_vpb x3_44 800) (q_lt (q_pa st_44 40 x3_44.toNatClampNeg x9_1010) (fun s14 => q_grd (q_vpb x5_44 800) (q_lt (s14.2 40 x5_44.toNatClampNeg) (fun v15 => q_grd (q_vpb x5_44 800) (q_lt (q_pa s14 40 x5_44.toNatClampNeg (v15 - x10_1013)) (fun s16 => q_grd (q_vpb x5_44 800) (q_lt (s16.2 42 x5_44.toNatClampNeg) (fun v17 => q_grd (q_vpb x5_44 800) (q_lt (q_pa s16 42 x5_44.toNatClampNeg (v17 - x10_1013)) (fun s18 => xGlyphPositionsModel_takeJoin_230 N x2_44 x3_44 x5_44 r6 r7 s18))))))))))) else (q_grd (q_vpb x5_44 800) (q_lt (q_pa st_44 40 x5_44.toNatClampNeg x10_1013) (fun s22 => q_grd (q_vpb x3_44 800) (q_lt (s22.2 40 x3_44.toNatClampNeg) (fun v23 => q_grd (q_vpb x3_44 800) (q_lt (q_pa s22 40 x3_44.toNatClampNeg (v23 - x9_1010)) (fun s24 => q_grd (q_vpb x3_44 800) (q_lt (s24.2 42 x3_44.toNatClampNeg) (fun v25 => q_grd (q_vpb x3_44 800) (q_lt (q_pa s24 42 x3_44.toNatClampNeg (v25 - x9_1010)) (fun s26 => xGlyphPositionsModel_takeJoin_230 N x2_44 x3_44 x5_44 r6 r7 s26)))))))))))))))))))))))) else (some ((-1), st_44)))
def xGlyphPositionsModel_takeJoin (N : Nat) (x1 x2 x3 : Int32) (st : QSt) : Option (Int32 × QSt) :=
  q_grd (q_vpb x3 800) (q_lt (st.2 38 x3.toNatClampNeg) (fun v1 => q_bn (xGlyphPositionsModel_covered N x2 2 v1 st) (fun r2 => q_bn (xGlyphPositionsModel_nextOf N x1 x3 st) (fun r3 => if 0 ≤ r3 then (q_grd (q_vpb r3 800) (q_lt (st.2 38 r3.toNatClampNeg) (fun v4 => q_bn (xGlyphPositionsModel_covered N x2 2 v4 st) (fun r5 => xGlyphPositionsModel_takeJoin_44 N x2 x3 r2 r3 r5 st)))) else (xGlyphPositionsModel_takeJoin_44 N x2 x3 r2 r3 (-1) st)))))
set_option maxHeartbeats 4000000 in
set_option maxRecDepth 100000 in
theorem c_xGlyphPositionsModel_takeJoin (l : Launch) (G : XG) {N : Nat} {x1 x2 x3 : Int32} {st : QSt} {ro : Int32} {so : QSt} (hf : xGlyphPositionsModel_takeJoin N x1 x2 x3 st = some (ro, so)) : q_Mi l y_GlyphPositionsModel_takeJoin b_GlyphPositionsModel_takeJoin 11 .int ({ frames := 3, cells := 0, slots := 0, locals := 73 } : Room) G.1 (xT G) (wX G) [.ref (G.2.2 36), .int x1, .int x2, .int x3] st ro so := by
  refine q_Mi_of (by decide) (Nat.le_of_ble_eq_true rfl) (wX_fst G) ?_
  intro p e s m args below meth c A ls hC hr hlk hT hD hA hP hS hl
  have hx := hC.1.1
  have hb := hC.1.2.1
  have hown := hC.1.2.2.2.1
  have hts := hC.1.2.2.2.2
  have hl : lv_has ls 11 [(0, .ref (G.2.2 36)), (1, .int x1), (2, .int x2), (3, .int x3)] := hl
  have J_230 : ∀ (x2_230 x3_230 x5_230 x7_230 x8_230 : Int32) (st_230 : QSt) (H : Heap) (locs : List Loc) (ls : Array Slot), xGlyphPositionsModel_takeJoin_230 N x2_230 x3_230 x5_230 x7_230 x8_230 st_230 = some (ro, so) → va_P G.1 vwCl (wX G st_230) H → va_S A s.heap H locs → lv_has ls 11 [(0, .ref (G.2.2 36)), (2, .int x2_230), (3, .int x3_230), (5, .int x5_230), (7, .int x7_230), (8, .int x8_230)] → W p l e ({ frames := 3, cells := 0, slots := 0, locals := 73 } : Room) s m args below meth c H locs 0 0 (q_Zi below args s G.1 (wX G) ro so A) (F0 m 230 ls []) := by
    intro x2_230 x3_230 x5_230 x7_230 x8_230 st_230 H locs ls hf hP hS hl
    unfold xGlyphPositionsModel_takeJoin_230 at hf
    refine lv_aload_n hx hb d_GlyphPositionsModel_takeJoin_230 rfl (lv_at hl 0 rfl) ?_
    refine lv_iload hx hb d_GlyphPositionsModel_takeJoin_231 (lv_at hl 3 rfl) ?_
    refine lv_iload_n hx hb d_GlyphPositionsModel_takeJoin_233 rfl (lv_at hl 2 rfl) ?_
    refine lv_iconst (v := 1) hx hb d_GlyphPositionsModel_takeJoin_234 (by decide) ?_
    refine lv_iconst (v := 0) hx hb d_GlyphPositionsModel_takeJoin_235 (by decide) ?_
    refine lv_aload_n hx hb d_GlyphPositionsModel_takeJoin_236 rfl (lv_at hl 0 rfl) ?_
    refine lv_iload_n hx hb d_GlyphPositionsModel_takeJoin_237 rfl (lv_at hl 1 rfl) ?_
    refine lv_iload hx hb d_GlyphPositionsModel_takeJoin_238 (lv_at hl 4 rfl) ?_
    refine lv_iadd hx hb d_GlyphPositionsModel_takeJoin_240 ?_
    refine lv_iconst (v := 4) hx hb d_GlyphPositionsModel_takeJoin_241 (by decide) ?_
    refine lv_iadd hx hb d_GlyphPositionsModel_takeJoin_242 ?_
    obtain ⟨r19, h_r19, hf⟩ := q_bn_some hf
    refine q_callVp (As := [.int ((x2_230 + x7_230) + 4)]) (rest := [.int 0, .int 1, .int x3_230, .int x5_230, .ref (G.2.2 36)]) (q0 := 36) hC (c_xGlyphPositionsModel_s16 l G h_r19) cal_GlyphPositionsModel_s16 wq_211 ⟨rfl, rfl, Nat.le_of_ble_eq_true rfl, Nat.le_of_ble_eq_true rfl⟩ rfl rfl hP hT hS rfl hl.1 rfl (Nat.le_of_ble_eq_true rfl) d_GlyphPositionsModel_takeJoin_243 (fun H locs hP hS => ?_)
    refine lv_aload_n hx hb d_GlyphPositionsModel_takeJoin_246 rfl (lv_at hl 0 rfl) ?_
    refine lv_iload_n hx hb d_GlyphPositionsModel_takeJoin_247 rfl (lv_at hl 1 rfl) ?_
    refine lv_iload hx hb d_GlyphPositionsModel_takeJoin_248 (lv_at hl 5 rfl) ?_
    refine lv_iadd hx hb d_GlyphPositionsModel_takeJoin_250 ?_
    refine lv_iconst (v := 4) hx hb d_GlyphPositionsModel_takeJoin_251 (by decide) ?_
    refine lv_iadd hx hb d_GlyphPositionsModel_takeJoin_252 ?_
    obtain ⟨r20, h_r20, hf⟩ := q_bn_some hf
    refine q_callVp (As := [.int ((x2_230 + x8_230) + 4)]) (rest := [.int r19, .int 0, .int 1, .int x3_230, .int x5_230, .ref (G.2.2 36)]) (q0 := 36) hC (c_xGlyphPositionsModel_s16 l G h_r20) cal_GlyphPositionsModel_s16 wq_211 ⟨rfl, rfl, Nat.le_of_ble_eq_true rfl, Nat.le_of_ble_eq_true rfl⟩ rfl rfl hP hT hS rfl hl.1 rfl (Nat.le_of_ble_eq_true rfl) d_GlyphPositionsModel_takeJoin_253 (fun H locs hP hS => ?_)
    refine lv_isub hx hb d_GlyphPositionsModel_takeJoin_256 ?_
    obtain ⟨sr21, h_r21, hf⟩ := q_bv_some hf
    refine q_callVv (As := [.int x5_230, .int x3_230, .int 1, .int 0, .int (r19 - r20)]) (rest := []) (q0 := 36) hC (c_xGlyphPositionsModel_hang l G h_r21) cal_GlyphPositionsModel_hang wq_212 ⟨rfl, rfl, Nat.le_of_ble_eq_true rfl, Nat.le_of_ble_eq_true rfl⟩ rfl rfl hP hD hA hS rfl hl.1 rfl (Nat.le_of_ble_eq_true rfl) d_GlyphPositionsModel_takeJoin_257 (fun H locs hP hS => ?_)
    refine lv_iload_n hx hb d_GlyphPositionsModel_takeJoin_260 rfl (lv_at hl 2 rfl) ?_
    refine lv_iconst (v := 1) hx hb d_GlyphPositionsModel_takeJoin_261 (by decide) ?_
    refine lv_iadd hx hb d_GlyphPositionsModel_takeJoin_262 ?_
    exact q_iret hC hr hlk hf (by first | rfl | decide) hP hS d_GlyphPositionsModel_takeJoin_263
  have J_44 : ∀ (x2_44 x3_44 x4_44 x5_44 w0_44 : Int32) (st_44 : QSt) (H : Heap) (locs : List Loc) (ls : Array Slot), xGlyphPositionsModel_takeJoin_44 N x2_44 x3_44 x4_44 x5_44 w0_44 st_44 = some (ro, so) → va_P G.1 vwCl (wX G st_44) H → va_S A s.heap H locs → lv_has ls 11 [(0, .ref (G.2.2 36)), (2, .int x2_44), (3, .int x3_44), (4, .int x4_44), (5, .int x5_44)] → W p l e ({ frames := 3, cells := 0, slots := 0, locals := 73 } : Room) s m args below meth c H locs 0 0 (q_Zi below args s G.1 (wX G) ro so A) (F0 m 44 ls [.int w0_44]) := by
    intro x2_44 x3_44 x4_44 x5_44 w0_44 st_44 H locs ls hf hP hS hl
    unfold xGlyphPositionsModel_takeJoin_44 at hf
    refine lv_istore (lv' := [(6, .int w0_44), (0, .ref (G.2.2 36)), (2, .int x2_44), (3, .int x3_44), (4, .int x4_44), (5, .int x5_44)]) hx hb d_GlyphPositionsModel_takeJoin_44 hl (by decide) rfl (fun ls hl => ?_)
    refine lv_iload hx hb d_GlyphPositionsModel_takeJoin_46 (lv_at hl 4 rfl) ?_
    refine lv_if_lt (tgt := 56) hx hb d_GlyphPositionsModel_takeJoin_48 (by decide) (fun c1 => ?_) (fun c1 => ?_)
    · rw [if_pos c1] at hf
      refine lv_iconst (v := (-1)) hx hb d_GlyphPositionsModel_takeJoin_56 (by decide) ?_
      exact q_iret hC hr hlk hf (by first | rfl | decide) hP hS d_GlyphPositionsModel_takeJoin_57
    rw [if_neg c1] at hf
    refine lv_iload hx hb d_GlyphPositionsModel_takeJoin_51 (lv_at hl 0 rfl) ?_
    refine lv_if_ge (tgt := 58) hx hb d_GlyphPositionsModel_takeJoin_53 (by decide) (fun c1 => ?_) (fun c1 => ?_)
    rotate_left
    · rw [if_neg c1] at hf
      refine lv_iconst (v := (-1)) hx hb d_GlyphPositionsModel_takeJoin_56 (by decide) ?_
      exact q_iret hC hr hlk hf (by first | rfl | decide) hP hS d_GlyphPositionsModel_takeJoin_57
    rw [if_pos c1] at hf
    refine lv_aload_n hx hb d_GlyphPositionsModel_takeJoin_58 rfl (lv_at hl 1 rfl) ?_
    refine lv_iload_n hx hb d_GlyphPositionsModel_takeJoin_59 rfl (lv_at hl 2 rfl) ?_
    refine lv_bipush (v := 8) hx hb d_GlyphPositionsModel_takeJoin_60 (by decide) ?_
    refine lv_iadd hx hb d_GlyphPositionsModel_takeJoin_62 ?_
    refine lv_iconst (v := 4) hx hb d_GlyphPositionsModel_takeJoin_63 (by decide) ?_
    refine lv_iload hx hb d_GlyphPositionsModel_takeJoin_64 (lv_at hl 4 rfl) ?_
    refine lv_imul hx hb d_GlyphPositionsModel_takeJoin_66 ?_
    refine lv_iadd hx hb d_GlyphPositionsModel_takeJoin_67 ?_
    obtain ⟨r6, h_r6, hf⟩ := q_bn_some hf
    refine q_callVp (As := [.int ((x2_44 + 8) + (4 * x4_44))]) (rest := []) (q0 := 36) hC (c_xGlyphPositionsModel_f16 l G h_r6) cal_GlyphPositionsModel_f16 wq_193 ⟨rfl, rfl, Nat.le_of_ble_eq_true rfl, Nat.le_of_ble_eq_true rfl⟩ rfl rfl hP hT hS rfl hl.1 rfl (Nat.le_of_ble_eq_true rfl) d_GlyphPositionsModel_takeJoin_68 (fun H locs hP hS => ?_)
    refine lv_istore (lv' := [(7, .int r6), (6, .int w0_44), (0, .ref (G.2.2 36)), (2, .int x2_44), (3, .int x3_44), (4, .int x4_44), (5, .int x5_44)]) hx hb d_GlyphPositionsModel_takeJoin_71 hl (by decide) rfl (fun ls hl => ?_)
    refine lv_aload_n hx hb d_GlyphPositionsModel_takeJoin_73 rfl (lv_at hl 2 rfl) ?_
    refine lv_iload_n hx hb d_GlyphPositionsModel_takeJoin_74 rfl (lv_at hl 3 rfl) ?_
    refine lv_bipush (v := 6) hx hb d_GlyphPositionsModel_takeJoin_75 (by decide) ?_
    refine lv_iadd hx hb d_GlyphPositionsModel_takeJoin_77 ?_
    refine lv_iconst (v := 4) hx hb d_GlyphPositionsModel_takeJoin_78 (by decide) ?_
    refine lv_iload hx hb d_GlyphPositionsModel_takeJoin_79 (lv_at hl 1 rfl) ?_
    refine lv_imul hx hb d_GlyphPositionsModel_takeJoin_81 ?_
    refine lv_iadd hx hb d_GlyphPositionsModel_takeJoin_82 ?_
    obtain ⟨r7, h_r7, hf⟩ := q_bn_some hf
    refine q_callVp (As := [.int ((x2_44 + 6) + (4 * w0_44))]) (rest := []) (q0 := 36) hC (c_xGlyphPositionsModel_f16 l G h_r7) cal_GlyphPositionsModel_f16 wq_193 ⟨rfl, rfl, Nat.le_of_ble_eq_true rfl, Nat.le_of_ble_eq_true rfl⟩ rfl rfl hP hT hS rfl hl.1 rfl (Nat.le_of_ble_eq_true rfl) d_GlyphPositionsModel_takeJoin_83 (fun H locs hP hS => ?_)
    refine lv_istore (lv' := [(8, .int r7), (7, .int r6), (6, .int w0_44), (0, .ref (G.2.2 36)), (2, .int x2_44), (3, .int x3_44), (4, .int x4_44), (5, .int x5_44)]) hx hb d_GlyphPositionsModel_takeJoin_86 hl (by decide) rfl (fun ls hl => ?_)
    refine lv_iload hx hb d_GlyphPositionsModel_takeJoin_88 (lv_at hl 1 rfl) ?_
    refine lv_if_eq (tgt := 98) hx hb d_GlyphPositionsModel_takeJoin_90 (by decide) (fun c1 => ?_) (fun c1 => ?_)
    · rw [if_pos c1] at hf
      refine lv_iconst (v := (-1)) hx hb d_GlyphPositionsModel_takeJoin_98 (by decide) ?_
      exact q_iret hC hr hlk hf (by first | rfl | decide) hP hS d_GlyphPositionsModel_takeJoin_99
    rw [if_neg c1] at hf
    refine lv_iload hx hb d_GlyphPositionsModel_takeJoin_93 (lv_at hl 0 rfl) ?_
    refine lv_if_ne (tgt := 100) hx hb d_GlyphPositionsModel_takeJoin_95 (by decide) (fun c1 => ?_) (fun c1 => ?_)
    rotate_left
    · rw [if_pos c1] at hf
      refine lv_iconst (v := (-1)) hx hb d_GlyphPositionsModel_takeJoin_98 (by decide) ?_
      exact q_iret hC hr hlk hf (by first | rfl | decide) hP hS d_GlyphPositionsModel_takeJoin_99
    rw [if_neg c1] at hf
    refine lv_aload_n hx hb d_GlyphPositionsModel_takeJoin_100 rfl (lv_at hl 3 rfl) ?_
    refine lv_iload_n hx hb d_GlyphPositionsModel_takeJoin_101 rfl (lv_at hl 4 rfl) ?_
    refine lv_iload hx hb d_GlyphPositionsModel_takeJoin_102 (lv_at hl 1 rfl) ?_
    refine lv_iadd hx hb d_GlyphPositionsModel_takeJoin_104 ?_
    refine lv_iconst (v := 2) hx hb d_GlyphPositionsModel_takeJoin_105 (by decide) ?_
    refine lv_iadd hx hb d_GlyphPositionsModel_takeJoin_106 ?_
    obtain ⟨r8, h_r8, hf⟩ := q_bn_some hf
    refine q_callVp (As := [.int ((x2_44 + r6) + 2)]) (rest := []) (q0 := 36) hC (c_xGlyphPositionsModel_s16 l G h_r8) cal_GlyphPositionsModel_s16 wq_211 ⟨rfl, rfl, Nat.le_of_ble_eq_true rfl, Nat.le_of_ble_eq_true rfl⟩ rfl rfl hP hT hS rfl hl.1 rfl (Nat.le_of_ble_eq_true rfl) d_GlyphPositionsModel_takeJoin_107 (fun H locs hP hS => ?_)
    refine lv_aload_n hx hb d_GlyphPositionsModel_takeJoin_110 rfl (lv_at hl 3 rfl) ?_
    refine xg_36_rights hC hP wq_143 d_GlyphPositionsModel_takeJoin_111 ?_
    refine lv_iload_n hx hb d_GlyphPositionsModel_takeJoin_114 rfl (lv_at hl 5 rfl) ?_
    obtain ⟨hi, hf⟩ := q_grd_some hf
    obtain ⟨v9, e_v9, hf⟩ := q_lt_some hf
    refine xl_53 hC hP e_v9 hi d_GlyphPositionsModel_takeJoin_115 ?_
    refine lv_iadd hx hb d_GlyphPositionsModel_takeJoin_116 ?_
    obtain ⟨x9_1010, e_x9_1010, hf⟩ := q_lt_some hf
    refine q_topi e_x9_1010 ?_
    refine lv_istore (lv' := [(9, .int x9_1010), (8, .int r7), (7, .int r6), (6, .int w0_44), (0, .ref (G.2.2 36)), (2, .int x2_44), (3, .int x3_44), (4, .int x4_44), (5, .int x5_44)]) hx hb d_GlyphPositionsModel_takeJoin_117 hl (by decide) rfl (fun ls hl => ?_)
    refine lv_aload_n hx hb d_GlyphPositionsModel_takeJoin_119 rfl (lv_at hl 4 rfl) ?_
    refine lv_iload_n hx hb d_GlyphPositionsModel_takeJoin_120 rfl (lv_at hl 5 rfl) ?_
    refine lv_iload hx hb d_GlyphPositionsModel_takeJoin_121 (lv_at hl 1 rfl) ?_
    refine lv_iadd hx hb d_GlyphPositionsModel_takeJoin_123 ?_
    refine lv_iconst (v := 2) hx hb d_GlyphPositionsModel_takeJoin_124 (by decide) ?_
    refine lv_iadd hx hb d_GlyphPositionsModel_takeJoin_125 ?_
    obtain ⟨r11, h_r11, hf⟩ := q_bn_some hf
    refine q_callVp (As := [.int ((x2_44 + r7) + 2)]) (rest := []) (q0 := 36) hC (c_xGlyphPositionsModel_s16 l G h_r11) cal_GlyphPositionsModel_s16 wq_211 ⟨rfl, rfl, Nat.le_of_ble_eq_true rfl, Nat.le_of_ble_eq_true rfl⟩ rfl rfl hP hT hS rfl hl.1 rfl (Nat.le_of_ble_eq_true rfl) d_GlyphPositionsModel_takeJoin_126 (fun H locs hP hS => ?_)
    refine lv_aload_n hx hb d_GlyphPositionsModel_takeJoin_129 rfl (lv_at hl 4 rfl) ?_
    refine xg_36_rights hC hP wq_143 d_GlyphPositionsModel_takeJoin_130 ?_
    refine lv_iload hx hb d_GlyphPositionsModel_takeJoin_133 (lv_at hl 8 rfl) ?_
    obtain ⟨hi, hf⟩ := q_grd_some hf
    obtain ⟨v12, e_v12, hf⟩ := q_lt_some hf
    refine xl_53 hC hP e_v12 hi d_GlyphPositionsModel_takeJoin_135 ?_
    refine lv_iadd hx hb d_GlyphPositionsModel_takeJoin_136 ?_
    obtain ⟨x10_1013, e_x10_1013, hf⟩ := q_lt_some hf
    refine q_topi e_x10_1013 ?_
    refine lv_istore (lv' := [(10, .int x10_1013), (9, .int x9_1010), (8, .int r7), (7, .int r6), (6, .int w0_44), (0, .ref (G.2.2 36)), (2, .int x2_44), (3, .int x3_44), (4, .int x4_44), (5, .int x5_44)]) hx hb d_GlyphPositionsModel_takeJoin_137 hl (by decide) rfl (fun ls hl => ?_)
    refine lv_aload_n hx hb d_GlyphPositionsModel_takeJoin_139 rfl (lv_at hl 5 rfl) ?_
    refine xg_36_isBack hC hP wq_202 d_GlyphPositionsModel_takeJoin_140 ?_
    refine lv_if_eq (tgt := 188) hx hb d_GlyphPositionsModel_takeJoin_143 (by decide) (fun c1 => ?_) (fun c1 => ?_)
    · rw [if_pos c1] at hf
      refine lv_aload_n hx hb d_GlyphPositionsModel_takeJoin_188 rfl (lv_at hl 5 rfl) ?_
      refine xg_36_widths hC hP wq_141 d_GlyphPositionsModel_takeJoin_189 ?_
      refine lv_iload_n hx hb d_GlyphPositionsModel_takeJoin_192 rfl (lv_at hl 7 rfl) ?_
      refine lv_iload hx hb d_GlyphPositionsModel_takeJoin_193 (lv_at hl 1 rfl) ?_
      obtain ⟨hi, hf⟩ := q_grd_some hf
      obtain ⟨s14, e_s14, hf⟩ := q_lt_some hf
      refine xs_51 hC hP hD hS e_s14 hi d_GlyphPositionsModel_takeJoin_195 (fun H locs hP hS => ?_)
      refine lv_aload_n hx hb d_GlyphPositionsModel_takeJoin_196 rfl (lv_at hl 5 rfl) ?_
      refine xg_36_widths hC hP wq_141 d_GlyphPositionsModel_takeJoin_197 ?_
      refine lv_iload hx hb d_GlyphPositionsModel_takeJoin_200 (lv_at hl 9 rfl) ?_
      refine lv_aload_n hx hb d_GlyphPositionsModel_takeJoin_202 rfl (lv_at hl 5 rfl) ?_
      refine xg_36_widths hC hP wq_141 d_GlyphPositionsModel_takeJoin_203 ?_
      refine lv_iload hx hb d_GlyphPositionsModel_takeJoin_206 (lv_at hl 9 rfl) ?_
      obtain ⟨hi, hf⟩ := q_grd_some hf
      obtain ⟨v15, e_v15, hf⟩ := q_lt_some hf
      refine xl_51 hC hP e_v15 hi d_GlyphPositionsModel_takeJoin_208 ?_
      refine lv_iload hx hb d_GlyphPositionsModel_takeJoin_209 (lv_at hl 0 rfl) ?_
      refine lv_isub hx hb d_GlyphPositionsModel_takeJoin_211 ?_
      obtain ⟨hi, hf⟩ := q_grd_some hf
      obtain ⟨s16, e_s16, hf⟩ := q_lt_some hf
      refine xs_51 hC hP hD hS e_s16 hi d_GlyphPositionsModel_takeJoin_212 (fun H locs hP hS => ?_)
      refine lv_aload_n hx hb d_GlyphPositionsModel_takeJoin_213 rfl (lv_at hl 5 rfl) ?_
      refine xg_36_rights hC hP wq_143 d_GlyphPositionsModel_takeJoin_214 ?_
      refine lv_iload hx hb d_GlyphPositionsModel_takeJoin_217 (lv_at hl 9 rfl) ?_
      refine lv_aload_n hx hb d_GlyphPositionsModel_takeJoin_219 rfl (lv_at hl 5 rfl) ?_
      refine xg_36_rights hC hP wq_143 d_GlyphPositionsModel_takeJoin_220 ?_
      refine lv_iload hx hb d_GlyphPositionsModel_takeJoin_223 (lv_at hl 9 rfl) ?_
      obtain ⟨hi, hf⟩ := q_grd_some hf
      obtain ⟨v17, e_v17, hf⟩ := q_lt_some hf
      refine xl_53 hC hP e_v17 hi d_GlyphPositionsModel_takeJoin_225 ?_
      refine lv_iload hx hb d_GlyphPositionsModel_takeJoin_226 (lv_at hl 0 rfl) ?_
      refine lv_isub hx hb d_GlyphPositionsModel_takeJoin_228 ?_
      obtain ⟨hi, hf⟩ := q_grd_some hf
      obtain ⟨s18, e_s18, hf⟩ := q_lt_some hf
      refine xs_53 hC hP hD hS e_s18 hi d_GlyphPositionsModel_takeJoin_229 (fun H locs hP hS => ?_)
      exact J_230 _ _ _ _ _ _ _ _ _ hf hP hS (lv_sub hl [5, 6, 7, 9, 3, 2] rfl)
    rw [if_neg c1] at hf
    refine lv_aload_n hx hb d_GlyphPositionsModel_takeJoin_146 rfl (lv_at hl 5 rfl) ?_
    refine xg_36_widths hC hP wq_141 d_GlyphPositionsModel_takeJoin_147 ?_
    refine lv_iload hx hb d_GlyphPositionsModel_takeJoin_150 (lv_at hl 9 rfl) ?_
    refine lv_iload hx hb d_GlyphPositionsModel_takeJoin_152 (lv_at hl 0 rfl) ?_
    obtain ⟨hi, hf⟩ := q_grd_some hf
    obtain ⟨s22, e_s22, hf⟩ := q_lt_some hf
    refine xs_51 hC hP hD hS e_s22 hi d_GlyphPositionsModel_takeJoin_154 (fun H locs hP hS => ?_)
    refine lv_aload_n hx hb d_GlyphPositionsModel_takeJoin_155 rfl (lv_at hl 5 rfl) ?_
    refine xg_36_widths hC hP wq_141 d_GlyphPositionsModel_takeJoin_156 ?_
    refine lv_iload_n hx hb d_GlyphPositionsModel_takeJoin_159 rfl (lv_at hl 7 rfl) ?_
    refine lv_aload_n hx hb d_GlyphPositionsModel_takeJoin_160 rfl (lv_at hl 5 rfl) ?_
    refine xg_36_widths hC hP wq_141 d_GlyphPositionsModel_takeJoin_161 ?_
    refine lv_iload_n hx hb d_GlyphPositionsModel_takeJoin_164 rfl (lv_at hl 7 rfl) ?_
    obtain ⟨hi, hf⟩ := q_grd_some hf
    obtain ⟨v23, e_v23, hf⟩ := q_lt_some hf
    refine xl_51 hC hP e_v23 hi d_GlyphPositionsModel_takeJoin_165 ?_
    refine lv_iload hx hb d_GlyphPositionsModel_takeJoin_166 (lv_at hl 1 rfl) ?_
    refine lv_isub hx hb d_GlyphPositionsModel_takeJoin_168 ?_
    obtain ⟨hi, hf⟩ := q_grd_some hf
    obtain ⟨s24, e_s24, hf⟩ := q_lt_some hf
    refine xs_51 hC hP hD hS e_s24 hi d_GlyphPositionsModel_takeJoin_169 (fun H locs hP hS => ?_)
    refine lv_aload_n hx hb d_GlyphPositionsModel_takeJoin_170 rfl (lv_at hl 5 rfl) ?_
    refine xg_36_rights hC hP wq_143 d_GlyphPositionsModel_takeJoin_171 ?_
    refine lv_iload_n hx hb d_GlyphPositionsModel_takeJoin_174 rfl (lv_at hl 7 rfl) ?_
    refine lv_aload_n hx hb d_GlyphPositionsModel_takeJoin_175 rfl (lv_at hl 5 rfl) ?_
    refine xg_36_rights hC hP wq_143 d_GlyphPositionsModel_takeJoin_176 ?_
    refine lv_iload_n hx hb d_GlyphPositionsModel_takeJoin_179 rfl (lv_at hl 7 rfl) ?_
    obtain ⟨hi, hf⟩ := q_grd_some hf
    obtain ⟨v25, e_v25, hf⟩ := q_lt_some hf
    refine xl_53 hC hP e_v25 hi d_GlyphPositionsModel_takeJoin_180 ?_
    refine lv_iload hx hb d_GlyphPositionsModel_takeJoin_181 (lv_at hl 1 rfl) ?_
    refine lv_isub hx hb d_GlyphPositionsModel_takeJoin_183 ?_
    obtain ⟨hi, hf⟩ := q_grd_some hf
    obtain ⟨s26, e_s26, hf⟩ := q_lt_some hf
    refine xs_53 hC hP hD hS e_s26 hi d_GlyphPositionsModel_takeJoin_184 (fun H locs hP hS => ?_)
    refine lv_goto (tgt := 230) hx hb d_GlyphPositionsModel_takeJoin_185 (by decide) ?_
    exact J_230 _ _ _ _ _ _ _ _ _ hf hP hS (lv_sub hl [5, 6, 7, 9, 3, 2] rfl)
  unfold xGlyphPositionsModel_takeJoin at hf
  refine lv_aload_n hx hb d_GlyphPositionsModel_takeJoin_0 rfl (lv_at hl 0 rfl) ?_
  refine lv_iload_n hx hb d_GlyphPositionsModel_takeJoin_1 rfl (lv_at hl 2 rfl) ?_
  refine lv_iconst (v := 2) hx hb d_GlyphPositionsModel_takeJoin_2 (by decide) ?_
  refine lv_aload_n hx hb d_GlyphPositionsModel_takeJoin_3 rfl (lv_at hl 0 rfl) ?_
  refine xg_36_glyphs hC hP wq_208 d_GlyphPositionsModel_takeJoin_4 ?_
  refine lv_iload_n hx hb d_GlyphPositionsModel_takeJoin_7 rfl (lv_at hl 3 rfl) ?_
  obtain ⟨hi, hf⟩ := q_grd_some hf
  obtain ⟨v1, e_v1, hf⟩ := q_lt_some hf
  refine xl_49 hC hP e_v1 hi d_GlyphPositionsModel_takeJoin_8 ?_
  obtain ⟨r2, h_r2, hf⟩ := q_bn_some hf
  refine q_callVp (As := [.int x2, .int 2, .int v1]) (rest := []) (q0 := 36) hC (c_xGlyphPositionsModel_covered l G h_r2) cal_GlyphPositionsModel_covered wq_214 ⟨rfl, rfl, Nat.le_of_ble_eq_true rfl, Nat.le_of_ble_eq_true rfl⟩ rfl rfl hP hT hS rfl hl.1 rfl (Nat.le_of_ble_eq_true rfl) d_GlyphPositionsModel_takeJoin_9 (fun H locs hP hS => ?_)
  refine lv_istore (lv' := [(4, .int r2), (0, .ref (G.2.2 36)), (1, .int x1), (2, .int x2), (3, .int x3)]) hx hb d_GlyphPositionsModel_takeJoin_12 hl (by decide) rfl (fun ls hl => ?_)
  refine lv_aload_n hx hb d_GlyphPositionsModel_takeJoin_14 rfl (lv_at hl 1 rfl) ?_
  refine lv_iload_n hx hb d_GlyphPositionsModel_takeJoin_15 rfl (lv_at hl 2 rfl) ?_
  refine lv_iload_n hx hb d_GlyphPositionsModel_takeJoin_16 rfl (lv_at hl 4 rfl) ?_
  obtain ⟨r3, h_r3, hf⟩ := q_bn_some hf
  refine q_callVp (As := [.int x1, .int x3]) (rest := []) (q0 := 36) hC (c_xGlyphPositionsModel_nextOf l G h_r3) cal_GlyphPositionsModel_nextOf wq_216 ⟨rfl, rfl, Nat.le_of_ble_eq_true rfl, Nat.le_of_ble_eq_true rfl⟩ rfl rfl hP hT hS rfl hl.1 rfl (Nat.le_of_ble_eq_true rfl) d_GlyphPositionsModel_takeJoin_17 (fun H locs hP hS => ?_)
  refine lv_istore (lv' := [(5, .int r3), (4, .int r2), (0, .ref (G.2.2 36)), (1, .int x1), (2, .int x2), (3, .int x3)]) hx hb d_GlyphPositionsModel_takeJoin_20 hl (by decide) rfl (fun ls hl => ?_)
  refine lv_iload hx hb d_GlyphPositionsModel_takeJoin_22 (lv_at hl 0 rfl) ?_
  refine lv_if_ge (tgt := 31) hx hb d_GlyphPositionsModel_takeJoin_24 (by decide) (fun c1 => ?_) (fun c1 => ?_)
  rotate_left
  · rw [if_neg c1] at hf
    refine lv_iconst (v := (-1)) hx hb d_GlyphPositionsModel_takeJoin_27 (by decide) ?_
    refine lv_goto (tgt := 44) hx hb d_GlyphPositionsModel_takeJoin_28 (by decide) ?_
    exact J_44 _ _ _ _ _ _ _ _ _ hf hP hS (lv_sub hl [2, 4, 5, 1, 0] rfl)
  rw [if_pos c1] at hf
  refine lv_aload_n hx hb d_GlyphPositionsModel_takeJoin_31 rfl (lv_at hl 2 rfl) ?_
  refine lv_iload_n hx hb d_GlyphPositionsModel_takeJoin_32 rfl (lv_at hl 4 rfl) ?_
  refine lv_iconst (v := 2) hx hb d_GlyphPositionsModel_takeJoin_33 (by decide) ?_
  refine lv_aload_n hx hb d_GlyphPositionsModel_takeJoin_34 rfl (lv_at hl 2 rfl) ?_
  refine xg_36_glyphs hC hP wq_208 d_GlyphPositionsModel_takeJoin_35 ?_
  refine lv_iload hx hb d_GlyphPositionsModel_takeJoin_38 (lv_at hl 0 rfl) ?_
  obtain ⟨hi, hf⟩ := q_grd_some hf
  obtain ⟨v4, e_v4, hf⟩ := q_lt_some hf
  refine xl_49 hC hP e_v4 hi d_GlyphPositionsModel_takeJoin_40 ?_
  obtain ⟨r5, h_r5, hf⟩ := q_bn_some hf
  refine q_callVp (As := [.int x2, .int 2, .int v4]) (rest := []) (q0 := 36) hC (c_xGlyphPositionsModel_covered l G h_r5) cal_GlyphPositionsModel_covered wq_214 ⟨rfl, rfl, Nat.le_of_ble_eq_true rfl, Nat.le_of_ble_eq_true rfl⟩ rfl rfl hP hT hS rfl hl.1 rfl (Nat.le_of_ble_eq_true rfl) d_GlyphPositionsModel_takeJoin_41 (fun H locs hP hS => ?_)
  exact J_44 _ _ _ _ _ _ _ _ _ hf hP hS (lv_sub hl [2, 4, 5, 1, 0] rfl)
def xGlyphPositionsModel_classIn_56 (N : Nat) (st : QSt) (x1_56 x2_56 : Int32) : Nat → Int32 → Int32 → Option Int32
  | 0, _, _ => none
  | n_56 + 1, x3_56, x4_56 => q_bn (xGlyphPositionsModel_f16 (x1_56 + 2) st) (fun r2 => if r2 ≤ x4_56 then (some x3_56) else (q_lt ((x1_56 + 4) + (6 * x4_56)) (fun x5_1003 => q_bn (xGlyphPositionsModel_f16 x5_1003 st) (fun r4 => if x2_56 < r4 then (xGlyphPositionsModel_classIn_56 N st x1_56 x2_56 n_56 x3_56 (x4_56 + 1)) else (q_bn (xGlyphPositionsModel_f16 (x5_1003 + 2) st) (fun r5 => if r5 < x2_56 then (xGlyphPositionsModel_classIn_56 N st x1_56 x2_56 n_56 x3_56 (x4_56 + 1)) else (q_bn (xGlyphPositionsModel_f16 (x5_1003 + 4) st) (fun r6 => xGlyphPositionsModel_classIn_56 N st x1_56 x2_56 n_56 r6 (x4_56 + 1)))))))))
def xGlyphPositionsModel_classIn (N : Nat) (x1 x2 : Int32) (st : QSt) : Option Int32 :=
  q_bn (xGlyphPositionsModel_f16 x1 st) (fun r1 => if r1 = 1 then (q_bn (xGlyphPositionsModel_f16 (x1 + 2) st) (fun r7 => q_lt (x2 - r7) (fun x3_1008 => if x3_1008 < 0 then (some 0) else (q_bn (xGlyphPositionsModel_f16 (x1 + 4) st) (fun r9 => if r9 ≤ x3_1008 then (some 0) else (q_bn (xGlyphPositionsModel_f16 ((x1 + 6) + (2 * x3_1008)) st) (fun r10 => some r10))))))) else (xGlyphPositionsModel_classIn_56 N st x1 x2 N 0 0))
set_option maxHeartbeats 4000000 in
set_option maxRecDepth 100000 in
theorem c_xGlyphPositionsModel_classIn (l : Launch) (G : XG) {N : Nat} {x1 x2 : Int32} {st : QSt} {ro : Int32} (hf : xGlyphPositionsModel_classIn N x1 x2 st = some ro) : q_Mp l y_GlyphPositionsModel_classIn b_GlyphPositionsModel_classIn 6 .int ({ frames := 1, cells := 0, slots := 0, locals := 21 } : Room) G.1 (xT G) (wX G) [.ref (G.2.2 36), .int x1, .int x2] st ro := by
  refine q_Mp_of (by decide) (Nat.le_of_ble_eq_true rfl) (wX_fst G) ?_
  intro p e s m args below meth c ls hC hr hlk hT hP hS hl
  have hx := hC.1.1
  have hb := hC.1.2.1
  have hown := hC.1.2.2.2.1
  have hts := hC.1.2.2.2.2
  have hl : lv_has ls 6 [(0, .ref (G.2.2 36)), (1, .int x1), (2, .int x2)] := hl
  have L_56 : ∀ (x1_56 x2_56 : Int32) (n_56 : Nat) (x3_56 x4_56 : Int32) (H : Heap) (locs : List Loc) (ls : Array Slot), xGlyphPositionsModel_classIn_56 N st x1_56 x2_56 n_56 x3_56 x4_56 = some ro → va_P G.1 vwCl (wX G st) H → va_S (fun _ => False) s.heap H locs → lv_has ls 6 [(0, .ref (G.2.2 36)), (1, .int x1_56), (2, .int x2_56), (3, .int x3_56), (4, .int x4_56)] → W p l e ({ frames := 1, cells := 0, slots := 0, locals := 21 } : Room) s m args below meth c H locs 0 0 (q_Zp below args s ro) (F0 m 56 ls []) := by
    intro x1_56 x2_56 n_56
    induction n_56 with
    | zero => intro _ _ _ _ _ hf; exact absurd hf (by simp [xGlyphPositionsModel_classIn_56])
    | succ n_56 ih_56 =>
      intro x3_56 x4_56 H locs ls hf hP hS hl
      rw [xGlyphPositionsModel_classIn_56] at hf
      refine lv_iload hx hb d_GlyphPositionsModel_classIn_56 (lv_at hl 4 rfl) ?_
      refine lv_aload_n hx hb d_GlyphPositionsModel_classIn_58 rfl (lv_at hl 0 rfl) ?_
      refine lv_iload_n hx hb d_GlyphPositionsModel_classIn_59 rfl (lv_at hl 1 rfl) ?_
      refine lv_iconst (v := 2) hx hb d_GlyphPositionsModel_classIn_60 (by decide) ?_
      refine lv_iadd hx hb d_GlyphPositionsModel_classIn_61 ?_
      obtain ⟨r2, h_r2, hf⟩ := q_bn_some hf
      refine q_callVp (As := [.int (x1_56 + 2)]) (rest := [.int x4_56]) (q0 := 36) hC (c_xGlyphPositionsModel_f16 l G h_r2) cal_GlyphPositionsModel_f16 wq_193 ⟨rfl, rfl, Nat.le_of_ble_eq_true rfl, Nat.le_of_ble_eq_true rfl⟩ rfl rfl hP hT hS rfl hl.1 rfl (Nat.le_of_ble_eq_true rfl) d_GlyphPositionsModel_classIn_62 (fun H locs hP hS => ?_)
      refine lv_icmp_ge (tgt := 120) hx hb d_GlyphPositionsModel_classIn_65 (by decide) (fun c1 => ?_) (fun c1 => ?_)
      · rw [if_pos c1] at hf
        refine lv_iload_n hx hb d_GlyphPositionsModel_classIn_120 rfl (lv_at hl 3 rfl) ?_
        exact q_iretP hC hr hlk hf (by first | rfl | decide) hS d_GlyphPositionsModel_classIn_121
      rw [if_neg c1] at hf
      refine lv_iload_n hx hb d_GlyphPositionsModel_classIn_68 rfl (lv_at hl 1 rfl) ?_
      refine lv_iconst (v := 4) hx hb d_GlyphPositionsModel_classIn_69 (by decide) ?_
      refine lv_iadd hx hb d_GlyphPositionsModel_classIn_70 ?_
      refine lv_bipush (v := 6) hx hb d_GlyphPositionsModel_classIn_71 (by decide) ?_
      refine lv_iload hx hb d_GlyphPositionsModel_classIn_73 (lv_at hl 4 rfl) ?_
      refine lv_imul hx hb d_GlyphPositionsModel_classIn_75 ?_
      refine lv_iadd hx hb d_GlyphPositionsModel_classIn_76 ?_
      obtain ⟨x5_1003, e_x5_1003, hf⟩ := q_lt_some hf
      refine q_topi e_x5_1003 ?_
      refine lv_istore (lv' := [(5, .int x5_1003), (0, .ref (G.2.2 36)), (1, .int x1_56), (2, .int x2_56), (3, .int x3_56), (4, .int x4_56)]) hx hb d_GlyphPositionsModel_classIn_77 hl (by decide) rfl (fun ls hl => ?_)
      refine lv_iload_n hx hb d_GlyphPositionsModel_classIn_79 rfl (lv_at hl 3 rfl) ?_
      refine lv_aload_n hx hb d_GlyphPositionsModel_classIn_80 rfl (lv_at hl 1 rfl) ?_
      refine lv_iload hx hb d_GlyphPositionsModel_classIn_81 (lv_at hl 0 rfl) ?_
      obtain ⟨r4, h_r4, hf⟩ := q_bn_some hf
      refine q_callVp (As := [.int x5_1003]) (rest := [.int x2_56]) (q0 := 36) hC (c_xGlyphPositionsModel_f16 l G h_r4) cal_GlyphPositionsModel_f16 wq_193 ⟨rfl, rfl, Nat.le_of_ble_eq_true rfl, Nat.le_of_ble_eq_true rfl⟩ rfl rfl hP hT hS rfl hl.1 rfl (Nat.le_of_ble_eq_true rfl) d_GlyphPositionsModel_classIn_83 (fun H locs hP hS => ?_)
      refine lv_icmp_lt (tgt := 112) hx hb d_GlyphPositionsModel_classIn_86 (by decide) (fun c1 => ?_) (fun c1 => ?_)
      · rw [if_pos c1] at hf
        refine lv_iload_n hx hb d_GlyphPositionsModel_classIn_112 rfl (lv_at hl 4 rfl) ?_
        refine lv_istore_n (lv' := [(3, .int x3_56), (5, .int x5_1003), (0, .ref (G.2.2 36)), (1, .int x1_56), (2, .int x2_56), (4, .int x4_56)]) hx hb d_GlyphPositionsModel_classIn_113 rfl hl (by decide) rfl (fun ls hl => ?_)
        refine lv_iinc (v := x4_56 + 1) (lv' := [(4, .int (x4_56 + 1)), (3, .int x3_56), (5, .int x5_1003), (0, .ref (G.2.2 36)), (1, .int x1_56), (2, .int x2_56)]) hx hb d_GlyphPositionsModel_classIn_114 hl (k := 5) rfl rfl (by decide) rfl (fun ls hl => ?_)
        refine lv_goto (tgt := 56) hx hb d_GlyphPositionsModel_classIn_117 (by decide) ?_
        exact ih_56 _ _ _ _ _ hf hP hS (lv_sub hl [3, 4, 5, 1, 0] rfl)
      rw [if_neg c1] at hf
      refine lv_iload_n hx hb d_GlyphPositionsModel_classIn_89 rfl (lv_at hl 3 rfl) ?_
      refine lv_aload_n hx hb d_GlyphPositionsModel_classIn_90 rfl (lv_at hl 1 rfl) ?_
      refine lv_iload hx hb d_GlyphPositionsModel_classIn_91 (lv_at hl 0 rfl) ?_
      refine lv_iconst (v := 2) hx hb d_GlyphPositionsModel_classIn_93 (by decide) ?_
      refine lv_iadd hx hb d_GlyphPositionsModel_classIn_94 ?_
      obtain ⟨r5, h_r5, hf⟩ := q_bn_some hf
      refine q_callVp (As := [.int (x5_1003 + 2)]) (rest := [.int x2_56]) (q0 := 36) hC (c_xGlyphPositionsModel_f16 l G h_r5) cal_GlyphPositionsModel_f16 wq_193 ⟨rfl, rfl, Nat.le_of_ble_eq_true rfl, Nat.le_of_ble_eq_true rfl⟩ rfl rfl hP hT hS rfl hl.1 rfl (Nat.le_of_ble_eq_true rfl) d_GlyphPositionsModel_classIn_95 (fun H locs hP hS => ?_)
      refine lv_icmp_gt (tgt := 112) hx hb d_GlyphPositionsModel_classIn_98 (by decide) (fun c1 => ?_) (fun c1 => ?_)
      · rw [if_pos c1] at hf
        refine lv_iload_n hx hb d_GlyphPositionsModel_classIn_112 rfl (lv_at hl 4 rfl) ?_
        refine lv_istore_n (lv' := [(3, .int x3_56), (5, .int x5_1003), (0, .ref (G.2.2 36)), (1, .int x1_56), (2, .int x2_56), (4, .int x4_56)]) hx hb d_GlyphPositionsModel_classIn_113 rfl hl (by decide) rfl (fun ls hl => ?_)
        refine lv_iinc (v := x4_56 + 1) (lv' := [(4, .int (x4_56 + 1)), (3, .int x3_56), (5, .int x5_1003), (0, .ref (G.2.2 36)), (1, .int x1_56), (2, .int x2_56)]) hx hb d_GlyphPositionsModel_classIn_114 hl (k := 5) rfl rfl (by decide) rfl (fun ls hl => ?_)
        refine lv_goto (tgt := 56) hx hb d_GlyphPositionsModel_classIn_117 (by decide) ?_
        exact ih_56 _ _ _ _ _ hf hP hS (lv_sub hl [3, 4, 5, 1, 0] rfl)
      rw [if_neg c1] at hf
      refine lv_aload_n hx hb d_GlyphPositionsModel_classIn_101 rfl (lv_at hl 1 rfl) ?_
      refine lv_iload hx hb d_GlyphPositionsModel_classIn_102 (lv_at hl 0 rfl) ?_
      refine lv_iconst (v := 4) hx hb d_GlyphPositionsModel_classIn_104 (by decide) ?_
      refine lv_iadd hx hb d_GlyphPositionsModel_classIn_105 ?_
      obtain ⟨r6, h_r6, hf⟩ := q_bn_some hf
      refine q_callVp (As := [.int (x5_1003 + 4)]) (rest := []) (q0 := 36) hC (c_xGlyphPositionsModel_f16 l G h_r6) cal_GlyphPositionsModel_f16 wq_193 ⟨rfl, rfl, Nat.le_of_ble_eq_true rfl, Nat.le_of_ble_eq_true rfl⟩ rfl rfl hP hT hS rfl hl.1 rfl (Nat.le_of_ble_eq_true rfl) d_GlyphPositionsModel_classIn_106 (fun H locs hP hS => ?_)
      refine lv_goto (tgt := 113) hx hb d_GlyphPositionsModel_classIn_109 (by decide) ?_
      refine lv_istore_n (lv' := [(3, .int r6), (5, .int x5_1003), (0, .ref (G.2.2 36)), (1, .int x1_56), (2, .int x2_56), (4, .int x4_56)]) hx hb d_GlyphPositionsModel_classIn_113 rfl hl (by decide) rfl (fun ls hl => ?_)
      refine lv_iinc (v := x4_56 + 1) (lv' := [(4, .int (x4_56 + 1)), (3, .int r6), (5, .int x5_1003), (0, .ref (G.2.2 36)), (1, .int x1_56), (2, .int x2_56)]) hx hb d_GlyphPositionsModel_classIn_114 hl (k := 5) rfl rfl (by decide) rfl (fun ls hl => ?_)
      refine lv_goto (tgt := 56) hx hb d_GlyphPositionsModel_classIn_117 (by decide) ?_
      exact ih_56 _ _ _ _ _ hf hP hS (lv_sub hl [3, 4, 5, 1, 0] rfl)
  unfold xGlyphPositionsModel_classIn at hf
  refine lv_aload_n hx hb d_GlyphPositionsModel_classIn_0 rfl (lv_at hl 0 rfl) ?_
  refine lv_iload_n hx hb d_GlyphPositionsModel_classIn_1 rfl (lv_at hl 1 rfl) ?_
  obtain ⟨r1, h_r1, hf⟩ := q_bn_some hf
  refine q_callVp (As := [.int x1]) (rest := []) (q0 := 36) hC (c_xGlyphPositionsModel_f16 l G h_r1) cal_GlyphPositionsModel_f16 wq_193 ⟨rfl, rfl, Nat.le_of_ble_eq_true rfl, Nat.le_of_ble_eq_true rfl⟩ rfl rfl hP hT hS rfl hl.1 rfl (Nat.le_of_ble_eq_true rfl) d_GlyphPositionsModel_classIn_2 (fun H locs hP hS => ?_)
  refine lv_iconst (v := 1) hx hb d_GlyphPositionsModel_classIn_5 (by decide) ?_
  refine lv_icmp_ne (tgt := 51) hx hb d_GlyphPositionsModel_classIn_6 (by decide) (fun c1 => ?_) (fun c1 => ?_)
  · rw [if_neg c1] at hf
    refine lv_iconst (v := 0) hx hb d_GlyphPositionsModel_classIn_51 (by decide) ?_
    refine lv_istore_n (lv' := [(3, .int 0), (0, .ref (G.2.2 36)), (1, .int x1), (2, .int x2)]) hx hb d_GlyphPositionsModel_classIn_52 rfl hl (by decide) rfl (fun ls hl => ?_)
    refine lv_iconst (v := 0) hx hb d_GlyphPositionsModel_classIn_53 (by decide) ?_
    refine lv_istore (lv' := [(4, .int 0), (3, .int 0), (0, .ref (G.2.2 36)), (1, .int x1), (2, .int x2)]) hx hb d_GlyphPositionsModel_classIn_54 hl (by decide) rfl (fun ls hl => ?_)
    exact L_56 _ _ _ _ _ _ _ _ hf hP hS (lv_sub hl [2, 3, 4, 1, 0] rfl)
  rw [if_pos c1] at hf
  refine lv_iload_n hx hb d_GlyphPositionsModel_classIn_9 rfl (lv_at hl 2 rfl) ?_
  refine lv_aload_n hx hb d_GlyphPositionsModel_classIn_10 rfl (lv_at hl 0 rfl) ?_
  refine lv_iload_n hx hb d_GlyphPositionsModel_classIn_11 rfl (lv_at hl 1 rfl) ?_
  refine lv_iconst (v := 2) hx hb d_GlyphPositionsModel_classIn_12 (by decide) ?_
  refine lv_iadd hx hb d_GlyphPositionsModel_classIn_13 ?_
  obtain ⟨r7, h_r7, hf⟩ := q_bn_some hf
  refine q_callVp (As := [.int (x1 + 2)]) (rest := [.int x2]) (q0 := 36) hC (c_xGlyphPositionsModel_f16 l G h_r7) cal_GlyphPositionsModel_f16 wq_193 ⟨rfl, rfl, Nat.le_of_ble_eq_true rfl, Nat.le_of_ble_eq_true rfl⟩ rfl rfl hP hT hS rfl hl.1 rfl (Nat.le_of_ble_eq_true rfl) d_GlyphPositionsModel_classIn_14 (fun H locs hP hS => ?_)
  refine lv_isub hx hb d_GlyphPositionsModel_classIn_17 ?_
  obtain ⟨x3_1008, e_x3_1008, hf⟩ := q_lt_some hf
  refine q_topi e_x3_1008 ?_
  refine lv_istore_n (lv' := [(3, .int x3_1008), (0, .ref (G.2.2 36)), (1, .int x1), (2, .int x2)]) hx hb d_GlyphPositionsModel_classIn_18 rfl hl (by decide) rfl (fun ls hl => ?_)
  refine lv_iload_n hx hb d_GlyphPositionsModel_classIn_19 rfl (lv_at hl 0 rfl) ?_
  refine lv_if_lt (tgt := 49) hx hb d_GlyphPositionsModel_classIn_20 (by decide) (fun c1 => ?_) (fun c1 => ?_)
  · rw [if_pos c1] at hf
    refine lv_iconst (v := 0) hx hb d_GlyphPositionsModel_classIn_49 (by decide) ?_
    exact q_iretP hC hr hlk hf (by first | rfl | decide) hS d_GlyphPositionsModel_classIn_50
  rw [if_neg c1] at hf
  refine lv_iload_n hx hb d_GlyphPositionsModel_classIn_23 rfl (lv_at hl 0 rfl) ?_
  refine lv_aload_n hx hb d_GlyphPositionsModel_classIn_24 rfl (lv_at hl 1 rfl) ?_
  refine lv_iload_n hx hb d_GlyphPositionsModel_classIn_25 rfl (lv_at hl 2 rfl) ?_
  refine lv_iconst (v := 4) hx hb d_GlyphPositionsModel_classIn_26 (by decide) ?_
  refine lv_iadd hx hb d_GlyphPositionsModel_classIn_27 ?_
  obtain ⟨r9, h_r9, hf⟩ := q_bn_some hf
  refine q_callVp (As := [.int (x1 + 4)]) (rest := [.int x3_1008]) (q0 := 36) hC (c_xGlyphPositionsModel_f16 l G h_r9) cal_GlyphPositionsModel_f16 wq_193 ⟨rfl, rfl, Nat.le_of_ble_eq_true rfl, Nat.le_of_ble_eq_true rfl⟩ rfl rfl hP hT hS rfl hl.1 rfl (Nat.le_of_ble_eq_true rfl) d_GlyphPositionsModel_classIn_28 (fun H locs hP hS => ?_)
  refine lv_icmp_ge (tgt := 49) hx hb d_GlyphPositionsModel_classIn_31 (by decide) (fun c1 => ?_) (fun c1 => ?_)
  · rw [if_pos c1] at hf
    refine lv_iconst (v := 0) hx hb d_GlyphPositionsModel_classIn_49 (by decide) ?_
    exact q_iretP hC hr hlk hf (by first | rfl | decide) hS d_GlyphPositionsModel_classIn_50
  rw [if_neg c1] at hf
  refine lv_aload_n hx hb d_GlyphPositionsModel_classIn_34 rfl (lv_at hl 1 rfl) ?_
  refine lv_iload_n hx hb d_GlyphPositionsModel_classIn_35 rfl (lv_at hl 2 rfl) ?_
  refine lv_bipush (v := 6) hx hb d_GlyphPositionsModel_classIn_36 (by decide) ?_
  refine lv_iadd hx hb d_GlyphPositionsModel_classIn_38 ?_
  refine lv_iconst (v := 2) hx hb d_GlyphPositionsModel_classIn_39 (by decide) ?_
  refine lv_iload_n hx hb d_GlyphPositionsModel_classIn_40 rfl (lv_at hl 0 rfl) ?_
  refine lv_imul hx hb d_GlyphPositionsModel_classIn_41 ?_
  refine lv_iadd hx hb d_GlyphPositionsModel_classIn_42 ?_
  obtain ⟨r10, h_r10, hf⟩ := q_bn_some hf
  refine q_callVp (As := [.int ((x1 + 6) + (2 * x3_1008))]) (rest := []) (q0 := 36) hC (c_xGlyphPositionsModel_f16 l G h_r10) cal_GlyphPositionsModel_f16 wq_193 ⟨rfl, rfl, Nat.le_of_ble_eq_true rfl, Nat.le_of_ble_eq_true rfl⟩ rfl rfl hP hT hS rfl hl.1 rfl (Nat.le_of_ble_eq_true rfl) d_GlyphPositionsModel_classIn_43 (fun H locs hP hS => ?_)
  refine lv_goto (tgt := 50) hx hb d_GlyphPositionsModel_classIn_46 (by decide) ?_
  exact q_iretP hC hr hlk hf (by first | rfl | decide) hS d_GlyphPositionsModel_classIn_50
def xGlyphPositionsModel_valuesOf_117 (N : Nat) (st : QSt) (x4_117 x5_117 x6_117 : Int32) : Nat → Int32 → Int32 → Option Int32
  | 0, _, _ => none
  | n_117 + 1, x7_117, x8_117 => q_bn (xGlyphPositionsModel_f16 x6_117 st) (fun r4 => if r4 ≤ x8_117 then (some x7_117) else (q_lt ((x6_117 + 2) + ((2 + x5_117) * x8_117)) (fun x9_1005 => q_bn (xGlyphPositionsModel_f16 x9_1005 st) (fun r6 => if r6 = x4_117 then (q_lt (x9_1005 + 2) (fun x7_1007 => xGlyphPositionsModel_valuesOf_117 N st x4_117 x5_117 x6_117 n_117 x7_1007 (x8_117 + 1))) else (xGlyphPositionsModel_valuesOf_117 N st x4_117 x5_117 x6_117 n_117 x7_117 (x8_117 + 1))))))
def xGlyphPositionsModel_valuesOf (N : Nat) (x1 x2 x3 x4 x5 : Int32) (st : QSt) : Option Int32 :=
  q_bn (xGlyphPositionsModel_f16 x1 st) (fun r1 => if r1 = 2 then (q_bn (xGlyphPositionsModel_f16 (x1 + 8) st) (fun r8 => q_bn (xGlyphPositionsModel_classIn N (x1 + r8) x3 st) (fun r9 => q_bn (xGlyphPositionsModel_f16 (x1 + 10) st) (fun r10 => q_bn (xGlyphPositionsModel_classIn N (x1 + r10) x4 st) (fun r11 => q_bn (xGlyphPositionsModel_f16 (x1 + 14) st) (fun r12 => q_bn (xGlyphPositionsModel_f16 (x1 + 12) st) (fun r13 => if r13 ≤ r9 then (some 0) else (if r12 ≤ r11 then (some 0) else (some ((x1 + 16) + (((r9 * r12) + r11) * x5))))))))))) else (q_bn (xGlyphPositionsModel_f16 ((x1 + 10) + (2 * x2)) st) (fun r2 => q_lt (x1 + r2) (fun x6_1003 => xGlyphPositionsModel_valuesOf_117 N st x4 x5 x6_1003 N 0 0))))
set_option maxHeartbeats 4000000 in
set_option maxRecDepth 100000 in
theorem c_xGlyphPositionsModel_valuesOf (l : Launch) (G : XG) {N : Nat} {x1 x2 x3 x4 x5 : Int32} {st : QSt} {ro : Int32} (hf : xGlyphPositionsModel_valuesOf N x1 x2 x3 x4 x5 st = some ro) : q_Mp l y_GlyphPositionsModel_valuesOf b_GlyphPositionsModel_valuesOf 10 .int ({ frames := 2, cells := 0, slots := 0, locals := 46 } : Room) G.1 (xT G) (wX G) [.ref (G.2.2 36), .int x1, .int x2, .int x3, .int x4, .int x5] st ro := by
  refine q_Mp_of (by decide) (Nat.le_of_ble_eq_true rfl) (wX_fst G) ?_
  intro p e s m args below meth c ls hC hr hlk hT hP hS hl
  have hx := hC.1.1
  have hb := hC.1.2.1
  have hown := hC.1.2.2.2.1
  have hts := hC.1.2.2.2.2
  have hl : lv_has ls 10 [(0, .ref (G.2.2 36)), (1, .int x1), (2, .int x2), (3, .int x3), (4, .int x4), (5, .int x5)] := hl
  have L_117 : ∀ (x4_117 x5_117 x6_117 : Int32) (n_117 : Nat) (x7_117 x8_117 : Int32) (H : Heap) (locs : List Loc) (ls : Array Slot), xGlyphPositionsModel_valuesOf_117 N st x4_117 x5_117 x6_117 n_117 x7_117 x8_117 = some ro → va_P G.1 vwCl (wX G st) H → va_S (fun _ => False) s.heap H locs → lv_has ls 10 [(0, .ref (G.2.2 36)), (4, .int x4_117), (5, .int x5_117), (6, .int x6_117), (7, .int x7_117), (8, .int x8_117)] → W p l e ({ frames := 2, cells := 0, slots := 0, locals := 46 } : Room) s m args below meth c H locs 0 0 (q_Zp below args s ro) (F0 m 117 ls []) := by
    intro x4_117 x5_117 x6_117 n_117
    induction n_117 with
    | zero => intro _ _ _ _ _ hf; exact absurd hf (by simp [xGlyphPositionsModel_valuesOf_117])
    | succ n_117 ih_117 =>
      intro x7_117 x8_117 H locs ls hf hP hS hl
      rw [xGlyphPositionsModel_valuesOf_117] at hf
      refine lv_iload hx hb d_GlyphPositionsModel_valuesOf_117 (lv_at hl 5 rfl) ?_
      refine lv_aload_n hx hb d_GlyphPositionsModel_valuesOf_119 rfl (lv_at hl 0 rfl) ?_
      refine lv_iload hx hb d_GlyphPositionsModel_valuesOf_120 (lv_at hl 3 rfl) ?_
      obtain ⟨r4, h_r4, hf⟩ := q_bn_some hf
      refine q_callVp (As := [.int x6_117]) (rest := [.int x8_117]) (q0 := 36) hC (c_xGlyphPositionsModel_f16 l G h_r4) cal_GlyphPositionsModel_f16 wq_193 ⟨rfl, rfl, Nat.le_of_ble_eq_true rfl, Nat.le_of_ble_eq_true rfl⟩ rfl rfl hP hT hS rfl hl.1 rfl (Nat.le_of_ble_eq_true rfl) d_GlyphPositionsModel_valuesOf_122 (fun H locs hP hS => ?_)
      refine lv_icmp_ge (tgt := 170) hx hb d_GlyphPositionsModel_valuesOf_125 (by decide) (fun c1 => ?_) (fun c1 => ?_)
      · rw [if_pos c1] at hf
        refine lv_iload hx hb d_GlyphPositionsModel_valuesOf_170 (lv_at hl 4 rfl) ?_
        exact q_iretP hC hr hlk hf (by first | rfl | decide) hS d_GlyphPositionsModel_valuesOf_172
      rw [if_neg c1] at hf
      refine lv_iload hx hb d_GlyphPositionsModel_valuesOf_128 (lv_at hl 3 rfl) ?_
      refine lv_iconst (v := 2) hx hb d_GlyphPositionsModel_valuesOf_130 (by decide) ?_
      refine lv_iadd hx hb d_GlyphPositionsModel_valuesOf_131 ?_
      refine lv_iconst (v := 2) hx hb d_GlyphPositionsModel_valuesOf_132 (by decide) ?_
      refine lv_iload hx hb d_GlyphPositionsModel_valuesOf_133 (lv_at hl 2 rfl) ?_
      refine lv_iadd hx hb d_GlyphPositionsModel_valuesOf_135 ?_
      refine lv_iload hx hb d_GlyphPositionsModel_valuesOf_136 (lv_at hl 5 rfl) ?_
      refine lv_imul hx hb d_GlyphPositionsModel_valuesOf_138 ?_
      refine lv_iadd hx hb d_GlyphPositionsModel_valuesOf_139 ?_
      obtain ⟨x9_1005, e_x9_1005, hf⟩ := q_lt_some hf
      refine q_topi e_x9_1005 ?_
      refine lv_istore (lv' := [(9, .int x9_1005), (0, .ref (G.2.2 36)), (4, .int x4_117), (5, .int x5_117), (6, .int x6_117), (7, .int x7_117), (8, .int x8_117)]) hx hb d_GlyphPositionsModel_valuesOf_140 hl (by decide) rfl (fun ls hl => ?_)
      refine lv_aload_n hx hb d_GlyphPositionsModel_valuesOf_142 rfl (lv_at hl 1 rfl) ?_
      refine lv_iload hx hb d_GlyphPositionsModel_valuesOf_143 (lv_at hl 0 rfl) ?_
      obtain ⟨r6, h_r6, hf⟩ := q_bn_some hf
      refine q_callVp (As := [.int x9_1005]) (rest := []) (q0 := 36) hC (c_xGlyphPositionsModel_f16 l G h_r6) cal_GlyphPositionsModel_f16 wq_193 ⟨rfl, rfl, Nat.le_of_ble_eq_true rfl, Nat.le_of_ble_eq_true rfl⟩ rfl rfl hP hT hS rfl hl.1 rfl (Nat.le_of_ble_eq_true rfl) d_GlyphPositionsModel_valuesOf_145 (fun H locs hP hS => ?_)
      refine lv_iload hx hb d_GlyphPositionsModel_valuesOf_148 (lv_at hl 2 rfl) ?_
      refine lv_icmp_ne (tgt := 160) hx hb d_GlyphPositionsModel_valuesOf_150 (by decide) (fun c1 => ?_) (fun c1 => ?_)
      · rw [if_neg c1] at hf
        refine lv_iload hx hb d_GlyphPositionsModel_valuesOf_160 (lv_at hl 5 rfl) ?_
        refine lv_istore (lv' := [(7, .int x7_117), (9, .int x9_1005), (0, .ref (G.2.2 36)), (4, .int x4_117), (5, .int x5_117), (6, .int x6_117), (8, .int x8_117)]) hx hb d_GlyphPositionsModel_valuesOf_162 hl (by decide) rfl (fun ls hl => ?_)
        refine lv_iinc (v := x8_117 + 1) (lv' := [(8, .int (x8_117 + 1)), (7, .int x7_117), (9, .int x9_1005), (0, .ref (G.2.2 36)), (4, .int x4_117), (5, .int x5_117), (6, .int x6_117)]) hx hb d_GlyphPositionsModel_valuesOf_164 hl (k := 6) rfl rfl (by decide) rfl (fun ls hl => ?_)
        refine lv_goto (tgt := 117) hx hb d_GlyphPositionsModel_valuesOf_167 (by decide) ?_
        exact ih_117 _ _ _ _ _ hf hP hS (lv_sub hl [3, 4, 5, 6, 1, 0] rfl)
      rw [if_pos c1] at hf
      refine lv_iload hx hb d_GlyphPositionsModel_valuesOf_153 (lv_at hl 0 rfl) ?_
      refine lv_iconst (v := 2) hx hb d_GlyphPositionsModel_valuesOf_155 (by decide) ?_
      refine lv_iadd hx hb d_GlyphPositionsModel_valuesOf_156 ?_
      refine lv_goto (tgt := 162) hx hb d_GlyphPositionsModel_valuesOf_157 (by decide) ?_
      obtain ⟨x7_1007, e_x7_1007, hf⟩ := q_lt_some hf
      refine q_topi e_x7_1007 ?_
      refine lv_istore (lv' := [(7, .int x7_1007), (9, .int x9_1005), (0, .ref (G.2.2 36)), (4, .int x4_117), (5, .int x5_117), (6, .int x6_117), (8, .int x8_117)]) hx hb d_GlyphPositionsModel_valuesOf_162 hl (by decide) rfl (fun ls hl => ?_)
      refine lv_iinc (v := x8_117 + 1) (lv' := [(8, .int (x8_117 + 1)), (7, .int x7_1007), (9, .int x9_1005), (0, .ref (G.2.2 36)), (4, .int x4_117), (5, .int x5_117), (6, .int x6_117)]) hx hb d_GlyphPositionsModel_valuesOf_164 hl (k := 6) rfl rfl (by decide) rfl (fun ls hl => ?_)
      refine lv_goto (tgt := 117) hx hb d_GlyphPositionsModel_valuesOf_167 (by decide) ?_
      exact ih_117 _ _ _ _ _ hf hP hS (lv_sub hl [3, 4, 5, 6, 1, 0] rfl)
  unfold xGlyphPositionsModel_valuesOf at hf
  refine lv_aload_n hx hb d_GlyphPositionsModel_valuesOf_0 rfl (lv_at hl 0 rfl) ?_
  refine lv_iload_n hx hb d_GlyphPositionsModel_valuesOf_1 rfl (lv_at hl 1 rfl) ?_
  obtain ⟨r1, h_r1, hf⟩ := q_bn_some hf
  refine q_callVp (As := [.int x1]) (rest := []) (q0 := 36) hC (c_xGlyphPositionsModel_f16 l G h_r1) cal_GlyphPositionsModel_f16 wq_193 ⟨rfl, rfl, Nat.le_of_ble_eq_true rfl, Nat.le_of_ble_eq_true rfl⟩ rfl rfl hP hT hS rfl hl.1 rfl (Nat.le_of_ble_eq_true rfl) d_GlyphPositionsModel_valuesOf_2 (fun H locs hP hS => ?_)
  refine lv_iconst (v := 2) hx hb d_GlyphPositionsModel_valuesOf_5 (by decide) ?_
  refine lv_icmp_ne (tgt := 95) hx hb d_GlyphPositionsModel_valuesOf_6 (by decide) (fun c1 => ?_) (fun c1 => ?_)
  · rw [if_neg c1] at hf
    refine lv_iload_n hx hb d_GlyphPositionsModel_valuesOf_95 rfl (lv_at hl 1 rfl) ?_
    refine lv_aload_n hx hb d_GlyphPositionsModel_valuesOf_96 rfl (lv_at hl 0 rfl) ?_
    refine lv_iload_n hx hb d_GlyphPositionsModel_valuesOf_97 rfl (lv_at hl 1 rfl) ?_
    refine lv_bipush (v := 10) hx hb d_GlyphPositionsModel_valuesOf_98 (by decide) ?_
    refine lv_iadd hx hb d_GlyphPositionsModel_valuesOf_100 ?_
    refine lv_iconst (v := 2) hx hb d_GlyphPositionsModel_valuesOf_101 (by decide) ?_
    refine lv_iload_n hx hb d_GlyphPositionsModel_valuesOf_102 rfl (lv_at hl 2 rfl) ?_
    refine lv_imul hx hb d_GlyphPositionsModel_valuesOf_103 ?_
    refine lv_iadd hx hb d_GlyphPositionsModel_valuesOf_104 ?_
    obtain ⟨r2, h_r2, hf⟩ := q_bn_some hf
    refine q_callVp (As := [.int ((x1 + 10) + (2 * x2))]) (rest := [.int x1]) (q0 := 36) hC (c_xGlyphPositionsModel_f16 l G h_r2) cal_GlyphPositionsModel_f16 wq_193 ⟨rfl, rfl, Nat.le_of_ble_eq_true rfl, Nat.le_of_ble_eq_true rfl⟩ rfl rfl hP hT hS rfl hl.1 rfl (Nat.le_of_ble_eq_true rfl) d_GlyphPositionsModel_valuesOf_105 (fun H locs hP hS => ?_)
    refine lv_iadd hx hb d_GlyphPositionsModel_valuesOf_108 ?_
    obtain ⟨x6_1003, e_x6_1003, hf⟩ := q_lt_some hf
    refine q_topi e_x6_1003 ?_
    refine lv_istore (lv' := [(6, .int x6_1003), (0, .ref (G.2.2 36)), (1, .int x1), (2, .int x2), (3, .int x3), (4, .int x4), (5, .int x5)]) hx hb d_GlyphPositionsModel_valuesOf_109 hl (by decide) rfl (fun ls hl => ?_)
    refine lv_iconst (v := 0) hx hb d_GlyphPositionsModel_valuesOf_111 (by decide) ?_
    refine lv_istore (lv' := [(7, .int 0), (6, .int x6_1003), (0, .ref (G.2.2 36)), (1, .int x1), (2, .int x2), (3, .int x3), (4, .int x4), (5, .int x5)]) hx hb d_GlyphPositionsModel_valuesOf_112 hl (by decide) rfl (fun ls hl => ?_)
    refine lv_iconst (v := 0) hx hb d_GlyphPositionsModel_valuesOf_114 (by decide) ?_
    refine lv_istore (lv' := [(8, .int 0), (7, .int 0), (6, .int x6_1003), (0, .ref (G.2.2 36)), (1, .int x1), (2, .int x2), (3, .int x3), (4, .int x4), (5, .int x5)]) hx hb d_GlyphPositionsModel_valuesOf_115 hl (by decide) rfl (fun ls hl => ?_)
    exact L_117 _ _ _ _ _ _ _ _ _ hf hP hS (lv_sub hl [3, 7, 8, 2, 1, 0] rfl)
  rw [if_pos c1] at hf
  refine lv_aload_n hx hb d_GlyphPositionsModel_valuesOf_9 rfl (lv_at hl 0 rfl) ?_
  refine lv_iload_n hx hb d_GlyphPositionsModel_valuesOf_10 rfl (lv_at hl 1 rfl) ?_
  refine lv_aload_n hx hb d_GlyphPositionsModel_valuesOf_11 rfl (lv_at hl 0 rfl) ?_
  refine lv_iload_n hx hb d_GlyphPositionsModel_valuesOf_12 rfl (lv_at hl 1 rfl) ?_
  refine lv_bipush (v := 8) hx hb d_GlyphPositionsModel_valuesOf_13 (by decide) ?_
  refine lv_iadd hx hb d_GlyphPositionsModel_valuesOf_15 ?_
  obtain ⟨r8, h_r8, hf⟩ := q_bn_some hf
  refine q_callVp (As := [.int (x1 + 8)]) (rest := [.int x1, .ref (G.2.2 36)]) (q0 := 36) hC (c_xGlyphPositionsModel_f16 l G h_r8) cal_GlyphPositionsModel_f16 wq_193 ⟨rfl, rfl, Nat.le_of_ble_eq_true rfl, Nat.le_of_ble_eq_true rfl⟩ rfl rfl hP hT hS rfl hl.1 rfl (Nat.le_of_ble_eq_true rfl) d_GlyphPositionsModel_valuesOf_16 (fun H locs hP hS => ?_)
  refine lv_iadd hx hb d_GlyphPositionsModel_valuesOf_19 ?_
  refine lv_iload_n hx hb d_GlyphPositionsModel_valuesOf_20 rfl (lv_at hl 3 rfl) ?_
  obtain ⟨r9, h_r9, hf⟩ := q_bn_some hf
  refine q_callVp (As := [.int (x1 + r8), .int x3]) (rest := []) (q0 := 36) hC (c_xGlyphPositionsModel_classIn l G h_r9) cal_GlyphPositionsModel_classIn wq_217 ⟨rfl, rfl, Nat.le_of_ble_eq_true rfl, Nat.le_of_ble_eq_true rfl⟩ rfl rfl hP hT hS rfl hl.1 rfl (Nat.le_of_ble_eq_true rfl) d_GlyphPositionsModel_valuesOf_21 (fun H locs hP hS => ?_)
  refine lv_istore (lv' := [(6, .int r9), (0, .ref (G.2.2 36)), (1, .int x1), (2, .int x2), (3, .int x3), (4, .int x4), (5, .int x5)]) hx hb d_GlyphPositionsModel_valuesOf_24 hl (by decide) rfl (fun ls hl => ?_)
  refine lv_aload_n hx hb d_GlyphPositionsModel_valuesOf_26 rfl (lv_at hl 1 rfl) ?_
  refine lv_iload_n hx hb d_GlyphPositionsModel_valuesOf_27 rfl (lv_at hl 2 rfl) ?_
  refine lv_aload_n hx hb d_GlyphPositionsModel_valuesOf_28 rfl (lv_at hl 1 rfl) ?_
  refine lv_iload_n hx hb d_GlyphPositionsModel_valuesOf_29 rfl (lv_at hl 2 rfl) ?_
  refine lv_bipush (v := 10) hx hb d_GlyphPositionsModel_valuesOf_30 (by decide) ?_
  refine lv_iadd hx hb d_GlyphPositionsModel_valuesOf_32 ?_
  obtain ⟨r10, h_r10, hf⟩ := q_bn_some hf
  refine q_callVp (As := [.int (x1 + 10)]) (rest := [.int x1, .ref (G.2.2 36)]) (q0 := 36) hC (c_xGlyphPositionsModel_f16 l G h_r10) cal_GlyphPositionsModel_f16 wq_193 ⟨rfl, rfl, Nat.le_of_ble_eq_true rfl, Nat.le_of_ble_eq_true rfl⟩ rfl rfl hP hT hS rfl hl.1 rfl (Nat.le_of_ble_eq_true rfl) d_GlyphPositionsModel_valuesOf_33 (fun H locs hP hS => ?_)
  refine lv_iadd hx hb d_GlyphPositionsModel_valuesOf_36 ?_
  refine lv_iload hx hb d_GlyphPositionsModel_valuesOf_37 (lv_at hl 5 rfl) ?_
  obtain ⟨r11, h_r11, hf⟩ := q_bn_some hf
  refine q_callVp (As := [.int (x1 + r10), .int x4]) (rest := []) (q0 := 36) hC (c_xGlyphPositionsModel_classIn l G h_r11) cal_GlyphPositionsModel_classIn wq_217 ⟨rfl, rfl, Nat.le_of_ble_eq_true rfl, Nat.le_of_ble_eq_true rfl⟩ rfl rfl hP hT hS rfl hl.1 rfl (Nat.le_of_ble_eq_true rfl) d_GlyphPositionsModel_valuesOf_39 (fun H locs hP hS => ?_)
  refine lv_istore (lv' := [(7, .int r11), (6, .int r9), (0, .ref (G.2.2 36)), (1, .int x1), (2, .int x2), (3, .int x3), (4, .int x4), (5, .int x5)]) hx hb d_GlyphPositionsModel_valuesOf_42 hl (by decide) rfl (fun ls hl => ?_)
  refine lv_aload_n hx hb d_GlyphPositionsModel_valuesOf_44 rfl (lv_at hl 2 rfl) ?_
  refine lv_iload_n hx hb d_GlyphPositionsModel_valuesOf_45 rfl (lv_at hl 3 rfl) ?_
  refine lv_bipush (v := 14) hx hb d_GlyphPositionsModel_valuesOf_46 (by decide) ?_
  refine lv_iadd hx hb d_GlyphPositionsModel_valuesOf_48 ?_
  obtain ⟨r12, h_r12, hf⟩ := q_bn_some hf
  refine q_callVp (As := [.int (x1 + 14)]) (rest := []) (q0 := 36) hC (c_xGlyphPositionsModel_f16 l G h_r12) cal_GlyphPositionsModel_f16 wq_193 ⟨rfl, rfl, Nat.le_of_ble_eq_true rfl, Nat.le_of_ble_eq_true rfl⟩ rfl rfl hP hT hS rfl hl.1 rfl (Nat.le_of_ble_eq_true rfl) d_GlyphPositionsModel_valuesOf_49 (fun H locs hP hS => ?_)
  refine lv_istore (lv' := [(8, .int r12), (7, .int r11), (6, .int r9), (0, .ref (G.2.2 36)), (1, .int x1), (2, .int x2), (3, .int x3), (4, .int x4), (5, .int x5)]) hx hb d_GlyphPositionsModel_valuesOf_52 hl (by decide) rfl (fun ls hl => ?_)
  refine lv_iload hx hb d_GlyphPositionsModel_valuesOf_54 (lv_at hl 2 rfl) ?_
  refine lv_aload_n hx hb d_GlyphPositionsModel_valuesOf_56 rfl (lv_at hl 3 rfl) ?_
  refine lv_iload_n hx hb d_GlyphPositionsModel_valuesOf_57 rfl (lv_at hl 4 rfl) ?_
  refine lv_bipush (v := 12) hx hb d_GlyphPositionsModel_valuesOf_58 (by decide) ?_
  refine lv_iadd hx hb d_GlyphPositionsModel_valuesOf_60 ?_
  obtain ⟨r13, h_r13, hf⟩ := q_bn_some hf
  refine q_callVp (As := [.int (x1 + 12)]) (rest := [.int r9]) (q0 := 36) hC (c_xGlyphPositionsModel_f16 l G h_r13) cal_GlyphPositionsModel_f16 wq_193 ⟨rfl, rfl, Nat.le_of_ble_eq_true rfl, Nat.le_of_ble_eq_true rfl⟩ rfl rfl hP hT hS rfl hl.1 rfl (Nat.le_of_ble_eq_true rfl) d_GlyphPositionsModel_valuesOf_61 (fun H locs hP hS => ?_)
  refine lv_icmp_ge (tgt := 93) hx hb d_GlyphPositionsModel_valuesOf_64 (by decide) (fun c1 => ?_) (fun c1 => ?_)
  · rw [if_pos c1] at hf
    refine lv_iconst (v := 0) hx hb d_GlyphPositionsModel_valuesOf_93 (by decide) ?_
    exact q_iretP hC hr hlk hf (by first | rfl | decide) hS d_GlyphPositionsModel_valuesOf_94
  rw [if_neg c1] at hf
  refine lv_iload hx hb d_GlyphPositionsModel_valuesOf_67 (lv_at hl 1 rfl) ?_
  refine lv_iload hx hb d_GlyphPositionsModel_valuesOf_69 (lv_at hl 0 rfl) ?_
  refine lv_icmp_ge (tgt := 93) hx hb d_GlyphPositionsModel_valuesOf_71 (by decide) (fun c1 => ?_) (fun c1 => ?_)
  · rw [if_pos c1] at hf
    refine lv_iconst (v := 0) hx hb d_GlyphPositionsModel_valuesOf_93 (by decide) ?_
    exact q_iretP hC hr hlk hf (by first | rfl | decide) hS d_GlyphPositionsModel_valuesOf_94
  rw [if_neg c1] at hf
  refine lv_iload_n hx hb d_GlyphPositionsModel_valuesOf_74 rfl (lv_at hl 4 rfl) ?_
  refine lv_bipush (v := 16) hx hb d_GlyphPositionsModel_valuesOf_75 (by decide) ?_
  refine lv_iadd hx hb d_GlyphPositionsModel_valuesOf_77 ?_
  refine lv_iload hx hb d_GlyphPositionsModel_valuesOf_78 (lv_at hl 2 rfl) ?_
  refine lv_iload hx hb d_GlyphPositionsModel_valuesOf_80 (lv_at hl 0 rfl) ?_
  refine lv_imul hx hb d_GlyphPositionsModel_valuesOf_82 ?_
  refine lv_iload hx hb d_GlyphPositionsModel_valuesOf_83 (lv_at hl 1 rfl) ?_
  refine lv_iadd hx hb d_GlyphPositionsModel_valuesOf_85 ?_
  refine lv_iload hx hb d_GlyphPositionsModel_valuesOf_86 (lv_at hl 8 rfl) ?_
  refine lv_imul hx hb d_GlyphPositionsModel_valuesOf_88 ?_
  refine lv_iadd hx hb d_GlyphPositionsModel_valuesOf_89 ?_
  refine lv_goto (tgt := 94) hx hb d_GlyphPositionsModel_valuesOf_90 (by decide) ?_
  exact q_iretP hC hr hlk hf (by first | rfl | decide) hS d_GlyphPositionsModel_valuesOf_94
def xGlyphPositionsModel_give_155 (N : Nat) (rec_6 : Int32 → Int32 → QSt → Option QSt) (x1_6 x3_6 x4_155 x5_155 : Int32) (w1_155 w2_155 : Int32) (st_155 : QSt) : Option QSt :=
  q_grd (q_vpb w1_155 800) (q_lt (q_pa st_155 41 w1_155.toNatClampNeg w2_155) (fun s10 => rec_6 x4_155 (x5_155 + 1) s10))
def xGlyphPositionsModel_give_125 (N : Nat) (rec_6 : Int32 → Int32 → QSt → Option QSt) (x1_6 x3_6 x4_125 x5_125 x6_125 : Int32) (w1_125 w2_125 : Int32) (st_125 : QSt) : Option QSt :=
  q_grd (q_vpb w1_125 800) (q_lt (q_pa st_125 40 w1_125.toNatClampNeg w2_125) (fun s8 => if x5_125 = 3 then (q_grd (q_vpb x1_6 800) (q_lt (s8.2 41 x1_6.toNatClampNeg) (fun v11 => xGlyphPositionsModel_give_155 N rec_6 x1_6 x3_6 x4_125 x5_125 x1_6 (v11 + x6_125) s8))) else (q_grd (q_vpb x1_6 800) (q_lt (s8.2 41 x1_6.toNatClampNeg) (fun v9 => xGlyphPositionsModel_give_155 N rec_6 x1_6 x3_6 x4_125 x5_125 x1_6 v9 s8)))))
def xGlyphPositionsModel_give_95 (N : Nat) (rec_6 : Int32 → Int32 → QSt → Option QSt) (x1_6 x3_6 x4_95 x5_95 x6_95 : Int32) (w1_95 w2_95 : Int32) (st_95 : QSt) : Option QSt :=
  q_grd (q_vpb w1_95 800) (q_lt (q_pa st_95 43 w1_95.toNatClampNeg w2_95) (fun s6 => if x5_95 = 2 then (q_grd (q_vpb x1_6 800) (q_lt (s6.2 40 x1_6.toNatClampNeg) (fun v12 => xGlyphPositionsModel_give_125 N rec_6 x1_6 x3_6 x4_95 x5_95 x6_95 x1_6 (v12 + x6_95) s6))) else (q_grd (q_vpb x1_6 800) (q_lt (s6.2 40 x1_6.toNatClampNeg) (fun v7 => xGlyphPositionsModel_give_125 N rec_6 x1_6 x3_6 x4_95 x5_95 x6_95 x1_6 v7 s6)))))
def xGlyphPositionsModel_give_65 (N : Nat) (rec_6 : Int32 → Int32 → QSt → Option QSt) (x1_6 x3_6 x4_65 x5_65 x6_65 : Int32) (w1_65 w2_65 : Int32) (st_65 : QSt) : Option QSt :=
  q_grd (q_vpb w1_65 800) (q_lt (q_pa st_65 42 w1_65.toNatClampNeg w2_65) (fun s4 => if x5_65 = 1 then (q_grd (q_vpb x1_6 800) (q_lt (s4.2 43 x1_6.toNatClampNeg) (fun v13 => xGlyphPositionsModel_give_95 N rec_6 x1_6 x3_6 x4_65 x5_65 x6_65 x1_6 (v13 + x6_65) s4))) else (q_grd (q_vpb x1_6 800) (q_lt (s4.2 43 x1_6.toNatClampNeg) (fun v5 => xGlyphPositionsModel_give_95 N rec_6 x1_6 x3_6 x4_65 x5_65 x6_65 x1_6 v5 s4)))))
def xGlyphPositionsModel_give_6 (N : Nat) (x1_6 x3_6 : Int32) : Nat → Int32 → Int32 → QSt → Option QSt
  | 0, _, _, _ => none
  | n_6 + 1, x4_6, x5_6, st_6 => if 8 ≤ x5_6 then (some st_6) else (if ((x3_6 >>> (x5_6 &&& 31)) &&& 1) = 1 then (q_bn (xGlyphPositionsModel_s16 x4_6 st_6) (fun r1 => q_lt (x4_6 + 2) (fun x4_1002 => if x5_6 = 0 then (q_grd (q_vpb x1_6 800) (q_lt (st_6.2 42 x1_6.toNatClampNeg) (fun v14 => xGlyphPositionsModel_give_65 N (xGlyphPositionsModel_give_6 N x1_6 x3_6 n_6) x1_6 x3_6 x4_1002 x5_6 r1 x1_6 (v14 + r1) st_6))) else (q_grd (q_vpb x1_6 800) (q_lt (st_6.2 42 x1_6.toNatClampNeg) (fun v3 => xGlyphPositionsModel_give_65 N (xGlyphPositionsModel_give_6 N x1_6 x3_6 n_6) x1_6 x3_6 x4_1002 x5_6 r1 x1_6 v3 st_6)))))) else (xGlyphPositionsModel_give_6 N x1_6 x3_6 n_6 x4_6 (x5_6 + 1) st_6))
def xGlyphPositionsModel_give (N : Nat) (x1 x2 x3 : Int32) (st : QSt) : Option QSt :=
  xGlyphPositionsModel_give_6 N x1 x3 N x2 0 st
set_option maxHeartbeats 4000000 in
set_option maxRecDepth 100000 in
theorem c_xGlyphPositionsModel_give (l : Launch) (G : XG) {N : Nat} {x1 x2 x3 : Int32} {st : QSt} {so : QSt} (hf : xGlyphPositionsModel_give N x1 x2 x3 st = some so) : q_Mv l y_GlyphPositionsModel_give b_GlyphPositionsModel_give 7 ({ frames := 2, cells := 0, slots := 0, locals := 42 } : Room) G.1 (xT G) (wX G) [.ref (G.2.2 36), .int x1, .int x2, .int x3] st so := by
  refine q_Mv_of (by decide) (Nat.le_of_ble_eq_true rfl) (wX_fst G) ?_
  intro p e s m args below meth c A ls hC hr hlk hT hD hA hP hS hl
  have hx := hC.1.1
  have hb := hC.1.2.1
  have hown := hC.1.2.2.2.1
  have hts := hC.1.2.2.2.2
  have hl : lv_has ls 7 [(0, .ref (G.2.2 36)), (1, .int x1), (2, .int x2), (3, .int x3)] := hl
  have L_6 : ∀ (x1_6 x3_6 : Int32) (n_6 : Nat) (x4_6 x5_6 : Int32) (st_6 : QSt) (H : Heap) (locs : List Loc) (ls : Array Slot), xGlyphPositionsModel_give_6 N x1_6 x3_6 n_6 x4_6 x5_6 st_6 = some so → va_P G.1 vwCl (wX G st_6) H → va_S A s.heap H locs → lv_has ls 7 [(0, .ref (G.2.2 36)), (1, .int x1_6), (3, .int x3_6), (4, .int x4_6), (5, .int x5_6)] → W p l e ({ frames := 2, cells := 0, slots := 0, locals := 42 } : Room) s m args below meth c H locs 0 0 (q_Zv below args s G.1 (wX G) so A) (F0 m 6 ls []) := by
    intro x1_6 x3_6 n_6
    induction n_6 with
    | zero => intro _ _ _ _ _ _ hf; exact absurd hf (by simp [xGlyphPositionsModel_give_6])
    | succ n_6 ih_6 =>
      have J_155 : ∀ (x4_155 x5_155 w1_155 w2_155 : Int32) (st_155 : QSt) (H : Heap) (locs : List Loc) (ls : Array Slot), xGlyphPositionsModel_give_155 N (xGlyphPositionsModel_give_6 N x1_6 x3_6 n_6) x1_6 x3_6 x4_155 x5_155 w1_155 w2_155 st_155 = some so → va_P G.1 vwCl (wX G st_155) H → va_S A s.heap H locs → lv_has ls 7 [(0, .ref (G.2.2 36)), (1, .int x1_6), (3, .int x3_6), (4, .int x4_155), (5, .int x5_155)] → W p l e ({ frames := 2, cells := 0, slots := 0, locals := 42 } : Room) s m args below meth c H locs 0 0 (q_Zv below args s G.1 (wX G) so A) (F0 m 155 ls [.int w2_155, .int w1_155, .ref (G.2.2 52)]) := by
        intro x4_155 x5_155 w1_155 w2_155 st_155 H locs ls hf hP hS hl
        unfold xGlyphPositionsModel_give_155 at hf
        obtain ⟨hi, hf⟩ := q_grd_some hf
        obtain ⟨s10, e_s10, hf⟩ := q_lt_some hf
        refine xs_52 hC hP hD hS e_s10 hi d_GlyphPositionsModel_give_155 (fun H locs hP hS => ?_)
        refine lv_iinc (v := x5_155 + 1) (lv' := [(5, .int (x5_155 + 1)), (0, .ref (G.2.2 36)), (1, .int x1_6), (3, .int x3_6), (4, .int x4_155)]) hx hb d_GlyphPositionsModel_give_156 hl (k := 4) rfl rfl (by decide) rfl (fun ls hl => ?_)
        refine lv_goto (tgt := 6) hx hb d_GlyphPositionsModel_give_159 (by decide) ?_
        exact ih_6 _ _ _ _ _ _ hf hP hS (lv_sub hl [1, 2, 3, 4, 0] rfl)
      have J_125 : ∀ (x4_125 x5_125 x6_125 w1_125 w2_125 : Int32) (st_125 : QSt) (H : Heap) (locs : List Loc) (ls : Array Slot), xGlyphPositionsModel_give_125 N (xGlyphPositionsModel_give_6 N x1_6 x3_6 n_6) x1_6 x3_6 x4_125 x5_125 x6_125 w1_125 w2_125 st_125 = some so → va_P G.1 vwCl (wX G st_125) H → va_S A s.heap H locs → lv_has ls 7 [(0, .ref (G.2.2 36)), (1, .int x1_6), (3, .int x3_6), (4, .int x4_125), (5, .int x5_125), (6, .int x6_125)] → W p l e ({ frames := 2, cells := 0, slots := 0, locals := 42 } : Room) s m args below meth c H locs 0 0 (q_Zv below args s G.1 (wX G) so A) (F0 m 125 ls [.int w2_125, .int w1_125, .ref (G.2.2 51)]) := by
        intro x4_125 x5_125 x6_125 w1_125 w2_125 st_125 H locs ls hf hP hS hl
        unfold xGlyphPositionsModel_give_125 at hf
        obtain ⟨hi, hf⟩ := q_grd_some hf
        obtain ⟨s8, e_s8, hf⟩ := q_lt_some hf
        refine xs_51 hC hP hD hS e_s8 hi d_GlyphPositionsModel_give_125 (fun H locs hP hS => ?_)
        refine lv_aload_n hx hb d_GlyphPositionsModel_give_126 rfl (lv_at hl 0 rfl) ?_
        refine xg_36_heights hC hP wq_142 d_GlyphPositionsModel_give_127 ?_
        refine lv_iload_n hx hb d_GlyphPositionsModel_give_130 rfl (lv_at hl 1 rfl) ?_
        refine lv_iload hx hb d_GlyphPositionsModel_give_131 (lv_at hl 4 rfl) ?_
        refine lv_iconst (v := 3) hx hb d_GlyphPositionsModel_give_133 (by decide) ?_
        refine lv_icmp_ne (tgt := 149) hx hb d_GlyphPositionsModel_give_134 (by decide) (fun c1 => ?_) (fun c1 => ?_)
        · rw [if_neg c1] at hf
          refine lv_aload_n hx hb d_GlyphPositionsModel_give_149 rfl (lv_at hl 0 rfl) ?_
          refine xg_36_heights hC hP wq_142 d_GlyphPositionsModel_give_150 ?_
          refine lv_iload_n hx hb d_GlyphPositionsModel_give_153 rfl (lv_at hl 1 rfl) ?_
          obtain ⟨hi, hf⟩ := q_grd_some hf
          obtain ⟨v9, e_v9, hf⟩ := q_lt_some hf
          refine xl_52 hC hP e_v9 hi d_GlyphPositionsModel_give_154 ?_
          exact J_155 _ _ _ _ _ _ _ _ hf hP hS (lv_sub hl [0, 1, 2, 3, 4] rfl)
        rw [if_pos c1] at hf
        refine lv_aload_n hx hb d_GlyphPositionsModel_give_137 rfl (lv_at hl 0 rfl) ?_
        refine xg_36_heights hC hP wq_142 d_GlyphPositionsModel_give_138 ?_
        refine lv_iload_n hx hb d_GlyphPositionsModel_give_141 rfl (lv_at hl 1 rfl) ?_
        obtain ⟨hi, hf⟩ := q_grd_some hf
        obtain ⟨v11, e_v11, hf⟩ := q_lt_some hf
        refine xl_52 hC hP e_v11 hi d_GlyphPositionsModel_give_142 ?_
        refine lv_iload hx hb d_GlyphPositionsModel_give_143 (lv_at hl 5 rfl) ?_
        refine lv_iadd hx hb d_GlyphPositionsModel_give_145 ?_
        refine lv_goto (tgt := 155) hx hb d_GlyphPositionsModel_give_146 (by decide) ?_
        exact J_155 _ _ _ _ _ _ _ _ hf hP hS (lv_sub hl [0, 1, 2, 3, 4] rfl)
      have J_95 : ∀ (x4_95 x5_95 x6_95 w1_95 w2_95 : Int32) (st_95 : QSt) (H : Heap) (locs : List Loc) (ls : Array Slot), xGlyphPositionsModel_give_95 N (xGlyphPositionsModel_give_6 N x1_6 x3_6 n_6) x1_6 x3_6 x4_95 x5_95 x6_95 w1_95 w2_95 st_95 = some so → va_P G.1 vwCl (wX G st_95) H → va_S A s.heap H locs → lv_has ls 7 [(0, .ref (G.2.2 36)), (1, .int x1_6), (3, .int x3_6), (4, .int x4_95), (5, .int x5_95), (6, .int x6_95)] → W p l e ({ frames := 2, cells := 0, slots := 0, locals := 42 } : Room) s m args below meth c H locs 0 0 (q_Zv below args s G.1 (wX G) so A) (F0 m 95 ls [.int w2_95, .int w1_95, .ref (G.2.2 54)]) := by
        intro x4_95 x5_95 x6_95 w1_95 w2_95 st_95 H locs ls hf hP hS hl
        unfold xGlyphPositionsModel_give_95 at hf
        obtain ⟨hi, hf⟩ := q_grd_some hf
        obtain ⟨s6, e_s6, hf⟩ := q_lt_some hf
        refine xs_54 hC hP hD hS e_s6 hi d_GlyphPositionsModel_give_95 (fun H locs hP hS => ?_)
        refine lv_aload_n hx hb d_GlyphPositionsModel_give_96 rfl (lv_at hl 0 rfl) ?_
        refine xg_36_widths hC hP wq_141 d_GlyphPositionsModel_give_97 ?_
        refine lv_iload_n hx hb d_GlyphPositionsModel_give_100 rfl (lv_at hl 1 rfl) ?_
        refine lv_iload hx hb d_GlyphPositionsModel_give_101 (lv_at hl 4 rfl) ?_
        refine lv_iconst (v := 2) hx hb d_GlyphPositionsModel_give_103 (by decide) ?_
        refine lv_icmp_ne (tgt := 119) hx hb d_GlyphPositionsModel_give_104 (by decide) (fun c1 => ?_) (fun c1 => ?_)
        · rw [if_neg c1] at hf
          refine lv_aload_n hx hb d_GlyphPositionsModel_give_119 rfl (lv_at hl 0 rfl) ?_
          refine xg_36_widths hC hP wq_141 d_GlyphPositionsModel_give_120 ?_
          refine lv_iload_n hx hb d_GlyphPositionsModel_give_123 rfl (lv_at hl 1 rfl) ?_
          obtain ⟨hi, hf⟩ := q_grd_some hf
          obtain ⟨v7, e_v7, hf⟩ := q_lt_some hf
          refine xl_51 hC hP e_v7 hi d_GlyphPositionsModel_give_124 ?_
          exact J_125 _ _ _ _ _ _ _ _ _ hf hP hS hl
        rw [if_pos c1] at hf
        refine lv_aload_n hx hb d_GlyphPositionsModel_give_107 rfl (lv_at hl 0 rfl) ?_
        refine xg_36_widths hC hP wq_141 d_GlyphPositionsModel_give_108 ?_
        refine lv_iload_n hx hb d_GlyphPositionsModel_give_111 rfl (lv_at hl 1 rfl) ?_
        obtain ⟨hi, hf⟩ := q_grd_some hf
        obtain ⟨v12, e_v12, hf⟩ := q_lt_some hf
        refine xl_51 hC hP e_v12 hi d_GlyphPositionsModel_give_112 ?_
        refine lv_iload hx hb d_GlyphPositionsModel_give_113 (lv_at hl 5 rfl) ?_
        refine lv_iadd hx hb d_GlyphPositionsModel_give_115 ?_
        refine lv_goto (tgt := 125) hx hb d_GlyphPositionsModel_give_116 (by decide) ?_
        exact J_125 _ _ _ _ _ _ _ _ _ hf hP hS hl
      have J_65 : ∀ (x4_65 x5_65 x6_65 w1_65 w2_65 : Int32) (st_65 : QSt) (H : Heap) (locs : List Loc) (ls : Array Slot), xGlyphPositionsModel_give_65 N (xGlyphPositionsModel_give_6 N x1_6 x3_6 n_6) x1_6 x3_6 x4_65 x5_65 x6_65 w1_65 w2_65 st_65 = some so → va_P G.1 vwCl (wX G st_65) H → va_S A s.heap H locs → lv_has ls 7 [(0, .ref (G.2.2 36)), (1, .int x1_6), (3, .int x3_6), (4, .int x4_65), (5, .int x5_65), (6, .int x6_65)] → W p l e ({ frames := 2, cells := 0, slots := 0, locals := 42 } : Room) s m args below meth c H locs 0 0 (q_Zv below args s G.1 (wX G) so A) (F0 m 65 ls [.int w2_65, .int w1_65, .ref (G.2.2 53)]) := by
        intro x4_65 x5_65 x6_65 w1_65 w2_65 st_65 H locs ls hf hP hS hl
        unfold xGlyphPositionsModel_give_65 at hf
        obtain ⟨hi, hf⟩ := q_grd_some hf
        obtain ⟨s4, e_s4, hf⟩ := q_lt_some hf
        refine xs_53 hC hP hD hS e_s4 hi d_GlyphPositionsModel_give_65 (fun H locs hP hS => ?_)
        refine lv_aload_n hx hb d_GlyphPositionsModel_give_66 rfl (lv_at hl 0 rfl) ?_
        refine xg_36_ups hC hP wq_144 d_GlyphPositionsModel_give_67 ?_
        refine lv_iload_n hx hb d_GlyphPositionsModel_give_70 rfl (lv_at hl 1 rfl) ?_
        refine lv_iload hx hb d_GlyphPositionsModel_give_71 (lv_at hl 4 rfl) ?_
        refine lv_iconst (v := 1) hx hb d_GlyphPositionsModel_give_73 (by decide) ?_
        refine lv_icmp_ne (tgt := 89) hx hb d_GlyphPositionsModel_give_74 (by decide) (fun c1 => ?_) (fun c1 => ?_)
        · rw [if_neg c1] at hf
          refine lv_aload_n hx hb d_GlyphPositionsModel_give_89 rfl (lv_at hl 0 rfl) ?_
          refine xg_36_ups hC hP wq_144 d_GlyphPositionsModel_give_90 ?_
          refine lv_iload_n hx hb d_GlyphPositionsModel_give_93 rfl (lv_at hl 1 rfl) ?_
          obtain ⟨hi, hf⟩ := q_grd_some hf
          obtain ⟨v5, e_v5, hf⟩ := q_lt_some hf
          refine xl_54 hC hP e_v5 hi d_GlyphPositionsModel_give_94 ?_
          exact J_95 _ _ _ _ _ _ _ _ _ hf hP hS hl
        rw [if_pos c1] at hf
        refine lv_aload_n hx hb d_GlyphPositionsModel_give_77 rfl (lv_at hl 0 rfl) ?_
        refine xg_36_ups hC hP wq_144 d_GlyphPositionsModel_give_78 ?_
        refine lv_iload_n hx hb d_GlyphPositionsModel_give_81 rfl (lv_at hl 1 rfl) ?_
        obtain ⟨hi, hf⟩ := q_grd_some hf
        obtain ⟨v13, e_v13, hf⟩ := q_lt_some hf
        refine xl_54 hC hP e_v13 hi d_GlyphPositionsModel_give_82 ?_
        refine lv_iload hx hb d_GlyphPositionsModel_give_83 (lv_at hl 5 rfl) ?_
        refine lv_iadd hx hb d_GlyphPositionsModel_give_85 ?_
        refine lv_goto (tgt := 95) hx hb d_GlyphPositionsModel_give_86 (by decide) ?_
        exact J_95 _ _ _ _ _ _ _ _ _ hf hP hS hl
      intro x4_6 x5_6 st_6 H locs ls hf hP hS hl
      rw [xGlyphPositionsModel_give_6] at hf
      refine lv_iload hx hb d_GlyphPositionsModel_give_6 (lv_at hl 4 rfl) ?_
      refine lv_bipush (v := 8) hx hb d_GlyphPositionsModel_give_8 (by decide) ?_
      refine lv_icmp_ge (tgt := 162) hx hb d_GlyphPositionsModel_give_10 (by decide) (fun c1 => ?_) (fun c1 => ?_)
      · rw [if_pos c1] at hf
        exact q_vret hC hr hlk hf hP hS d_GlyphPositionsModel_give_162
      rw [if_neg c1] at hf
      refine lv_iload_n hx hb d_GlyphPositionsModel_give_13 rfl (lv_at hl 2 rfl) ?_
      refine lv_iload hx hb d_GlyphPositionsModel_give_14 (lv_at hl 4 rfl) ?_
      refine lv_ishr hx hb d_GlyphPositionsModel_give_16 ?_
      refine lv_iconst (v := 1) hx hb d_GlyphPositionsModel_give_17 (by decide) ?_
      refine lv_iand hx hb d_GlyphPositionsModel_give_18 ?_
      refine lv_iconst (v := 1) hx hb d_GlyphPositionsModel_give_19 (by decide) ?_
      refine lv_icmp_ne (tgt := 156) hx hb d_GlyphPositionsModel_give_20 (by decide) (fun c1 => ?_) (fun c1 => ?_)
      · rw [if_neg c1] at hf
        refine lv_iinc (v := x5_6 + 1) (lv' := [(5, .int (x5_6 + 1)), (0, .ref (G.2.2 36)), (1, .int x1_6), (3, .int x3_6), (4, .int x4_6)]) hx hb d_GlyphPositionsModel_give_156 hl (k := 4) rfl rfl (by decide) rfl (fun ls hl => ?_)
        refine lv_goto (tgt := 6) hx hb d_GlyphPositionsModel_give_159 (by decide) ?_
        exact ih_6 _ _ _ _ _ _ hf hP hS (lv_sub hl [1, 2, 3, 4, 0] rfl)
      rw [if_pos c1] at hf
      refine lv_aload_n hx hb d_GlyphPositionsModel_give_23 rfl (lv_at hl 0 rfl) ?_
      refine lv_iload hx hb d_GlyphPositionsModel_give_24 (lv_at hl 3 rfl) ?_
      obtain ⟨r1, h_r1, hf⟩ := q_bn_some hf
      refine q_callVp (As := [.int x4_6]) (rest := []) (q0 := 36) hC (c_xGlyphPositionsModel_s16 l G h_r1) cal_GlyphPositionsModel_s16 wq_211 ⟨rfl, rfl, Nat.le_of_ble_eq_true rfl, Nat.le_of_ble_eq_true rfl⟩ rfl rfl hP hT hS rfl hl.1 rfl (Nat.le_of_ble_eq_true rfl) d_GlyphPositionsModel_give_26 (fun H locs hP hS => ?_)
      refine lv_istore (lv' := [(6, .int r1), (0, .ref (G.2.2 36)), (1, .int x1_6), (3, .int x3_6), (4, .int x4_6), (5, .int x5_6)]) hx hb d_GlyphPositionsModel_give_29 hl (by decide) rfl (fun ls hl => ?_)
      refine lv_iload hx hb d_GlyphPositionsModel_give_31 (lv_at hl 4 rfl) ?_
      refine lv_iconst (v := 2) hx hb d_GlyphPositionsModel_give_33 (by decide) ?_
      refine lv_iadd hx hb d_GlyphPositionsModel_give_34 ?_
      obtain ⟨x4_1002, e_x4_1002, hf⟩ := q_lt_some hf
      refine q_topi e_x4_1002 ?_
      refine lv_istore (lv' := [(4, .int x4_1002), (6, .int r1), (0, .ref (G.2.2 36)), (1, .int x1_6), (3, .int x3_6), (5, .int x5_6)]) hx hb d_GlyphPositionsModel_give_35 hl (by decide) rfl (fun ls hl => ?_)
      refine lv_aload_n hx hb d_GlyphPositionsModel_give_37 rfl (lv_at hl 2 rfl) ?_
      refine xg_36_rights hC hP wq_143 d_GlyphPositionsModel_give_38 ?_
      refine lv_iload_n hx hb d_GlyphPositionsModel_give_41 rfl (lv_at hl 3 rfl) ?_
      refine lv_iload hx hb d_GlyphPositionsModel_give_42 (lv_at hl 5 rfl) ?_
      refine lv_if_ne (tgt := 59) hx hb d_GlyphPositionsModel_give_44 (by decide) (fun c1 => ?_) (fun c1 => ?_)
      · rw [if_neg c1] at hf
        refine lv_aload_n hx hb d_GlyphPositionsModel_give_59 rfl (lv_at hl 2 rfl) ?_
        refine xg_36_rights hC hP wq_143 d_GlyphPositionsModel_give_60 ?_
        refine lv_iload_n hx hb d_GlyphPositionsModel_give_63 rfl (lv_at hl 3 rfl) ?_
        obtain ⟨hi, hf⟩ := q_grd_some hf
        obtain ⟨v3, e_v3, hf⟩ := q_lt_some hf
        refine xl_53 hC hP e_v3 hi d_GlyphPositionsModel_give_64 ?_
        exact J_65 _ _ _ _ _ _ _ _ _ hf hP hS (lv_sub hl [2, 3, 4, 0, 5, 1] rfl)
      rw [if_pos c1] at hf
      refine lv_aload_n hx hb d_GlyphPositionsModel_give_47 rfl (lv_at hl 2 rfl) ?_
      refine xg_36_rights hC hP wq_143 d_GlyphPositionsModel_give_48 ?_
      refine lv_iload_n hx hb d_GlyphPositionsModel_give_51 rfl (lv_at hl 3 rfl) ?_
      obtain ⟨hi, hf⟩ := q_grd_some hf
      obtain ⟨v14, e_v14, hf⟩ := q_lt_some hf
      refine xl_53 hC hP e_v14 hi d_GlyphPositionsModel_give_52 ?_
      refine lv_iload hx hb d_GlyphPositionsModel_give_53 (lv_at hl 1 rfl) ?_
      refine lv_iadd hx hb d_GlyphPositionsModel_give_55 ?_
      refine lv_goto (tgt := 65) hx hb d_GlyphPositionsModel_give_56 (by decide) ?_
      exact J_65 _ _ _ _ _ _ _ _ _ hf hP hS (lv_sub hl [2, 3, 4, 0, 5, 1] rfl)
  unfold xGlyphPositionsModel_give at hf
  refine lv_iload_n hx hb d_GlyphPositionsModel_give_0 rfl (lv_at hl 2 rfl) ?_
  refine lv_istore (lv' := [(4, .int x2), (0, .ref (G.2.2 36)), (1, .int x1), (2, .int x2), (3, .int x3)]) hx hb d_GlyphPositionsModel_give_1 hl (by decide) rfl (fun ls hl => ?_)
  refine lv_iconst (v := 0) hx hb d_GlyphPositionsModel_give_3 (by decide) ?_
  refine lv_istore (lv' := [(5, .int 0), (4, .int x2), (0, .ref (G.2.2 36)), (1, .int x1), (2, .int x2), (3, .int x3)]) hx hb d_GlyphPositionsModel_give_4 hl (by decide) rfl (fun ls hl => ?_)
  exact L_6 _ _ _ _ _ _ _ _ _ hf hP hS (lv_sub hl [2, 3, 5, 1, 0] rfl)
def xGlyphPositionsModel_takePair (N : Nat) (x1 x2 x3 : Int32) (st : QSt) : Option (Int32 × QSt) :=
  q_grd (q_vpb x3 800) (q_lt (st.2 38 x3.toNatClampNeg) (fun v1 => q_bn (xGlyphPositionsModel_covered N x2 2 v1 st) (fun r2 => q_bn (xGlyphPositionsModel_nextOf N x1 x3 st) (fun r3 => if r2 < 0 then (some ((-1), st)) else (if 0 ≤ r3 then (q_bn (xGlyphPositionsModel_f16 (x2 + 4) st) (fun r4 => q_bn (xGlyphPositionsModel_f16 (x2 + 6) st) (fun r5 => q_grd (q_vpb x3 800) (q_lt (st.2 38 x3.toNatClampNeg) (fun v6 => q_grd (q_vpb r3 800) (q_lt (st.2 38 r3.toNatClampNeg) (fun v7 => q_bn (xGlyphPositionsModel_sizeOf N r4) (fun r8 => q_bn (xGlyphPositionsModel_sizeOf N r5) (fun r9 => q_bn (xGlyphPositionsModel_valuesOf N x2 r2 v6 v7 (r8 + r9) st) (fun r10 => if r10 = 0 then (some ((-1), st)) else (q_bv (xGlyphPositionsModel_give N x3 r10 r4 st) (fun sr11 => q_bn (xGlyphPositionsModel_sizeOf N r4) (fun r12 => q_bv (xGlyphPositionsModel_give N r3 (r10 + r12) r5 sr11) (fun sr13 => if r5 ≤ 0 then (some (x3 + 1, sr13)) else (some (r3 + 1, sr13)))))))))))))))) else (some ((-1), st)))))))
set_option maxHeartbeats 4000000 in
set_option maxRecDepth 100000 in
theorem c_xGlyphPositionsModel_takePair (l : Launch) (G : XG) {N : Nat} {x1 x2 x3 : Int32} {st : QSt} {ro : Int32} {so : QSt} (hf : xGlyphPositionsModel_takePair N x1 x2 x3 st = some (ro, so)) : q_Mi l y_GlyphPositionsModel_takePair b_GlyphPositionsModel_takePair 9 .int ({ frames := 3, cells := 0, slots := 0, locals := 75 } : Room) G.1 (xT G) (wX G) [.ref (G.2.2 36), .int x1, .int x2, .int x3] st ro so := by
  refine q_Mi_of (by decide) (Nat.le_of_ble_eq_true rfl) (wX_fst G) ?_
  intro p e s m args below meth c A ls hC hr hlk hT hD hA hP hS hl
  have hx := hC.1.1
  have hb := hC.1.2.1
  have hown := hC.1.2.2.2.1
  have hts := hC.1.2.2.2.2
  have hl : lv_has ls 9 [(0, .ref (G.2.2 36)), (1, .int x1), (2, .int x2), (3, .int x3)] := hl
  unfold xGlyphPositionsModel_takePair at hf
  refine lv_aload_n hx hb d_GlyphPositionsModel_takePair_0 rfl (lv_at hl 0 rfl) ?_
  refine lv_iload_n hx hb d_GlyphPositionsModel_takePair_1 rfl (lv_at hl 2 rfl) ?_
  refine lv_iconst (v := 2) hx hb d_GlyphPositionsModel_takePair_2 (by decide) ?_
  refine lv_aload_n hx hb d_GlyphPositionsModel_takePair_3 rfl (lv_at hl 0 rfl) ?_
  refine xg_36_glyphs hC hP wq_208 d_GlyphPositionsModel_takePair_4 ?_
  refine lv_iload_n hx hb d_GlyphPositionsModel_takePair_7 rfl (lv_at hl 3 rfl) ?_
  obtain ⟨hi, hf⟩ := q_grd_some hf
  obtain ⟨v1, e_v1, hf⟩ := q_lt_some hf
  refine xl_49 hC hP e_v1 hi d_GlyphPositionsModel_takePair_8 ?_
  obtain ⟨r2, h_r2, hf⟩ := q_bn_some hf
  refine q_callVp (As := [.int x2, .int 2, .int v1]) (rest := []) (q0 := 36) hC (c_xGlyphPositionsModel_covered l G h_r2) cal_GlyphPositionsModel_covered wq_214 ⟨rfl, rfl, Nat.le_of_ble_eq_true rfl, Nat.le_of_ble_eq_true rfl⟩ rfl rfl hP hT hS rfl hl.1 rfl (Nat.le_of_ble_eq_true rfl) d_GlyphPositionsModel_takePair_9 (fun H locs hP hS => ?_)
  refine lv_istore (lv' := [(4, .int r2), (0, .ref (G.2.2 36)), (1, .int x1), (2, .int x2), (3, .int x3)]) hx hb d_GlyphPositionsModel_takePair_12 hl (by decide) rfl (fun ls hl => ?_)
  refine lv_aload_n hx hb d_GlyphPositionsModel_takePair_14 rfl (lv_at hl 1 rfl) ?_
  refine lv_iload_n hx hb d_GlyphPositionsModel_takePair_15 rfl (lv_at hl 2 rfl) ?_
  refine lv_iload_n hx hb d_GlyphPositionsModel_takePair_16 rfl (lv_at hl 4 rfl) ?_
  obtain ⟨r3, h_r3, hf⟩ := q_bn_some hf
  refine q_callVp (As := [.int x1, .int x3]) (rest := []) (q0 := 36) hC (c_xGlyphPositionsModel_nextOf l G h_r3) cal_GlyphPositionsModel_nextOf wq_216 ⟨rfl, rfl, Nat.le_of_ble_eq_true rfl, Nat.le_of_ble_eq_true rfl⟩ rfl rfl hP hT hS rfl hl.1 rfl (Nat.le_of_ble_eq_true rfl) d_GlyphPositionsModel_takePair_17 (fun H locs hP hS => ?_)
  refine lv_istore (lv' := [(5, .int r3), (4, .int r2), (0, .ref (G.2.2 36)), (1, .int x1), (2, .int x2), (3, .int x3)]) hx hb d_GlyphPositionsModel_takePair_20 hl (by decide) rfl (fun ls hl => ?_)
  refine lv_iload hx hb d_GlyphPositionsModel_takePair_22 (lv_at hl 1 rfl) ?_
  refine lv_if_lt (tgt := 32) hx hb d_GlyphPositionsModel_takePair_24 (by decide) (fun c1 => ?_) (fun c1 => ?_)
  · rw [if_pos c1] at hf
    refine lv_iconst (v := (-1)) hx hb d_GlyphPositionsModel_takePair_32 (by decide) ?_
    exact q_iret hC hr hlk hf (by first | rfl | decide) hP hS d_GlyphPositionsModel_takePair_33
  rw [if_neg c1] at hf
  refine lv_iload hx hb d_GlyphPositionsModel_takePair_27 (lv_at hl 0 rfl) ?_
  refine lv_if_ge (tgt := 34) hx hb d_GlyphPositionsModel_takePair_29 (by decide) (fun c1 => ?_) (fun c1 => ?_)
  rotate_left
  · rw [if_neg c1] at hf
    refine lv_iconst (v := (-1)) hx hb d_GlyphPositionsModel_takePair_32 (by decide) ?_
    exact q_iret hC hr hlk hf (by first | rfl | decide) hP hS d_GlyphPositionsModel_takePair_33
  rw [if_pos c1] at hf
  refine lv_aload_n hx hb d_GlyphPositionsModel_takePair_34 rfl (lv_at hl 2 rfl) ?_
  refine lv_iload_n hx hb d_GlyphPositionsModel_takePair_35 rfl (lv_at hl 4 rfl) ?_
  refine lv_iconst (v := 4) hx hb d_GlyphPositionsModel_takePair_36 (by decide) ?_
  refine lv_iadd hx hb d_GlyphPositionsModel_takePair_37 ?_
  obtain ⟨r4, h_r4, hf⟩ := q_bn_some hf
  refine q_callVp (As := [.int (x2 + 4)]) (rest := []) (q0 := 36) hC (c_xGlyphPositionsModel_f16 l G h_r4) cal_GlyphPositionsModel_f16 wq_193 ⟨rfl, rfl, Nat.le_of_ble_eq_true rfl, Nat.le_of_ble_eq_true rfl⟩ rfl rfl hP hT hS rfl hl.1 rfl (Nat.le_of_ble_eq_true rfl) d_GlyphPositionsModel_takePair_38 (fun H locs hP hS => ?_)
  refine lv_istore (lv' := [(6, .int r4), (5, .int r3), (4, .int r2), (0, .ref (G.2.2 36)), (1, .int x1), (2, .int x2), (3, .int x3)]) hx hb d_GlyphPositionsModel_takePair_41 hl (by decide) rfl (fun ls hl => ?_)
  refine lv_aload_n hx hb d_GlyphPositionsModel_takePair_43 rfl (lv_at hl 3 rfl) ?_
  refine lv_iload_n hx hb d_GlyphPositionsModel_takePair_44 rfl (lv_at hl 5 rfl) ?_
  refine lv_bipush (v := 6) hx hb d_GlyphPositionsModel_takePair_45 (by decide) ?_
  refine lv_iadd hx hb d_GlyphPositionsModel_takePair_47 ?_
  obtain ⟨r5, h_r5, hf⟩ := q_bn_some hf
  refine q_callVp (As := [.int (x2 + 6)]) (rest := []) (q0 := 36) hC (c_xGlyphPositionsModel_f16 l G h_r5) cal_GlyphPositionsModel_f16 wq_193 ⟨rfl, rfl, Nat.le_of_ble_eq_true rfl, Nat.le_of_ble_eq_true rfl⟩ rfl rfl hP hT hS rfl hl.1 rfl (Nat.le_of_ble_eq_true rfl) d_GlyphPositionsModel_takePair_48 (fun H locs hP hS => ?_)
  refine lv_istore (lv' := [(7, .int r5), (6, .int r4), (5, .int r3), (4, .int r2), (0, .ref (G.2.2 36)), (1, .int x1), (2, .int x2), (3, .int x3)]) hx hb d_GlyphPositionsModel_takePair_51 hl (by decide) rfl (fun ls hl => ?_)
  refine lv_aload_n hx hb d_GlyphPositionsModel_takePair_53 rfl (lv_at hl 4 rfl) ?_
  refine lv_iload_n hx hb d_GlyphPositionsModel_takePair_54 rfl (lv_at hl 6 rfl) ?_
  refine lv_iload hx hb d_GlyphPositionsModel_takePair_55 (lv_at hl 3 rfl) ?_
  refine lv_aload_n hx hb d_GlyphPositionsModel_takePair_57 rfl (lv_at hl 4 rfl) ?_
  refine xg_36_glyphs hC hP wq_208 d_GlyphPositionsModel_takePair_58 ?_
  refine lv_iload_n hx hb d_GlyphPositionsModel_takePair_61 rfl (lv_at hl 7 rfl) ?_
  obtain ⟨hi, hf⟩ := q_grd_some hf
  obtain ⟨v6, e_v6, hf⟩ := q_lt_some hf
  refine xl_49 hC hP e_v6 hi d_GlyphPositionsModel_takePair_62 ?_
  refine lv_aload_n hx hb d_GlyphPositionsModel_takePair_63 rfl (lv_at hl 4 rfl) ?_
  refine xg_36_glyphs hC hP wq_208 d_GlyphPositionsModel_takePair_64 ?_
  refine lv_iload hx hb d_GlyphPositionsModel_takePair_67 (lv_at hl 2 rfl) ?_
  obtain ⟨hi, hf⟩ := q_grd_some hf
  obtain ⟨v7, e_v7, hf⟩ := q_lt_some hf
  refine xl_49 hC hP e_v7 hi d_GlyphPositionsModel_takePair_69 ?_
  refine lv_iload hx hb d_GlyphPositionsModel_takePair_70 (lv_at hl 1 rfl) ?_
  obtain ⟨r8, h_r8, hf⟩ := q_bn_some hf
  refine q_callSp (As := [.int r4]) (rest := [.int v7, .int v6, .int r2, .int x2, .ref (G.2.2 36)]) hC (c_xGlyphPositionsModel_sizeOf l G h_r8) cal_GlyphPositionsModel_sizeOf wq_176 ⟨rfl, rfl, Nat.le_of_ble_eq_true rfl, Nat.le_of_ble_eq_true rfl⟩ hP hT hS rfl hl.1 rfl (Nat.le_of_ble_eq_true rfl) d_GlyphPositionsModel_takePair_72 (fun H locs hP hS => ?_)
  refine lv_iload hx hb d_GlyphPositionsModel_takePair_75 (lv_at hl 0 rfl) ?_
  obtain ⟨r9, h_r9, hf⟩ := q_bn_some hf
  refine q_callSp (As := [.int r5]) (rest := [.int r8, .int v7, .int v6, .int r2, .int x2, .ref (G.2.2 36)]) hC (c_xGlyphPositionsModel_sizeOf l G h_r9) cal_GlyphPositionsModel_sizeOf wq_176 ⟨rfl, rfl, Nat.le_of_ble_eq_true rfl, Nat.le_of_ble_eq_true rfl⟩ hP hT hS rfl hl.1 rfl (Nat.le_of_ble_eq_true rfl) d_GlyphPositionsModel_takePair_77 (fun H locs hP hS => ?_)
  refine lv_iadd hx hb d_GlyphPositionsModel_takePair_80 ?_
  obtain ⟨r10, h_r10, hf⟩ := q_bn_some hf
  refine q_callVp (As := [.int x2, .int r2, .int v6, .int v7, .int (r8 + r9)]) (rest := []) (q0 := 36) hC (c_xGlyphPositionsModel_valuesOf l G h_r10) cal_GlyphPositionsModel_valuesOf wq_218 ⟨rfl, rfl, Nat.le_of_ble_eq_true rfl, Nat.le_of_ble_eq_true rfl⟩ rfl rfl hP hT hS rfl hl.1 rfl (Nat.le_of_ble_eq_true rfl) d_GlyphPositionsModel_takePair_81 (fun H locs hP hS => ?_)
  refine lv_istore (lv' := [(8, .int r10), (7, .int r5), (6, .int r4), (5, .int r3), (4, .int r2), (0, .ref (G.2.2 36)), (1, .int x1), (2, .int x2), (3, .int x3)]) hx hb d_GlyphPositionsModel_takePair_84 hl (by decide) rfl (fun ls hl => ?_)
  refine lv_iload hx hb d_GlyphPositionsModel_takePair_86 (lv_at hl 0 rfl) ?_
  refine lv_if_ne (tgt := 93) hx hb d_GlyphPositionsModel_takePair_88 (by decide) (fun c1 => ?_) (fun c1 => ?_)
  rotate_left
  · rw [if_pos c1] at hf
    refine lv_iconst (v := (-1)) hx hb d_GlyphPositionsModel_takePair_91 (by decide) ?_
    exact q_iret hC hr hlk hf (by first | rfl | decide) hP hS d_GlyphPositionsModel_takePair_92
  rw [if_neg c1] at hf
  refine lv_aload_n hx hb d_GlyphPositionsModel_takePair_93 rfl (lv_at hl 5 rfl) ?_
  refine lv_iload_n hx hb d_GlyphPositionsModel_takePair_94 rfl (lv_at hl 8 rfl) ?_
  refine lv_iload hx hb d_GlyphPositionsModel_takePair_95 (lv_at hl 0 rfl) ?_
  refine lv_iload hx hb d_GlyphPositionsModel_takePair_97 (lv_at hl 2 rfl) ?_
  obtain ⟨sr11, h_r11, hf⟩ := q_bv_some hf
  refine q_callVv (As := [.int x3, .int r10, .int r4]) (rest := []) (q0 := 36) hC (c_xGlyphPositionsModel_give l G h_r11) cal_GlyphPositionsModel_give wq_219 ⟨rfl, rfl, Nat.le_of_ble_eq_true rfl, Nat.le_of_ble_eq_true rfl⟩ rfl rfl hP hD hA hS rfl hl.1 rfl (Nat.le_of_ble_eq_true rfl) d_GlyphPositionsModel_takePair_99 (fun H locs hP hS => ?_)
  refine lv_aload_n hx hb d_GlyphPositionsModel_takePair_102 rfl (lv_at hl 5 rfl) ?_
  refine lv_iload hx hb d_GlyphPositionsModel_takePair_103 (lv_at hl 3 rfl) ?_
  refine lv_iload hx hb d_GlyphPositionsModel_takePair_105 (lv_at hl 0 rfl) ?_
  refine lv_iload hx hb d_GlyphPositionsModel_takePair_107 (lv_at hl 2 rfl) ?_
  obtain ⟨r12, h_r12, hf⟩ := q_bn_some hf
  refine q_callSp (As := [.int r4]) (rest := [.int r10, .int r3, .ref (G.2.2 36)]) hC (c_xGlyphPositionsModel_sizeOf l G h_r12) cal_GlyphPositionsModel_sizeOf wq_176 ⟨rfl, rfl, Nat.le_of_ble_eq_true rfl, Nat.le_of_ble_eq_true rfl⟩ hP hT hS rfl hl.1 rfl (Nat.le_of_ble_eq_true rfl) d_GlyphPositionsModel_takePair_109 (fun H locs hP hS => ?_)
  refine lv_iadd hx hb d_GlyphPositionsModel_takePair_112 ?_
  refine lv_iload hx hb d_GlyphPositionsModel_takePair_113 (lv_at hl 1 rfl) ?_
  obtain ⟨sr13, h_r13, hf⟩ := q_bv_some hf
  refine q_callVv (As := [.int r3, .int (r10 + r12), .int r5]) (rest := []) (q0 := 36) hC (c_xGlyphPositionsModel_give l G h_r13) cal_GlyphPositionsModel_give wq_219 ⟨rfl, rfl, Nat.le_of_ble_eq_true rfl, Nat.le_of_ble_eq_true rfl⟩ rfl rfl hP hD hA hS rfl hl.1 rfl (Nat.le_of_ble_eq_true rfl) d_GlyphPositionsModel_takePair_115 (fun H locs hP hS => ?_)
  refine lv_iload hx hb d_GlyphPositionsModel_takePair_118 (lv_at hl 1 rfl) ?_
  refine lv_if_le (tgt := 130) hx hb d_GlyphPositionsModel_takePair_120 (by decide) (fun c1 => ?_) (fun c1 => ?_)
  · rw [if_pos c1] at hf
    refine lv_iload_n hx hb d_GlyphPositionsModel_takePair_130 rfl (lv_at hl 8 rfl) ?_
    refine lv_iconst (v := 1) hx hb d_GlyphPositionsModel_takePair_131 (by decide) ?_
    refine lv_iadd hx hb d_GlyphPositionsModel_takePair_132 ?_
    exact q_iret hC hr hlk hf (by first | rfl | decide) hP hS d_GlyphPositionsModel_takePair_133
  rw [if_neg c1] at hf
  refine lv_iload hx hb d_GlyphPositionsModel_takePair_123 (lv_at hl 3 rfl) ?_
  refine lv_iconst (v := 1) hx hb d_GlyphPositionsModel_takePair_125 (by decide) ?_
  refine lv_iadd hx hb d_GlyphPositionsModel_takePair_126 ?_
  refine lv_goto (tgt := 133) hx hb d_GlyphPositionsModel_takePair_127 (by decide) ?_
  exact q_iret hC hr hlk hf (by first | rfl | decide) hP hS d_GlyphPositionsModel_takePair_133
def xGlyphPositionsModel_takeSingle_58 (N : Nat) (x2_58 x4_58 : Int32) (w1_58 w2_58 : Int32) (st_58 : QSt) : Option (Int32 × QSt) :=
  q_bv (xGlyphPositionsModel_give N w1_58 w2_58 x4_58 st_58) (fun sr6 => some (x2_58 + 1, sr6))
def xGlyphPositionsModel_takeSingle (N : Nat) (x1 x2 : Int32) (st : QSt) : Option (Int32 × QSt) :=
  q_grd (q_vpb x2 800) (q_lt (st.2 38 x2.toNatClampNeg) (fun v1 => q_bn (xGlyphPositionsModel_covered N x1 2 v1 st) (fun r2 => if 0 ≤ r2 then (q_bn (xGlyphPositionsModel_f16 (x1 + 4) st) (fun r3 => q_bn (xGlyphPositionsModel_f16 x1 st) (fun r4 => if r4 = 1 then (xGlyphPositionsModel_takeSingle_58 N x2 r3 x2 (x1 + 6) st) else (q_bn (xGlyphPositionsModel_sizeOf N r3) (fun r5 => xGlyphPositionsModel_takeSingle_58 N x2 r3 x2 ((x1 + 8) + (r2 * r5)) st))))) else (some ((-1), st)))))
set_option maxHeartbeats 4000000 in
set_option maxRecDepth 100000 in
theorem c_xGlyphPositionsModel_takeSingle (l : Launch) (G : XG) {N : Nat} {x1 x2 : Int32} {st : QSt} {ro : Int32} {so : QSt} (hf : xGlyphPositionsModel_takeSingle N x1 x2 st = some (ro, so)) : q_Mi l y_GlyphPositionsModel_takeSingle b_GlyphPositionsModel_takeSingle 5 .int ({ frames := 3, cells := 0, slots := 0, locals := 73 } : Room) G.1 (xT G) (wX G) [.ref (G.2.2 36), .int x1, .int x2] st ro so := by
  refine q_Mi_of (by decide) (Nat.le_of_ble_eq_true rfl) (wX_fst G) ?_
  intro p e s m args below meth c A ls hC hr hlk hT hD hA hP hS hl
  have hx := hC.1.1
  have hb := hC.1.2.1
  have hown := hC.1.2.2.2.1
  have hts := hC.1.2.2.2.2
  have hl : lv_has ls 5 [(0, .ref (G.2.2 36)), (1, .int x1), (2, .int x2)] := hl
  have J_58 : ∀ (x2_58 x4_58 w1_58 w2_58 : Int32) (st_58 : QSt) (H : Heap) (locs : List Loc) (ls : Array Slot), xGlyphPositionsModel_takeSingle_58 N x2_58 x4_58 w1_58 w2_58 st_58 = some (ro, so) → va_P G.1 vwCl (wX G st_58) H → va_S A s.heap H locs → lv_has ls 5 [(2, .int x2_58), (4, .int x4_58)] → W p l e ({ frames := 3, cells := 0, slots := 0, locals := 73 } : Room) s m args below meth c H locs 0 0 (q_Zi below args s G.1 (wX G) ro so A) (F0 m 58 ls [.int w2_58, .int w1_58, .ref (G.2.2 36)]) := by
    intro x2_58 x4_58 w1_58 w2_58 st_58 H locs ls hf hP hS hl
    unfold xGlyphPositionsModel_takeSingle_58 at hf
    refine lv_iload hx hb d_GlyphPositionsModel_takeSingle_58 (lv_at hl 1 rfl) ?_
    obtain ⟨sr6, h_r6, hf⟩ := q_bv_some hf
    refine q_callVv (As := [.int w1_58, .int w2_58, .int x4_58]) (rest := []) (q0 := 36) hC (c_xGlyphPositionsModel_give l G h_r6) cal_GlyphPositionsModel_give wq_219 ⟨rfl, rfl, Nat.le_of_ble_eq_true rfl, Nat.le_of_ble_eq_true rfl⟩ rfl rfl hP hD hA hS rfl hl.1 rfl (Nat.le_of_ble_eq_true rfl) d_GlyphPositionsModel_takeSingle_60 (fun H locs hP hS => ?_)
    refine lv_iload_n hx hb d_GlyphPositionsModel_takeSingle_63 rfl (lv_at hl 0 rfl) ?_
    refine lv_iconst (v := 1) hx hb d_GlyphPositionsModel_takeSingle_64 (by decide) ?_
    refine lv_iadd hx hb d_GlyphPositionsModel_takeSingle_65 ?_
    exact q_iret hC hr hlk hf (by first | rfl | decide) hP hS d_GlyphPositionsModel_takeSingle_66
  unfold xGlyphPositionsModel_takeSingle at hf
  refine lv_aload_n hx hb d_GlyphPositionsModel_takeSingle_0 rfl (lv_at hl 0 rfl) ?_
  refine lv_iload_n hx hb d_GlyphPositionsModel_takeSingle_1 rfl (lv_at hl 1 rfl) ?_
  refine lv_iconst (v := 2) hx hb d_GlyphPositionsModel_takeSingle_2 (by decide) ?_
  refine lv_aload_n hx hb d_GlyphPositionsModel_takeSingle_3 rfl (lv_at hl 0 rfl) ?_
  refine xg_36_glyphs hC hP wq_208 d_GlyphPositionsModel_takeSingle_4 ?_
  refine lv_iload_n hx hb d_GlyphPositionsModel_takeSingle_7 rfl (lv_at hl 2 rfl) ?_
  obtain ⟨hi, hf⟩ := q_grd_some hf
  obtain ⟨v1, e_v1, hf⟩ := q_lt_some hf
  refine xl_49 hC hP e_v1 hi d_GlyphPositionsModel_takeSingle_8 ?_
  obtain ⟨r2, h_r2, hf⟩ := q_bn_some hf
  refine q_callVp (As := [.int x1, .int 2, .int v1]) (rest := []) (q0 := 36) hC (c_xGlyphPositionsModel_covered l G h_r2) cal_GlyphPositionsModel_covered wq_214 ⟨rfl, rfl, Nat.le_of_ble_eq_true rfl, Nat.le_of_ble_eq_true rfl⟩ rfl rfl hP hT hS rfl hl.1 rfl (Nat.le_of_ble_eq_true rfl) d_GlyphPositionsModel_takeSingle_9 (fun H locs hP hS => ?_)
  refine lv_istore_n (lv' := [(3, .int r2), (0, .ref (G.2.2 36)), (1, .int x1), (2, .int x2)]) hx hb d_GlyphPositionsModel_takeSingle_12 rfl hl (by decide) rfl (fun ls hl => ?_)
  refine lv_iload_n hx hb d_GlyphPositionsModel_takeSingle_13 rfl (lv_at hl 0 rfl) ?_
  refine lv_if_ge (tgt := 19) hx hb d_GlyphPositionsModel_takeSingle_14 (by decide) (fun c1 => ?_) (fun c1 => ?_)
  rotate_left
  · rw [if_neg c1] at hf
    refine lv_iconst (v := (-1)) hx hb d_GlyphPositionsModel_takeSingle_17 (by decide) ?_
    exact q_iret hC hr hlk hf (by first | rfl | decide) hP hS d_GlyphPositionsModel_takeSingle_18
  rw [if_pos c1] at hf
  refine lv_aload_n hx hb d_GlyphPositionsModel_takeSingle_19 rfl (lv_at hl 1 rfl) ?_
  refine lv_iload_n hx hb d_GlyphPositionsModel_takeSingle_20 rfl (lv_at hl 2 rfl) ?_
  refine lv_iconst (v := 4) hx hb d_GlyphPositionsModel_takeSingle_21 (by decide) ?_
  refine lv_iadd hx hb d_GlyphPositionsModel_takeSingle_22 ?_
  obtain ⟨r3, h_r3, hf⟩ := q_bn_some hf
  refine q_callVp (As := [.int (x1 + 4)]) (rest := []) (q0 := 36) hC (c_xGlyphPositionsModel_f16 l G h_r3) cal_GlyphPositionsModel_f16 wq_193 ⟨rfl, rfl, Nat.le_of_ble_eq_true rfl, Nat.le_of_ble_eq_true rfl⟩ rfl rfl hP hT hS rfl hl.1 rfl (Nat.le_of_ble_eq_true rfl) d_GlyphPositionsModel_takeSingle_23 (fun H locs hP hS => ?_)
  refine lv_istore (lv' := [(4, .int r3), (3, .int r2), (0, .ref (G.2.2 36)), (1, .int x1), (2, .int x2)]) hx hb d_GlyphPositionsModel_takeSingle_26 hl (by decide) rfl (fun ls hl => ?_)
  refine lv_aload_n hx hb d_GlyphPositionsModel_takeSingle_28 rfl (lv_at hl 2 rfl) ?_
  refine lv_iload_n hx hb d_GlyphPositionsModel_takeSingle_29 rfl (lv_at hl 4 rfl) ?_
  refine lv_aload_n hx hb d_GlyphPositionsModel_takeSingle_30 rfl (lv_at hl 2 rfl) ?_
  refine lv_iload_n hx hb d_GlyphPositionsModel_takeSingle_31 rfl (lv_at hl 3 rfl) ?_
  obtain ⟨r4, h_r4, hf⟩ := q_bn_some hf
  refine q_callVp (As := [.int x1]) (rest := [.int x2, .ref (G.2.2 36)]) (q0 := 36) hC (c_xGlyphPositionsModel_f16 l G h_r4) cal_GlyphPositionsModel_f16 wq_193 ⟨rfl, rfl, Nat.le_of_ble_eq_true rfl, Nat.le_of_ble_eq_true rfl⟩ rfl rfl hP hT hS rfl hl.1 rfl (Nat.le_of_ble_eq_true rfl) d_GlyphPositionsModel_takeSingle_32 (fun H locs hP hS => ?_)
  refine lv_iconst (v := 1) hx hb d_GlyphPositionsModel_takeSingle_35 (by decide) ?_
  refine lv_icmp_ne (tgt := 46) hx hb d_GlyphPositionsModel_takeSingle_36 (by decide) (fun c1 => ?_) (fun c1 => ?_)
  rotate_left
  · rw [if_pos c1] at hf
    refine lv_iload_n hx hb d_GlyphPositionsModel_takeSingle_39 rfl (lv_at hl 3 rfl) ?_
    refine lv_bipush (v := 6) hx hb d_GlyphPositionsModel_takeSingle_40 (by decide) ?_
    refine lv_iadd hx hb d_GlyphPositionsModel_takeSingle_42 ?_
    refine lv_goto (tgt := 58) hx hb d_GlyphPositionsModel_takeSingle_43 (by decide) ?_
    exact J_58 _ _ _ _ _ _ _ _ hf hP hS (lv_sub hl [4, 0] rfl)
  rw [if_neg c1] at hf
  refine lv_iload_n hx hb d_GlyphPositionsModel_takeSingle_46 rfl (lv_at hl 3 rfl) ?_
  refine lv_bipush (v := 8) hx hb d_GlyphPositionsModel_takeSingle_47 (by decide) ?_
  refine lv_iadd hx hb d_GlyphPositionsModel_takeSingle_49 ?_
  refine lv_iload_n hx hb d_GlyphPositionsModel_takeSingle_50 rfl (lv_at hl 1 rfl) ?_
  refine lv_iload hx hb d_GlyphPositionsModel_takeSingle_51 (lv_at hl 0 rfl) ?_
  obtain ⟨r5, h_r5, hf⟩ := q_bn_some hf
  refine q_callSp (As := [.int r3]) (rest := [.int r2, .int (x1 + 8), .int x2, .ref (G.2.2 36)]) hC (c_xGlyphPositionsModel_sizeOf l G h_r5) cal_GlyphPositionsModel_sizeOf wq_176 ⟨rfl, rfl, Nat.le_of_ble_eq_true rfl, Nat.le_of_ble_eq_true rfl⟩ hP hT hS rfl hl.1 rfl (Nat.le_of_ble_eq_true rfl) d_GlyphPositionsModel_takeSingle_53 (fun H locs hP hS => ?_)
  refine lv_imul hx hb d_GlyphPositionsModel_takeSingle_56 ?_
  refine lv_iadd hx hb d_GlyphPositionsModel_takeSingle_57 ?_
  exact J_58 _ _ _ _ _ _ _ _ hf hP hS (lv_sub hl [4, 0] rfl)
def xGlyphPositionsModel_take (N : Nat) (x1 x2 x3 x4 : Int32) (st : QSt) : Option (Int32 × QSt) :=
  if x1 = 1 then (q_bm (xGlyphPositionsModel_takeSingle N x3 x4 st) (fun r4 sr4 => some (r4, sr4))) else (if x1 = 2 then (q_bm (xGlyphPositionsModel_takePair N x2 x3 x4 st) (fun r3 sr3 => some (r3, sr3))) else (if x1 = 3 then (q_bm (xGlyphPositionsModel_takeJoin N x2 x3 x4 st) (fun r2 sr2 => some (r2, sr2))) else (q_bm (xGlyphPositionsModel_takeMark N x1 x2 x3 x4 st) (fun r1 sr1 => some (r1, sr1)))))
set_option maxHeartbeats 4000000 in
set_option maxRecDepth 100000 in
theorem c_xGlyphPositionsModel_take (l : Launch) (G : XG) {N : Nat} {x1 x2 x3 x4 : Int32} {st : QSt} {ro : Int32} {so : QSt} (hf : xGlyphPositionsModel_take N x1 x2 x3 x4 st = some (ro, so)) : q_Mi l y_GlyphPositionsModel_take b_GlyphPositionsModel_take 5 .int ({ frames := 4, cells := 0, slots := 0, locals := 109 } : Room) G.1 (xT G) (wX G) [.ref (G.2.2 36), .int x1, .int x2, .int x3, .int x4] st ro so := by
  refine q_Mi_of (by decide) (Nat.le_of_ble_eq_true rfl) (wX_fst G) ?_
  intro p e s m args below meth c A ls hC hr hlk hT hD hA hP hS hl
  have hx := hC.1.1
  have hb := hC.1.2.1
  have hown := hC.1.2.2.2.1
  have hts := hC.1.2.2.2.2
  have hl : lv_has ls 5 [(0, .ref (G.2.2 36)), (1, .int x1), (2, .int x2), (3, .int x3), (4, .int x4)] := hl
  unfold xGlyphPositionsModel_take at hf
  refine lv_iload_n hx hb d_GlyphPositionsModel_take_0 rfl (lv_at hl 1 rfl) ?_
  by_cases c1 : x1 = 1
  · rw [if_pos c1] at hf
    refine lv_tableIn (tgt := 28) hx hb d_GlyphPositionsModel_take_1 (by rw [c1]; decide) (by rw [c1]; decide) (by rw [c1]; rfl) (by decide) ?_
    refine lv_aload_n hx hb d_GlyphPositionsModel_take_28 rfl (lv_at hl 0 rfl) ?_
    refine lv_iload_n hx hb d_GlyphPositionsModel_take_29 rfl (lv_at hl 3 rfl) ?_
    refine lv_iload hx hb d_GlyphPositionsModel_take_30 (lv_at hl 4 rfl) ?_
    obtain ⟨r4, sr4, h_r4, hf⟩ := q_bm_some hf
    refine q_callVi (As := [.int x3, .int x4]) (rest := []) (q0 := 36) hC (c_xGlyphPositionsModel_takeSingle l G h_r4) cal_GlyphPositionsModel_takeSingle wq_220 ⟨rfl, rfl, Nat.le_of_ble_eq_true rfl, Nat.le_of_ble_eq_true rfl⟩ rfl rfl hP hD hA hS rfl hl.1 rfl (Nat.le_of_ble_eq_true rfl) d_GlyphPositionsModel_take_32 (fun H locs hP hS => ?_)
    exact q_iret hC hr hlk hf (by first | rfl | decide) hP hS d_GlyphPositionsModel_take_35
  rw [if_neg c1] at hf
  by_cases c2 : x1 = 2
  · rw [if_pos c2] at hf
    refine lv_tableIn (tgt := 36) hx hb d_GlyphPositionsModel_take_1 (by rw [c2]; decide) (by rw [c2]; decide) (by rw [c2]; rfl) (by decide) ?_
    refine lv_aload_n hx hb d_GlyphPositionsModel_take_36 rfl (lv_at hl 0 rfl) ?_
    refine lv_iload_n hx hb d_GlyphPositionsModel_take_37 rfl (lv_at hl 2 rfl) ?_
    refine lv_iload_n hx hb d_GlyphPositionsModel_take_38 rfl (lv_at hl 3 rfl) ?_
    refine lv_iload hx hb d_GlyphPositionsModel_take_39 (lv_at hl 4 rfl) ?_
    obtain ⟨r3, sr3, h_r3, hf⟩ := q_bm_some hf
    refine q_callVi (As := [.int x2, .int x3, .int x4]) (rest := []) (q0 := 36) hC (c_xGlyphPositionsModel_takePair l G h_r3) cal_GlyphPositionsModel_takePair wq_221 ⟨rfl, rfl, Nat.le_of_ble_eq_true rfl, Nat.le_of_ble_eq_true rfl⟩ rfl rfl hP hD hA hS rfl hl.1 rfl (Nat.le_of_ble_eq_true rfl) d_GlyphPositionsModel_take_41 (fun H locs hP hS => ?_)
    exact q_iret hC hr hlk hf (by first | rfl | decide) hP hS d_GlyphPositionsModel_take_44
  rw [if_neg c2] at hf
  by_cases c3 : x1 = 3
  · rw [if_pos c3] at hf
    refine lv_tableIn (tgt := 45) hx hb d_GlyphPositionsModel_take_1 (by rw [c3]; decide) (by rw [c3]; decide) (by rw [c3]; rfl) (by decide) ?_
    refine lv_aload_n hx hb d_GlyphPositionsModel_take_45 rfl (lv_at hl 0 rfl) ?_
    refine lv_iload_n hx hb d_GlyphPositionsModel_take_46 rfl (lv_at hl 2 rfl) ?_
    refine lv_iload_n hx hb d_GlyphPositionsModel_take_47 rfl (lv_at hl 3 rfl) ?_
    refine lv_iload hx hb d_GlyphPositionsModel_take_48 (lv_at hl 4 rfl) ?_
    obtain ⟨r2, sr2, h_r2, hf⟩ := q_bm_some hf
    refine q_callVi (As := [.int x2, .int x3, .int x4]) (rest := []) (q0 := 36) hC (c_xGlyphPositionsModel_takeJoin l G h_r2) cal_GlyphPositionsModel_takeJoin wq_222 ⟨rfl, rfl, Nat.le_of_ble_eq_true rfl, Nat.le_of_ble_eq_true rfl⟩ rfl rfl hP hD hA hS rfl hl.1 rfl (Nat.le_of_ble_eq_true rfl) d_GlyphPositionsModel_take_50 (fun H locs hP hS => ?_)
    exact q_iret hC hr hlk hf (by first | rfl | decide) hP hS d_GlyphPositionsModel_take_53
  rw [if_neg c3] at hf
  refine lv_tableOut (tgt := 54) hx hb d_GlyphPositionsModel_take_1 (by have z0 := True.intro; have z2 : (x1).toInt ≠ 1 := q_ine c1; have z3 : (x1).toInt ≠ 2 := q_ine c2; have z4 : (x1).toInt ≠ 3 := q_ine c3; omega) (by decide) ?_
  refine lv_aload_n hx hb d_GlyphPositionsModel_take_54 rfl (lv_at hl 0 rfl) ?_
  refine lv_iload_n hx hb d_GlyphPositionsModel_take_55 rfl (lv_at hl 1 rfl) ?_
  refine lv_iload_n hx hb d_GlyphPositionsModel_take_56 rfl (lv_at hl 2 rfl) ?_
  refine lv_iload_n hx hb d_GlyphPositionsModel_take_57 rfl (lv_at hl 3 rfl) ?_
  refine lv_iload hx hb d_GlyphPositionsModel_take_58 (lv_at hl 4 rfl) ?_
  obtain ⟨r1, sr1, h_r1, hf⟩ := q_bm_some hf
  refine q_callVi (As := [.int x1, .int x2, .int x3, .int x4]) (rest := []) (q0 := 36) hC (c_xGlyphPositionsModel_takeMark l G h_r1) cal_GlyphPositionsModel_takeMark wq_223 ⟨rfl, rfl, Nat.le_of_ble_eq_true rfl, Nat.le_of_ble_eq_true rfl⟩ rfl rfl hP hD hA hS rfl hl.1 rfl (Nat.le_of_ble_eq_true rfl) d_GlyphPositionsModel_take_60 (fun H locs hP hS => ?_)
  exact q_iret hC hr hlk hf (by first | rfl | decide) hP hS d_GlyphPositionsModel_take_63
def xGlyphPositionsModel_doAt_37 (N : Nat) (x1_37 x2_37 x3_37 x4_37 : Int32) : Nat → Int32 → QSt → Option (Int32 × QSt)
  | 0, _, _ => none
  | n_37 + 1, x5_37, st_37 => q_bn (xGlyphPositionsModel_f16 (x1_37 + 4) st_37) (fun r5 => if r5 ≤ x5_37 then (some (x2_37 + 1, st_37)) else (q_bn (xGlyphPositionsModel_subtableAt x1_37 x5_37 st_37) (fun r6 => q_bm (xGlyphPositionsModel_take N x3_37 x4_37 r6 x2_37 st_37) (fun r7 sr7 => if r7 < 0 then (xGlyphPositionsModel_doAt_37 N x1_37 x2_37 x3_37 x4_37 n_37 (x5_37 + 1) sr7) else (some (r7, sr7))))))
def xGlyphPositionsModel_doAt (N : Nat) (x1 x2 : Int32) (st : QSt) : Option (Int32 × QSt) :=
  q_bn (xGlyphPositionsModel_typeOf x1 st) (fun r1 => q_bn (xGlyphPositionsModel_f16 (x1 + 2) st) (fun r2 => q_grd (q_vpb x2 800) (q_lt (st.2 38 x2.toNatClampNeg) (fun v3 => q_bn (xGlyphPositionsModel_isPassed N r2 v3 st) (fun r4 => if r4 = 0 then (xGlyphPositionsModel_doAt_37 N x1 x2 r1 r2 N 0 st) else (some (x2 + 1, st)))))))
set_option maxHeartbeats 4000000 in
set_option maxRecDepth 100000 in
theorem c_xGlyphPositionsModel_doAt (l : Launch) (G : XG) {N : Nat} {x1 x2 : Int32} {st : QSt} {ro : Int32} {so : QSt} (hf : xGlyphPositionsModel_doAt N x1 x2 st = some (ro, so)) : q_Mi l y_GlyphPositionsModel_doAt b_GlyphPositionsModel_doAt 7 .int ({ frames := 5, cells := 0, slots := 0, locals := 133 } : Room) G.1 (xT G) (wX G) [.ref (G.2.2 36), .int x1, .int x2] st ro so := by
  refine q_Mi_of (by decide) (Nat.le_of_ble_eq_true rfl) (wX_fst G) ?_
  intro p e s m args below meth c A ls hC hr hlk hT hD hA hP hS hl
  have hx := hC.1.1
  have hb := hC.1.2.1
  have hown := hC.1.2.2.2.1
  have hts := hC.1.2.2.2.2
  have hl : lv_has ls 7 [(0, .ref (G.2.2 36)), (1, .int x1), (2, .int x2)] := hl
  have L_37 : ∀ (x1_37 x2_37 x3_37 x4_37 : Int32) (n_37 : Nat) (x5_37 : Int32) (st_37 : QSt) (H : Heap) (locs : List Loc) (ls : Array Slot), xGlyphPositionsModel_doAt_37 N x1_37 x2_37 x3_37 x4_37 n_37 x5_37 st_37 = some (ro, so) → va_P G.1 vwCl (wX G st_37) H → va_S A s.heap H locs → lv_has ls 7 [(0, .ref (G.2.2 36)), (1, .int x1_37), (2, .int x2_37), (3, .int x3_37), (4, .int x4_37), (5, .int x5_37)] → W p l e ({ frames := 5, cells := 0, slots := 0, locals := 133 } : Room) s m args below meth c H locs 0 0 (q_Zi below args s G.1 (wX G) ro so A) (F0 m 37 ls []) := by
    intro x1_37 x2_37 x3_37 x4_37 n_37
    induction n_37 with
    | zero => intro _ _ _ _ _ hf; exact absurd hf (by simp [xGlyphPositionsModel_doAt_37])
    | succ n_37 ih_37 =>
      intro x5_37 st_37 H locs ls hf hP hS hl
      rw [xGlyphPositionsModel_doAt_37] at hf
      refine lv_iload hx hb d_GlyphPositionsModel_doAt_37 (lv_at hl 5 rfl) ?_
      refine lv_aload_n hx hb d_GlyphPositionsModel_doAt_39 rfl (lv_at hl 0 rfl) ?_
      refine lv_iload_n hx hb d_GlyphPositionsModel_doAt_40 rfl (lv_at hl 1 rfl) ?_
      refine lv_iconst (v := 4) hx hb d_GlyphPositionsModel_doAt_41 (by decide) ?_
      refine lv_iadd hx hb d_GlyphPositionsModel_doAt_42 ?_
      obtain ⟨r5, h_r5, hf⟩ := q_bn_some hf
      refine q_callVp (As := [.int (x1_37 + 4)]) (rest := [.int x5_37]) (q0 := 36) hC (c_xGlyphPositionsModel_f16 l G h_r5) cal_GlyphPositionsModel_f16 wq_193 ⟨rfl, rfl, Nat.le_of_ble_eq_true rfl, Nat.le_of_ble_eq_true rfl⟩ rfl rfl hP hT hS rfl hl.1 rfl (Nat.le_of_ble_eq_true rfl) d_GlyphPositionsModel_doAt_43 (fun H locs hP hS => ?_)
      refine lv_icmp_ge (tgt := 80) hx hb d_GlyphPositionsModel_doAt_46 (by decide) (fun c1 => ?_) (fun c1 => ?_)
      · rw [if_pos c1] at hf
        refine lv_iload_n hx hb d_GlyphPositionsModel_doAt_80 rfl (lv_at hl 2 rfl) ?_
        refine lv_iconst (v := 1) hx hb d_GlyphPositionsModel_doAt_81 (by decide) ?_
        refine lv_iadd hx hb d_GlyphPositionsModel_doAt_82 ?_
        exact q_iret hC hr hlk hf (by first | rfl | decide) hP hS d_GlyphPositionsModel_doAt_83
      rw [if_neg c1] at hf
      refine lv_aload_n hx hb d_GlyphPositionsModel_doAt_49 rfl (lv_at hl 0 rfl) ?_
      refine lv_iload_n hx hb d_GlyphPositionsModel_doAt_50 rfl (lv_at hl 3 rfl) ?_
      refine lv_iload hx hb d_GlyphPositionsModel_doAt_51 (lv_at hl 4 rfl) ?_
      refine lv_aload_n hx hb d_GlyphPositionsModel_doAt_53 rfl (lv_at hl 0 rfl) ?_
      refine lv_iload_n hx hb d_GlyphPositionsModel_doAt_54 rfl (lv_at hl 1 rfl) ?_
      refine lv_iload hx hb d_GlyphPositionsModel_doAt_55 (lv_at hl 5 rfl) ?_
      obtain ⟨r6, h_r6, hf⟩ := q_bn_some hf
      refine q_callVp (As := [.int x1_37, .int x5_37]) (rest := [.int x4_37, .int x3_37, .ref (G.2.2 36)]) (q0 := 36) hC (c_xGlyphPositionsModel_subtableAt l G h_r6) cal_GlyphPositionsModel_subtableAt wq_224 ⟨rfl, rfl, Nat.le_of_ble_eq_true rfl, Nat.le_of_ble_eq_true rfl⟩ rfl rfl hP hT hS rfl hl.1 rfl (Nat.le_of_ble_eq_true rfl) d_GlyphPositionsModel_doAt_57 (fun H locs hP hS => ?_)
      refine lv_iload_n hx hb d_GlyphPositionsModel_doAt_60 rfl (lv_at hl 2 rfl) ?_
      obtain ⟨r7, sr7, h_r7, hf⟩ := q_bm_some hf
      refine q_callVi (As := [.int x3_37, .int x4_37, .int r6, .int x2_37]) (rest := []) (q0 := 36) hC (c_xGlyphPositionsModel_take l G h_r7) cal_GlyphPositionsModel_take wq_225 ⟨rfl, rfl, Nat.le_of_ble_eq_true rfl, Nat.le_of_ble_eq_true rfl⟩ rfl rfl hP hD hA hS rfl hl.1 rfl (Nat.le_of_ble_eq_true rfl) d_GlyphPositionsModel_doAt_61 (fun H locs hP hS => ?_)
      refine lv_istore (lv' := [(6, .int r7), (0, .ref (G.2.2 36)), (1, .int x1_37), (2, .int x2_37), (3, .int x3_37), (4, .int x4_37), (5, .int x5_37)]) hx hb d_GlyphPositionsModel_doAt_64 hl (by decide) rfl (fun ls hl => ?_)
      refine lv_iload hx hb d_GlyphPositionsModel_doAt_66 (lv_at hl 0 rfl) ?_
      refine lv_if_lt (tgt := 74) hx hb d_GlyphPositionsModel_doAt_68 (by decide) (fun c1 => ?_) (fun c1 => ?_)
      rotate_left
      · rw [if_neg c1] at hf
        refine lv_iload hx hb d_GlyphPositionsModel_doAt_71 (lv_at hl 0 rfl) ?_
        exact q_iret hC hr hlk hf (by first | rfl | decide) hP hS d_GlyphPositionsModel_doAt_73
      rw [if_pos c1] at hf
      refine lv_iinc (v := x5_37 + 1) (lv' := [(5, .int (x5_37 + 1)), (6, .int r7), (0, .ref (G.2.2 36)), (1, .int x1_37), (2, .int x2_37), (3, .int x3_37), (4, .int x4_37)]) hx hb d_GlyphPositionsModel_doAt_74 hl (k := 6) rfl rfl (by decide) rfl (fun ls hl => ?_)
      refine lv_goto (tgt := 37) hx hb d_GlyphPositionsModel_doAt_77 (by decide) ?_
      exact ih_37 _ _ _ _ _ hf hP hS (lv_sub hl [2, 3, 4, 5, 6, 0] rfl)
  unfold xGlyphPositionsModel_doAt at hf
  refine lv_aload_n hx hb d_GlyphPositionsModel_doAt_0 rfl (lv_at hl 0 rfl) ?_
  refine lv_iload_n hx hb d_GlyphPositionsModel_doAt_1 rfl (lv_at hl 1 rfl) ?_
  obtain ⟨r1, h_r1, hf⟩ := q_bn_some hf
  refine q_callVp (As := [.int x1]) (rest := []) (q0 := 36) hC (c_xGlyphPositionsModel_typeOf l G h_r1) cal_GlyphPositionsModel_typeOf wq_226 ⟨rfl, rfl, Nat.le_of_ble_eq_true rfl, Nat.le_of_ble_eq_true rfl⟩ rfl rfl hP hT hS rfl hl.1 rfl (Nat.le_of_ble_eq_true rfl) d_GlyphPositionsModel_doAt_2 (fun H locs hP hS => ?_)
  refine lv_istore_n (lv' := [(3, .int r1), (0, .ref (G.2.2 36)), (1, .int x1), (2, .int x2)]) hx hb d_GlyphPositionsModel_doAt_5 rfl hl (by decide) rfl (fun ls hl => ?_)
  refine lv_aload_n hx hb d_GlyphPositionsModel_doAt_6 rfl (lv_at hl 1 rfl) ?_
  refine lv_iload_n hx hb d_GlyphPositionsModel_doAt_7 rfl (lv_at hl 2 rfl) ?_
  refine lv_iconst (v := 2) hx hb d_GlyphPositionsModel_doAt_8 (by decide) ?_
  refine lv_iadd hx hb d_GlyphPositionsModel_doAt_9 ?_
  obtain ⟨r2, h_r2, hf⟩ := q_bn_some hf
  refine q_callVp (As := [.int (x1 + 2)]) (rest := []) (q0 := 36) hC (c_xGlyphPositionsModel_f16 l G h_r2) cal_GlyphPositionsModel_f16 wq_193 ⟨rfl, rfl, Nat.le_of_ble_eq_true rfl, Nat.le_of_ble_eq_true rfl⟩ rfl rfl hP hT hS rfl hl.1 rfl (Nat.le_of_ble_eq_true rfl) d_GlyphPositionsModel_doAt_10 (fun H locs hP hS => ?_)
  refine lv_istore (lv' := [(4, .int r2), (3, .int r1), (0, .ref (G.2.2 36)), (1, .int x1), (2, .int x2)]) hx hb d_GlyphPositionsModel_doAt_13 hl (by decide) rfl (fun ls hl => ?_)
  refine lv_aload_n hx hb d_GlyphPositionsModel_doAt_15 rfl (lv_at hl 2 rfl) ?_
  refine lv_iload hx hb d_GlyphPositionsModel_doAt_16 (lv_at hl 0 rfl) ?_
  refine lv_aload_n hx hb d_GlyphPositionsModel_doAt_18 rfl (lv_at hl 2 rfl) ?_
  refine xg_36_glyphs hC hP wq_208 d_GlyphPositionsModel_doAt_19 ?_
  refine lv_iload_n hx hb d_GlyphPositionsModel_doAt_22 rfl (lv_at hl 4 rfl) ?_
  obtain ⟨hi, hf⟩ := q_grd_some hf
  obtain ⟨v3, e_v3, hf⟩ := q_lt_some hf
  refine xl_49 hC hP e_v3 hi d_GlyphPositionsModel_doAt_23 ?_
  obtain ⟨r4, h_r4, hf⟩ := q_bn_some hf
  refine q_callVp (As := [.int r2, .int v3]) (rest := []) (q0 := 36) hC (c_xGlyphPositionsModel_isPassed l G h_r4) cal_GlyphPositionsModel_isPassed wq_210 ⟨rfl, rfl, Nat.le_of_ble_eq_true rfl, Nat.le_of_ble_eq_true rfl⟩ rfl rfl hP hT hS rfl hl.1 rfl (Nat.le_of_ble_eq_true rfl) d_GlyphPositionsModel_doAt_24 (fun H locs hP hS => ?_)
  refine lv_if_eq (tgt := 34) hx hb d_GlyphPositionsModel_doAt_27 (by decide) (fun c1 => ?_) (fun c1 => ?_)
  · rw [if_pos c1] at hf
    refine lv_iconst (v := 0) hx hb d_GlyphPositionsModel_doAt_34 (by decide) ?_
    refine lv_istore (lv' := [(5, .int 0), (4, .int r2), (3, .int r1), (0, .ref (G.2.2 36)), (1, .int x1), (2, .int x2)]) hx hb d_GlyphPositionsModel_doAt_35 hl (by decide) rfl (fun ls hl => ?_)
    exact L_37 _ _ _ _ _ _ _ _ _ _ hf hP hS (lv_sub hl [3, 4, 5, 2, 1, 0] rfl)
  rw [if_neg c1] at hf
  refine lv_iload_n hx hb d_GlyphPositionsModel_doAt_30 rfl (lv_at hl 4 rfl) ?_
  refine lv_iconst (v := 1) hx hb d_GlyphPositionsModel_doAt_31 (by decide) ?_
  refine lv_iadd hx hb d_GlyphPositionsModel_doAt_32 ?_
  exact q_iret hC hr hlk hf (by first | rfl | decide) hP hS d_GlyphPositionsModel_doAt_33
def xGlyphPositionsModel_set_181 (N : Nat) : Nat → Int32 → QSt → Option (Int32 × QSt)
  | 0, _, _ => none
  | n_181 + 1, x3_181, st_181 => if (st_181.1 21) ≤ x3_181 then (some (st_181.1 21, st_181)) else (q_bv (xGlyphPositionsModel_settle N x3_181 st_181) (fun sr7 => xGlyphPositionsModel_set_181 N n_181 (x3_181 + 1) sr7))
def xGlyphPositionsModel_set_139 (N : Nat) (rec_131 : Int32 → QSt → Option (Int32 × QSt)) (x2_131 x3_139 : Int32) : Nat → Int32 → QSt → Option (Int32 × QSt)
  | 0, _, _ => none
  | n_139 + 1, x4_139, st_139 => q_grd (q_vpb x3_139 64) (q_lt (st_139.2 37 x3_139.toNatClampNeg) (fun v8 => if v8 = 0 then (rec_131 (x3_139 + 1) st_139) else (if (st_139.1 21) ≤ x4_139 then (rec_131 (x3_139 + 1) st_139) else (q_bn (xGlyphPositionsModel_lookupAt x3_139 st_139) (fun r9 => q_bm (xGlyphPositionsModel_doAt N r9 x4_139 st_139) (fun r10 sr10 => xGlyphPositionsModel_set_139 N rec_131 x2_131 x3_139 n_139 r10 sr10))))))
def xGlyphPositionsModel_set_131 (N : Nat) (x2_131 : Int32) : Nat → Int32 → QSt → Option (Int32 × QSt)
  | 0, _, _ => none
  | n_131 + 1, x3_131, st_131 => if x2_131 ≤ x3_131 then (xGlyphPositionsModel_set_181 N N 0 st_131) else (xGlyphPositionsModel_set_139 N (xGlyphPositionsModel_set_131 N x2_131 n_131) x2_131 x3_131 N 0 st_131)
def xGlyphPositionsModel_set_40 (N : Nat) : Nat → Int32 → QSt → Option (Int32 × QSt)
  | 0, _, _ => none
  | n_40 + 1, x2_40, st_40 => if (st_40.1 20) ≤ x2_40 then (q_bn (xGlyphPositionsModel_f16 8 st_40) (fun r5 => q_bn (xGlyphPositionsModel_f16 r5 st_40) (fun r6 => xGlyphPositionsModel_set_131 N r6 N 0 st_40))) else (q_grd (q_vpb x2_40 800) (q_lt (st_40.2 34 x2_40.toNatClampNeg) (fun v11 => q_grd (q_vpb x2_40 800) (q_lt (q_pa st_40 38 x2_40.toNatClampNeg v11) (fun s12 => q_grd (q_vpb x2_40 800) (q_lt (s12.2 35 x2_40.toNatClampNeg) (fun v13 => q_grd (q_vpb x2_40 800) (q_lt (q_pa s12 40 x2_40.toNatClampNeg v13) (fun s14 => q_grd (q_vpb x2_40 800) (q_lt (s14.2 36 x2_40.toNatClampNeg) (fun v15 => q_grd (q_vpb x2_40 800) (q_lt (q_pa s14 39 x2_40.toNatClampNeg v15) (fun s16 => q_grd (q_vpb x2_40 800) (q_lt (q_pa s16 41 x2_40.toNatClampNeg 0) (fun s17 => q_grd (q_vpb x2_40 800) (q_lt (q_pa s17 42 x2_40.toNatClampNeg 0) (fun s18 => q_grd (q_vpb x2_40 800) (q_lt (q_pa s18 43 x2_40.toNatClampNeg 0) (fun s19 => q_grd (q_vpb x2_40 800) (q_lt (q_pa s19 44 x2_40.toNatClampNeg (-1)) (fun s20 => xGlyphPositionsModel_set_40 N n_40 (x2_40 + 1) s20)))))))))))))))))))))
def xGlyphPositionsModel_set_13 (N : Nat) (x1_13 : Int32) (w1_13 : Int32) (st_13 : QSt) : Option (Int32 × QSt) :=
  q_bm (xGlyphPositionsModel_refused w1_13 st_13) (fun r1 sr1 => if r1 = 0 then (q_grd (q_isb x1_13) (q_lt (q_ps sr1 22 x1_13) (fun s2 => q_bv (xGlyphPositionsModel_chooseAll N s2) (fun sr3 => q_lt (q_ps sr3 21 (sr3.1 20)) (fun s4 => xGlyphPositionsModel_set_40 N N 0 s4))))) else (some (0, sr1)))
def xGlyphPositionsModel_set (N : Nat) (x1 : Int32) (st : QSt) : Option (Int32 × QSt) :=
  if (st.1 13) = 0 then (xGlyphPositionsModel_set_13 N x1 1 st) else (xGlyphPositionsModel_set_13 N x1 0 st)
set_option maxHeartbeats 4000000 in
set_option maxRecDepth 100000 in
theorem c_xGlyphPositionsModel_set (l : Launch) (G : XG) {N : Nat} {x1 : Int32} {st : QSt} {ro : Int32} {so : QSt} (hf : xGlyphPositionsModel_set N x1 st = some (ro, so)) : q_Mi l y_GlyphPositionsModel_set b_GlyphPositionsModel_set 5 .int ({ frames := 6, cells := 0, slots := 0, locals := 159 } : Room) G.1 (xT G) (wX G) [.ref (G.2.2 36), .int x1] st ro so := by
  refine q_Mi_of (by decide) (Nat.le_of_ble_eq_true rfl) (wX_fst G) ?_
  intro p e s m args below meth c A ls hC hr hlk hT hD hA hP hS hl
  have hx := hC.1.1
  have hb := hC.1.2.1
  have hown := hC.1.2.2.2.1
  have hts := hC.1.2.2.2.2
  have hl : lv_has ls 5 [(0, .ref (G.2.2 36)), (1, .int x1)] := hl
  have L_181 : ∀ (n_181 : Nat) (x3_181 : Int32) (st_181 : QSt) (H : Heap) (locs : List Loc) (ls : Array Slot), xGlyphPositionsModel_set_181 N n_181 x3_181 st_181 = some (ro, so) → va_P G.1 vwCl (wX G st_181) H → va_S A s.heap H locs → lv_has ls 5 [(0, .ref (G.2.2 36)), (3, .int x3_181)] → W p l e ({ frames := 6, cells := 0, slots := 0, locals := 159 } : Room) s m args below meth c H locs 0 0 (q_Zi below args s G.1 (wX G) ro so A) (F0 m 181 ls []) := by
    intro n_181
    induction n_181 with
    | zero => intro _ _ _ _ _ hf; exact absurd hf (by simp [xGlyphPositionsModel_set_181])
    | succ n_181 ih_181 =>
      intro x3_181 st_181 H locs ls hf hP hS hl
      rw [xGlyphPositionsModel_set_181] at hf
      refine lv_iload_n hx hb d_GlyphPositionsModel_set_181 rfl (lv_at hl 1 rfl) ?_
      refine lv_aload_n hx hb d_GlyphPositionsModel_set_182 rfl (lv_at hl 0 rfl) ?_
      refine xg_36_many hC hP wq_146 d_GlyphPositionsModel_set_183 ?_
      refine lv_icmp_ge (tgt := 200) hx hb d_GlyphPositionsModel_set_186 (by decide) (fun c1 => ?_) (fun c1 => ?_)
      · rw [if_pos c1] at hf
        refine lv_aload_n hx hb d_GlyphPositionsModel_set_200 rfl (lv_at hl 0 rfl) ?_
        refine xg_36_many hC hP wq_146 d_GlyphPositionsModel_set_201 ?_
        exact q_iret hC hr hlk hf (by first | rfl | decide) hP hS d_GlyphPositionsModel_set_204
      rw [if_neg c1] at hf
      refine lv_aload_n hx hb d_GlyphPositionsModel_set_189 rfl (lv_at hl 0 rfl) ?_
      refine lv_iload_n hx hb d_GlyphPositionsModel_set_190 rfl (lv_at hl 1 rfl) ?_
      obtain ⟨sr7, h_r7, hf⟩ := q_bv_some hf
      refine q_callVv (As := [.int x3_181]) (rest := []) (q0 := 36) hC (c_xGlyphPositionsModel_settle l G h_r7) cal_GlyphPositionsModel_settle wq_227 ⟨rfl, rfl, Nat.le_of_ble_eq_true rfl, Nat.le_of_ble_eq_true rfl⟩ rfl rfl hP hD hA hS rfl hl.1 rfl (Nat.le_of_ble_eq_true rfl) d_GlyphPositionsModel_set_191 (fun H locs hP hS => ?_)
      refine lv_iinc (v := x3_181 + 1) (lv' := [(3, .int (x3_181 + 1)), (0, .ref (G.2.2 36))]) hx hb d_GlyphPositionsModel_set_194 hl (k := 1) rfl rfl (by decide) rfl (fun ls hl => ?_)
      refine lv_goto (tgt := 181) hx hb d_GlyphPositionsModel_set_197 (by decide) ?_
      exact ih_181 _ _ _ _ _ hf hP hS (lv_sub hl [1, 0] rfl)
  have L_131 : ∀ (x2_131 : Int32) (n_131 : Nat) (x3_131 : Int32) (st_131 : QSt) (H : Heap) (locs : List Loc) (ls : Array Slot), xGlyphPositionsModel_set_131 N x2_131 n_131 x3_131 st_131 = some (ro, so) → va_P G.1 vwCl (wX G st_131) H → va_S A s.heap H locs → lv_has ls 5 [(0, .ref (G.2.2 36)), (2, .int x2_131), (3, .int x3_131)] → W p l e ({ frames := 6, cells := 0, slots := 0, locals := 159 } : Room) s m args below meth c H locs 0 0 (q_Zi below args s G.1 (wX G) ro so A) (F0 m 131 ls []) := by
    intro x2_131 n_131
    induction n_131 with
    | zero => intro _ _ _ _ _ hf; exact absurd hf (by simp [xGlyphPositionsModel_set_131])
    | succ n_131 ih_131 =>
      have L_139 : ∀ (x3_139 : Int32) (n_139 : Nat) (x4_139 : Int32) (st_139 : QSt) (H : Heap) (locs : List Loc) (ls : Array Slot), xGlyphPositionsModel_set_139 N (xGlyphPositionsModel_set_131 N x2_131 n_131) x2_131 x3_139 n_139 x4_139 st_139 = some (ro, so) → va_P G.1 vwCl (wX G st_139) H → va_S A s.heap H locs → lv_has ls 5 [(0, .ref (G.2.2 36)), (2, .int x2_131), (3, .int x3_139), (4, .int x4_139)] → W p l e ({ frames := 6, cells := 0, slots := 0, locals := 159 } : Room) s m args below meth c H locs 0 0 (q_Zi below args s G.1 (wX G) ro so A) (F0 m 139 ls []) := by
        intro x3_139 n_139
        induction n_139 with
        | zero => intro _ _ _ _ _ hf; exact absurd hf (by simp [xGlyphPositionsModel_set_139])
        | succ n_139 ih_139 =>
          intro x4_139 st_139 H locs ls hf hP hS hl
          rw [xGlyphPositionsModel_set_139] at hf
          refine lv_aload_n hx hb d_GlyphPositionsModel_set_139 rfl (lv_at hl 0 rfl) ?_
          refine xg_36_chosen hC hP wq_198 d_GlyphPositionsModel_set_140 ?_
          refine lv_iload_n hx hb d_GlyphPositionsModel_set_143 rfl (lv_at hl 2 rfl) ?_
          obtain ⟨hi, hf⟩ := q_grd_some hf
          obtain ⟨v8, e_v8, hf⟩ := q_lt_some hf
          refine xl_48 hC hP e_v8 hi d_GlyphPositionsModel_set_144 ?_
          refine lv_if_eq (tgt := 173) hx hb d_GlyphPositionsModel_set_145 (by decide) (fun c1 => ?_) (fun c1 => ?_)
          · rw [if_pos c1] at hf
            refine lv_iinc (v := x3_139 + 1) (lv' := [(3, .int (x3_139 + 1)), (0, .ref (G.2.2 36)), (2, .int x2_131), (4, .int x4_139)]) hx hb d_GlyphPositionsModel_set_173 hl (k := 2) rfl rfl (by decide) rfl (fun ls hl => ?_)
            refine lv_goto (tgt := 131) hx hb d_GlyphPositionsModel_set_176 (by decide) ?_
            exact ih_131 _ _ _ _ _ hf hP hS (lv_sub hl [1, 2, 0] rfl)
          rw [if_neg c1] at hf
          refine lv_iload hx hb d_GlyphPositionsModel_set_148 (lv_at hl 3 rfl) ?_
          refine lv_aload_n hx hb d_GlyphPositionsModel_set_150 rfl (lv_at hl 0 rfl) ?_
          refine xg_36_many hC hP wq_146 d_GlyphPositionsModel_set_151 ?_
          refine lv_icmp_ge (tgt := 173) hx hb d_GlyphPositionsModel_set_154 (by decide) (fun c1 => ?_) (fun c1 => ?_)
          · rw [if_pos c1] at hf
            refine lv_iinc (v := x3_139 + 1) (lv' := [(3, .int (x3_139 + 1)), (0, .ref (G.2.2 36)), (2, .int x2_131), (4, .int x4_139)]) hx hb d_GlyphPositionsModel_set_173 hl (k := 2) rfl rfl (by decide) rfl (fun ls hl => ?_)
            refine lv_goto (tgt := 131) hx hb d_GlyphPositionsModel_set_176 (by decide) ?_
            exact ih_131 _ _ _ _ _ hf hP hS (lv_sub hl [1, 2, 0] rfl)
          rw [if_neg c1] at hf
          refine lv_aload_n hx hb d_GlyphPositionsModel_set_157 rfl (lv_at hl 0 rfl) ?_
          refine lv_aload_n hx hb d_GlyphPositionsModel_set_158 rfl (lv_at hl 0 rfl) ?_
          refine lv_iload_n hx hb d_GlyphPositionsModel_set_159 rfl (lv_at hl 2 rfl) ?_
          obtain ⟨r9, h_r9, hf⟩ := q_bn_some hf
          refine q_callVp (As := [.int x3_139]) (rest := [.ref (G.2.2 36)]) (q0 := 36) hC (c_xGlyphPositionsModel_lookupAt l G h_r9) cal_GlyphPositionsModel_lookupAt wq_228 ⟨rfl, rfl, Nat.le_of_ble_eq_true rfl, Nat.le_of_ble_eq_true rfl⟩ rfl rfl hP hT hS rfl hl.1 rfl (Nat.le_of_ble_eq_true rfl) d_GlyphPositionsModel_set_160 (fun H locs hP hS => ?_)
          refine lv_iload hx hb d_GlyphPositionsModel_set_163 (lv_at hl 3 rfl) ?_
          obtain ⟨r10, sr10, h_r10, hf⟩ := q_bm_some hf
          refine q_callVi (As := [.int r9, .int x4_139]) (rest := []) (q0 := 36) hC (c_xGlyphPositionsModel_doAt l G h_r10) cal_GlyphPositionsModel_doAt wq_229 ⟨rfl, rfl, Nat.le_of_ble_eq_true rfl, Nat.le_of_ble_eq_true rfl⟩ rfl rfl hP hD hA hS rfl hl.1 rfl (Nat.le_of_ble_eq_true rfl) d_GlyphPositionsModel_set_165 (fun H locs hP hS => ?_)
          refine lv_istore (lv' := [(4, .int r10), (0, .ref (G.2.2 36)), (2, .int x2_131), (3, .int x3_139)]) hx hb d_GlyphPositionsModel_set_168 hl (by decide) rfl (fun ls hl => ?_)
          refine lv_goto (tgt := 139) hx hb d_GlyphPositionsModel_set_170 (by decide) ?_
          exact ih_139 _ _ _ _ _ hf hP hS (lv_sub hl [1, 2, 3, 0] rfl)
      intro x3_131 st_131 H locs ls hf hP hS hl
      rw [xGlyphPositionsModel_set_131] at hf
      refine lv_iload_n hx hb d_GlyphPositionsModel_set_131 rfl (lv_at hl 2 rfl) ?_
      refine lv_iload_n hx hb d_GlyphPositionsModel_set_132 rfl (lv_at hl 1 rfl) ?_
      refine lv_icmp_ge (tgt := 179) hx hb d_GlyphPositionsModel_set_133 (by decide) (fun c1 => ?_) (fun c1 => ?_)
      · rw [if_pos c1] at hf
        refine lv_iconst (v := 0) hx hb d_GlyphPositionsModel_set_179 (by decide) ?_
        refine lv_istore_n (lv' := [(3, .int 0), (0, .ref (G.2.2 36)), (2, .int x2_131)]) hx hb d_GlyphPositionsModel_set_180 rfl hl (by decide) rfl (fun ls hl => ?_)
        exact L_181 _ _ _ _ _ _ hf hP hS (lv_sub hl [1, 0] rfl)
      rw [if_neg c1] at hf
      refine lv_iconst (v := 0) hx hb d_GlyphPositionsModel_set_136 (by decide) ?_
      refine lv_istore (lv' := [(4, .int 0), (0, .ref (G.2.2 36)), (2, .int x2_131), (3, .int x3_131)]) hx hb d_GlyphPositionsModel_set_137 hl (by decide) rfl (fun ls hl => ?_)
      exact L_139 _ _ _ _ _ _ _ hf hP hS (lv_sub hl [1, 2, 3, 0] rfl)
  have L_40 : ∀ (n_40 : Nat) (x2_40 : Int32) (st_40 : QSt) (H : Heap) (locs : List Loc) (ls : Array Slot), xGlyphPositionsModel_set_40 N n_40 x2_40 st_40 = some (ro, so) → va_P G.1 vwCl (wX G st_40) H → va_S A s.heap H locs → lv_has ls 5 [(0, .ref (G.2.2 36)), (2, .int x2_40)] → W p l e ({ frames := 6, cells := 0, slots := 0, locals := 159 } : Room) s m args below meth c H locs 0 0 (q_Zi below args s G.1 (wX G) ro so A) (F0 m 40 ls []) := by
    intro n_40
    induction n_40 with
    | zero => intro _ _ _ _ _ hf; exact absurd hf (by simp [xGlyphPositionsModel_set_40])
    | succ n_40 ih_40 =>
      intro x2_40 st_40 H locs ls hf hP hS hl
      rw [xGlyphPositionsModel_set_40] at hf
      refine lv_iload_n hx hb d_GlyphPositionsModel_set_40 rfl (lv_at hl 1 rfl) ?_
      refine lv_aload_n hx hb d_GlyphPositionsModel_set_41 rfl (lv_at hl 0 rfl) ?_
      refine xg_36_told hC hP wq_138 d_GlyphPositionsModel_set_42 ?_
      refine lv_icmp_ge (tgt := 118) hx hb d_GlyphPositionsModel_set_45 (by decide) (fun c1 => ?_) (fun c1 => ?_)
      · rw [if_pos c1] at hf
        refine lv_aload_n hx hb d_GlyphPositionsModel_set_118 rfl (lv_at hl 0 rfl) ?_
        refine lv_aload_n hx hb d_GlyphPositionsModel_set_119 rfl (lv_at hl 0 rfl) ?_
        refine lv_bipush (v := 8) hx hb d_GlyphPositionsModel_set_120 (by decide) ?_
        obtain ⟨r5, h_r5, hf⟩ := q_bn_some hf
        refine q_callVp (As := [.int 8]) (rest := [.ref (G.2.2 36)]) (q0 := 36) hC (c_xGlyphPositionsModel_f16 l G h_r5) cal_GlyphPositionsModel_f16 wq_193 ⟨rfl, rfl, Nat.le_of_ble_eq_true rfl, Nat.le_of_ble_eq_true rfl⟩ rfl rfl hP hT hS rfl hl.1 rfl (Nat.le_of_ble_eq_true rfl) d_GlyphPositionsModel_set_122 (fun H locs hP hS => ?_)
        obtain ⟨r6, h_r6, hf⟩ := q_bn_some hf
        refine q_callVp (As := [.int r5]) (rest := []) (q0 := 36) hC (c_xGlyphPositionsModel_f16 l G h_r6) cal_GlyphPositionsModel_f16 wq_193 ⟨rfl, rfl, Nat.le_of_ble_eq_true rfl, Nat.le_of_ble_eq_true rfl⟩ rfl rfl hP hT hS rfl hl.1 rfl (Nat.le_of_ble_eq_true rfl) d_GlyphPositionsModel_set_125 (fun H locs hP hS => ?_)
        refine lv_istore_n (lv' := [(2, .int r6), (0, .ref (G.2.2 36))]) hx hb d_GlyphPositionsModel_set_128 rfl hl (by decide) rfl (fun ls hl => ?_)
        refine lv_iconst (v := 0) hx hb d_GlyphPositionsModel_set_129 (by decide) ?_
        refine lv_istore_n (lv' := [(3, .int 0), (2, .int r6), (0, .ref (G.2.2 36))]) hx hb d_GlyphPositionsModel_set_130 rfl hl (by decide) rfl (fun ls hl => ?_)
        exact L_131 _ _ _ _ _ _ _ hf hP hS (lv_sub hl [2, 1, 0] rfl)
      rw [if_neg c1] at hf
      refine lv_aload_n hx hb d_GlyphPositionsModel_set_48 rfl (lv_at hl 0 rfl) ?_
      refine xg_36_glyphs hC hP wq_208 d_GlyphPositionsModel_set_49 ?_
      refine lv_iload_n hx hb d_GlyphPositionsModel_set_52 rfl (lv_at hl 1 rfl) ?_
      refine lv_aload_n hx hb d_GlyphPositionsModel_set_53 rfl (lv_at hl 0 rfl) ?_
      refine xg_36_toldGlyph hC hP wq_137 d_GlyphPositionsModel_set_54 ?_
      refine lv_iload_n hx hb d_GlyphPositionsModel_set_57 rfl (lv_at hl 1 rfl) ?_
      obtain ⟨hi, hf⟩ := q_grd_some hf
      obtain ⟨v11, e_v11, hf⟩ := q_lt_some hf
      refine xl_45 hC hP e_v11 hi d_GlyphPositionsModel_set_58 ?_
      obtain ⟨hi, hf⟩ := q_grd_some hf
      obtain ⟨s12, e_s12, hf⟩ := q_lt_some hf
      refine xs_49 hC hP hD hS e_s12 hi d_GlyphPositionsModel_set_59 (fun H locs hP hS => ?_)
      refine lv_aload_n hx hb d_GlyphPositionsModel_set_60 rfl (lv_at hl 0 rfl) ?_
      refine xg_36_widths hC hP wq_141 d_GlyphPositionsModel_set_61 ?_
      refine lv_iload_n hx hb d_GlyphPositionsModel_set_64 rfl (lv_at hl 1 rfl) ?_
      refine lv_aload_n hx hb d_GlyphPositionsModel_set_65 rfl (lv_at hl 0 rfl) ?_
      refine xg_36_toldWidth hC hP wq_139 d_GlyphPositionsModel_set_66 ?_
      refine lv_iload_n hx hb d_GlyphPositionsModel_set_69 rfl (lv_at hl 1 rfl) ?_
      obtain ⟨hi, hf⟩ := q_grd_some hf
      obtain ⟨v13, e_v13, hf⟩ := q_lt_some hf
      refine xl_46 hC hP e_v13 hi d_GlyphPositionsModel_set_70 ?_
      obtain ⟨hi, hf⟩ := q_grd_some hf
      obtain ⟨s14, e_s14, hf⟩ := q_lt_some hf
      refine xs_51 hC hP hD hS e_s14 hi d_GlyphPositionsModel_set_71 (fun H locs hP hS => ?_)
      refine lv_aload_n hx hb d_GlyphPositionsModel_set_72 rfl (lv_at hl 0 rfl) ?_
      refine xg_36_parts hC hP wq_213 d_GlyphPositionsModel_set_73 ?_
      refine lv_iload_n hx hb d_GlyphPositionsModel_set_76 rfl (lv_at hl 1 rfl) ?_
      refine lv_aload_n hx hb d_GlyphPositionsModel_set_77 rfl (lv_at hl 0 rfl) ?_
      refine xg_36_toldPart hC hP wq_140 d_GlyphPositionsModel_set_78 ?_
      refine lv_iload_n hx hb d_GlyphPositionsModel_set_81 rfl (lv_at hl 1 rfl) ?_
      obtain ⟨hi, hf⟩ := q_grd_some hf
      obtain ⟨v15, e_v15, hf⟩ := q_lt_some hf
      refine xl_47 hC hP e_v15 hi d_GlyphPositionsModel_set_82 ?_
      obtain ⟨hi, hf⟩ := q_grd_some hf
      obtain ⟨s16, e_s16, hf⟩ := q_lt_some hf
      refine xs_50 hC hP hD hS e_s16 hi d_GlyphPositionsModel_set_83 (fun H locs hP hS => ?_)
      refine lv_aload_n hx hb d_GlyphPositionsModel_set_84 rfl (lv_at hl 0 rfl) ?_
      refine xg_36_heights hC hP wq_142 d_GlyphPositionsModel_set_85 ?_
      refine lv_iload_n hx hb d_GlyphPositionsModel_set_88 rfl (lv_at hl 1 rfl) ?_
      refine lv_iconst (v := 0) hx hb d_GlyphPositionsModel_set_89 (by decide) ?_
      obtain ⟨hi, hf⟩ := q_grd_some hf
      obtain ⟨s17, e_s17, hf⟩ := q_lt_some hf
      refine xs_52 hC hP hD hS e_s17 hi d_GlyphPositionsModel_set_90 (fun H locs hP hS => ?_)
      refine lv_aload_n hx hb d_GlyphPositionsModel_set_91 rfl (lv_at hl 0 rfl) ?_
      refine xg_36_rights hC hP wq_143 d_GlyphPositionsModel_set_92 ?_
      refine lv_iload_n hx hb d_GlyphPositionsModel_set_95 rfl (lv_at hl 1 rfl) ?_
      refine lv_iconst (v := 0) hx hb d_GlyphPositionsModel_set_96 (by decide) ?_
      obtain ⟨hi, hf⟩ := q_grd_some hf
      obtain ⟨s18, e_s18, hf⟩ := q_lt_some hf
      refine xs_53 hC hP hD hS e_s18 hi d_GlyphPositionsModel_set_97 (fun H locs hP hS => ?_)
      refine lv_aload_n hx hb d_GlyphPositionsModel_set_98 rfl (lv_at hl 0 rfl) ?_
      refine xg_36_ups hC hP wq_144 d_GlyphPositionsModel_set_99 ?_
      refine lv_iload_n hx hb d_GlyphPositionsModel_set_102 rfl (lv_at hl 1 rfl) ?_
      refine lv_iconst (v := 0) hx hb d_GlyphPositionsModel_set_103 (by decide) ?_
      obtain ⟨hi, hf⟩ := q_grd_some hf
      obtain ⟨s19, e_s19, hf⟩ := q_lt_some hf
      refine xs_54 hC hP hD hS e_s19 hi d_GlyphPositionsModel_set_104 (fun H locs hP hS => ?_)
      refine lv_aload_n hx hb d_GlyphPositionsModel_set_105 rfl (lv_at hl 0 rfl) ?_
      refine xg_36_hangs hC hP wq_145 d_GlyphPositionsModel_set_106 ?_
      refine lv_iload_n hx hb d_GlyphPositionsModel_set_109 rfl (lv_at hl 1 rfl) ?_
      refine lv_iconst (v := (-1)) hx hb d_GlyphPositionsModel_set_110 (by decide) ?_
      obtain ⟨hi, hf⟩ := q_grd_some hf
      obtain ⟨s20, e_s20, hf⟩ := q_lt_some hf
      refine xs_55 hC hP hD hS e_s20 hi d_GlyphPositionsModel_set_111 (fun H locs hP hS => ?_)
      refine lv_iinc (v := x2_40 + 1) (lv' := [(2, .int (x2_40 + 1)), (0, .ref (G.2.2 36))]) hx hb d_GlyphPositionsModel_set_112 hl (k := 1) rfl rfl (by decide) rfl (fun ls hl => ?_)
      refine lv_goto (tgt := 40) hx hb d_GlyphPositionsModel_set_115 (by decide) ?_
      exact ih_40 _ _ _ _ _ hf hP hS (lv_sub hl [1, 0] rfl)
  have J_13 : ∀ (x1_13 w1_13 : Int32) (st_13 : QSt) (H : Heap) (locs : List Loc) (ls : Array Slot), xGlyphPositionsModel_set_13 N x1_13 w1_13 st_13 = some (ro, so) → va_P G.1 vwCl (wX G st_13) H → va_S A s.heap H locs → lv_has ls 5 [(0, .ref (G.2.2 36)), (1, .int x1_13)] → W p l e ({ frames := 6, cells := 0, slots := 0, locals := 159 } : Room) s m args below meth c H locs 0 0 (q_Zi below args s G.1 (wX G) ro so A) (F0 m 13 ls [.int w1_13, .ref (G.2.2 36)]) := by
    intro x1_13 w1_13 st_13 H locs ls hf hP hS hl
    unfold xGlyphPositionsModel_set_13 at hf
    obtain ⟨r1, sr1, h_r1, hf⟩ := q_bm_some hf
    refine q_callVi (As := [.int w1_13]) (rest := []) (q0 := 36) hC (c_xGlyphPositionsModel_refused l G h_r1) cal_GlyphPositionsModel_refused wq_124 ⟨rfl, rfl, Nat.le_of_ble_eq_true rfl, Nat.le_of_ble_eq_true rfl⟩ rfl rfl hP hD hA hS rfl hl.1 rfl (Nat.le_of_ble_eq_true rfl) d_GlyphPositionsModel_set_13 (fun H locs hP hS => ?_)
    refine lv_if_eq (tgt := 21) hx hb d_GlyphPositionsModel_set_16 (by decide) (fun c1 => ?_) (fun c1 => ?_)
    rotate_left
    · rw [if_neg c1] at hf
      refine lv_iconst (v := 0) hx hb d_GlyphPositionsModel_set_19 (by decide) ?_
      exact q_iret hC hr hlk hf (by first | rfl | decide) hP hS d_GlyphPositionsModel_set_20
    rw [if_pos c1] at hf
    refine lv_aload_n hx hb d_GlyphPositionsModel_set_21 rfl (lv_at hl 0 rfl) ?_
    refine lv_iload_n hx hb d_GlyphPositionsModel_set_22 rfl (lv_at hl 1 rfl) ?_
    obtain ⟨hi, hf⟩ := q_grd_some hf
    obtain ⟨s2, e_s2, hf⟩ := q_lt_some hf
    refine xp_36_isBack hC hP hD hS e_s2 hi wq_202 d_GlyphPositionsModel_set_23 (fun H locs hP hS => ?_)
    refine lv_aload_n hx hb d_GlyphPositionsModel_set_26 rfl (lv_at hl 0 rfl) ?_
    obtain ⟨sr3, h_r3, hf⟩ := q_bv_some hf
    refine q_callVv (As := []) (rest := []) (q0 := 36) hC (c_xGlyphPositionsModel_chooseAll l G h_r3) cal_GlyphPositionsModel_chooseAll wq_230 ⟨rfl, rfl, Nat.le_of_ble_eq_true rfl, Nat.le_of_ble_eq_true rfl⟩ rfl rfl hP hD hA hS rfl hl.1 rfl (Nat.le_of_ble_eq_true rfl) d_GlyphPositionsModel_set_27 (fun H locs hP hS => ?_)
    refine lv_aload_n hx hb d_GlyphPositionsModel_set_30 rfl (lv_at hl 0 rfl) ?_
    refine lv_aload_n hx hb d_GlyphPositionsModel_set_31 rfl (lv_at hl 0 rfl) ?_
    refine xg_36_told hC hP wq_138 d_GlyphPositionsModel_set_32 ?_
    obtain ⟨s4, e_s4, hf⟩ := q_lt_some hf
    refine xp_36_many hC hP hD hS e_s4 wq_146 d_GlyphPositionsModel_set_35 (fun H locs hP hS => ?_)
    refine lv_iconst (v := 0) hx hb d_GlyphPositionsModel_set_38 (by decide) ?_
    refine lv_istore_n (lv' := [(2, .int 0), (0, .ref (G.2.2 36)), (1, .int x1_13)]) hx hb d_GlyphPositionsModel_set_39 rfl hl (by decide) rfl (fun ls hl => ?_)
    exact L_40 _ _ _ _ _ _ hf hP hS (lv_sub hl [1, 0] rfl)
  unfold xGlyphPositionsModel_set at hf
  refine lv_aload_n hx hb d_GlyphPositionsModel_set_0 rfl (lv_at hl 0 rfl) ?_
  refine lv_aload_n hx hb d_GlyphPositionsModel_set_1 rfl (lv_at hl 0 rfl) ?_
  refine xg_36_isFont hC hP wq_187 d_GlyphPositionsModel_set_2 ?_
  refine lv_if_eq (tgt := 12) hx hb d_GlyphPositionsModel_set_5 (by decide) (fun c1 => ?_) (fun c1 => ?_)
  · rw [if_pos c1] at hf
    refine lv_iconst (v := 1) hx hb d_GlyphPositionsModel_set_12 (by decide) ?_
    exact J_13 _ _ _ _ _ _ hf hP hS hl
  rw [if_neg c1] at hf
  refine lv_iconst (v := 0) hx hb d_GlyphPositionsModel_set_8 (by decide) ?_
  refine lv_goto (tgt := 13) hx hb d_GlyphPositionsModel_set_9 (by decide) ?_
  exact J_13 _ _ _ _ _ _ hf hP hS hl
