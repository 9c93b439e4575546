def xGlyphPositionsModel_look_26 (w1_26 : Int32) (st_26 : QSt) : Option QSt :=
  q_bv (xGlyphPositionsModel_need w1_26 st_26) (fun sr2 => some sr2)
def xGlyphPositionsModel_look (st : QSt) : Option QSt :=
  q_lt (q_ps st 15 ((st.1 15) + 1)) (fun s1 => if 20000 < (s1.1 15) then (xGlyphPositionsModel_look_26 0 s1) else (xGlyphPositionsModel_look_26 1 s1))
set_option maxHeartbeats 4000000 in
set_option maxRecDepth 100000 in
theorem c_xGlyphPositionsModel_look (l : Launch) (G : XG) {st : QSt} {so : QSt} (hf : xGlyphPositionsModel_look st = some so) : q_Mv l y_GlyphPositionsModel_look b_GlyphPositionsModel_look 1 ({ frames := 1, cells := 0, slots := 0, locals := 21 } : Room) G.1 (xT G) (wX G) [.ref (G.2.2 36)] st so := by
  refine q_Mv_of (by decide) (Nat.le_of_ble_eq_true rfl) (wX_fst G) ?_
  intro p e s m args below meth c A ls hC hr hlk hT hD hA hP hS hl
  have hx := hC.1.1
  have hb := hC.1.2.1
  have hown := hC.1.2.2.2.1
  have hts := hC.1.2.2.2.2
  have hl : lv_has ls 1 [(0, .ref (G.2.2 36))] := hl
  have J_26 : ∀ (w1_26 : Int32) (st_26 : QSt) (H : Heap) (locs : List Loc) (ls : Array Slot), xGlyphPositionsModel_look_26 w1_26 st_26 = some so → va_P G.1 vwCl (wX G st_26) H → va_S A s.heap H locs → lv_has ls 1 [] → W p l e ({ frames := 1, cells := 0, slots := 0, locals := 21 } : Room) s m args below meth c H locs 0 0 (q_Zv below args s G.1 (wX G) so A) (F0 m 26 ls [.int w1_26, .ref (G.2.2 36)]) := by
    intro w1_26 st_26 H locs ls hf hP hS hl
    unfold xGlyphPositionsModel_look_26 at hf
    obtain ⟨sr2, h_r2, hf⟩ := q_bv_some hf
    refine q_callVv (As := [.int w1_26]) (rest := []) (q0 := 36) hC (c_xGlyphPositionsModel_need l G h_r2) cal_GlyphPositionsModel_need wq_148 ⟨rfl, rfl, Nat.le_of_ble_eq_true rfl, Nat.le_of_ble_eq_true rfl⟩ rfl rfl hP hD hA hS rfl hl.1 rfl (Nat.le_of_ble_eq_true rfl) d_GlyphPositionsModel_look_26 (fun H locs hP hS => ?_)
    exact q_vret hC hr hlk hf hP hS d_GlyphPositionsModel_look_29
  unfold xGlyphPositionsModel_look at hf
  refine lv_aload_n hx hb d_GlyphPositionsModel_look_0 rfl (lv_at hl 0 rfl) ?_
  refine lv_dup hx hb d_GlyphPositionsModel_look_1 rfl ?_
  refine xg_36_looked hC hP wq_162 d_GlyphPositionsModel_look_2 ?_
  refine lv_iconst (v := 1) hx hb d_GlyphPositionsModel_look_5 (by decide) ?_
  refine lv_iadd hx hb d_GlyphPositionsModel_look_6 ?_
  obtain ⟨s1, e_s1, hf⟩ := q_lt_some hf
  refine xp_36_looked hC hP hD hS e_s1 wq_162 d_GlyphPositionsModel_look_7 (fun H locs hP hS => ?_)
  refine lv_aload_n hx hb d_GlyphPositionsModel_look_10 rfl (lv_at hl 0 rfl) ?_
  refine lv_aload_n hx hb d_GlyphPositionsModel_look_11 rfl (lv_at hl 0 rfl) ?_
  refine xg_36_looked hC hP wq_162 d_GlyphPositionsModel_look_12 ?_
  refine lv_sipush (v := 20000) hx hb d_GlyphPositionsModel_look_15 (by decide) ?_
  refine lv_icmp_gt (tgt := 25) hx hb d_GlyphPositionsModel_look_18 (by decide) (fun c1 => ?_) (fun c1 => ?_)
  · rw [if_pos c1] at hf
    refine lv_iconst (v := 0) hx hb d_GlyphPositionsModel_look_25 (by decide) ?_
    exact J_26 _ _ _ _ _ hf hP hS (lv_sub hl [] rfl)
  rw [if_neg c1] at hf
  refine lv_iconst (v := 1) hx hb d_GlyphPositionsModel_look_21 (by decide) ?_
  refine lv_goto (tgt := 26) hx hb d_GlyphPositionsModel_look_22 (by decide) ?_
  exact J_26 _ _ _ _ _ hf hP hS (lv_sub hl [] rfl)
def xGlyphPositionsModel_checkCoverage_193 (N : Nat) (x6_193 : Int32) (st_193 : QSt) : Option (Int32 × QSt) :=
  if (st_193.1 14) = 0 then (some (x6_193, st_193)) else (some (0, st_193))
def xGlyphPositionsModel_checkCoverage_171 (N : Nat) (rec_49 : Int32 → Int32 → Int32 → QSt → Option (Int32 × QSt)) (x1_49 : Int64) (x3_49 x4_49 x6_171 x7_171 x10_171 x11_171 : Int32) (st_171 : QSt) : Option (Int32 × QSt) :=
  q_lt (((x6_171 + x11_171) - x10_171) + 1) (fun x6_1009 => rec_49 x11_171 x6_1009 (x7_171 + 1) st_171)
def xGlyphPositionsModel_checkCoverage_168 (N : Nat) (rec_49 : Int32 → Int32 → Int32 → QSt → Option (Int32 × QSt)) (x1_49 : Int64) (x3_49 x4_49 x6_168 x7_168 x10_168 x11_168 : Int32) (w1_168 : Int32) (st_168 : QSt) : Option (Int32 × QSt) :=
  q_bv (xGlyphPositionsModel_need w1_168 st_168) (fun sr11 => xGlyphPositionsModel_checkCoverage_171 N rec_49 x1_49 x3_49 x4_49 x6_168 x7_168 x10_168 x11_168 sr11)
def xGlyphPositionsModel_checkCoverage_139 (N : Nat) (rec_49 : Int32 → Int32 → Int32 → QSt → Option (Int32 × QSt)) (x1_49 : Int64) (x3_49 x4_49 x6_139 x7_139 : Int32) (x8_139 : Int64) (x10_139 x11_139 : Int32) (w1_139 : Int32) (st_139 : QSt) : Option (Int32 × QSt) :=
  q_bv (xGlyphPositionsModel_need w1_139 st_139) (fun sr8 => if x3_49 = 2 then (q_bm (xGlyphPositionsModel_u16 (x8_139 + 4) sr8) (fun r10 sr10 => if r10 = x6_139 then (xGlyphPositionsModel_checkCoverage_168 N rec_49 x1_49 x3_49 x4_49 x6_139 x7_139 x10_139 x11_139 1 sr10) else (xGlyphPositionsModel_checkCoverage_168 N rec_49 x1_49 x3_49 x4_49 x6_139 x7_139 x10_139 x11_139 0 sr10))) else (xGlyphPositionsModel_checkCoverage_171 N rec_49 x1_49 x3_49 x4_49 x6_139 x7_139 x10_139 x11_139 sr8))
def xGlyphPositionsModel_checkCoverage_138 (N : Nat) (rec_49 : Int32 → Int32 → Int32 → QSt → Option (Int32 × QSt)) (x1_49 : Int64) (x3_49 x4_49 x6_138 x7_138 : Int32) (x8_138 : Int64) (x10_138 x11_138 : Int32) (st_138 : QSt) : Option (Int32 × QSt) :=
  xGlyphPositionsModel_checkCoverage_139 N rec_49 x1_49 x3_49 x4_49 x6_138 x7_138 x8_138 x10_138 x11_138 0 st_138
def xGlyphPositionsModel_checkCoverage_117 (N : Nat) (rec_49 : Int32 → Int32 → Int32 → QSt → Option (Int32 × QSt)) (x1_49 : Int64) (x3_49 x4_49 x5_117 x6_117 x7_117 : Int32) (x8_117 : Int64) (x10_117 : Int32) (w0_117 : Int32) (st_117 : QSt) : Option (Int32 × QSt) :=
  if x10_117 ≤ x5_117 then (xGlyphPositionsModel_checkCoverage_138 N rec_49 x1_49 x3_49 x4_49 x6_117 x7_117 x8_117 x10_117 w0_117 st_117) else (if w0_117 < x10_117 then (xGlyphPositionsModel_checkCoverage_138 N rec_49 x1_49 x3_49 x4_49 x6_117 x7_117 x8_117 x10_117 w0_117 st_117) else (xGlyphPositionsModel_checkCoverage_139 N rec_49 x1_49 x3_49 x4_49 x6_117 x7_117 x8_117 x10_117 w0_117 1 st_117))
def xGlyphPositionsModel_checkCoverage_82 (N : Nat) (rec_49 : Int32 → Int32 → Int32 → QSt → Option (Int32 × QSt)) (x1_49 : Int64) (x3_49 x4_49 x5_82 x6_82 x7_82 : Int32) (w0_82 w1_82 : Int64) (st_82 : QSt) : Option (Int32 × QSt) :=
  q_lt (w0_82 + (w1_82 * x7_82.toInt64)) (fun x8_1005 => q_bm (xGlyphPositionsModel_u16 x8_1005 st_82) (fun r6 sr6 => if x3_49 = 1 then (xGlyphPositionsModel_checkCoverage_117 N rec_49 x1_49 x3_49 x4_49 x5_82 x6_82 x7_82 x8_1005 r6 r6 sr6) else (q_bm (xGlyphPositionsModel_u16 (x8_1005 + 2) sr6) (fun r7 sr7 => xGlyphPositionsModel_checkCoverage_117 N rec_49 x1_49 x3_49 x4_49 x5_82 x6_82 x7_82 x8_1005 r6 r7 sr7))))
def xGlyphPositionsModel_checkCoverage_49 (N : Nat) (x1_49 : Int64) (x3_49 x4_49 : Int32) : Nat → Int32 → Int32 → Int32 → QSt → Option (Int32 × QSt)
  | 0, _, _, _, _ => none
  | n_49 + 1, x5_49, x6_49, x7_49, st_49 => if x4_49 ≤ x7_49 then (xGlyphPositionsModel_checkCoverage_193 N x6_49 st_49) else (if (st_49.1 14) = 0 then (if x3_49 = 1 then (xGlyphPositionsModel_checkCoverage_82 N (xGlyphPositionsModel_checkCoverage_49 N x1_49 x3_49 x4_49 n_49) x1_49 x3_49 x4_49 x5_49 x6_49 x7_49 (x1_49 + 4) 2 st_49) else (xGlyphPositionsModel_checkCoverage_82 N (xGlyphPositionsModel_checkCoverage_49 N x1_49 x3_49 x4_49 n_49) x1_49 x3_49 x4_49 x5_49 x6_49 x7_49 (x1_49 + 4) 6 st_49)) else (xGlyphPositionsModel_checkCoverage_193 N x6_49 st_49))
def xGlyphPositionsModel_checkCoverage_37 (N : Nat) (x1_37 : Int64) (x3_37 x4_37 : Int32) (w1_37 : Int32) (st_37 : QSt) : Option (Int32 × QSt) :=
  q_bv (xGlyphPositionsModel_need w1_37 st_37) (fun sr4 => xGlyphPositionsModel_checkCoverage_49 N x1_37 x3_37 x4_37 N (-1) 0 0 sr4)
def xGlyphPositionsModel_checkCoverage_32 (N : Nat) (x1_32 : Int64) (x3_32 x4_32 : Int32) (st_32 : QSt) : Option (Int32 × QSt) :=
  xGlyphPositionsModel_checkCoverage_37 N x1_32 x3_32 x4_32 1 st_32
def xGlyphPositionsModel_checkCoverage (N : Nat) (x1 : Int64) (st : QSt) : Option (Int32 × QSt) :=
  q_bv (xGlyphPositionsModel_look st) (fun sr1 => q_bm (xGlyphPositionsModel_u16 x1 sr1) (fun r2 sr2 => q_bm (xGlyphPositionsModel_u16 (x1 + 2) sr2) (fun r3 sr3 => if r2 = 1 then (xGlyphPositionsModel_checkCoverage_32 N x1 r2 r3 sr3) else (if r2 = 2 then (xGlyphPositionsModel_checkCoverage_32 N x1 r2 r3 sr3) else (xGlyphPositionsModel_checkCoverage_37 N x1 r2 r3 0 sr3)))))
set_option maxHeartbeats 4000000 in
set_option maxRecDepth 100000 in
theorem c_xGlyphPositionsModel_checkCoverage (l : Launch) (G : XG) {N : Nat} {x1 : Int64} {st : QSt} {ro : Int32} {so : QSt} (hf : xGlyphPositionsModel_checkCoverage N x1 st = some (ro, so)) : q_Mi l y_GlyphPositionsModel_checkCoverage b_GlyphPositionsModel_checkCoverage 12 .int ({ frames := 2, cells := 0, slots := 0, locals := 44 } : Room) G.1 (xT G) (wX G) [.ref (G.2.2 36), .long x1] st ro so := by
  refine q_Mi_of (by decide) (Nat.le_of_ble_eq_true rfl) (wX_fst G) ?_
  intro p e s m args below meth c A ls hC hr hlk hT hD hA hP hS hl
  have hx := hC.1.1
  have hb := hC.1.2.1
  have hown := hC.1.2.2.2.1
  have hts := hC.1.2.2.2.2
  have hl : lv_has ls 12 [(0, .ref (G.2.2 36)), (1, .long x1)] := hl
  have J_193 : ∀ (x6_193 : Int32) (st_193 : QSt) (H : Heap) (locs : List Loc) (ls : Array Slot), xGlyphPositionsModel_checkCoverage_193 N x6_193 st_193 = some (ro, so) → va_P G.1 vwCl (wX G st_193) H → va_S A s.heap H locs → lv_has ls 12 [(0, .ref (G.2.2 36)), (6, .int x6_193)] → W p l e ({ frames := 2, cells := 0, slots := 0, locals := 44 } : Room) s m args below meth c H locs 0 0 (q_Zi below args s G.1 (wX G) ro so A) (F0 m 193 ls []) := by
    intro x6_193 st_193 H locs ls hf hP hS hl
    unfold xGlyphPositionsModel_checkCoverage_193 at hf
    refine lv_aload_n hx hb d_GlyphPositionsModel_checkCoverage_193 rfl (lv_at hl 0 rfl) ?_
    refine xg_36_bad hC hP wq_147 d_GlyphPositionsModel_checkCoverage_194 ?_
    refine lv_if_eq (tgt := 204) hx hb d_GlyphPositionsModel_checkCoverage_197 (by decide) (fun c1 => ?_) (fun c1 => ?_)
    · rw [if_pos c1] at hf
      refine lv_iload hx hb d_GlyphPositionsModel_checkCoverage_204 (lv_at hl 1 rfl) ?_
      exact q_iret hC hr hlk hf (by first | rfl | decide) hP hS d_GlyphPositionsModel_checkCoverage_206
    rw [if_neg c1] at hf
    refine lv_iconst (v := 0) hx hb d_GlyphPositionsModel_checkCoverage_200 (by decide) ?_
    refine lv_goto (tgt := 206) hx hb d_GlyphPositionsModel_checkCoverage_201 (by decide) ?_
    exact q_iret hC hr hlk hf (by first | rfl | decide) hP hS d_GlyphPositionsModel_checkCoverage_206
  have L_49 : ∀ (x1_49 : Int64) (x3_49 x4_49 : Int32) (n_49 : Nat) (x5_49 x6_49 x7_49 : Int32) (st_49 : QSt) (H : Heap) (locs : List Loc) (ls : Array Slot), xGlyphPositionsModel_checkCoverage_49 N x1_49 x3_49 x4_49 n_49 x5_49 x6_49 x7_49 st_49 = some (ro, so) → va_P G.1 vwCl (wX G st_49) H → va_S A s.heap H locs → lv_has ls 12 [(0, .ref (G.2.2 36)), (1, .long x1_49), (3, .int x3_49), (4, .int x4_49), (5, .int x5_49), (6, .int x6_49), (7, .int x7_49)] → W p l e ({ frames := 2, cells := 0, slots := 0, locals := 44 } : Room) s m args below meth c H locs 0 0 (q_Zi below args s G.1 (wX G) ro so A) (F0 m 49 ls []) := by
    intro x1_49 x3_49 x4_49 n_49
    induction n_49 with
    | zero => intro _ _ _ _ _ _ _ hf; exact absurd hf (by simp [xGlyphPositionsModel_checkCoverage_49])
    | succ n_49 ih_49 =>
      have J_171 : ∀ (x6_171 x7_171 x10_171 x11_171 : Int32) (st_171 : QSt) (H : Heap) (locs : List Loc) (ls : Array Slot), xGlyphPositionsModel_checkCoverage_171 N (xGlyphPositionsModel_checkCoverage_49 N x1_49 x3_49 x4_49 n_49) x1_49 x3_49 x4_49 x6_171 x7_171 x10_171 x11_171 st_171 = some (ro, so) → va_P G.1 vwCl (wX G st_171) H → va_S A s.heap H locs → lv_has ls 12 [(0, .ref (G.2.2 36)), (1, .long x1_49), (3, .int x3_49), (4, .int x4_49), (6, .int x6_171), (7, .int x7_171), (10, .int x10_171), (11, .int x11_171)] → W p l e ({ frames := 2, cells := 0, slots := 0, locals := 44 } : Room) s m args below meth c H locs 0 0 (q_Zi below args s G.1 (wX G) ro so A) (F0 m 171 ls []) := by
        intro x6_171 x7_171 x10_171 x11_171 st_171 H locs ls hf hP hS hl
        unfold xGlyphPositionsModel_checkCoverage_171 at hf
        refine lv_iload hx hb d_GlyphPositionsModel_checkCoverage_171 (lv_at hl 7 rfl) ?_
        refine lv_istore (lv' := [(5, .int x11_171), (0, .ref (G.2.2 36)), (1, .long x1_49), (3, .int x3_49), (4, .int x4_49), (6, .int x6_171), (7, .int x7_171), (10, .int x10_171), (11, .int x11_171)]) hx hb d_GlyphPositionsModel_checkCoverage_173 hl (by decide) rfl (fun ls hl => ?_)
        refine lv_iload hx hb d_GlyphPositionsModel_checkCoverage_175 (lv_at hl 5 rfl) ?_
        refine lv_iload hx hb d_GlyphPositionsModel_checkCoverage_177 (lv_at hl 8 rfl) ?_
        refine lv_iadd hx hb d_GlyphPositionsModel_checkCoverage_179 ?_
        refine lv_iload hx hb d_GlyphPositionsModel_checkCoverage_180 (lv_at hl 7 rfl) ?_
        refine lv_isub hx hb d_GlyphPositionsModel_checkCoverage_182 ?_
        refine lv_iconst (v := 1) hx hb d_GlyphPositionsModel_checkCoverage_183 (by decide) ?_
        refine lv_iadd hx hb d_GlyphPositionsModel_checkCoverage_184 ?_
        obtain ⟨x6_1009, e_x6_1009, hf⟩ := q_lt_some hf
        refine q_topi e_x6_1009 ?_
        refine lv_istore (lv' := [(6, .int x6_1009), (5, .int x11_171), (0, .ref (G.2.2 36)), (1, .long x1_49), (3, .int x3_49), (4, .int x4_49), (7, .int x7_171), (10, .int x10_171), (11, .int x11_171)]) hx hb d_GlyphPositionsModel_checkCoverage_185 hl (by decide) rfl (fun ls hl => ?_)
        refine lv_iinc (v := x7_171 + 1) (lv' := [(7, .int (x7_171 + 1)), (6, .int x6_1009), (5, .int x11_171), (0, .ref (G.2.2 36)), (1, .long x1_49), (3, .int x3_49), (4, .int x4_49), (10, .int x10_171), (11, .int x11_171)]) hx hb d_GlyphPositionsModel_checkCoverage_187 hl (k := 6) rfl rfl (by decide) rfl (fun ls hl => ?_)
        refine lv_goto (tgt := 49) hx hb d_GlyphPositionsModel_checkCoverage_190 (by decide) ?_
        exact ih_49 _ _ _ _ _ _ _ hf hP hS (lv_sub hl [3, 4, 5, 6, 2, 1, 0] rfl)
      have J_168 : ∀ (x6_168 x7_168 x10_168 x11_168 w1_168 : Int32) (st_168 : QSt) (H : Heap) (locs : List Loc) (ls : Array Slot), xGlyphPositionsModel_checkCoverage_168 N (xGlyphPositionsModel_checkCoverage_49 N x1_49 x3_49 x4_49 n_49) x1_49 x3_49 x4_49 x6_168 x7_168 x10_168 x11_168 w1_168 st_168 = some (ro, so) → va_P G.1 vwCl (wX G st_168) H → va_S A s.heap H locs → lv_has ls 12 [(0, .ref (G.2.2 36)), (1, .long x1_49), (3, .int x3_49), (4, .int x4_49), (6, .int x6_168), (7, .int x7_168), (10, .int x10_168), (11, .int x11_168)] → W p l e ({ frames := 2, cells := 0, slots := 0, locals := 44 } : Room) s m args below meth c H locs 0 0 (q_Zi below args s G.1 (wX G) ro so A) (F0 m 168 ls [.int w1_168, .ref (G.2.2 36)]) := by
        intro x6_168 x7_168 x10_168 x11_168 w1_168 st_168 H locs ls hf hP hS hl
        unfold xGlyphPositionsModel_checkCoverage_168 at hf
        obtain ⟨sr11, h_r11, hf⟩ := q_bv_some hf
        refine q_callVv (As := [.int w1_168]) (rest := []) (q0 := 36) hC (c_xGlyphPositionsModel_need l G h_r11) cal_GlyphPositionsModel_need wq_148 ⟨rfl, rfl, Nat.le_of_ble_eq_true rfl, Nat.le_of_ble_eq_true rfl⟩ rfl rfl hP hD hA hS rfl hl.1 rfl (Nat.le_of_ble_eq_true rfl) d_GlyphPositionsModel_checkCoverage_168 (fun H locs hP hS => ?_)
        exact J_171 _ _ _ _ _ _ _ _ hf hP hS hl
      have J_139 : ∀ (x6_139 x7_139 : Int32) (x8_139 : Int64) (x10_139 x11_139 w1_139 : Int32) (st_139 : QSt) (H : Heap) (locs : List Loc) (ls : Array Slot), xGlyphPositionsModel_checkCoverage_139 N (xGlyphPositionsModel_checkCoverage_49 N x1_49 x3_49 x4_49 n_49) x1_49 x3_49 x4_49 x6_139 x7_139 x8_139 x10_139 x11_139 w1_139 st_139 = some (ro, so) → va_P G.1 vwCl (wX G st_139) H → va_S A s.heap H locs → lv_has ls 12 [(0, .ref (G.2.2 36)), (1, .long x1_49), (3, .int x3_49), (4, .int x4_49), (6, .int x6_139), (7, .int x7_139), (8, .long x8_139), (10, .int x10_139), (11, .int x11_139)] → W p l e ({ frames := 2, cells := 0, slots := 0, locals := 44 } : Room) s m args below meth c H locs 0 0 (q_Zi below args s G.1 (wX G) ro so A) (F0 m 139 ls [.int w1_139, .ref (G.2.2 36)]) := by
        intro x6_139 x7_139 x8_139 x10_139 x11_139 w1_139 st_139 H locs ls hf hP hS hl
        unfold xGlyphPositionsModel_checkCoverage_139 at hf
        obtain ⟨sr8, h_r8, hf⟩ := q_bv_some hf
        refine q_callVv (As := [.int w1_139]) (rest := []) (q0 := 36) hC (c_xGlyphPositionsModel_need l G h_r8) cal_GlyphPositionsModel_need wq_148 ⟨rfl, rfl, Nat.le_of_ble_eq_true rfl, Nat.le_of_ble_eq_true rfl⟩ rfl rfl hP hD hA hS rfl hl.1 rfl (Nat.le_of_ble_eq_true rfl) d_GlyphPositionsModel_checkCoverage_139 (fun H locs hP hS => ?_)
        refine lv_iload_n hx hb d_GlyphPositionsModel_checkCoverage_142 rfl (lv_at hl 2 rfl) ?_
        refine lv_iconst (v := 2) hx hb d_GlyphPositionsModel_checkCoverage_143 (by decide) ?_
        refine lv_icmp_ne (tgt := 171) hx hb d_GlyphPositionsModel_checkCoverage_144 (by decide) (fun c1 => ?_) (fun c1 => ?_)
        · rw [if_neg c1] at hf
          exact J_171 _ _ _ _ _ _ _ _ hf hP hS (lv_sub hl [0, 1, 2, 3, 4, 5, 7, 8] rfl)
        rw [if_pos c1] at hf
        refine lv_aload_n hx hb d_GlyphPositionsModel_checkCoverage_147 rfl (lv_at hl 0 rfl) ?_
        refine lv_aload_n hx hb d_GlyphPositionsModel_checkCoverage_148 rfl (lv_at hl 0 rfl) ?_
        refine lv_lload hx hb d_GlyphPositionsModel_checkCoverage_149 (lv_at hl 6 rfl) ?_
        refine lv_ldc2 (v := 4) hx hb hown (hts _ wq_150) d_GlyphPositionsModel_checkCoverage_151 ?_
        refine lv_ladd hx hb d_GlyphPositionsModel_checkCoverage_154 ?_
        obtain ⟨r10, sr10, h_r10, hf⟩ := q_bm_some hf
        refine q_callVi (As := [.long (x8_139 + 4)]) (rest := [.ref (G.2.2 36)]) (q0 := 36) hC (c_xGlyphPositionsModel_u16 l G h_r10) cal_GlyphPositionsModel_u16 wq_151 ⟨rfl, rfl, Nat.le_of_ble_eq_true rfl, Nat.le_of_ble_eq_true rfl⟩ rfl rfl hP hD hA hS rfl hl.1 rfl (Nat.le_of_ble_eq_true rfl) d_GlyphPositionsModel_checkCoverage_155 (fun H locs hP hS => ?_)
        refine lv_iload hx hb d_GlyphPositionsModel_checkCoverage_158 (lv_at hl 4 rfl) ?_
        refine lv_icmp_ne (tgt := 167) hx hb d_GlyphPositionsModel_checkCoverage_160 (by decide) (fun c1 => ?_) (fun c1 => ?_)
        · rw [if_neg c1] at hf
          refine lv_iconst (v := 0) hx hb d_GlyphPositionsModel_checkCoverage_167 (by decide) ?_
          exact J_168 _ _ _ _ _ _ _ _ _ hf hP hS (lv_sub hl [0, 1, 2, 3, 4, 5, 7, 8] rfl)
        rw [if_pos c1] at hf
        refine lv_iconst (v := 1) hx hb d_GlyphPositionsModel_checkCoverage_163 (by decide) ?_
        refine lv_goto (tgt := 168) hx hb d_GlyphPositionsModel_checkCoverage_164 (by decide) ?_
        exact J_168 _ _ _ _ _ _ _ _ _ hf hP hS (lv_sub hl [0, 1, 2, 3, 4, 5, 7, 8] rfl)
      have J_138 : ∀ (x6_138 x7_138 : Int32) (x8_138 : Int64) (x10_138 x11_138 : Int32) (st_138 : QSt) (H : Heap) (locs : List Loc) (ls : Array Slot), xGlyphPositionsModel_checkCoverage_138 N (xGlyphPositionsModel_checkCoverage_49 N x1_49 x3_49 x4_49 n_49) x1_49 x3_49 x4_49 x6_138 x7_138 x8_138 x10_138 x11_138 st_138 = some (ro, so) → va_P G.1 vwCl (wX G st_138) H → va_S A s.heap H locs → lv_has ls 12 [(0, .ref (G.2.2 36)), (1, .long x1_49), (3, .int x3_49), (4, .int x4_49), (6, .int x6_138), (7, .int x7_138), (8, .long x8_138), (10, .int x10_138), (11, .int x11_138)] → W p l e ({ frames := 2, cells := 0, slots := 0, locals := 44 } : Room) s m args below meth c H locs 0 0 (q_Zi below args s G.1 (wX G) ro so A) (F0 m 138 ls [.ref (G.2.2 36)]) := by
        intro x6_138 x7_138 x8_138 x10_138 x11_138 st_138 H locs ls hf hP hS hl
        unfold xGlyphPositionsModel_checkCoverage_138 at hf
        refine lv_iconst (v := 0) hx hb d_GlyphPositionsModel_checkCoverage_138 (by decide) ?_
        exact J_139 _ _ _ _ _ _ _ _ _ _ hf hP hS hl
      have J_117 : ∀ (x5_117 x6_117 x7_117 : Int32) (x8_117 : Int64) (x10_117 w0_117 : Int32) (st_117 : QSt) (H : Heap) (locs : List Loc) (ls : Array Slot), xGlyphPositionsModel_checkCoverage_117 N (xGlyphPositionsModel_checkCoverage_49 N x1_49 x3_49 x4_49 n_49) x1_49 x3_49 x4_49 x5_117 x6_117 x7_117 x8_117 x10_117 w0_117 st_117 = some (ro, so) → va_P G.1 vwCl (wX G st_117) H → va_S A s.heap H locs → lv_has ls 12 [(0, .ref (G.2.2 36)), (1, .long x1_49), (3, .int x3_49), (4, .int x4_49), (5, .int x5_117), (6, .int x6_117), (7, .int x7_117), (8, .long x8_117), (10, .int x10_117)] → W p l e ({ frames := 2, cells := 0, slots := 0, locals := 44 } : Room) s m args below meth c H locs 0 0 (q_Zi below args s G.1 (wX G) ro so A) (F0 m 117 ls [.int w0_117]) := by
        intro x5_117 x6_117 x7_117 x8_117 x10_117 w0_117 st_117 H locs ls hf hP hS hl
        unfold xGlyphPositionsModel_checkCoverage_117 at hf
        refine lv_istore (lv' := [(11, .int w0_117), (0, .ref (G.2.2 36)), (1, .long x1_49), (3, .int x3_49), (4, .int x4_49), (5, .int x5_117), (6, .int x6_117), (7, .int x7_117), (8, .long x8_117), (10, .int x10_117)]) hx hb d_GlyphPositionsModel_checkCoverage_117 hl (by decide) rfl (fun ls hl => ?_)
        refine lv_aload_n hx hb d_GlyphPositionsModel_checkCoverage_119 rfl (lv_at hl 1 rfl) ?_
        refine lv_iload hx hb d_GlyphPositionsModel_checkCoverage_120 (lv_at hl 9 rfl) ?_
        refine lv_iload hx hb d_GlyphPositionsModel_checkCoverage_122 (lv_at hl 5 rfl) ?_
        refine lv_icmp_le (tgt := 138) hx hb d_GlyphPositionsModel_checkCoverage_124 (by decide) (fun c1 => ?_) (fun c1 => ?_)
        · rw [if_pos c1] at hf
          exact J_138 _ _ _ _ _ _ _ _ _ hf hP hS (lv_sub hl [1, 2, 3, 4, 6, 7, 8, 9, 0] rfl)
        rw [if_neg c1] at hf
        refine lv_iload hx hb d_GlyphPositionsModel_checkCoverage_127 (lv_at hl 9 rfl) ?_
        refine lv_iload hx hb d_GlyphPositionsModel_checkCoverage_129 (lv_at hl 0 rfl) ?_
        refine lv_icmp_gt (tgt := 138) hx hb d_GlyphPositionsModel_checkCoverage_131 (by decide) (fun c1 => ?_) (fun c1 => ?_)
        · rw [if_pos c1] at hf
          exact J_138 _ _ _ _ _ _ _ _ _ hf hP hS (lv_sub hl [1, 2, 3, 4, 6, 7, 8, 9, 0] rfl)
        rw [if_neg c1] at hf
        refine lv_iconst (v := 1) hx hb d_GlyphPositionsModel_checkCoverage_134 (by decide) ?_
        refine lv_goto (tgt := 139) hx hb d_GlyphPositionsModel_checkCoverage_135 (by decide) ?_
        exact J_139 _ _ _ _ _ _ _ _ _ _ hf hP hS (lv_sub hl [1, 2, 3, 4, 6, 7, 8, 9, 0] rfl)
      have J_82 : ∀ (x5_82 x6_82 x7_82 : Int32) (w0_82 w1_82 : Int64) (st_82 : QSt) (H : Heap) (locs : List Loc) (ls : Array Slot), xGlyphPositionsModel_checkCoverage_82 N (xGlyphPositionsModel_checkCoverage_49 N x1_49 x3_49 x4_49 n_49) x1_49 x3_49 x4_49 x5_82 x6_82 x7_82 w0_82 w1_82 st_82 = some (ro, so) → va_P G.1 vwCl (wX G st_82) H → va_S A s.heap H locs → lv_has ls 12 [(0, .ref (G.2.2 36)), (1, .long x1_49), (3, .int x3_49), (4, .int x4_49), (5, .int x5_82), (6, .int x6_82), (7, .int x7_82)] → W p l e ({ frames := 2, cells := 0, slots := 0, locals := 44 } : Room) s m args below meth c H locs 0 0 (q_Zi below args s G.1 (wX G) ro so A) (F0 m 82 ls [.long w1_82, .long w0_82]) := by
        intro x5_82 x6_82 x7_82 w0_82 w1_82 st_82 H locs ls hf hP hS hl
        unfold xGlyphPositionsModel_checkCoverage_82 at hf
        refine lv_iload hx hb d_GlyphPositionsModel_checkCoverage_82 (lv_at hl 6 rfl) ?_
        refine lv_i2l (v := x7_82.toInt64) hx hb d_GlyphPositionsModel_checkCoverage_84 rfl ?_
        refine lv_lmul hx hb d_GlyphPositionsModel_checkCoverage_85 ?_
        refine lv_ladd hx hb d_GlyphPositionsModel_checkCoverage_86 ?_
        obtain ⟨x8_1005, e_x8_1005, hf⟩ := q_lt_some hf
        refine q_topl e_x8_1005 ?_
        refine lv_lstore (lv' := [(8, .long x8_1005), (0, .ref (G.2.2 36)), (1, .long x1_49), (3, .int x3_49), (4, .int x4_49), (5, .int x5_82), (6, .int x6_82), (7, .int x7_82)]) hx hb d_GlyphPositionsModel_checkCoverage_87 hl (by decide) rfl (fun ls hl => ?_)
        refine lv_aload_n hx hb d_GlyphPositionsModel_checkCoverage_89 rfl (lv_at hl 1 rfl) ?_
        refine lv_lload hx hb d_GlyphPositionsModel_checkCoverage_90 (lv_at hl 0 rfl) ?_
        obtain ⟨r6, sr6, h_r6, hf⟩ := q_bm_some hf
        refine q_callVi (As := [.long x8_1005]) (rest := []) (q0 := 36) hC (c_xGlyphPositionsModel_u16 l G h_r6) cal_GlyphPositionsModel_u16 wq_151 ⟨rfl, rfl, Nat.le_of_ble_eq_true rfl, Nat.le_of_ble_eq_true rfl⟩ rfl rfl hP hD hA hS rfl hl.1 rfl (Nat.le_of_ble_eq_true rfl) d_GlyphPositionsModel_checkCoverage_92 (fun H locs hP hS => ?_)
        refine lv_istore (lv' := [(10, .int r6), (8, .long x8_1005), (0, .ref (G.2.2 36)), (1, .long x1_49), (3, .int x3_49), (4, .int x4_49), (5, .int x5_82), (6, .int x6_82), (7, .int x7_82)]) hx hb d_GlyphPositionsModel_checkCoverage_95 hl (by decide) rfl (fun ls hl => ?_)
        refine lv_iload_n hx hb d_GlyphPositionsModel_checkCoverage_97 rfl (lv_at hl 4 rfl) ?_
        refine lv_iconst (v := 1) hx hb d_GlyphPositionsModel_checkCoverage_98 (by decide) ?_
        refine lv_icmp_ne (tgt := 107) hx hb d_GlyphPositionsModel_checkCoverage_99 (by decide) (fun c1 => ?_) (fun c1 => ?_)
        rotate_left
        · rw [if_pos c1] at hf
          refine lv_iload hx hb d_GlyphPositionsModel_checkCoverage_102 (lv_at hl 0 rfl) ?_
          refine lv_goto (tgt := 117) hx hb d_GlyphPositionsModel_checkCoverage_104 (by decide) ?_
          exact J_117 _ _ _ _ _ _ _ _ _ _ hf hP hS (lv_sub hl [2, 3, 4, 5, 6, 7, 8, 1, 0] rfl)
        rw [if_neg c1] at hf
        refine lv_aload_n hx hb d_GlyphPositionsModel_checkCoverage_107 rfl (lv_at hl 2 rfl) ?_
        refine lv_lload hx hb d_GlyphPositionsModel_checkCoverage_108 (lv_at hl 1 rfl) ?_
        refine lv_ldc2 (v := 2) hx hb hown (hts _ wq_149) d_GlyphPositionsModel_checkCoverage_110 ?_
        refine lv_ladd hx hb d_GlyphPositionsModel_checkCoverage_113 ?_
        obtain ⟨r7, sr7, h_r7, hf⟩ := q_bm_some hf
        refine q_callVi (As := [.long (x8_1005 + 2)]) (rest := []) (q0 := 36) hC (c_xGlyphPositionsModel_u16 l G h_r7) cal_GlyphPositionsModel_u16 wq_151 ⟨rfl, rfl, Nat.le_of_ble_eq_true rfl, Nat.le_of_ble_eq_true rfl⟩ rfl rfl hP hD hA hS rfl hl.1 rfl (Nat.le_of_ble_eq_true rfl) d_GlyphPositionsModel_checkCoverage_114 (fun H locs hP hS => ?_)
        exact J_117 _ _ _ _ _ _ _ _ _ _ hf hP hS (lv_sub hl [2, 3, 4, 5, 6, 7, 8, 1, 0] rfl)
      intro x5_49 x6_49 x7_49 st_49 H locs ls hf hP hS hl
      rw [xGlyphPositionsModel_checkCoverage_49] at hf
      refine lv_iload hx hb d_GlyphPositionsModel_checkCoverage_49 (lv_at hl 6 rfl) ?_
      refine lv_iload hx hb d_GlyphPositionsModel_checkCoverage_51 (lv_at hl 3 rfl) ?_
      refine lv_icmp_ge (tgt := 193) hx hb d_GlyphPositionsModel_checkCoverage_53 (by decide) (fun c1 => ?_) (fun c1 => ?_)
      · rw [if_pos c1] at hf
        exact J_193 _ _ _ _ _ hf hP hS (lv_sub hl [0, 5] rfl)
      rw [if_neg c1] at hf
      refine lv_aload_n hx hb d_GlyphPositionsModel_checkCoverage_56 rfl (lv_at hl 0 rfl) ?_
      refine xg_36_bad hC hP wq_147 d_GlyphPositionsModel_checkCoverage_57 ?_
      refine lv_if_ne (tgt := 193) hx hb d_GlyphPositionsModel_checkCoverage_60 (by decide) (fun c1 => ?_) (fun c1 => ?_)
      · rw [if_neg c1] at hf
        exact J_193 _ _ _ _ _ hf hP hS (lv_sub hl [0, 5] rfl)
      rw [if_pos c1] at hf
      refine lv_lload_n hx hb d_GlyphPositionsModel_checkCoverage_63 rfl (lv_at hl 1 rfl) ?_
      refine lv_ldc2 (v := 4) hx hb hown (hts _ wq_150) d_GlyphPositionsModel_checkCoverage_64 ?_
      refine lv_ladd hx hb d_GlyphPositionsModel_checkCoverage_67 ?_
      refine lv_iload_n hx hb d_GlyphPositionsModel_checkCoverage_68 rfl (lv_at hl 2 rfl) ?_
      refine lv_iconst (v := 1) hx hb d_GlyphPositionsModel_checkCoverage_69 (by decide) ?_
      refine lv_icmp_ne (tgt := 79) hx hb d_GlyphPositionsModel_checkCoverage_70 (by decide) (fun c1 => ?_) (fun c1 => ?_)
      · rw [if_neg c1] at hf
        refine lv_ldc2 (v := 6) hx hb hown (hts _ wq_152) d_GlyphPositionsModel_checkCoverage_79 ?_
        exact J_82 _ _ _ _ _ _ _ _ _ hf hP hS hl
      rw [if_pos c1] at hf
      refine lv_ldc2 (v := 2) hx hb hown (hts _ wq_149) d_GlyphPositionsModel_checkCoverage_73 ?_
      refine lv_goto (tgt := 82) hx hb d_GlyphPositionsModel_checkCoverage_76 (by decide) ?_
      exact J_82 _ _ _ _ _ _ _ _ _ hf hP hS hl
  have J_37 : ∀ (x1_37 : Int64) (x3_37 x4_37 w1_37 : Int32) (st_37 : QSt) (H : Heap) (locs : List Loc) (ls : Array Slot), xGlyphPositionsModel_checkCoverage_37 N x1_37 x3_37 x4_37 w1_37 st_37 = some (ro, so) → va_P G.1 vwCl (wX G st_37) H → va_S A s.heap H locs → lv_has ls 12 [(0, .ref (G.2.2 36)), (1, .long x1_37), (3, .int x3_37), (4, .int x4_37)] → W p l e ({ frames := 2, cells := 0, slots := 0, locals := 44 } : Room) s m args below meth c H locs 0 0 (q_Zi below args s G.1 (wX G) ro so A) (F0 m 37 ls [.int w1_37, .ref (G.2.2 36)]) := by
    intro x1_37 x3_37 x4_37 w1_37 st_37 H locs ls hf hP hS hl
    unfold xGlyphPositionsModel_checkCoverage_37 at hf
    obtain ⟨sr4, h_r4, hf⟩ := q_bv_some hf
    refine q_callVv (As := [.int w1_37]) (rest := []) (q0 := 36) hC (c_xGlyphPositionsModel_need l G h_r4) cal_GlyphPositionsModel_need wq_148 ⟨rfl, rfl, Nat.le_of_ble_eq_true rfl, Nat.le_of_ble_eq_true rfl⟩ rfl rfl hP hD hA hS rfl hl.1 rfl (Nat.le_of_ble_eq_true rfl) d_GlyphPositionsModel_checkCoverage_37 (fun H locs hP hS => ?_)
    refine lv_iconst (v := (-1)) hx hb d_GlyphPositionsModel_checkCoverage_40 (by decide) ?_
    refine lv_istore (lv' := [(5, .int (-1)), (0, .ref (G.2.2 36)), (1, .long x1_37), (3, .int x3_37), (4, .int x4_37)]) hx hb d_GlyphPositionsModel_checkCoverage_41 hl (by decide) rfl (fun ls hl => ?_)
    refine lv_iconst (v := 0) hx hb d_GlyphPositionsModel_checkCoverage_43 (by decide) ?_
    refine lv_istore (lv' := [(6, .int 0), (5, .int (-1)), (0, .ref (G.2.2 36)), (1, .long x1_37), (3, .int x3_37), (4, .int x4_37)]) hx hb d_GlyphPositionsModel_checkCoverage_44 hl (by decide) rfl (fun ls hl => ?_)
    refine lv_iconst (v := 0) hx hb d_GlyphPositionsModel_checkCoverage_46 (by decide) ?_
    refine lv_istore (lv' := [(7, .int 0), (6, .int 0), (5, .int (-1)), (0, .ref (G.2.2 36)), (1, .long x1_37), (3, .int x3_37), (4, .int x4_37)]) hx hb d_GlyphPositionsModel_checkCoverage_47 hl (by decide) rfl (fun ls hl => ?_)
    exact L_49 _ _ _ _ _ _ _ _ _ _ _ hf hP hS (lv_sub hl [3, 4, 5, 6, 2, 1, 0] rfl)
  have J_32 : ∀ (x1_32 : Int64) (x3_32 x4_32 : Int32) (st_32 : QSt) (H : Heap) (locs : List Loc) (ls : Array Slot), xGlyphPositionsModel_checkCoverage_32 N x1_32 x3_32 x4_32 st_32 = some (ro, so) → va_P G.1 vwCl (wX G st_32) H → va_S A s.heap H locs → lv_has ls 12 [(0, .ref (G.2.2 36)), (1, .long x1_32), (3, .int x3_32), (4, .int x4_32)] → W p l e ({ frames := 2, cells := 0, slots := 0, locals := 44 } : Room) s m args below meth c H locs 0 0 (q_Zi below args s G.1 (wX G) ro so A) (F0 m 32 ls [.ref (G.2.2 36)]) := by
    intro x1_32 x3_32 x4_32 st_32 H locs ls hf hP hS hl
    unfold xGlyphPositionsModel_checkCoverage_32 at hf
    refine lv_iconst (v := 1) hx hb d_GlyphPositionsModel_checkCoverage_32 (by decide) ?_
    refine lv_goto (tgt := 37) hx hb d_GlyphPositionsModel_checkCoverage_33 (by decide) ?_
    exact J_37 _ _ _ _ _ _ _ _ hf hP hS hl
  unfold xGlyphPositionsModel_checkCoverage at hf
  refine lv_aload_n hx hb d_GlyphPositionsModel_checkCoverage_0 rfl (lv_at hl 0 rfl) ?_
  obtain ⟨sr1, h_r1, hf⟩ := q_bv_some hf
  refine q_callVv (As := []) (rest := []) (q0 := 36) hC (c_xGlyphPositionsModel_look l G h_r1) cal_GlyphPositionsModel_look wq_163 ⟨rfl, rfl, Nat.le_of_ble_eq_true rfl, Nat.le_of_ble_eq_true rfl⟩ rfl rfl hP hD hA hS rfl hl.1 rfl (Nat.le_of_ble_eq_true rfl) d_GlyphPositionsModel_checkCoverage_1 (fun H locs hP hS => ?_)
  refine lv_aload_n hx hb d_GlyphPositionsModel_checkCoverage_4 rfl (lv_at hl 0 rfl) ?_
  refine lv_lload_n hx hb d_GlyphPositionsModel_checkCoverage_5 rfl (lv_at hl 1 rfl) ?_
  obtain ⟨r2, sr2, h_r2, hf⟩ := q_bm_some hf
  refine q_callVi (As := [.long x1]) (rest := []) (q0 := 36) hC (c_xGlyphPositionsModel_u16 l G h_r2) cal_GlyphPositionsModel_u16 wq_151 ⟨rfl, rfl, Nat.le_of_ble_eq_true rfl, Nat.le_of_ble_eq_true rfl⟩ rfl rfl hP hD hA hS rfl hl.1 rfl (Nat.le_of_ble_eq_true rfl) d_GlyphPositionsModel_checkCoverage_6 (fun H locs hP hS => ?_)
  refine lv_istore_n (lv' := [(3, .int r2), (0, .ref (G.2.2 36)), (1, .long x1)]) hx hb d_GlyphPositionsModel_checkCoverage_9 rfl hl (by decide) rfl (fun ls hl => ?_)
  refine lv_aload_n hx hb d_GlyphPositionsModel_checkCoverage_10 rfl (lv_at hl 1 rfl) ?_
  refine lv_lload_n hx hb d_GlyphPositionsModel_checkCoverage_11 rfl (lv_at hl 2 rfl) ?_
  refine lv_ldc2 (v := 2) hx hb hown (hts _ wq_149) d_GlyphPositionsModel_checkCoverage_12 ?_
  refine lv_ladd hx hb d_GlyphPositionsModel_checkCoverage_15 ?_
  obtain ⟨r3, sr3, h_r3, hf⟩ := q_bm_some hf
  refine q_callVi (As := [.long (x1 + 2)]) (rest := []) (q0 := 36) hC (c_xGlyphPositionsModel_u16 l G h_r3) cal_GlyphPositionsModel_u16 wq_151 ⟨rfl, rfl, Nat.le_of_ble_eq_true rfl, Nat.le_of_ble_eq_true rfl⟩ rfl rfl hP hD hA hS rfl hl.1 rfl (Nat.le_of_ble_eq_true rfl) d_GlyphPositionsModel_checkCoverage_16 (fun H locs hP hS => ?_)
  refine lv_istore (lv' := [(4, .int r3), (3, .int r2), (0, .ref (G.2.2 36)), (1, .long x1)]) hx hb d_GlyphPositionsModel_checkCoverage_19 hl (by decide) rfl (fun ls hl => ?_)
  refine lv_aload_n hx hb d_GlyphPositionsModel_checkCoverage_21 rfl (lv_at hl 2 rfl) ?_
  refine lv_iload_n hx hb d_GlyphPositionsModel_checkCoverage_22 rfl (lv_at hl 1 rfl) ?_
  refine lv_iconst (v := 1) hx hb d_GlyphPositionsModel_checkCoverage_23 (by decide) ?_
  refine lv_icmp_eq (tgt := 32) hx hb d_GlyphPositionsModel_checkCoverage_24 (by decide) (fun c1 => ?_) (fun c1 => ?_)
  · rw [if_pos c1] at hf
    exact J_32 _ _ _ _ _ _ _ hf hP hS (lv_sub hl [2, 3, 1, 0] rfl)
  rw [if_neg c1] at hf
  refine lv_iload_n hx hb d_GlyphPositionsModel_checkCoverage_27 rfl (lv_at hl 1 rfl) ?_
  refine lv_iconst (v := 2) hx hb d_GlyphPositionsModel_checkCoverage_28 (by decide) ?_
  refine lv_icmp_ne (tgt := 36) hx hb d_GlyphPositionsModel_checkCoverage_29 (by decide) (fun c1 => ?_) (fun c1 => ?_)
  rotate_left
  · rw [if_pos c1] at hf
    exact J_32 _ _ _ _ _ _ _ hf hP hS (lv_sub hl [2, 3, 1, 0] rfl)
  rw [if_neg c1] at hf
  refine lv_iconst (v := 0) hx hb d_GlyphPositionsModel_checkCoverage_36 (by decide) ?_
  exact J_37 _ _ _ _ _ _ _ _ hf hP hS (lv_sub hl [2, 3, 1, 0] rfl)
def xGlyphPositionsModel_checkAnchor_26 (x1_26 : Int64) (w1_26 : Int32) (st_26 : QSt) : Option QSt :=
  q_bv (xGlyphPositionsModel_need w1_26 st_26) (fun sr3 => q_bm (xGlyphPositionsModel_u16 (x1_26 + 2) sr3) (fun r4 sr4 => q_bm (xGlyphPositionsModel_u16 (x1_26 + 4) sr4) (fun r5 sr5 => some sr5)))
def xGlyphPositionsModel_checkAnchor_25 (x1_25 : Int64) (st_25 : QSt) : Option QSt :=
  xGlyphPositionsModel_checkAnchor_26 x1_25 0 st_25
def xGlyphPositionsModel_checkAnchor (x1 : Int64) (st : QSt) : Option QSt :=
  q_bv (xGlyphPositionsModel_look st) (fun sr1 => q_bm (xGlyphPositionsModel_u16 x1 sr1) (fun r2 sr2 => if r2 < 1 then (xGlyphPositionsModel_checkAnchor_25 x1 sr2) else (if 3 < r2 then (xGlyphPositionsModel_checkAnchor_25 x1 sr2) else (xGlyphPositionsModel_checkAnchor_26 x1 1 sr2))))
set_option maxHeartbeats 4000000 in
set_option maxRecDepth 100000 in
theorem c_xGlyphPositionsModel_checkAnchor (l : Launch) (G : XG) {x1 : Int64} {st : QSt} {so : QSt} (hf : xGlyphPositionsModel_checkAnchor x1 st = some so) : q_Mv l y_GlyphPositionsModel_checkAnchor b_GlyphPositionsModel_checkAnchor 4 ({ frames := 2, cells := 0, slots := 0, locals := 44 } : Room) G.1 (xT G) (wX G) [.ref (G.2.2 36), .long x1] st so := by
  refine q_Mv_of (by decide) (Nat.le_of_ble_eq_true rfl) (wX_fst G) ?_
  intro p e s m args below meth c A ls hC hr hlk hT hD hA hP hS hl
  have hx := hC.1.1
  have hb := hC.1.2.1
  have hown := hC.1.2.2.2.1
  have hts := hC.1.2.2.2.2
  have hl : lv_has ls 4 [(0, .ref (G.2.2 36)), (1, .long x1)] := hl
  have J_26 : ∀ (x1_26 : Int64) (w1_26 : Int32) (st_26 : QSt) (H : Heap) (locs : List Loc) (ls : Array Slot), xGlyphPositionsModel_checkAnchor_26 x1_26 w1_26 st_26 = some so → va_P G.1 vwCl (wX G st_26) H → va_S A s.heap H locs → lv_has ls 4 [(0, .ref (G.2.2 36)), (1, .long x1_26)] → W p l e ({ frames := 2, cells := 0, slots := 0, locals := 44 } : Room) s m args below meth c H locs 0 0 (q_Zv below args s G.1 (wX G) so A) (F0 m 26 ls [.int w1_26, .ref (G.2.2 36)]) := by
    intro x1_26 w1_26 st_26 H locs ls hf hP hS hl
    unfold xGlyphPositionsModel_checkAnchor_26 at hf
    obtain ⟨sr3, h_r3, hf⟩ := q_bv_some hf
    refine q_callVv (As := [.int w1_26]) (rest := []) (q0 := 36) hC (c_xGlyphPositionsModel_need l G h_r3) cal_GlyphPositionsModel_need wq_148 ⟨rfl, rfl, Nat.le_of_ble_eq_true rfl, Nat.le_of_ble_eq_true rfl⟩ rfl rfl hP hD hA hS rfl hl.1 rfl (Nat.le_of_ble_eq_true rfl) d_GlyphPositionsModel_checkAnchor_26 (fun H locs hP hS => ?_)
    refine lv_aload_n hx hb d_GlyphPositionsModel_checkAnchor_29 rfl (lv_at hl 0 rfl) ?_
    refine lv_lload_n hx hb d_GlyphPositionsModel_checkAnchor_30 rfl (lv_at hl 1 rfl) ?_
    refine lv_ldc2 (v := 2) hx hb hown (hts _ wq_149) d_GlyphPositionsModel_checkAnchor_31 ?_
    refine lv_ladd hx hb d_GlyphPositionsModel_checkAnchor_34 ?_
    obtain ⟨r4, sr4, h_r4, hf⟩ := q_bm_some hf
    refine q_callVi (As := [.long (x1_26 + 2)]) (rest := []) (q0 := 36) hC (c_xGlyphPositionsModel_u16 l G h_r4) cal_GlyphPositionsModel_u16 wq_151 ⟨rfl, rfl, Nat.le_of_ble_eq_true rfl, Nat.le_of_ble_eq_true rfl⟩ rfl rfl hP hD hA hS rfl hl.1 rfl (Nat.le_of_ble_eq_true rfl) d_GlyphPositionsModel_checkAnchor_35 (fun H locs hP hS => ?_)
    refine lv_pop hx hb d_GlyphPositionsModel_checkAnchor_38 rfl ?_
    refine lv_aload_n hx hb d_GlyphPositionsModel_checkAnchor_39 rfl (lv_at hl 0 rfl) ?_
    refine lv_lload_n hx hb d_GlyphPositionsModel_checkAnchor_40 rfl (lv_at hl 1 rfl) ?_
    refine lv_ldc2 (v := 4) hx hb hown (hts _ wq_150) d_GlyphPositionsModel_checkAnchor_41 ?_
    refine lv_ladd hx hb d_GlyphPositionsModel_checkAnchor_44 ?_
    obtain ⟨r5, sr5, h_r5, hf⟩ := q_bm_some hf
    refine q_callVi (As := [.long (x1_26 + 4)]) (rest := []) (q0 := 36) hC (c_xGlyphPositionsModel_u16 l G h_r5) cal_GlyphPositionsModel_u16 wq_151 ⟨rfl, rfl, Nat.le_of_ble_eq_true rfl, Nat.le_of_ble_eq_true rfl⟩ rfl rfl hP hD hA hS rfl hl.1 rfl (Nat.le_of_ble_eq_true rfl) d_GlyphPositionsModel_checkAnchor_45 (fun H locs hP hS => ?_)
    refine lv_pop hx hb d_GlyphPositionsModel_checkAnchor_48 rfl ?_
    exact q_vret hC hr hlk hf hP hS d_GlyphPositionsModel_checkAnchor_49
  have J_25 : ∀ (x1_25 : Int64) (st_25 : QSt) (H : Heap) (locs : List Loc) (ls : Array Slot), xGlyphPositionsModel_checkAnchor_25 x1_25 st_25 = some so → va_P G.1 vwCl (wX G st_25) H → va_S A s.heap H locs → lv_has ls 4 [(0, .ref (G.2.2 36)), (1, .long x1_25)] → W p l e ({ frames := 2, cells := 0, slots := 0, locals := 44 } : Room) s m args below meth c H locs 0 0 (q_Zv below args s G.1 (wX G) so A) (F0 m 25 ls [.ref (G.2.2 36)]) := by
    intro x1_25 st_25 H locs ls hf hP hS hl
    unfold xGlyphPositionsModel_checkAnchor_25 at hf
    refine lv_iconst (v := 0) hx hb d_GlyphPositionsModel_checkAnchor_25 (by decide) ?_
    exact J_26 _ _ _ _ _ _ hf hP hS hl
  unfold xGlyphPositionsModel_checkAnchor at hf
  refine lv_aload_n hx hb d_GlyphPositionsModel_checkAnchor_0 rfl (lv_at hl 0 rfl) ?_
  obtain ⟨sr1, h_r1, hf⟩ := q_bv_some hf
  refine q_callVv (As := []) (rest := []) (q0 := 36) hC (c_xGlyphPositionsModel_look l G h_r1) cal_GlyphPositionsModel_look wq_163 ⟨rfl, rfl, Nat.le_of_ble_eq_true rfl, Nat.le_of_ble_eq_true rfl⟩ rfl rfl hP hD hA hS rfl hl.1 rfl (Nat.le_of_ble_eq_true rfl) d_GlyphPositionsModel_checkAnchor_1 (fun H locs hP hS => ?_)
  refine lv_aload_n hx hb d_GlyphPositionsModel_checkAnchor_4 rfl (lv_at hl 0 rfl) ?_
  refine lv_lload_n hx hb d_GlyphPositionsModel_checkAnchor_5 rfl (lv_at hl 1 rfl) ?_
  obtain ⟨r2, sr2, h_r2, hf⟩ := q_bm_some hf
  refine q_callVi (As := [.long x1]) (rest := []) (q0 := 36) hC (c_xGlyphPositionsModel_u16 l G h_r2) cal_GlyphPositionsModel_u16 wq_151 ⟨rfl, rfl, Nat.le_of_ble_eq_true rfl, Nat.le_of_ble_eq_true rfl⟩ rfl rfl hP hD hA hS rfl hl.1 rfl (Nat.le_of_ble_eq_true rfl) d_GlyphPositionsModel_checkAnchor_6 (fun H locs hP hS => ?_)
  refine lv_istore_n (lv' := [(3, .int r2), (0, .ref (G.2.2 36)), (1, .long x1)]) hx hb d_GlyphPositionsModel_checkAnchor_9 rfl hl (by decide) rfl (fun ls hl => ?_)
  refine lv_aload_n hx hb d_GlyphPositionsModel_checkAnchor_10 rfl (lv_at hl 1 rfl) ?_
  refine lv_iload_n hx hb d_GlyphPositionsModel_checkAnchor_11 rfl (lv_at hl 0 rfl) ?_
  refine lv_iconst (v := 1) hx hb d_GlyphPositionsModel_checkAnchor_12 (by decide) ?_
  refine lv_icmp_lt (tgt := 25) hx hb d_GlyphPositionsModel_checkAnchor_13 (by decide) (fun c1 => ?_) (fun c1 => ?_)
  · rw [if_pos c1] at hf
    exact J_25 _ _ _ _ _ hf hP hS (lv_sub hl [1, 2] rfl)
  rw [if_neg c1] at hf
  refine lv_iload_n hx hb d_GlyphPositionsModel_checkAnchor_16 rfl (lv_at hl 0 rfl) ?_
  refine lv_iconst (v := 3) hx hb d_GlyphPositionsModel_checkAnchor_17 (by decide) ?_
  refine lv_icmp_gt (tgt := 25) hx hb d_GlyphPositionsModel_checkAnchor_18 (by decide) (fun c1 => ?_) (fun c1 => ?_)
  · rw [if_pos c1] at hf
    exact J_25 _ _ _ _ _ hf hP hS (lv_sub hl [1, 2] rfl)
  rw [if_neg c1] at hf
  refine lv_iconst (v := 1) hx hb d_GlyphPositionsModel_checkAnchor_21 (by decide) ?_
  refine lv_goto (tgt := 26) hx hb d_GlyphPositionsModel_checkAnchor_22 (by decide) ?_
  exact J_26 _ _ _ _ _ _ hf hP hS (lv_sub hl [1, 2] rfl)
def xGlyphPositionsModel_checkMarks_100 (N : Nat) (rec_58 : Int32 → QSt → Option QSt) (x3_58 : Int32) (x4_58 : Int64) (x6_58 x7_100 : Int32) (w1_100 : Int32) (st_100 : QSt) : Option QSt :=
  q_bv (xGlyphPositionsModel_need w1_100 st_100) (fun sr8 => q_bm (xGlyphPositionsModel_u16 ((x4_58 + 4) + ((4 : Int64) * x7_100.toInt64)) sr8) (fun r9 sr9 => q_bv (xGlyphPositionsModel_checkAnchor (x4_58 + r9.toInt64) sr9) (fun sr10 => rec_58 (x7_100 + 1) sr10)))
def xGlyphPositionsModel_checkMarks_58 (N : Nat) (x3_58 : Int32) (x4_58 : Int64) (x6_58 : Int32) : Nat → Int32 → QSt → Option QSt
  | 0, _, _ => none
  | n_58 + 1, x7_58, st_58 => if x6_58 ≤ x7_58 then (some st_58) else (if (st_58.1 14) = 0 then (q_bm (xGlyphPositionsModel_u16 ((x4_58 + 2) + ((4 : Int64) * x7_58.toInt64)) st_58) (fun r7 sr7 => if x3_58 ≤ r7 then (xGlyphPositionsModel_checkMarks_100 N (xGlyphPositionsModel_checkMarks_58 N x3_58 x4_58 x6_58 n_58) x3_58 x4_58 x6_58 x7_58 0 sr7) else (xGlyphPositionsModel_checkMarks_100 N (xGlyphPositionsModel_checkMarks_58 N x3_58 x4_58 x6_58 n_58) x3_58 x4_58 x6_58 x7_58 1 sr7))) else (some st_58))
def xGlyphPositionsModel_checkMarks_52 (N : Nat) (x3_52 : Int32) (x4_52 : Int64) (x6_52 : Int32) (w1_52 : Int32) (st_52 : QSt) : Option QSt :=
  q_bv (xGlyphPositionsModel_need w1_52 st_52) (fun sr6 => xGlyphPositionsModel_checkMarks_58 N x3_52 x4_52 x6_52 N 0 sr6)
def xGlyphPositionsModel_checkMarks (N : Nat) (x1 : Int64) (x3 : Int32) (st : QSt) : Option QSt :=
  q_bm (xGlyphPositionsModel_u16 (x1 + 8) st) (fun r1 sr1 => q_lt (x1 + r1.toInt64) (fun x4_1002 => q_bm (xGlyphPositionsModel_atMost x4_1002 256 sr1) (fun r3 sr3 => q_bm (xGlyphPositionsModel_u16 (x1 + 2) sr3) (fun r4 sr4 => q_bm (xGlyphPositionsModel_checkCoverage N (x1 + r4.toInt64) sr4) (fun r5 sr5 => if r5 = r3 then (xGlyphPositionsModel_checkMarks_52 N x3 x4_1002 r3 1 sr5) else (xGlyphPositionsModel_checkMarks_52 N x3 x4_1002 r3 0 sr5))))))
set_option maxHeartbeats 4000000 in
set_option maxRecDepth 100000 in
theorem c_xGlyphPositionsModel_checkMarks (l : Launch) (G : XG) {N : Nat} {x1 : Int64} {x3 : Int32} {st : QSt} {so : QSt} (hf : xGlyphPositionsModel_checkMarks N x1 x3 st = some so) : q_Mv l y_GlyphPositionsModel_checkMarks b_GlyphPositionsModel_checkMarks 8 ({ frames := 3, cells := 0, slots := 0, locals := 75 } : Room) G.1 (xT G) (wX G) [.ref (G.2.2 36), .long x1, .int x3] st so := by
  refine q_Mv_of (by decide) (Nat.le_of_ble_eq_true rfl) (wX_fst G) ?_
  intro p e s m args below meth c A ls hC hr hlk hT hD hA hP hS hl
  have hx := hC.1.1
  have hb := hC.1.2.1
  have hown := hC.1.2.2.2.1
  have hts := hC.1.2.2.2.2
  have hl : lv_has ls 8 [(0, .ref (G.2.2 36)), (1, .long x1), (3, .int x3)] := hl
  have L_58 : ∀ (x3_58 : Int32) (x4_58 : Int64) (x6_58 : Int32) (n_58 : Nat) (x7_58 : Int32) (st_58 : QSt) (H : Heap) (locs : List Loc) (ls : Array Slot), xGlyphPositionsModel_checkMarks_58 N x3_58 x4_58 x6_58 n_58 x7_58 st_58 = some so → va_P G.1 vwCl (wX G st_58) H → va_S A s.heap H locs → lv_has ls 8 [(0, .ref (G.2.2 36)), (3, .int x3_58), (4, .long x4_58), (6, .int x6_58), (7, .int x7_58)] → W p l e ({ frames := 3, cells := 0, slots := 0, locals := 75 } : Room) s m args below meth c H locs 0 0 (q_Zv below args s G.1 (wX G) so A) (F0 m 58 ls []) := by
    intro x3_58 x4_58 x6_58 n_58
    induction n_58 with
    | zero => intro _ _ _ _ _ hf; exact absurd hf (by simp [xGlyphPositionsModel_checkMarks_58])
    | succ n_58 ih_58 =>
      have J_100 : ∀ (x7_100 w1_100 : Int32) (st_100 : QSt) (H : Heap) (locs : List Loc) (ls : Array Slot), xGlyphPositionsModel_checkMarks_100 N (xGlyphPositionsModel_checkMarks_58 N x3_58 x4_58 x6_58 n_58) x3_58 x4_58 x6_58 x7_100 w1_100 st_100 = some so → va_P G.1 vwCl (wX G st_100) H → va_S A s.heap H locs → lv_has ls 8 [(0, .ref (G.2.2 36)), (3, .int x3_58), (4, .long x4_58), (6, .int x6_58), (7, .int x7_100)] → W p l e ({ frames := 3, cells := 0, slots := 0, locals := 75 } : Room) s m args below meth c H locs 0 0 (q_Zv below args s G.1 (wX G) so A) (F0 m 100 ls [.int w1_100, .ref (G.2.2 36)]) := by
        intro x7_100 w1_100 st_100 H locs ls hf hP hS hl
        unfold xGlyphPositionsModel_checkMarks_100 at hf
        obtain ⟨sr8, h_r8, hf⟩ := q_bv_some hf
        refine q_callVv (As := [.int w1_100]) (rest := []) (q0 := 36) hC (c_xGlyphPositionsModel_need l G h_r8) cal_GlyphPositionsModel_need wq_148 ⟨rfl, rfl, Nat.le_of_ble_eq_true rfl, Nat.le_of_ble_eq_true rfl⟩ rfl rfl hP hD hA hS rfl hl.1 rfl (Nat.le_of_ble_eq_true rfl) d_GlyphPositionsModel_checkMarks_100 (fun H locs hP hS => ?_)
        refine lv_aload_n hx hb d_GlyphPositionsModel_checkMarks_103 rfl (lv_at hl 0 rfl) ?_
        refine lv_lload hx hb d_GlyphPositionsModel_checkMarks_104 (lv_at hl 2 rfl) ?_
        refine lv_aload_n hx hb d_GlyphPositionsModel_checkMarks_106 rfl (lv_at hl 0 rfl) ?_
        refine lv_lload hx hb d_GlyphPositionsModel_checkMarks_107 (lv_at hl 2 rfl) ?_
        refine lv_ldc2 (v := 4) hx hb hown (hts _ wq_150) d_GlyphPositionsModel_checkMarks_109 ?_
        refine lv_ladd hx hb d_GlyphPositionsModel_checkMarks_112 ?_
        refine lv_ldc2 (v := 4) hx hb hown (hts _ wq_150) d_GlyphPositionsModel_checkMarks_113 ?_
        refine lv_iload hx hb d_GlyphPositionsModel_checkMarks_116 (lv_at hl 4 rfl) ?_
        refine lv_i2l (v := x7_100.toInt64) hx hb d_GlyphPositionsModel_checkMarks_118 rfl ?_
        refine lv_lmul hx hb d_GlyphPositionsModel_checkMarks_119 ?_
        refine lv_ladd hx hb d_GlyphPositionsModel_checkMarks_120 ?_
        obtain ⟨r9, sr9, h_r9, hf⟩ := q_bm_some hf
        refine q_callVi (As := [.long ((x4_58 + 4) + ((4 : Int64) * x7_100.toInt64))]) (rest := [.long x4_58, .ref (G.2.2 36)]) (q0 := 36) hC (c_xGlyphPositionsModel_u16 l G h_r9) cal_GlyphPositionsModel_u16 wq_151 ⟨rfl, rfl, Nat.le_of_ble_eq_true rfl, Nat.le_of_ble_eq_true rfl⟩ rfl rfl hP hD hA hS rfl hl.1 rfl (Nat.le_of_ble_eq_true rfl) d_GlyphPositionsModel_checkMarks_121 (fun H locs hP hS => ?_)
        refine lv_i2l (v := r9.toInt64) hx hb d_GlyphPositionsModel_checkMarks_124 rfl ?_
        refine lv_ladd hx hb d_GlyphPositionsModel_checkMarks_125 ?_
        obtain ⟨sr10, h_r10, hf⟩ := q_bv_some hf
        refine q_callVv (As := [.long (x4_58 + r9.toInt64)]) (rest := []) (q0 := 36) hC (c_xGlyphPositionsModel_checkAnchor l G h_r10) cal_GlyphPositionsModel_checkAnchor wq_164 ⟨rfl, rfl, Nat.le_of_ble_eq_true rfl, Nat.le_of_ble_eq_true rfl⟩ rfl rfl hP hD hA hS rfl hl.1 rfl (Nat.le_of_ble_eq_true rfl) d_GlyphPositionsModel_checkMarks_126 (fun H locs hP hS => ?_)
        refine lv_iinc (v := x7_100 + 1) (lv' := [(7, .int (x7_100 + 1)), (0, .ref (G.2.2 36)), (3, .int x3_58), (4, .long x4_58), (6, .int x6_58)]) hx hb d_GlyphPositionsModel_checkMarks_129 hl (k := 4) rfl rfl (by decide) rfl (fun ls hl => ?_)
        refine lv_goto (tgt := 58) hx hb d_GlyphPositionsModel_checkMarks_132 (by decide) ?_
        exact ih_58 _ _ _ _ _ hf hP hS (lv_sub hl [1, 2, 3, 4, 0] rfl)
      intro x7_58 st_58 H locs ls hf hP hS hl
      rw [xGlyphPositionsModel_checkMarks_58] at hf
      refine lv_iload hx hb d_GlyphPositionsModel_checkMarks_58 (lv_at hl 4 rfl) ?_
      refine lv_iload hx hb d_GlyphPositionsModel_checkMarks_60 (lv_at hl 3 rfl) ?_
      refine lv_icmp_ge (tgt := 135) hx hb d_GlyphPositionsModel_checkMarks_62 (by decide) (fun c1 => ?_) (fun c1 => ?_)
      · rw [if_pos c1] at hf
        exact q_vret hC hr hlk hf hP hS d_GlyphPositionsModel_checkMarks_135
      rw [if_neg c1] at hf
      refine lv_aload_n hx hb d_GlyphPositionsModel_checkMarks_65 rfl (lv_at hl 0 rfl) ?_
      refine xg_36_bad hC hP wq_147 d_GlyphPositionsModel_checkMarks_66 ?_
      refine lv_if_ne (tgt := 135) hx hb d_GlyphPositionsModel_checkMarks_69 (by decide) (fun c1 => ?_) (fun c1 => ?_)
      · rw [if_neg c1] at hf
        exact q_vret hC hr hlk hf hP hS d_GlyphPositionsModel_checkMarks_135
      rw [if_pos c1] at hf
      refine lv_aload_n hx hb d_GlyphPositionsModel_checkMarks_72 rfl (lv_at hl 0 rfl) ?_
      refine lv_aload_n hx hb d_GlyphPositionsModel_checkMarks_73 rfl (lv_at hl 0 rfl) ?_
      refine lv_lload hx hb d_GlyphPositionsModel_checkMarks_74 (lv_at hl 2 rfl) ?_
      refine lv_ldc2 (v := 2) hx hb hown (hts _ wq_149) d_GlyphPositionsModel_checkMarks_76 ?_
      refine lv_ladd hx hb d_GlyphPositionsModel_checkMarks_79 ?_
      refine lv_ldc2 (v := 4) hx hb hown (hts _ wq_150) d_GlyphPositionsModel_checkMarks_80 ?_
      refine lv_iload hx hb d_GlyphPositionsModel_checkMarks_83 (lv_at hl 4 rfl) ?_
      refine lv_i2l (v := x7_58.toInt64) hx hb d_GlyphPositionsModel_checkMarks_85 rfl ?_
      refine lv_lmul hx hb d_GlyphPositionsModel_checkMarks_86 ?_
      refine lv_ladd hx hb d_GlyphPositionsModel_checkMarks_87 ?_
      obtain ⟨r7, sr7, h_r7, hf⟩ := q_bm_some hf
      refine q_callVi (As := [.long ((x4_58 + 2) + ((4 : Int64) * x7_58.toInt64))]) (rest := [.ref (G.2.2 36)]) (q0 := 36) hC (c_xGlyphPositionsModel_u16 l G h_r7) cal_GlyphPositionsModel_u16 wq_151 ⟨rfl, rfl, Nat.le_of_ble_eq_true rfl, Nat.le_of_ble_eq_true rfl⟩ rfl rfl hP hD hA hS rfl hl.1 rfl (Nat.le_of_ble_eq_true rfl) d_GlyphPositionsModel_checkMarks_88 (fun H locs hP hS => ?_)
      refine lv_iload_n hx hb d_GlyphPositionsModel_checkMarks_91 rfl (lv_at hl 1 rfl) ?_
      refine lv_icmp_ge (tgt := 99) hx hb d_GlyphPositionsModel_checkMarks_92 (by decide) (fun c1 => ?_) (fun c1 => ?_)
      · rw [if_pos c1] at hf
        refine lv_iconst (v := 0) hx hb d_GlyphPositionsModel_checkMarks_99 (by decide) ?_
        exact J_100 _ _ _ _ _ _ hf hP hS hl
      rw [if_neg c1] at hf
      refine lv_iconst (v := 1) hx hb d_GlyphPositionsModel_checkMarks_95 (by decide) ?_
      refine lv_goto (tgt := 100) hx hb d_GlyphPositionsModel_checkMarks_96 (by decide) ?_
      exact J_100 _ _ _ _ _ _ hf hP hS hl
  have J_52 : ∀ (x3_52 : Int32) (x4_52 : Int64) (x6_52 w1_52 : Int32) (st_52 : QSt) (H : Heap) (locs : List Loc) (ls : Array Slot), xGlyphPositionsModel_checkMarks_52 N x3_52 x4_52 x6_52 w1_52 st_52 = some so → va_P G.1 vwCl (wX G st_52) H → va_S A s.heap H locs → lv_has ls 8 [(0, .ref (G.2.2 36)), (3, .int x3_52), (4, .long x4_52), (6, .int x6_52)] → W p l e ({ frames := 3, cells := 0, slots := 0, locals := 75 } : Room) s m args below meth c H locs 0 0 (q_Zv below args s G.1 (wX G) so A) (F0 m 52 ls [.int w1_52, .ref (G.2.2 36)]) := by
    intro x3_52 x4_52 x6_52 w1_52 st_52 H locs ls hf hP hS hl
    unfold xGlyphPositionsModel_checkMarks_52 at hf
    obtain ⟨sr6, h_r6, hf⟩ := q_bv_some hf
    refine q_callVv (As := [.int w1_52]) (rest := []) (q0 := 36) hC (c_xGlyphPositionsModel_need l G h_r6) cal_GlyphPositionsModel_need wq_148 ⟨rfl, rfl, Nat.le_of_ble_eq_true rfl, Nat.le_of_ble_eq_true rfl⟩ rfl rfl hP hD hA hS rfl hl.1 rfl (Nat.le_of_ble_eq_true rfl) d_GlyphPositionsModel_checkMarks_52 (fun H locs hP hS => ?_)
    refine lv_iconst (v := 0) hx hb d_GlyphPositionsModel_checkMarks_55 (by decide) ?_
    refine lv_istore (lv' := [(7, .int 0), (0, .ref (G.2.2 36)), (3, .int x3_52), (4, .long x4_52), (6, .int x6_52)]) hx hb d_GlyphPositionsModel_checkMarks_56 hl (by decide) rfl (fun ls hl => ?_)
    exact L_58 _ _ _ _ _ _ _ _ _ hf hP hS (lv_sub hl [1, 2, 3, 4, 0] rfl)
  unfold xGlyphPositionsModel_checkMarks at hf
  refine lv_lload_n hx hb d_GlyphPositionsModel_checkMarks_0 rfl (lv_at hl 1 rfl) ?_
  refine lv_aload_n hx hb d_GlyphPositionsModel_checkMarks_1 rfl (lv_at hl 0 rfl) ?_
  refine lv_lload_n hx hb d_GlyphPositionsModel_checkMarks_2 rfl (lv_at hl 1 rfl) ?_
  refine lv_ldc2 (v := 8) hx hb hown (hts _ wq_153) d_GlyphPositionsModel_checkMarks_3 ?_
  refine lv_ladd hx hb d_GlyphPositionsModel_checkMarks_6 ?_
  obtain ⟨r1, sr1, h_r1, hf⟩ := q_bm_some hf
  refine q_callVi (As := [.long (x1 + 8)]) (rest := [.long x1]) (q0 := 36) hC (c_xGlyphPositionsModel_u16 l G h_r1) cal_GlyphPositionsModel_u16 wq_151 ⟨rfl, rfl, Nat.le_of_ble_eq_true rfl, Nat.le_of_ble_eq_true rfl⟩ rfl rfl hP hD hA hS rfl hl.1 rfl (Nat.le_of_ble_eq_true rfl) d_GlyphPositionsModel_checkMarks_7 (fun H locs hP hS => ?_)
  refine lv_i2l (v := r1.toInt64) hx hb d_GlyphPositionsModel_checkMarks_10 rfl ?_
  refine lv_ladd hx hb d_GlyphPositionsModel_checkMarks_11 ?_
  obtain ⟨x4_1002, e_x4_1002, hf⟩ := q_lt_some hf
  refine q_topl e_x4_1002 ?_
  refine lv_lstore (lv' := [(4, .long x4_1002), (0, .ref (G.2.2 36)), (1, .long x1), (3, .int x3)]) hx hb d_GlyphPositionsModel_checkMarks_12 hl (by decide) rfl (fun ls hl => ?_)
  refine lv_aload_n hx hb d_GlyphPositionsModel_checkMarks_14 rfl (lv_at hl 1 rfl) ?_
  refine lv_lload hx hb d_GlyphPositionsModel_checkMarks_15 (lv_at hl 0 rfl) ?_
  refine lv_sipush (v := 256) hx hb d_GlyphPositionsModel_checkMarks_17 (by decide) ?_
  obtain ⟨r3, sr3, h_r3, hf⟩ := q_bm_some hf
  refine q_callVi (As := [.long x4_1002, .int 256]) (rest := []) (q0 := 36) hC (c_xGlyphPositionsModel_atMost l G h_r3) cal_GlyphPositionsModel_atMost wq_156 ⟨rfl, rfl, Nat.le_of_ble_eq_true rfl, Nat.le_of_ble_eq_true rfl⟩ rfl rfl hP hD hA hS rfl hl.1 rfl (Nat.le_of_ble_eq_true rfl) d_GlyphPositionsModel_checkMarks_20 (fun H locs hP hS => ?_)
  refine lv_istore (lv' := [(6, .int r3), (4, .long x4_1002), (0, .ref (G.2.2 36)), (1, .long x1), (3, .int x3)]) hx hb d_GlyphPositionsModel_checkMarks_23 hl (by decide) rfl (fun ls hl => ?_)
  refine lv_aload_n hx hb d_GlyphPositionsModel_checkMarks_25 rfl (lv_at hl 2 rfl) ?_
  refine lv_aload_n hx hb d_GlyphPositionsModel_checkMarks_26 rfl (lv_at hl 2 rfl) ?_
  refine lv_lload_n hx hb d_GlyphPositionsModel_checkMarks_27 rfl (lv_at hl 3 rfl) ?_
  refine lv_aload_n hx hb d_GlyphPositionsModel_checkMarks_28 rfl (lv_at hl 2 rfl) ?_
  refine lv_lload_n hx hb d_GlyphPositionsModel_checkMarks_29 rfl (lv_at hl 3 rfl) ?_
  refine lv_ldc2 (v := 2) hx hb hown (hts _ wq_149) d_GlyphPositionsModel_checkMarks_30 ?_
  refine lv_ladd hx hb d_GlyphPositionsModel_checkMarks_33 ?_
  obtain ⟨r4, sr4, h_r4, hf⟩ := q_bm_some hf
  refine q_callVi (As := [.long (x1 + 2)]) (rest := [.long x1, .ref (G.2.2 36), .ref (G.2.2 36)]) (q0 := 36) hC (c_xGlyphPositionsModel_u16 l G h_r4) cal_GlyphPositionsModel_u16 wq_151 ⟨rfl, rfl, Nat.le_of_ble_eq_true rfl, Nat.le_of_ble_eq_true rfl⟩ rfl rfl hP hD hA hS rfl hl.1 rfl (Nat.le_of_ble_eq_true rfl) d_GlyphPositionsModel_checkMarks_34 (fun H locs hP hS => ?_)
  refine lv_i2l (v := r4.toInt64) hx hb d_GlyphPositionsModel_checkMarks_37 rfl ?_
  refine lv_ladd hx hb d_GlyphPositionsModel_checkMarks_38 ?_
  obtain ⟨r5, sr5, h_r5, hf⟩ := q_bm_some hf
  refine q_callVi (As := [.long (x1 + r4.toInt64)]) (rest := [.ref (G.2.2 36)]) (q0 := 36) hC (c_xGlyphPositionsModel_checkCoverage l G h_r5) cal_GlyphPositionsModel_checkCoverage wq_165 ⟨rfl, rfl, Nat.le_of_ble_eq_true rfl, Nat.le_of_ble_eq_true rfl⟩ rfl rfl hP hD hA hS rfl hl.1 rfl (Nat.le_of_ble_eq_true rfl) d_GlyphPositionsModel_checkMarks_39 (fun H locs hP hS => ?_)
  refine lv_iload hx hb d_GlyphPositionsModel_checkMarks_42 (lv_at hl 0 rfl) ?_
  refine lv_icmp_ne (tgt := 51) hx hb d_GlyphPositionsModel_checkMarks_44 (by decide) (fun c1 => ?_) (fun c1 => ?_)
  · rw [if_neg c1] at hf
    refine lv_iconst (v := 0) hx hb d_GlyphPositionsModel_checkMarks_51 (by decide) ?_
    exact J_52 _ _ _ _ _ _ _ _ hf hP hS (lv_sub hl [2, 4, 1, 0] rfl)
  rw [if_pos c1] at hf
  refine lv_iconst (v := 1) hx hb d_GlyphPositionsModel_checkMarks_47 (by decide) ?_
  refine lv_goto (tgt := 52) hx hb d_GlyphPositionsModel_checkMarks_48 (by decide) ?_
  exact J_52 _ _ _ _ _ _ _ _ hf hP hS (lv_sub hl [2, 4, 1, 0] rfl)
def xGlyphPositionsModel_checkPlace (x1 x3 : Int64) (st : QSt) : Option QSt :=
  q_bm (xGlyphPositionsModel_u16 x3 st) (fun r1 sr1 => if r1 ≤ 0 then (some sr1) else (q_bv (xGlyphPositionsModel_checkAnchor (x1 + r1.toInt64) sr1) (fun sr2 => some sr2)))
set_option maxHeartbeats 4000000 in
set_option maxRecDepth 100000 in
theorem c_xGlyphPositionsModel_checkPlace (l : Launch) (G : XG) {x1 x3 : Int64} {st : QSt} {so : QSt} (hf : xGlyphPositionsModel_checkPlace x1 x3 st = some so) : q_Mv l y_GlyphPositionsModel_checkPlace b_GlyphPositionsModel_checkPlace 6 ({ frames := 3, cells := 0, slots := 0, locals := 67 } : Room) G.1 (xT G) (wX G) [.ref (G.2.2 36), .long x1, .long x3] st so := by
  refine q_Mv_of (by decide) (Nat.le_of_ble_eq_true rfl) (wX_fst G) ?_
  intro p e s m args below meth c A ls hC hr hlk hT hD hA hP hS hl
  have hx := hC.1.1
  have hb := hC.1.2.1
  have hown := hC.1.2.2.2.1
  have hts := hC.1.2.2.2.2
  have hl : lv_has ls 6 [(0, .ref (G.2.2 36)), (1, .long x1), (3, .long x3)] := hl
  unfold xGlyphPositionsModel_checkPlace at hf
  refine lv_aload_n hx hb d_GlyphPositionsModel_checkPlace_0 rfl (lv_at hl 0 rfl) ?_
  refine lv_lload_n hx hb d_GlyphPositionsModel_checkPlace_1 rfl (lv_at hl 2 rfl) ?_
  obtain ⟨r1, sr1, h_r1, hf⟩ := q_bm_some hf
  refine q_callVi (As := [.long x3]) (rest := []) (q0 := 36) hC (c_xGlyphPositionsModel_u16 l G h_r1) cal_GlyphPositionsModel_u16 wq_151 ⟨rfl, rfl, Nat.le_of_ble_eq_true rfl, Nat.le_of_ble_eq_true rfl⟩ rfl rfl hP hD hA hS rfl hl.1 rfl (Nat.le_of_ble_eq_true rfl) d_GlyphPositionsModel_checkPlace_2 (fun H locs hP hS => ?_)
  refine lv_istore (lv' := [(5, .int r1), (0, .ref (G.2.2 36)), (1, .long x1), (3, .long x3)]) hx hb d_GlyphPositionsModel_checkPlace_5 hl (by decide) rfl (fun ls hl => ?_)
  refine lv_iload hx hb d_GlyphPositionsModel_checkPlace_7 (lv_at hl 0 rfl) ?_
  refine lv_if_le (tgt := 21) hx hb d_GlyphPositionsModel_checkPlace_9 (by decide) (fun c1 => ?_) (fun c1 => ?_)
  · rw [if_pos c1] at hf
    exact q_vret hC hr hlk hf hP hS d_GlyphPositionsModel_checkPlace_21
  rw [if_neg c1] at hf
  refine lv_aload_n hx hb d_GlyphPositionsModel_checkPlace_12 rfl (lv_at hl 1 rfl) ?_
  refine lv_lload_n hx hb d_GlyphPositionsModel_checkPlace_13 rfl (lv_at hl 2 rfl) ?_
  refine lv_iload hx hb d_GlyphPositionsModel_checkPlace_14 (lv_at hl 0 rfl) ?_
  refine lv_i2l (v := r1.toInt64) hx hb d_GlyphPositionsModel_checkPlace_16 rfl ?_
  refine lv_ladd hx hb d_GlyphPositionsModel_checkPlace_17 ?_
  obtain ⟨sr2, h_r2, hf⟩ := q_bv_some hf
  refine q_callVv (As := [.long (x1 + r1.toInt64)]) (rest := []) (q0 := 36) hC (c_xGlyphPositionsModel_checkAnchor l G h_r2) cal_GlyphPositionsModel_checkAnchor wq_164 ⟨rfl, rfl, Nat.le_of_ble_eq_true rfl, Nat.le_of_ble_eq_true rfl⟩ rfl rfl hP hD hA hS rfl hl.1 rfl (Nat.le_of_ble_eq_true rfl) d_GlyphPositionsModel_checkPlace_18 (fun H locs hP hS => ?_)
  exact q_vret hC hr hlk hf hP hS d_GlyphPositionsModel_checkPlace_21
def xGlyphPositionsModel_checkRow_3 (N : Nat) (x1_3 x3_3 : Int64) (x5_3 : Int32) : Nat → Int32 → QSt → Option QSt
  | 0, _, _ => none
  | n_3 + 1, x6_3, st_3 => if x5_3 ≤ x6_3 then (some st_3) else (if (st_3.1 14) = 0 then (q_bv (xGlyphPositionsModel_checkPlace x1_3 (x3_3 + ((2 : Int64) * x6_3.toInt64)) st_3) (fun sr1 => xGlyphPositionsModel_checkRow_3 N x1_3 x3_3 x5_3 n_3 (x6_3 + 1) sr1)) else (some st_3))
def xGlyphPositionsModel_checkRow (N : Nat) (x1 x3 : Int64) (x5 : Int32) (st : QSt) : Option QSt :=
  xGlyphPositionsModel_checkRow_3 N x1 x3 x5 N 0 st
set_option maxHeartbeats 4000000 in
set_option maxRecDepth 100000 in
theorem c_xGlyphPositionsModel_checkRow (l : Launch) (G : XG) {N : Nat} {x1 x3 : Int64} {x5 : Int32} {st : QSt} {so : QSt} (hf : xGlyphPositionsModel_checkRow N x1 x3 x5 st = some so) : q_Mv l y_GlyphPositionsModel_checkRow b_GlyphPositionsModel_checkRow 7 ({ frames := 4, cells := 0, slots := 0, locals := 92 } : Room) G.1 (xT G) (wX G) [.ref (G.2.2 36), .long x1, .long x3, .int x5] st so := by
  refine q_Mv_of (by decide) (Nat.le_of_ble_eq_true rfl) (wX_fst G) ?_
  intro p e s m args below meth c A ls hC hr hlk hT hD hA hP hS hl
  have hx := hC.1.1
  have hb := hC.1.2.1
  have hown := hC.1.2.2.2.1
  have hts := hC.1.2.2.2.2
  have hl : lv_has ls 7 [(0, .ref (G.2.2 36)), (1, .long x1), (3, .long x3), (5, .int x5)] := hl
  have L_3 : ∀ (x1_3 x3_3 : Int64) (x5_3 : Int32) (n_3 : Nat) (x6_3 : Int32) (st_3 : QSt) (H : Heap) (locs : List Loc) (ls : Array Slot), xGlyphPositionsModel_checkRow_3 N x1_3 x3_3 x5_3 n_3 x6_3 st_3 = some so → va_P G.1 vwCl (wX G st_3) H → va_S A s.heap H locs → lv_has ls 7 [(0, .ref (G.2.2 36)), (1, .long x1_3), (3, .long x3_3), (5, .int x5_3), (6, .int x6_3)] → W p l e ({ frames := 4, cells := 0, slots := 0, locals := 92 } : Room) s m args below meth c H locs 0 0 (q_Zv below args s G.1 (wX G) so A) (F0 m 3 ls []) := by
    intro x1_3 x3_3 x5_3 n_3
    induction n_3 with
    | zero => intro _ _ _ _ _ hf; exact absurd hf (by simp [xGlyphPositionsModel_checkRow_3])
    | succ n_3 ih_3 =>
      intro x6_3 st_3 H locs ls hf hP hS hl
      rw [xGlyphPositionsModel_checkRow_3] at hf
      refine lv_iload hx hb d_GlyphPositionsModel_checkRow_3 (lv_at hl 4 rfl) ?_
      refine lv_iload hx hb d_GlyphPositionsModel_checkRow_5 (lv_at hl 3 rfl) ?_
      refine lv_icmp_ge (tgt := 37) hx hb d_GlyphPositionsModel_checkRow_7 (by decide) (fun c1 => ?_) (fun c1 => ?_)
      · rw [if_pos c1] at hf
        exact q_vret hC hr hlk hf hP hS d_GlyphPositionsModel_checkRow_37
      rw [if_neg c1] at hf
      refine lv_aload_n hx hb d_GlyphPositionsModel_checkRow_10 rfl (lv_at hl 0 rfl) ?_
      refine xg_36_bad hC hP wq_147 d_GlyphPositionsModel_checkRow_11 ?_
      refine lv_if_ne (tgt := 37) hx hb d_GlyphPositionsModel_checkRow_14 (by decide) (fun c1 => ?_) (fun c1 => ?_)
      · rw [if_neg c1] at hf
        exact q_vret hC hr hlk hf hP hS d_GlyphPositionsModel_checkRow_37
      rw [if_pos c1] at hf
      refine lv_aload_n hx hb d_GlyphPositionsModel_checkRow_17 rfl (lv_at hl 0 rfl) ?_
      refine lv_lload_n hx hb d_GlyphPositionsModel_checkRow_18 rfl (lv_at hl 1 rfl) ?_
      refine lv_lload_n hx hb d_GlyphPositionsModel_checkRow_19 rfl (lv_at hl 2 rfl) ?_
      refine lv_ldc2 (v := 2) hx hb hown (hts _ wq_149) d_GlyphPositionsModel_checkRow_20 ?_
      refine lv_iload hx hb d_GlyphPositionsModel_checkRow_23 (lv_at hl 4 rfl) ?_
      refine lv_i2l (v := x6_3.toInt64) hx hb d_GlyphPositionsModel_checkRow_25 rfl ?_
      refine lv_lmul hx hb d_GlyphPositionsModel_checkRow_26 ?_
      refine lv_ladd hx hb d_GlyphPositionsModel_checkRow_27 ?_
      obtain ⟨sr1, h_r1, hf⟩ := q_bv_some hf
      refine q_callVv (As := [.long x1_3, .long (x3_3 + ((2 : Int64) * x6_3.toInt64))]) (rest := []) (q0 := 36) hC (c_xGlyphPositionsModel_checkPlace l G h_r1) cal_GlyphPositionsModel_checkPlace wq_166 ⟨rfl, rfl, Nat.le_of_ble_eq_true rfl, Nat.le_of_ble_eq_true rfl⟩ rfl rfl hP hD hA hS rfl hl.1 rfl (Nat.le_of_ble_eq_true rfl) d_GlyphPositionsModel_checkRow_28 (fun H locs hP hS => ?_)
      refine lv_iinc (v := x6_3 + 1) (lv' := [(6, .int (x6_3 + 1)), (0, .ref (G.2.2 36)), (1, .long x1_3), (3, .long x3_3), (5, .int x5_3)]) hx hb d_GlyphPositionsModel_checkRow_31 hl (k := 4) rfl rfl (by decide) rfl (fun ls hl => ?_)
      refine lv_goto (tgt := 3) hx hb d_GlyphPositionsModel_checkRow_34 (by decide) ?_
      exact ih_3 _ _ _ _ _ hf hP hS (lv_sub hl [1, 2, 3, 4, 0] rfl)
  unfold xGlyphPositionsModel_checkRow at hf
  refine lv_iconst (v := 0) hx hb d_GlyphPositionsModel_checkRow_0 (by decide) ?_
  refine lv_istore (lv' := [(6, .int 0), (0, .ref (G.2.2 36)), (1, .long x1), (3, .long x3), (5, .int x5)]) hx hb d_GlyphPositionsModel_checkRow_1 hl (by decide) rfl (fun ls hl => ?_)
  exact L_3 _ _ _ _ _ _ _ _ _ hf hP hS (lv_sub hl [1, 2, 3, 4, 0] rfl)
def xGlyphPositionsModel_checkParts_24 (N : Nat) (x1_24 : Int64) (x3_24 x4_24 : Int32) (w1_24 : Int32) (st_24 : QSt) : Option QSt :=
  q_bv (xGlyphPositionsModel_need w1_24 st_24) (fun sr3 => q_bv (xGlyphPositionsModel_checkRow N x1_24 (x1_24 + 2) (x4_24 * x3_24) sr3) (fun sr4 => some sr4))
def xGlyphPositionsModel_checkParts (N : Nat) (x1 : Int64) (x3 : Int32) (st : QSt) : Option QSt :=
  q_bv (xGlyphPositionsModel_look st) (fun sr1 => q_bm (xGlyphPositionsModel_atMost x1 16 sr1) (fun r2 sr2 => if r2 ≤ 0 then (xGlyphPositionsModel_checkParts_24 N x1 x3 r2 0 sr2) else (xGlyphPositionsModel_checkParts_24 N x1 x3 r2 1 sr2)))
set_option maxHeartbeats 4000000 in
set_option maxRecDepth 100000 in
theorem c_xGlyphPositionsModel_checkParts (l : Launch) (G : XG) {N : Nat} {x1 : Int64} {x3 : Int32} {st : QSt} {so : QSt} (hf : xGlyphPositionsModel_checkParts N x1 x3 st = some so) : q_Mv l y_GlyphPositionsModel_checkParts b_GlyphPositionsModel_checkParts 5 ({ frames := 5, cells := 0, slots := 0, locals := 118 } : Room) G.1 (xT G) (wX G) [.ref (G.2.2 36), .long x1, .int x3] st so := by
  refine q_Mv_of (by decide) (Nat.le_of_ble_eq_true rfl) (wX_fst G) ?_
  intro p e s m args below meth c A ls hC hr hlk hT hD hA hP hS hl
  have hx := hC.1.1
  have hb := hC.1.2.1
  have hown := hC.1.2.2.2.1
  have hts := hC.1.2.2.2.2
  have hl : lv_has ls 5 [(0, .ref (G.2.2 36)), (1, .long x1), (3, .int x3)] := hl
  have J_24 : ∀ (x1_24 : Int64) (x3_24 x4_24 w1_24 : Int32) (st_24 : QSt) (H : Heap) (locs : List Loc) (ls : Array Slot), xGlyphPositionsModel_checkParts_24 N x1_24 x3_24 x4_24 w1_24 st_24 = some so → va_P G.1 vwCl (wX G st_24) H → va_S A s.heap H locs → lv_has ls 5 [(0, .ref (G.2.2 36)), (1, .long x1_24), (3, .int x3_24), (4, .int x4_24)] → W p l e ({ frames := 5, cells := 0, slots := 0, locals := 118 } : Room) s m args below meth c H locs 0 0 (q_Zv below args s G.1 (wX G) so A) (F0 m 24 ls [.int w1_24, .ref (G.2.2 36)]) := by
    intro x1_24 x3_24 x4_24 w1_24 st_24 H locs ls hf hP hS hl
    unfold xGlyphPositionsModel_checkParts_24 at hf
    obtain ⟨sr3, h_r3, hf⟩ := q_bv_some hf
    refine q_callVv (As := [.int w1_24]) (rest := []) (q0 := 36) hC (c_xGlyphPositionsModel_need l G h_r3) cal_GlyphPositionsModel_need wq_148 ⟨rfl, rfl, Nat.le_of_ble_eq_true rfl, Nat.le_of_ble_eq_true rfl⟩ rfl rfl hP hD hA hS rfl hl.1 rfl (Nat.le_of_ble_eq_true rfl) d_GlyphPositionsModel_checkParts_24 (fun H locs hP hS => ?_)
    refine lv_aload_n hx hb d_GlyphPositionsModel_checkParts_27 rfl (lv_at hl 0 rfl) ?_
    refine lv_lload_n hx hb d_GlyphPositionsModel_checkParts_28 rfl (lv_at hl 1 rfl) ?_
    refine lv_lload_n hx hb d_GlyphPositionsModel_checkParts_29 rfl (lv_at hl 1 rfl) ?_
    refine lv_ldc2 (v := 2) hx hb hown (hts _ wq_149) d_GlyphPositionsModel_checkParts_30 ?_
    refine lv_ladd hx hb d_GlyphPositionsModel_checkParts_33 ?_
    refine lv_iload hx hb d_GlyphPositionsModel_checkParts_34 (lv_at hl 3 rfl) ?_
    refine lv_iload_n hx hb d_GlyphPositionsModel_checkParts_36 rfl (lv_at hl 2 rfl) ?_
    refine lv_imul hx hb d_GlyphPositionsModel_checkParts_37 ?_
    obtain ⟨sr4, h_r4, hf⟩ := q_bv_some hf
    refine q_callVv (As := [.long x1_24, .long (x1_24 + 2), .int (x4_24 * x3_24)]) (rest := []) (q0 := 36) hC (c_xGlyphPositionsModel_checkRow l G h_r4) cal_GlyphPositionsModel_checkRow wq_167 ⟨rfl, rfl, Nat.le_of_ble_eq_true rfl, Nat.le_of_ble_eq_true rfl⟩ rfl rfl hP hD hA hS rfl hl.1 rfl (Nat.le_of_ble_eq_true rfl) d_GlyphPositionsModel_checkParts_38 (fun H locs hP hS => ?_)
    exact q_vret hC hr hlk hf hP hS d_GlyphPositionsModel_checkParts_41
  unfold xGlyphPositionsModel_checkParts at hf
  refine lv_aload_n hx hb d_GlyphPositionsModel_checkParts_0 rfl (lv_at hl 0 rfl) ?_
  obtain ⟨sr1, h_r1, hf⟩ := q_bv_some hf
  refine q_callVv (As := []) (rest := []) (q0 := 36) hC (c_xGlyphPositionsModel_look l G h_r1) cal_GlyphPositionsModel_look wq_163 ⟨rfl, rfl, Nat.le_of_ble_eq_true rfl, Nat.le_of_ble_eq_true rfl⟩ rfl rfl hP hD hA hS rfl hl.1 rfl (Nat.le_of_ble_eq_true rfl) d_GlyphPositionsModel_checkParts_1 (fun H locs hP hS => ?_)
  refine lv_aload_n hx hb d_GlyphPositionsModel_checkParts_4 rfl (lv_at hl 0 rfl) ?_
  refine lv_lload_n hx hb d_GlyphPositionsModel_checkParts_5 rfl (lv_at hl 1 rfl) ?_
  refine lv_bipush (v := 16) hx hb d_GlyphPositionsModel_checkParts_6 (by decide) ?_
  obtain ⟨r2, sr2, h_r2, hf⟩ := q_bm_some hf
  refine q_callVi (As := [.long x1, .int 16]) (rest := []) (q0 := 36) hC (c_xGlyphPositionsModel_atMost l G h_r2) cal_GlyphPositionsModel_atMost wq_156 ⟨rfl, rfl, Nat.le_of_ble_eq_true rfl, Nat.le_of_ble_eq_true rfl⟩ rfl rfl hP hD hA hS rfl hl.1 rfl (Nat.le_of_ble_eq_true rfl) d_GlyphPositionsModel_checkParts_8 (fun H locs hP hS => ?_)
  refine lv_istore (lv' := [(4, .int r2), (0, .ref (G.2.2 36)), (1, .long x1), (3, .int x3)]) hx hb d_GlyphPositionsModel_checkParts_11 hl (by decide) rfl (fun ls hl => ?_)
  refine lv_aload_n hx hb d_GlyphPositionsModel_checkParts_13 rfl (lv_at hl 1 rfl) ?_
  refine lv_iload hx hb d_GlyphPositionsModel_checkParts_14 (lv_at hl 0 rfl) ?_
  refine lv_if_le (tgt := 23) hx hb d_GlyphPositionsModel_checkParts_16 (by decide) (fun c1 => ?_) (fun c1 => ?_)
  · rw [if_pos c1] at hf
    refine lv_iconst (v := 0) hx hb d_GlyphPositionsModel_checkParts_23 (by decide) ?_
    exact J_24 _ _ _ _ _ _ _ _ hf hP hS (lv_sub hl [1, 2, 3, 0] rfl)
  rw [if_neg c1] at hf
  refine lv_iconst (v := 1) hx hb d_GlyphPositionsModel_checkParts_19 (by decide) ?_
  refine lv_goto (tgt := 24) hx hb d_GlyphPositionsModel_checkParts_20 (by decide) ?_
  exact J_24 _ _ _ _ _ _ _ _ hf hP hS (lv_sub hl [1, 2, 3, 0] rfl)
def xGlyphPositionsModel_checkHanging_96 (N : Nat) (x3_96 x4_96 : Int32) (x5_96 : Int64) (x7_96 : Int32) : Nat → Int32 → QSt → Option QSt
  | 0, _, _ => none
  | n_96 + 1, x8_96, st_96 => if x7_96 ≤ x8_96 then (some st_96) else (if (st_96.1 14) = 0 then (if x3_96 = 0 then (q_bv (xGlyphPositionsModel_checkRow N x5_96 ((x5_96 + 2) + (((2 : Int64) * x4_96.toInt64) * x8_96.toInt64)) x4_96 st_96) (fun sr11 => xGlyphPositionsModel_checkHanging_96 N x3_96 x4_96 x5_96 x7_96 n_96 (x8_96 + 1) sr11)) else (q_bm (xGlyphPositionsModel_u16 ((x5_96 + 2) + ((2 : Int64) * x8_96.toInt64)) st_96) (fun r12 sr12 => q_bv (xGlyphPositionsModel_checkParts N (x5_96 + r12.toInt64) x4_96 sr12) (fun sr13 => xGlyphPositionsModel_checkHanging_96 N x3_96 x4_96 x5_96 x7_96 n_96 (x8_96 + 1) sr13)))) else (some st_96))
def xGlyphPositionsModel_checkHanging_90 (N : Nat) (x3_90 x4_90 : Int32) (x5_90 : Int64) (x7_90 : Int32) (w1_90 : Int32) (st_90 : QSt) : Option QSt :=
  q_bv (xGlyphPositionsModel_need w1_90 st_90) (fun sr10 => xGlyphPositionsModel_checkHanging_96 N x3_90 x4_90 x5_90 x7_90 N 0 sr10)
def xGlyphPositionsModel_checkHanging_15 (N : Nat) (x1_15 : Int64) (x3_15 : Int32) (w1_15 : Int32) (st_15 : QSt) : Option QSt :=
  q_bv (xGlyphPositionsModel_need w1_15 st_15) (fun sr2 => q_bm (xGlyphPositionsModel_atMost (x1_15 + 6) 16 sr2) (fun r3 sr3 => q_bv (xGlyphPositionsModel_checkMarks N x1_15 r3 sr3) (fun sr4 => q_bm (xGlyphPositionsModel_u16 (x1_15 + 10) sr4) (fun r5 sr5 => q_lt (x1_15 + r5.toInt64) (fun x5_1006 => q_bm (xGlyphPositionsModel_atMost x5_1006 256 sr5) (fun r7 sr7 => q_bm (xGlyphPositionsModel_u16 (x1_15 + 4) sr7) (fun r8 sr8 => q_bm (xGlyphPositionsModel_checkCoverage N (x1_15 + r8.toInt64) sr8) (fun r9 sr9 => if r9 = r7 then (xGlyphPositionsModel_checkHanging_90 N x3_15 r3 x5_1006 r7 1 sr9) else (xGlyphPositionsModel_checkHanging_90 N x3_15 r3 x5_1006 r7 0 sr9)))))))))
def xGlyphPositionsModel_checkHanging (N : Nat) (x1 : Int64) (x3 : Int32) (st : QSt) : Option QSt :=
  q_bm (xGlyphPositionsModel_u16 x1 st) (fun r1 sr1 => if r1 = 1 then (xGlyphPositionsModel_checkHanging_15 N x1 x3 1 sr1) else (xGlyphPositionsModel_checkHanging_15 N x1 x3 0 sr1))
set_option maxHeartbeats 4000000 in
set_option maxRecDepth 100000 in
theorem c_xGlyphPositionsModel_checkHanging (l : Launch) (G : XG) {N : Nat} {x1 : Int64} {x3 : Int32} {st : QSt} {so : QSt} (hf : xGlyphPositionsModel_checkHanging N x1 x3 st = some so) : q_Mv l y_GlyphPositionsModel_checkHanging b_GlyphPositionsModel_checkHanging 9 ({ frames := 6, cells := 0, slots := 0, locals := 142 } : Room) G.1 (xT G) (wX G) [.ref (G.2.2 36), .long x1, .int x3] st so := by
  refine q_Mv_of (by decide) (Nat.le_of_ble_eq_true rfl) (wX_fst G) ?_
  intro p e s m args below meth c A ls hC hr hlk hT hD hA hP hS hl
  have hx := hC.1.1
  have hb := hC.1.2.1
  have hown := hC.1.2.2.2.1
  have hts := hC.1.2.2.2.2
  have hl : lv_has ls 9 [(0, .ref (G.2.2 36)), (1, .long x1), (3, .int x3)] := hl
  have L_96 : ∀ (x3_96 x4_96 : Int32) (x5_96 : Int64) (x7_96 : Int32) (n_96 : Nat) (x8_96 : Int32) (st_96 : QSt) (H : Heap) (locs : List Loc) (ls : Array Slot), xGlyphPositionsModel_checkHanging_96 N x3_96 x4_96 x5_96 x7_96 n_96 x8_96 st_96 = some so → va_P G.1 vwCl (wX G st_96) H → va_S A s.heap H locs → lv_has ls 9 [(0, .ref (G.2.2 36)), (3, .int x3_96), (4, .int x4_96), (5, .long x5_96), (7, .int x7_96), (8, .int x8_96)] → W p l e ({ frames := 6, cells := 0, slots := 0, locals := 142 } : Room) s m args below meth c H locs 0 0 (q_Zv below args s G.1 (wX G) so A) (F0 m 96 ls []) := by
    intro x3_96 x4_96 x5_96 x7_96 n_96
    induction n_96 with
    | zero => intro _ _ _ _ _ hf; exact absurd hf (by simp [xGlyphPositionsModel_checkHanging_96])
    | succ n_96 ih_96 =>
      intro x8_96 st_96 H locs ls hf hP hS hl
      rw [xGlyphPositionsModel_checkHanging_96] at hf
      refine lv_iload hx hb d_GlyphPositionsModel_checkHanging_96 (lv_at hl 5 rfl) ?_
      refine lv_iload hx hb d_GlyphPositionsModel_checkHanging_98 (lv_at hl 4 rfl) ?_
      refine lv_icmp_ge (tgt := 177) hx hb d_GlyphPositionsModel_checkHanging_100 (by decide) (fun c1 => ?_) (fun c1 => ?_)
      · rw [if_pos c1] at hf
        exact q_vret hC hr hlk hf hP hS d_GlyphPositionsModel_checkHanging_177
      rw [if_neg c1] at hf
      refine lv_aload_n hx hb d_GlyphPositionsModel_checkHanging_103 rfl (lv_at hl 0 rfl) ?_
      refine xg_36_bad hC hP wq_147 d_GlyphPositionsModel_checkHanging_104 ?_
      refine lv_if_ne (tgt := 177) hx hb d_GlyphPositionsModel_checkHanging_107 (by decide) (fun c1 => ?_) (fun c1 => ?_)
      · rw [if_neg c1] at hf
        exact q_vret hC hr hlk hf hP hS d_GlyphPositionsModel_checkHanging_177
      rw [if_pos c1] at hf
      refine lv_iload_n hx hb d_GlyphPositionsModel_checkHanging_110 rfl (lv_at hl 1 rfl) ?_
      refine lv_if_eq (tgt := 145) hx hb d_GlyphPositionsModel_checkHanging_111 (by decide) (fun c1 => ?_) (fun c1 => ?_)
      · rw [if_pos c1] at hf
        refine lv_aload_n hx hb d_GlyphPositionsModel_checkHanging_145 rfl (lv_at hl 0 rfl) ?_
        refine lv_lload hx hb d_GlyphPositionsModel_checkHanging_146 (lv_at hl 3 rfl) ?_
        refine lv_lload hx hb d_GlyphPositionsModel_checkHanging_148 (lv_at hl 3 rfl) ?_
        refine lv_ldc2 (v := 2) hx hb hown (hts _ wq_149) d_GlyphPositionsModel_checkHanging_150 ?_
        refine lv_ladd hx hb d_GlyphPositionsModel_checkHanging_153 ?_
        refine lv_ldc2 (v := 2) hx hb hown (hts _ wq_149) d_GlyphPositionsModel_checkHanging_154 ?_
        refine lv_iload hx hb d_GlyphPositionsModel_checkHanging_157 (lv_at hl 2 rfl) ?_
        refine lv_i2l (v := x4_96.toInt64) hx hb d_GlyphPositionsModel_checkHanging_159 rfl ?_
        refine lv_lmul hx hb d_GlyphPositionsModel_checkHanging_160 ?_
        refine lv_iload hx hb d_GlyphPositionsModel_checkHanging_161 (lv_at hl 5 rfl) ?_
        refine lv_i2l (v := x8_96.toInt64) hx hb d_GlyphPositionsModel_checkHanging_163 rfl ?_
        refine lv_lmul hx hb d_GlyphPositionsModel_checkHanging_164 ?_
        refine lv_ladd hx hb d_GlyphPositionsModel_checkHanging_165 ?_
        refine lv_iload hx hb d_GlyphPositionsModel_checkHanging_166 (lv_at hl 2 rfl) ?_
        obtain ⟨sr11, h_r11, hf⟩ := q_bv_some hf
        refine q_callVv (As := [.long x5_96, .long ((x5_96 + 2) + (((2 : Int64) * x4_96.toInt64) * x8_96.toInt64)), .int x4_96]) (rest := []) (q0 := 36) hC (c_xGlyphPositionsModel_checkRow l G h_r11) cal_GlyphPositionsModel_checkRow wq_167 ⟨rfl, rfl, Nat.le_of_ble_eq_true rfl, Nat.le_of_ble_eq_true rfl⟩ rfl rfl hP hD hA hS rfl hl.1 rfl (Nat.le_of_ble_eq_true rfl) d_GlyphPositionsModel_checkHanging_168 (fun H locs hP hS => ?_)
        refine lv_iinc (v := x8_96 + 1) (lv' := [(8, .int (x8_96 + 1)), (0, .ref (G.2.2 36)), (3, .int x3_96), (4, .int x4_96), (5, .long x5_96), (7, .int x7_96)]) hx hb d_GlyphPositionsModel_checkHanging_171 hl (k := 5) rfl rfl (by decide) rfl (fun ls hl => ?_)
        refine lv_goto (tgt := 96) hx hb d_GlyphPositionsModel_checkHanging_174 (by decide) ?_
        exact ih_96 _ _ _ _ _ hf hP hS (lv_sub hl [1, 2, 3, 4, 5, 0] rfl)
      rw [if_neg c1] at hf
      refine lv_aload_n hx hb d_GlyphPositionsModel_checkHanging_114 rfl (lv_at hl 0 rfl) ?_
      refine lv_lload hx hb d_GlyphPositionsModel_checkHanging_115 (lv_at hl 3 rfl) ?_
      refine lv_aload_n hx hb d_GlyphPositionsModel_checkHanging_117 rfl (lv_at hl 0 rfl) ?_
      refine lv_lload hx hb d_GlyphPositionsModel_checkHanging_118 (lv_at hl 3 rfl) ?_
      refine lv_ldc2 (v := 2) hx hb hown (hts _ wq_149) d_GlyphPositionsModel_checkHanging_120 ?_
      refine lv_ladd hx hb d_GlyphPositionsModel_checkHanging_123 ?_
      refine lv_ldc2 (v := 2) hx hb hown (hts _ wq_149) d_GlyphPositionsModel_checkHanging_124 ?_
      refine lv_iload hx hb d_GlyphPositionsModel_checkHanging_127 (lv_at hl 5 rfl) ?_
      refine lv_i2l (v := x8_96.toInt64) hx hb d_GlyphPositionsModel_checkHanging_129 rfl ?_
      refine lv_lmul hx hb d_GlyphPositionsModel_checkHanging_130 ?_
      refine lv_ladd hx hb d_GlyphPositionsModel_checkHanging_131 ?_
      obtain ⟨r12, sr12, h_r12, hf⟩ := q_bm_some hf
      refine q_callVi (As := [.long ((x5_96 + 2) + ((2 : Int64) * x8_96.toInt64))]) (rest := [.long x5_96, .ref (G.2.2 36)]) (q0 := 36) hC (c_xGlyphPositionsModel_u16 l G h_r12) cal_GlyphPositionsModel_u16 wq_151 ⟨rfl, rfl, Nat.le_of_ble_eq_true rfl, Nat.le_of_ble_eq_true rfl⟩ rfl rfl hP hD hA hS rfl hl.1 rfl (Nat.le_of_ble_eq_true rfl) d_GlyphPositionsModel_checkHanging_132 (fun H locs hP hS => ?_)
      refine lv_i2l (v := r12.toInt64) hx hb d_GlyphPositionsModel_checkHanging_135 rfl ?_
      refine lv_ladd hx hb d_GlyphPositionsModel_checkHanging_136 ?_
      refine lv_iload hx hb d_GlyphPositionsModel_checkHanging_137 (lv_at hl 2 rfl) ?_
      obtain ⟨sr13, h_r13, hf⟩ := q_bv_some hf
      refine q_callVv (As := [.long (x5_96 + r12.toInt64), .int x4_96]) (rest := []) (q0 := 36) hC (c_xGlyphPositionsModel_checkParts l G h_r13) cal_GlyphPositionsModel_checkParts wq_168 ⟨rfl, rfl, Nat.le_of_ble_eq_true rfl, Nat.le_of_ble_eq_true rfl⟩ rfl rfl hP hD hA hS rfl hl.1 rfl (Nat.le_of_ble_eq_true rfl) d_GlyphPositionsModel_checkHanging_139 (fun H locs hP hS => ?_)
      refine lv_goto (tgt := 171) hx hb d_GlyphPositionsModel_checkHanging_142 (by decide) ?_
      refine lv_iinc (v := x8_96 + 1) (lv' := [(8, .int (x8_96 + 1)), (0, .ref (G.2.2 36)), (3, .int x3_96), (4, .int x4_96), (5, .long x5_96), (7, .int x7_96)]) hx hb d_GlyphPositionsModel_checkHanging_171 hl (k := 5) rfl rfl (by decide) rfl (fun ls hl => ?_)
      refine lv_goto (tgt := 96) hx hb d_GlyphPositionsModel_checkHanging_174 (by decide) ?_
      exact ih_96 _ _ _ _ _ hf hP hS (lv_sub hl [1, 2, 3, 4, 5, 0] rfl)
  have J_90 : ∀ (x3_90 x4_90 : Int32) (x5_90 : Int64) (x7_90 w1_90 : Int32) (st_90 : QSt) (H : Heap) (locs : List Loc) (ls : Array Slot), xGlyphPositionsModel_checkHanging_90 N x3_90 x4_90 x5_90 x7_90 w1_90 st_90 = some so → va_P G.1 vwCl (wX G st_90) H → va_S A s.heap H locs → lv_has ls 9 [(0, .ref (G.2.2 36)), (3, .int x3_90), (4, .int x4_90), (5, .long x5_90), (7, .int x7_90)] → W p l e ({ frames := 6, cells := 0, slots := 0, locals := 142 } : Room) s m args below meth c H locs 0 0 (q_Zv below args s G.1 (wX G) so A) (F0 m 90 ls [.int w1_90, .ref (G.2.2 36)]) := by
    intro x3_90 x4_90 x5_90 x7_90 w1_90 st_90 H locs ls hf hP hS hl
    unfold xGlyphPositionsModel_checkHanging_90 at hf
    obtain ⟨sr10, h_r10, hf⟩ := q_bv_some hf
    refine q_callVv (As := [.int w1_90]) (rest := []) (q0 := 36) hC (c_xGlyphPositionsModel_need l G h_r10) cal_GlyphPositionsModel_need wq_148 ⟨rfl, rfl, Nat.le_of_ble_eq_true rfl, Nat.le_of_ble_eq_true rfl⟩ rfl rfl hP hD hA hS rfl hl.1 rfl (Nat.le_of_ble_eq_true rfl) d_GlyphPositionsModel_checkHanging_90 (fun H locs hP hS => ?_)
    refine lv_iconst (v := 0) hx hb d_GlyphPositionsModel_checkHanging_93 (by decide) ?_
    refine lv_istore (lv' := [(8, .int 0), (0, .ref (G.2.2 36)), (3, .int x3_90), (4, .int x4_90), (5, .long x5_90), (7, .int x7_90)]) hx hb d_GlyphPositionsModel_checkHanging_94 hl (by decide) rfl (fun ls hl => ?_)
    exact L_96 _ _ _ _ _ _ _ _ _ _ hf hP hS (lv_sub hl [1, 2, 3, 4, 5, 0] rfl)
  have J_15 : ∀ (x1_15 : Int64) (x3_15 w1_15 : Int32) (st_15 : QSt) (H : Heap) (locs : List Loc) (ls : Array Slot), xGlyphPositionsModel_checkHanging_15 N x1_15 x3_15 w1_15 st_15 = some so → va_P G.1 vwCl (wX G st_15) H → va_S A s.heap H locs → lv_has ls 9 [(0, .ref (G.2.2 36)), (1, .long x1_15), (3, .int x3_15)] → W p l e ({ frames := 6, cells := 0, slots := 0, locals := 142 } : Room) s m args below meth c H locs 0 0 (q_Zv below args s G.1 (wX G) so A) (F0 m 15 ls [.int w1_15, .ref (G.2.2 36)]) := by
    intro x1_15 x3_15 w1_15 st_15 H locs ls hf hP hS hl
    unfold xGlyphPositionsModel_checkHanging_15 at hf
    obtain ⟨sr2, h_r2, hf⟩ := q_bv_some hf
    refine q_callVv (As := [.int w1_15]) (rest := []) (q0 := 36) hC (c_xGlyphPositionsModel_need l G h_r2) cal_GlyphPositionsModel_need wq_148 ⟨rfl, rfl, Nat.le_of_ble_eq_true rfl, Nat.le_of_ble_eq_true rfl⟩ rfl rfl hP hD hA hS rfl hl.1 rfl (Nat.le_of_ble_eq_true rfl) d_GlyphPositionsModel_checkHanging_15 (fun H locs hP hS => ?_)
    refine lv_aload_n hx hb d_GlyphPositionsModel_checkHanging_18 rfl (lv_at hl 0 rfl) ?_
    refine lv_lload_n hx hb d_GlyphPositionsModel_checkHanging_19 rfl (lv_at hl 1 rfl) ?_
    refine lv_ldc2 (v := 6) hx hb hown (hts _ wq_152) d_GlyphPositionsModel_checkHanging_20 ?_
    refine lv_ladd hx hb d_GlyphPositionsModel_checkHanging_23 ?_
    refine lv_bipush (v := 16) hx hb d_GlyphPositionsModel_checkHanging_24 (by decide) ?_
    obtain ⟨r3, sr3, h_r3, hf⟩ := q_bm_some hf
    refine q_callVi (As := [.long (x1_15 + 6), .int 16]) (rest := []) (q0 := 36) hC (c_xGlyphPositionsModel_atMost l G h_r3) cal_GlyphPositionsModel_atMost wq_156 ⟨rfl, rfl, Nat.le_of_ble_eq_true rfl, Nat.le_of_ble_eq_true rfl⟩ rfl rfl hP hD hA hS rfl hl.1 rfl (Nat.le_of_ble_eq_true rfl) d_GlyphPositionsModel_checkHanging_26 (fun H locs hP hS => ?_)
    refine lv_istore (lv' := [(4, .int r3), (0, .ref (G.2.2 36)), (1, .long x1_15), (3, .int x3_15)]) hx hb d_GlyphPositionsModel_checkHanging_29 hl (by decide) rfl (fun ls hl => ?_)
    refine lv_aload_n hx hb d_GlyphPositionsModel_checkHanging_31 rfl (lv_at hl 1 rfl) ?_
    refine lv_lload_n hx hb d_GlyphPositionsModel_checkHanging_32 rfl (lv_at hl 2 rfl) ?_
    refine lv_iload hx hb d_GlyphPositionsModel_checkHanging_33 (lv_at hl 0 rfl) ?_
    obtain ⟨sr4, h_r4, hf⟩ := q_bv_some hf
    refine q_callVv (As := [.long x1_15, .int r3]) (rest := []) (q0 := 36) hC (c_xGlyphPositionsModel_checkMarks l G h_r4) cal_GlyphPositionsModel_checkMarks wq_169 ⟨rfl, rfl, Nat.le_of_ble_eq_true rfl, Nat.le_of_ble_eq_true rfl⟩ rfl rfl hP hD hA hS rfl hl.1 rfl (Nat.le_of_ble_eq_true rfl) d_GlyphPositionsModel_checkHanging_35 (fun H locs hP hS => ?_)
    refine lv_lload_n hx hb d_GlyphPositionsModel_checkHanging_38 rfl (lv_at hl 2 rfl) ?_
    refine lv_aload_n hx hb d_GlyphPositionsModel_checkHanging_39 rfl (lv_at hl 1 rfl) ?_
    refine lv_lload_n hx hb d_GlyphPositionsModel_checkHanging_40 rfl (lv_at hl 2 rfl) ?_
    refine lv_ldc2 (v := 10) hx hb hown (hts _ wq_170) d_GlyphPositionsModel_checkHanging_41 ?_
    refine lv_ladd hx hb d_GlyphPositionsModel_checkHanging_44 ?_
    obtain ⟨r5, sr5, h_r5, hf⟩ := q_bm_some hf
    refine q_callVi (As := [.long (x1_15 + 10)]) (rest := [.long x1_15]) (q0 := 36) hC (c_xGlyphPositionsModel_u16 l G h_r5) cal_GlyphPositionsModel_u16 wq_151 ⟨rfl, rfl, Nat.le_of_ble_eq_true rfl, Nat.le_of_ble_eq_true rfl⟩ rfl rfl hP hD hA hS rfl hl.1 rfl (Nat.le_of_ble_eq_true rfl) d_GlyphPositionsModel_checkHanging_45 (fun H locs hP hS => ?_)
    refine lv_i2l (v := r5.toInt64) hx hb d_GlyphPositionsModel_checkHanging_48 rfl ?_
    refine lv_ladd hx hb d_GlyphPositionsModel_checkHanging_49 ?_
    obtain ⟨x5_1006, e_x5_1006, hf⟩ := q_lt_some hf
    refine q_topl e_x5_1006 ?_
    refine lv_lstore (lv' := [(5, .long x5_1006), (4, .int r3), (0, .ref (G.2.2 36)), (1, .long x1_15), (3, .int x3_15)]) hx hb d_GlyphPositionsModel_checkHanging_50 hl (by decide) rfl (fun ls hl => ?_)
    refine lv_aload_n hx hb d_GlyphPositionsModel_checkHanging_52 rfl (lv_at hl 2 rfl) ?_
    refine lv_lload hx hb d_GlyphPositionsModel_checkHanging_53 (lv_at hl 0 rfl) ?_
    refine lv_sipush (v := 256) hx hb d_GlyphPositionsModel_checkHanging_55 (by decide) ?_
    obtain ⟨r7, sr7, h_r7, hf⟩ := q_bm_some hf
    refine q_callVi (As := [.long x5_1006, .int 256]) (rest := []) (q0 := 36) hC (c_xGlyphPositionsModel_atMost l G h_r7) cal_GlyphPositionsModel_atMost wq_156 ⟨rfl, rfl, Nat.le_of_ble_eq_true rfl, Nat.le_of_ble_eq_true rfl⟩ rfl rfl hP hD hA hS rfl hl.1 rfl (Nat.le_of_ble_eq_true rfl) d_GlyphPositionsModel_checkHanging_58 (fun H locs hP hS => ?_)
    refine lv_istore (lv' := [(7, .int r7), (5, .long x5_1006), (4, .int r3), (0, .ref (G.2.2 36)), (1, .long x1_15), (3, .int x3_15)]) hx hb d_GlyphPositionsModel_checkHanging_61 hl (by decide) rfl (fun ls hl => ?_)
    refine lv_aload_n hx hb d_GlyphPositionsModel_checkHanging_63 rfl (lv_at hl 3 rfl) ?_
    refine lv_aload_n hx hb d_GlyphPositionsModel_checkHanging_64 rfl (lv_at hl 3 rfl) ?_
    refine lv_lload_n hx hb d_GlyphPositionsModel_checkHanging_65 rfl (lv_at hl 4 rfl) ?_
    refine lv_aload_n hx hb d_GlyphPositionsModel_checkHanging_66 rfl (lv_at hl 3 rfl) ?_
    refine lv_lload_n hx hb d_GlyphPositionsModel_checkHanging_67 rfl (lv_at hl 4 rfl) ?_
    refine lv_ldc2 (v := 4) hx hb hown (hts _ wq_150) d_GlyphPositionsModel_checkHanging_68 ?_
    refine lv_ladd hx hb d_GlyphPositionsModel_checkHanging_71 ?_
    obtain ⟨r8, sr8, h_r8, hf⟩ := q_bm_some hf
    refine q_callVi (As := [.long (x1_15 + 4)]) (rest := [.long x1_15, .ref (G.2.2 36), .ref (G.2.2 36)]) (q0 := 36) hC (c_xGlyphPositionsModel_u16 l G h_r8) cal_GlyphPositionsModel_u16 wq_151 ⟨rfl, rfl, Nat.le_of_ble_eq_true rfl, Nat.le_of_ble_eq_true rfl⟩ rfl rfl hP hD hA hS rfl hl.1 rfl (Nat.le_of_ble_eq_true rfl) d_GlyphPositionsModel_checkHanging_72 (fun H locs hP hS => ?_)
    refine lv_i2l (v := r8.toInt64) hx hb d_GlyphPositionsModel_checkHanging_75 rfl ?_
    refine lv_ladd hx hb d_GlyphPositionsModel_checkHanging_76 ?_
    obtain ⟨r9, sr9, h_r9, hf⟩ := q_bm_some hf
    refine q_callVi (As := [.long (x1_15 + r8.toInt64)]) (rest := [.ref (G.2.2 36)]) (q0 := 36) hC (c_xGlyphPositionsModel_checkCoverage l G h_r9) cal_GlyphPositionsModel_checkCoverage wq_165 ⟨rfl, rfl, Nat.le_of_ble_eq_true rfl, Nat.le_of_ble_eq_true rfl⟩ rfl rfl hP hD hA hS rfl hl.1 rfl (Nat.le_of_ble_eq_true rfl) d_GlyphPositionsModel_checkHanging_77 (fun H locs hP hS => ?_)
    refine lv_iload hx hb d_GlyphPositionsModel_checkHanging_80 (lv_at hl 0 rfl) ?_
    refine lv_icmp_ne (tgt := 89) hx hb d_GlyphPositionsModel_checkHanging_82 (by decide) (fun c1 => ?_) (fun c1 => ?_)
    · rw [if_neg c1] at hf
      refine lv_iconst (v := 0) hx hb d_GlyphPositionsModel_checkHanging_89 (by decide) ?_
      exact J_90 _ _ _ _ _ _ _ _ _ hf hP hS (lv_sub hl [3, 5, 2, 1, 0] rfl)
    rw [if_pos c1] at hf
    refine lv_iconst (v := 1) hx hb d_GlyphPositionsModel_checkHanging_85 (by decide) ?_
    refine lv_goto (tgt := 90) hx hb d_GlyphPositionsModel_checkHanging_86 (by decide) ?_
    exact J_90 _ _ _ _ _ _ _ _ _ hf hP hS (lv_sub hl [3, 5, 2, 1, 0] rfl)
  unfold xGlyphPositionsModel_checkHanging at hf
  refine lv_aload_n hx hb d_GlyphPositionsModel_checkHanging_0 rfl (lv_at hl 0 rfl) ?_
  refine lv_aload_n hx hb d_GlyphPositionsModel_checkHanging_1 rfl (lv_at hl 0 rfl) ?_
  refine lv_lload_n hx hb d_GlyphPositionsModel_checkHanging_2 rfl (lv_at hl 1 rfl) ?_
  obtain ⟨r1, sr1, h_r1, hf⟩ := q_bm_some hf
  refine q_callVi (As := [.long x1]) (rest := [.ref (G.2.2 36)]) (q0 := 36) hC (c_xGlyphPositionsModel_u16 l G h_r1) cal_GlyphPositionsModel_u16 wq_151 ⟨rfl, rfl, Nat.le_of_ble_eq_true rfl, Nat.le_of_ble_eq_true rfl⟩ rfl rfl hP hD hA hS rfl hl.1 rfl (Nat.le_of_ble_eq_true rfl) d_GlyphPositionsModel_checkHanging_3 (fun H locs hP hS => ?_)
  refine lv_iconst (v := 1) hx hb d_GlyphPositionsModel_checkHanging_6 (by decide) ?_
  refine lv_icmp_ne (tgt := 14) hx hb d_GlyphPositionsModel_checkHanging_7 (by decide) (fun c1 => ?_) (fun c1 => ?_)
  · rw [if_neg c1] at hf
    refine lv_iconst (v := 0) hx hb d_GlyphPositionsModel_checkHanging_14 (by decide) ?_
    exact J_15 _ _ _ _ _ _ _ hf hP hS hl
  rw [if_pos c1] at hf
  refine lv_iconst (v := 1) hx hb d_GlyphPositionsModel_checkHanging_10 (by decide) ?_
  refine lv_goto (tgt := 15) hx hb d_GlyphPositionsModel_checkHanging_11 (by decide) ?_
  exact J_15 _ _ _ _ _ _ _ hf hP hS hl
def xGlyphPositionsModel_byIndex_37 (N : Nat) (x5_37 : Int32) (w1_37 : Int32) (st_37 : QSt) : Option (Int32 × QSt) :=
  q_bv (xGlyphPositionsModel_need w1_37 st_37) (fun sr4 => if (sr4.1 14) = 0 then (some (x5_37, sr4)) else (some (0, sr4)))
def xGlyphPositionsModel_byIndex (N : Nat) (x1 x3 : Int64) (st : QSt) : Option (Int32 × QSt) :=
  q_bm (xGlyphPositionsModel_atMost x3 256 st) (fun r1 sr1 => q_bm (xGlyphPositionsModel_u16 (x1 + 2) sr1) (fun r2 sr2 => q_bm (xGlyphPositionsModel_checkCoverage N (x1 + r2.toInt64) sr2) (fun r3 sr3 => if r3 = r1 then (xGlyphPositionsModel_byIndex_37 N r1 1 sr3) else (xGlyphPositionsModel_byIndex_37 N r1 0 sr3))))
set_option maxHeartbeats 4000000 in
set_option maxRecDepth 100000 in
theorem c_xGlyphPositionsModel_byIndex (l : Launch) (G : XG) {N : Nat} {x1 x3 : Int64} {st : QSt} {ro : Int32} {so : QSt} (hf : xGlyphPositionsModel_byIndex N x1 x3 st = some (ro, so)) : q_Mi l y_GlyphPositionsModel_byIndex b_GlyphPositionsModel_byIndex 6 .int ({ frames := 3, cells := 0, slots := 0, locals := 75 } : Room) G.1 (xT G) (wX G) [.ref (G.2.2 36), .long x1, .long x3] st ro so := by
  refine q_Mi_of (by decide) (Nat.le_of_ble_eq_true rfl) (wX_fst G) ?_
  intro p e s m args below meth c A ls hC hr hlk hT hD hA hP hS hl
  have hx := hC.1.1
  have hb := hC.1.2.1
  have hown := hC.1.2.2.2.1
  have hts := hC.1.2.2.2.2
  have hl : lv_has ls 6 [(0, .ref (G.2.2 36)), (1, .long x1), (3, .long x3)] := hl
  have J_37 : ∀ (x5_37 w1_37 : Int32) (st_37 : QSt) (H : Heap) (locs : List Loc) (ls : Array Slot), xGlyphPositionsModel_byIndex_37 N x5_37 w1_37 st_37 = some (ro, so) → va_P G.1 vwCl (wX G st_37) H → va_S A s.heap H locs → lv_has ls 6 [(0, .ref (G.2.2 36)), (5, .int x5_37)] → W p l e ({ frames := 3, cells := 0, slots := 0, locals := 75 } : Room) s m args below meth c H locs 0 0 (q_Zi below args s G.1 (wX G) ro so A) (F0 m 37 ls [.int w1_37, .ref (G.2.2 36)]) := by
    intro x5_37 w1_37 st_37 H locs ls hf hP hS hl
    unfold xGlyphPositionsModel_byIndex_37 at hf
    obtain ⟨sr4, h_r4, hf⟩ := q_bv_some hf
    refine q_callVv (As := [.int w1_37]) (rest := []) (q0 := 36) hC (c_xGlyphPositionsModel_need l G h_r4) cal_GlyphPositionsModel_need wq_148 ⟨rfl, rfl, Nat.le_of_ble_eq_true rfl, Nat.le_of_ble_eq_true rfl⟩ rfl rfl hP hD hA hS rfl hl.1 rfl (Nat.le_of_ble_eq_true rfl) d_GlyphPositionsModel_byIndex_37 (fun H locs hP hS => ?_)
    refine lv_aload_n hx hb d_GlyphPositionsModel_byIndex_40 rfl (lv_at hl 0 rfl) ?_
    refine xg_36_bad hC hP wq_147 d_GlyphPositionsModel_byIndex_41 ?_
    refine lv_if_eq (tgt := 51) hx hb d_GlyphPositionsModel_byIndex_44 (by decide) (fun c1 => ?_) (fun c1 => ?_)
    · rw [if_pos c1] at hf
      refine lv_iload hx hb d_GlyphPositionsModel_byIndex_51 (lv_at hl 1 rfl) ?_
      exact q_iret hC hr hlk hf (by first | rfl | decide) hP hS d_GlyphPositionsModel_byIndex_53
    rw [if_neg c1] at hf
    refine lv_iconst (v := 0) hx hb d_GlyphPositionsModel_byIndex_47 (by decide) ?_
    refine lv_goto (tgt := 53) hx hb d_GlyphPositionsModel_byIndex_48 (by decide) ?_
    exact q_iret hC hr hlk hf (by first | rfl | decide) hP hS d_GlyphPositionsModel_byIndex_53
  unfold xGlyphPositionsModel_byIndex at hf
  refine lv_aload_n hx hb d_GlyphPositionsModel_byIndex_0 rfl (lv_at hl 0 rfl) ?_
  refine lv_lload_n hx hb d_GlyphPositionsModel_byIndex_1 rfl (lv_at hl 2 rfl) ?_
  refine lv_sipush (v := 256) hx hb d_GlyphPositionsModel_byIndex_2 (by decide) ?_
  obtain ⟨r1, sr1, h_r1, hf⟩ := q_bm_some hf
  refine q_callVi (As := [.long x3, .int 256]) (rest := []) (q0 := 36) hC (c_xGlyphPositionsModel_atMost l G h_r1) cal_GlyphPositionsModel_atMost wq_156 ⟨rfl, rfl, Nat.le_of_ble_eq_true rfl, Nat.le_of_ble_eq_true rfl⟩ rfl rfl hP hD hA hS rfl hl.1 rfl (Nat.le_of_ble_eq_true rfl) d_GlyphPositionsModel_byIndex_5 (fun H locs hP hS => ?_)
  refine lv_istore (lv' := [(5, .int r1), (0, .ref (G.2.2 36)), (1, .long x1), (3, .long x3)]) hx hb d_GlyphPositionsModel_byIndex_8 hl (by decide) rfl (fun ls hl => ?_)
  refine lv_aload_n hx hb d_GlyphPositionsModel_byIndex_10 rfl (lv_at hl 1 rfl) ?_
  refine lv_aload_n hx hb d_GlyphPositionsModel_byIndex_11 rfl (lv_at hl 1 rfl) ?_
  refine lv_lload_n hx hb d_GlyphPositionsModel_byIndex_12 rfl (lv_at hl 2 rfl) ?_
  refine lv_aload_n hx hb d_GlyphPositionsModel_byIndex_13 rfl (lv_at hl 1 rfl) ?_
  refine lv_lload_n hx hb d_GlyphPositionsModel_byIndex_14 rfl (lv_at hl 2 rfl) ?_
  refine lv_ldc2 (v := 2) hx hb hown (hts _ wq_149) d_GlyphPositionsModel_byIndex_15 ?_
  refine lv_ladd hx hb d_GlyphPositionsModel_byIndex_18 ?_
  obtain ⟨r2, sr2, h_r2, hf⟩ := q_bm_some hf
  refine q_callVi (As := [.long (x1 + 2)]) (rest := [.long x1, .ref (G.2.2 36), .ref (G.2.2 36)]) (q0 := 36) hC (c_xGlyphPositionsModel_u16 l G h_r2) cal_GlyphPositionsModel_u16 wq_151 ⟨rfl, rfl, Nat.le_of_ble_eq_true rfl, Nat.le_of_ble_eq_true rfl⟩ rfl rfl hP hD hA hS rfl hl.1 rfl (Nat.le_of_ble_eq_true rfl) d_GlyphPositionsModel_byIndex_19 (fun H locs hP hS => ?_)
  refine lv_i2l (v := r2.toInt64) hx hb d_GlyphPositionsModel_byIndex_22 rfl ?_
  refine lv_ladd hx hb d_GlyphPositionsModel_byIndex_23 ?_
  obtain ⟨r3, sr3, h_r3, hf⟩ := q_bm_some hf
  refine q_callVi (As := [.long (x1 + r2.toInt64)]) (rest := [.ref (G.2.2 36)]) (q0 := 36) hC (c_xGlyphPositionsModel_checkCoverage l G h_r3) cal_GlyphPositionsModel_checkCoverage wq_165 ⟨rfl, rfl, Nat.le_of_ble_eq_true rfl, Nat.le_of_ble_eq_true rfl⟩ rfl rfl hP hD hA hS rfl hl.1 rfl (Nat.le_of_ble_eq_true rfl) d_GlyphPositionsModel_byIndex_24 (fun H locs hP hS => ?_)
  refine lv_iload hx hb d_GlyphPositionsModel_byIndex_27 (lv_at hl 0 rfl) ?_
  refine lv_icmp_ne (tgt := 36) hx hb d_GlyphPositionsModel_byIndex_29 (by decide) (fun c1 => ?_) (fun c1 => ?_)
  · rw [if_neg c1] at hf
    refine lv_iconst (v := 0) hx hb d_GlyphPositionsModel_byIndex_36 (by decide) ?_
    exact J_37 _ _ _ _ _ _ hf hP hS (lv_sub hl [1, 0] rfl)
  rw [if_pos c1] at hf
  refine lv_iconst (v := 1) hx hb d_GlyphPositionsModel_byIndex_32 (by decide) ?_
  refine lv_goto (tgt := 37) hx hb d_GlyphPositionsModel_byIndex_33 (by decide) ?_
  exact J_37 _ _ _ _ _ _ hf hP hS (lv_sub hl [1, 0] rfl)
def xGlyphPositionsModel_checkJoins_32 (N : Nat) (x1_32 : Int64) (x3_32 : Int32) : Nat → Int32 → QSt → Option QSt
  | 0, _, _ => none
  | n_32 + 1, x4_32, st_32 => if (2 * x3_32) ≤ x4_32 then (some st_32) else (if (st_32.1 14) = 0 then (q_bv (xGlyphPositionsModel_checkPlace x1_32 ((x1_32 + 6) + ((2 : Int64) * x4_32.toInt64)) st_32) (fun sr4 => xGlyphPositionsModel_checkJoins_32 N x1_32 x3_32 n_32 (x4_32 + 1) sr4)) else (some st_32))
def xGlyphPositionsModel_checkJoins_15 (N : Nat) (x1_15 : Int64) (w1_15 : Int32) (st_15 : QSt) : Option QSt :=
  q_bv (xGlyphPositionsModel_need w1_15 st_15) (fun sr2 => q_bm (xGlyphPositionsModel_byIndex N x1_15 (x1_15 + 4) sr2) (fun r3 sr3 => xGlyphPositionsModel_checkJoins_32 N x1_15 r3 N 0 sr3))
def xGlyphPositionsModel_checkJoins (N : Nat) (x1 : Int64) (st : QSt) : Option QSt :=
  q_bm (xGlyphPositionsModel_u16 x1 st) (fun r1 sr1 => if r1 = 1 then (xGlyphPositionsModel_checkJoins_15 N x1 1 sr1) else (xGlyphPositionsModel_checkJoins_15 N x1 0 sr1))
set_option maxHeartbeats 4000000 in
set_option maxRecDepth 100000 in
theorem c_xGlyphPositionsModel_checkJoins (l : Launch) (G : XG) {N : Nat} {x1 : Int64} {st : QSt} {so : QSt} (hf : xGlyphPositionsModel_checkJoins N x1 st = some so) : q_Mv l y_GlyphPositionsModel_checkJoins b_GlyphPositionsModel_checkJoins 5 ({ frames := 4, cells := 0, slots := 0, locals := 100 } : Room) G.1 (xT G) (wX G) [.ref (G.2.2 36), .long x1] st so := by
  refine q_Mv_of (by decide) (Nat.le_of_ble_eq_true rfl) (wX_fst G) ?_
  intro p e s m args below meth c A ls hC hr hlk hT hD hA hP hS hl
  have hx := hC.1.1
  have hb := hC.1.2.1
  have hown := hC.1.2.2.2.1
  have hts := hC.1.2.2.2.2
  have hl : lv_has ls 5 [(0, .ref (G.2.2 36)), (1, .long x1)] := hl
  have L_32 : ∀ (x1_32 : Int64) (x3_32 : Int32) (n_32 : Nat) (x4_32 : Int32) (st_32 : QSt) (H : Heap) (locs : List Loc) (ls : Array Slot), xGlyphPositionsModel_checkJoins_32 N x1_32 x3_32 n_32 x4_32 st_32 = some so → va_P G.1 vwCl (wX G st_32) H → va_S A s.heap H locs → lv_has ls 5 [(0, .ref (G.2.2 36)), (1, .long x1_32), (3, .int x3_32), (4, .int x4_32)] → W p l e ({ frames := 4, cells := 0, slots := 0, locals := 100 } : Room) s m args below meth c H locs 0 0 (q_Zv below args s G.1 (wX G) so A) (F0 m 32 ls []) := by
    intro x1_32 x3_32 n_32
    induction n_32 with
    | zero => intro _ _ _ _ _ hf; exact absurd hf (by simp [xGlyphPositionsModel_checkJoins_32])
    | succ n_32 ih_32 =>
      intro x4_32 st_32 H locs ls hf hP hS hl
      rw [xGlyphPositionsModel_checkJoins_32] at hf
      refine lv_iload hx hb d_GlyphPositionsModel_checkJoins_32 (lv_at hl 3 rfl) ?_
      refine lv_iconst (v := 2) hx hb d_GlyphPositionsModel_checkJoins_34 (by decide) ?_
      refine lv_iload_n hx hb d_GlyphPositionsModel_checkJoins_35 rfl (lv_at hl 2 rfl) ?_
      refine lv_imul hx hb d_GlyphPositionsModel_checkJoins_36 ?_
      refine lv_icmp_ge (tgt := 71) hx hb d_GlyphPositionsModel_checkJoins_37 (by decide) (fun c1 => ?_) (fun c1 => ?_)
      · rw [if_pos c1] at hf
        exact q_vret hC hr hlk hf hP hS d_GlyphPositionsModel_checkJoins_71
      rw [if_neg c1] at hf
      refine lv_aload_n hx hb d_GlyphPositionsModel_checkJoins_40 rfl (lv_at hl 0 rfl) ?_
      refine xg_36_bad hC hP wq_147 d_GlyphPositionsModel_checkJoins_41 ?_
      refine lv_if_ne (tgt := 71) hx hb d_GlyphPositionsModel_checkJoins_44 (by decide) (fun c1 => ?_) (fun c1 => ?_)
      · rw [if_neg c1] at hf
        exact q_vret hC hr hlk hf hP hS d_GlyphPositionsModel_checkJoins_71
      rw [if_pos c1] at hf
      refine lv_aload_n hx hb d_GlyphPositionsModel_checkJoins_47 rfl (lv_at hl 0 rfl) ?_
      refine lv_lload_n hx hb d_GlyphPositionsModel_checkJoins_48 rfl (lv_at hl 1 rfl) ?_
      refine lv_lload_n hx hb d_GlyphPositionsModel_checkJoins_49 rfl (lv_at hl 1 rfl) ?_
      refine lv_ldc2 (v := 6) hx hb hown (hts _ wq_152) d_GlyphPositionsModel_checkJoins_50 ?_
      refine lv_ladd hx hb d_GlyphPositionsModel_checkJoins_53 ?_
      refine lv_ldc2 (v := 2) hx hb hown (hts _ wq_149) d_GlyphPositionsModel_checkJoins_54 ?_
      refine lv_iload hx hb d_GlyphPositionsModel_checkJoins_57 (lv_at hl 3 rfl) ?_
      refine lv_i2l (v := x4_32.toInt64) hx hb d_GlyphPositionsModel_checkJoins_59 rfl ?_
      refine lv_lmul hx hb d_GlyphPositionsModel_checkJoins_60 ?_
      refine lv_ladd hx hb d_GlyphPositionsModel_checkJoins_61 ?_
      obtain ⟨sr4, h_r4, hf⟩ := q_bv_some hf
      refine q_callVv (As := [.long x1_32, .long ((x1_32 + 6) + ((2 : Int64) * x4_32.toInt64))]) (rest := []) (q0 := 36) hC (c_xGlyphPositionsModel_checkPlace l G h_r4) cal_GlyphPositionsModel_checkPlace wq_166 ⟨rfl, rfl, Nat.le_of_ble_eq_true rfl, Nat.le_of_ble_eq_true rfl⟩ rfl rfl hP hD hA hS rfl hl.1 rfl (Nat.le_of_ble_eq_true rfl) d_GlyphPositionsModel_checkJoins_62 (fun H locs hP hS => ?_)
      refine lv_iinc (v := x4_32 + 1) (lv' := [(4, .int (x4_32 + 1)), (0, .ref (G.2.2 36)), (1, .long x1_32), (3, .int x3_32)]) hx hb d_GlyphPositionsModel_checkJoins_65 hl (k := 3) rfl rfl (by decide) rfl (fun ls hl => ?_)
      refine lv_goto (tgt := 32) hx hb d_GlyphPositionsModel_checkJoins_68 (by decide) ?_
      exact ih_32 _ _ _ _ _ hf hP hS (lv_sub hl [1, 2, 3, 0] rfl)
  have J_15 : ∀ (x1_15 : Int64) (w1_15 : Int32) (st_15 : QSt) (H : Heap) (locs : List Loc) (ls : Array Slot), xGlyphPositionsModel_checkJoins_15 N x1_15 w1_15 st_15 = some so → va_P G.1 vwCl (wX G st_15) H → va_S A s.heap H locs → lv_has ls 5 [(0, .ref (G.2.2 36)), (1, .long x1_15)] → W p l e ({ frames := 4, cells := 0, slots := 0, locals := 100 } : Room) s m args below meth c H locs 0 0 (q_Zv below args s G.1 (wX G) so A) (F0 m 15 ls [.int w1_15, .ref (G.2.2 36)]) := by
    intro x1_15 w1_15 st_15 H locs ls hf hP hS hl
    unfold xGlyphPositionsModel_checkJoins_15 at hf
    obtain ⟨sr2, h_r2, hf⟩ := q_bv_some hf
    refine q_callVv (As := [.int w1_15]) (rest := []) (q0 := 36) hC (c_xGlyphPositionsModel_need l G h_r2) cal_GlyphPositionsModel_need wq_148 ⟨rfl, rfl, Nat.le_of_ble_eq_true rfl, Nat.le_of_ble_eq_true rfl⟩ rfl rfl hP hD hA hS rfl hl.1 rfl (Nat.le_of_ble_eq_true rfl) d_GlyphPositionsModel_checkJoins_15 (fun H locs hP hS => ?_)
    refine lv_aload_n hx hb d_GlyphPositionsModel_checkJoins_18 rfl (lv_at hl 0 rfl) ?_
    refine lv_lload_n hx hb d_GlyphPositionsModel_checkJoins_19 rfl (lv_at hl 1 rfl) ?_
    refine lv_lload_n hx hb d_GlyphPositionsModel_checkJoins_20 rfl (lv_at hl 1 rfl) ?_
    refine lv_ldc2 (v := 4) hx hb hown (hts _ wq_150) d_GlyphPositionsModel_checkJoins_21 ?_
    refine lv_ladd hx hb d_GlyphPositionsModel_checkJoins_24 ?_
    obtain ⟨r3, sr3, h_r3, hf⟩ := q_bm_some hf
    refine q_callVi (As := [.long x1_15, .long (x1_15 + 4)]) (rest := []) (q0 := 36) hC (c_xGlyphPositionsModel_byIndex l G h_r3) cal_GlyphPositionsModel_byIndex wq_171 ⟨rfl, rfl, Nat.le_of_ble_eq_true rfl, Nat.le_of_ble_eq_true rfl⟩ rfl rfl hP hD hA hS rfl hl.1 rfl (Nat.le_of_ble_eq_true rfl) d_GlyphPositionsModel_checkJoins_25 (fun H locs hP hS => ?_)
    refine lv_istore_n (lv' := [(3, .int r3), (0, .ref (G.2.2 36)), (1, .long x1_15)]) hx hb d_GlyphPositionsModel_checkJoins_28 rfl hl (by decide) rfl (fun ls hl => ?_)
    refine lv_iconst (v := 0) hx hb d_GlyphPositionsModel_checkJoins_29 (by decide) ?_
    refine lv_istore (lv' := [(4, .int 0), (3, .int r3), (0, .ref (G.2.2 36)), (1, .long x1_15)]) hx hb d_GlyphPositionsModel_checkJoins_30 hl (by decide) rfl (fun ls hl => ?_)
    exact L_32 _ _ _ _ _ _ _ _ hf hP hS (lv_sub hl [2, 3, 1, 0] rfl)
  unfold xGlyphPositionsModel_checkJoins at hf
  refine lv_aload_n hx hb d_GlyphPositionsModel_checkJoins_0 rfl (lv_at hl 0 rfl) ?_
  refine lv_aload_n hx hb d_GlyphPositionsModel_checkJoins_1 rfl (lv_at hl 0 rfl) ?_
  refine lv_lload_n hx hb d_GlyphPositionsModel_checkJoins_2 rfl (lv_at hl 1 rfl) ?_
  obtain ⟨r1, sr1, h_r1, hf⟩ := q_bm_some hf
  refine q_callVi (As := [.long x1]) (rest := [.ref (G.2.2 36)]) (q0 := 36) hC (c_xGlyphPositionsModel_u16 l G h_r1) cal_GlyphPositionsModel_u16 wq_151 ⟨rfl, rfl, Nat.le_of_ble_eq_true rfl, Nat.le_of_ble_eq_true rfl⟩ rfl rfl hP hD hA hS rfl hl.1 rfl (Nat.le_of_ble_eq_true rfl) d_GlyphPositionsModel_checkJoins_3 (fun H locs hP hS => ?_)
  refine lv_iconst (v := 1) hx hb d_GlyphPositionsModel_checkJoins_6 (by decide) ?_
  refine lv_icmp_ne (tgt := 14) hx hb d_GlyphPositionsModel_checkJoins_7 (by decide) (fun c1 => ?_) (fun c1 => ?_)
  · rw [if_neg c1] at hf
    refine lv_iconst (v := 0) hx hb d_GlyphPositionsModel_checkJoins_14 (by decide) ?_
    exact J_15 _ _ _ _ _ _ hf hP hS hl
  rw [if_pos c1] at hf
  refine lv_iconst (v := 1) hx hb d_GlyphPositionsModel_checkJoins_10 (by decide) ?_
  refine lv_goto (tgt := 15) hx hb d_GlyphPositionsModel_checkJoins_11 (by decide) ?_
  exact J_15 _ _ _ _ _ _ hf hP hS hl
def xGlyphPositionsModel_bitsAt_19 (x3_19 : Int32) (w1_19 : Int32) (st_19 : QSt) : Option (Int32 × QSt) :=
  q_bv (xGlyphPositionsModel_need w1_19 st_19) (fun sr2 => some (x3_19 &&& 255, sr2))
def xGlyphPositionsModel_bitsAt (x1 : Int64) (st : QSt) : Option (Int32 × QSt) :=
  q_bm (xGlyphPositionsModel_u16 x1 st) (fun r1 sr1 => if 256 ≤ r1 then (xGlyphPositionsModel_bitsAt_19 r1 0 sr1) else (xGlyphPositionsModel_bitsAt_19 r1 1 sr1))
set_option maxHeartbeats 4000000 in
set_option maxRecDepth 100000 in
theorem c_xGlyphPositionsModel_bitsAt (l : Launch) (G : XG) {x1 : Int64} {st : QSt} {ro : Int32} {so : QSt} (hf : xGlyphPositionsModel_bitsAt x1 st = some (ro, so)) : q_Mi l y_GlyphPositionsModel_bitsAt b_GlyphPositionsModel_bitsAt 4 .int ({ frames := 2, cells := 0, slots := 0, locals := 44 } : Room) G.1 (xT G) (wX G) [.ref (G.2.2 36), .long x1] st ro so := by
  refine q_Mi_of (by decide) (Nat.le_of_ble_eq_true rfl) (wX_fst G) ?_
  intro p e s m args below meth c A ls hC hr hlk hT hD hA hP hS hl
  have hx := hC.1.1
  have hb := hC.1.2.1
  have hown := hC.1.2.2.2.1
  have hts := hC.1.2.2.2.2
  have hl : lv_has ls 4 [(0, .ref (G.2.2 36)), (1, .long x1)] := hl
  have J_19 : ∀ (x3_19 w1_19 : Int32) (st_19 : QSt) (H : Heap) (locs : List Loc) (ls : Array Slot), xGlyphPositionsModel_bitsAt_19 x3_19 w1_19 st_19 = some (ro, so) → va_P G.1 vwCl (wX G st_19) H → va_S A s.heap H locs → lv_has ls 4 [(3, .int x3_19)] → W p l e ({ frames := 2, cells := 0, slots := 0, locals := 44 } : Room) s m args below meth c H locs 0 0 (q_Zi below args s G.1 (wX G) ro so A) (F0 m 19 ls [.int w1_19, .ref (G.2.2 36)]) := by
    intro x3_19 w1_19 st_19 H locs ls hf hP hS hl
    unfold xGlyphPositionsModel_bitsAt_19 at hf
    obtain ⟨sr2, h_r2, hf⟩ := q_bv_some hf
    refine q_callVv (As := [.int w1_19]) (rest := []) (q0 := 36) hC (c_xGlyphPositionsModel_need l G h_r2) cal_GlyphPositionsModel_need wq_148 ⟨rfl, rfl, Nat.le_of_ble_eq_true rfl, Nat.le_of_ble_eq_true rfl⟩ rfl rfl hP hD hA hS rfl hl.1 rfl (Nat.le_of_ble_eq_true rfl) d_GlyphPositionsModel_bitsAt_19 (fun H locs hP hS => ?_)
    refine lv_iload_n hx hb d_GlyphPositionsModel_bitsAt_22 rfl (lv_at hl 0 rfl) ?_
    refine lv_sipush (v := 255) hx hb d_GlyphPositionsModel_bitsAt_23 (by decide) ?_
    refine lv_iand hx hb d_GlyphPositionsModel_bitsAt_26 ?_
    exact q_iret hC hr hlk hf (by first | rfl | decide) hP hS d_GlyphPositionsModel_bitsAt_27
  unfold xGlyphPositionsModel_bitsAt at hf
  refine lv_aload_n hx hb d_GlyphPositionsModel_bitsAt_0 rfl (lv_at hl 0 rfl) ?_
  refine lv_lload_n hx hb d_GlyphPositionsModel_bitsAt_1 rfl (lv_at hl 1 rfl) ?_
  obtain ⟨r1, sr1, h_r1, hf⟩ := q_bm_some hf
  refine q_callVi (As := [.long x1]) (rest := []) (q0 := 36) hC (c_xGlyphPositionsModel_u16 l G h_r1) cal_GlyphPositionsModel_u16 wq_151 ⟨rfl, rfl, Nat.le_of_ble_eq_true rfl, Nat.le_of_ble_eq_true rfl⟩ rfl rfl hP hD hA hS rfl hl.1 rfl (Nat.le_of_ble_eq_true rfl) d_GlyphPositionsModel_bitsAt_2 (fun H locs hP hS => ?_)
  refine lv_istore_n (lv' := [(3, .int r1), (0, .ref (G.2.2 36)), (1, .long x1)]) hx hb d_GlyphPositionsModel_bitsAt_5 rfl hl (by decide) rfl (fun ls hl => ?_)
  refine lv_aload_n hx hb d_GlyphPositionsModel_bitsAt_6 rfl (lv_at hl 1 rfl) ?_
  refine lv_iload_n hx hb d_GlyphPositionsModel_bitsAt_7 rfl (lv_at hl 0 rfl) ?_
  refine lv_sipush (v := 256) hx hb d_GlyphPositionsModel_bitsAt_8 (by decide) ?_
  refine lv_icmp_ge (tgt := 18) hx hb d_GlyphPositionsModel_bitsAt_11 (by decide) (fun c1 => ?_) (fun c1 => ?_)
  · rw [if_pos c1] at hf
    refine lv_iconst (v := 0) hx hb d_GlyphPositionsModel_bitsAt_18 (by decide) ?_
    exact J_19 _ _ _ _ _ _ hf hP hS (lv_sub hl [0] rfl)
  rw [if_neg c1] at hf
  refine lv_iconst (v := 1) hx hb d_GlyphPositionsModel_bitsAt_14 (by decide) ?_
  refine lv_goto (tgt := 19) hx hb d_GlyphPositionsModel_bitsAt_15 (by decide) ?_
  exact J_19 _ _ _ _ _ _ hf hP hS (lv_sub hl [0] rfl)
def xGlyphPositionsModel_sizeOf_4 (N : Nat) (x0_4 : Int32) : Nat → Int32 → Int32 → Option Int32
  | 0, _, _ => none
  | n_4 + 1, x1_4, x2_4 => if 8 ≤ x2_4 then (some x1_4) else (q_lt (x1_4 + (2 * ((x0_4 >>> (x2_4 &&& 31)) &&& 1))) (fun x1_1001 => xGlyphPositionsModel_sizeOf_4 N x0_4 n_4 x1_1001 (x2_4 + 1)))
def xGlyphPositionsModel_sizeOf (N : Nat) (x0 : Int32) : Option Int32 :=
  xGlyphPositionsModel_sizeOf_4 N x0 N 0 0
set_option maxHeartbeats 4000000 in
set_option maxRecDepth 100000 in
theorem c_xGlyphPositionsModel_sizeOf (l : Launch) (G : XG) {N : Nat} {x0 : Int32} {st : QSt} {ro : Int32} (hf : xGlyphPositionsModel_sizeOf N x0 = some ro) : q_Mp l y_GlyphPositionsModel_sizeOf b_GlyphPositionsModel_sizeOf 3 .int ({ frames := 0, cells := 0, slots := 0, locals := 0 } : Room) G.1 (xT G) (wX G) [.int x0] st ro := by
  refine q_Mp_of (by decide) (Nat.le_of_ble_eq_true rfl) (wX_fst G) ?_
  intro p e s m args below meth c ls hC hr hlk hT hP hS hl
  have hx := hC.1.1
  have hb := hC.1.2.1
  have hown := hC.1.2.2.2.1
  have hts := hC.1.2.2.2.2
  have hl : lv_has ls 3 [(0, .int x0)] := hl
  have L_4 : ∀ (x0_4 : Int32) (n_4 : Nat) (x1_4 x2_4 : Int32) (H : Heap) (locs : List Loc) (ls : Array Slot), xGlyphPositionsModel_sizeOf_4 N x0_4 n_4 x1_4 x2_4 = some ro → va_P G.1 vwCl (wX G st) H → va_S (fun _ => False) s.heap H locs → lv_has ls 3 [(0, .int x0_4), (1, .int x1_4), (2, .int x2_4)] → W p l e ({ frames := 0, cells := 0, slots := 0, locals := 0 } : Room) s m args below meth c H locs 0 0 (q_Zp below args s ro) (F0 m 4 ls []) := by
    intro x0_4 n_4
    induction n_4 with
    | zero => intro _ _ _ _ _ hf; exact absurd hf (by simp [xGlyphPositionsModel_sizeOf_4])
    | succ n_4 ih_4 =>
      intro x1_4 x2_4 H locs ls hf hP hS hl
      rw [xGlyphPositionsModel_sizeOf_4] at hf
      refine lv_iload_n hx hb d_GlyphPositionsModel_sizeOf_4 rfl (lv_at hl 2 rfl) ?_
      refine lv_bipush (v := 8) hx hb d_GlyphPositionsModel_sizeOf_5 (by decide) ?_
      refine lv_icmp_ge (tgt := 26) hx hb d_GlyphPositionsModel_sizeOf_7 (by decide) (fun c1 => ?_) (fun c1 => ?_)
      · rw [if_pos c1] at hf
        refine lv_iload_n hx hb d_GlyphPositionsModel_sizeOf_26 rfl (lv_at hl 1 rfl) ?_
        exact q_iretP hC hr hlk hf (by first | rfl | decide) hS d_GlyphPositionsModel_sizeOf_27
      rw [if_neg c1] at hf
      refine lv_iload_n hx hb d_GlyphPositionsModel_sizeOf_10 rfl (lv_at hl 1 rfl) ?_
      refine lv_iconst (v := 2) hx hb d_GlyphPositionsModel_sizeOf_11 (by decide) ?_
      refine lv_iload_n hx hb d_GlyphPositionsModel_sizeOf_12 rfl (lv_at hl 0 rfl) ?_
      refine lv_iload_n hx hb d_GlyphPositionsModel_sizeOf_13 rfl (lv_at hl 2 rfl) ?_
      refine lv_ishr hx hb d_GlyphPositionsModel_sizeOf_14 ?_
      refine lv_iconst (v := 1) hx hb d_GlyphPositionsModel_sizeOf_15 (by decide) ?_
      refine lv_iand hx hb d_GlyphPositionsModel_sizeOf_16 ?_
      refine lv_imul hx hb d_GlyphPositionsModel_sizeOf_17 ?_
      refine lv_iadd hx hb d_GlyphPositionsModel_sizeOf_18 ?_
      obtain ⟨x1_1001, e_x1_1001, hf⟩ := q_lt_some hf
      refine q_topi e_x1_1001 ?_
      refine lv_istore_n (lv' := [(1, .int x1_1001), (0, .int x0_4), (2, .int x2_4)]) hx hb d_GlyphPositionsModel_sizeOf_19 rfl hl (by decide) rfl (fun ls hl => ?_)
      refine lv_iinc (v := x2_4 + 1) (lv' := [(2, .int (x2_4 + 1)), (1, .int x1_1001), (0, .int x0_4)]) hx hb d_GlyphPositionsModel_sizeOf_20 hl (k := 2) rfl rfl (by decide) rfl (fun ls hl => ?_)
      refine lv_goto (tgt := 4) hx hb d_GlyphPositionsModel_sizeOf_23 (by decide) ?_
      exact ih_4 _ _ _ _ _ hf hP hS (lv_sub hl [2, 1, 0] rfl)
  unfold xGlyphPositionsModel_sizeOf at hf
  refine lv_iconst (v := 0) hx hb d_GlyphPositionsModel_sizeOf_0 (by decide) ?_
  refine lv_istore_n (lv' := [(1, .int 0), (0, .int x0)]) hx hb d_GlyphPositionsModel_sizeOf_1 rfl hl (by decide) rfl (fun ls hl => ?_)
  refine lv_iconst (v := 0) hx hb d_GlyphPositionsModel_sizeOf_2 (by decide) ?_
  refine lv_istore_n (lv' := [(2, .int 0), (1, .int 0), (0, .int x0)]) hx hb d_GlyphPositionsModel_sizeOf_3 rfl hl (by decide) rfl (fun ls hl => ?_)
  exact L_4 _ _ _ _ _ _ _ hf hP hS (lv_sub hl [2, 1, 0] rfl)
def xGlyphPositionsModel_checkClasses_202 (N : Nat) (rec_112 : Int32 → Int32 → QSt → Option QSt) (x1_112 : Int64) (x4_112 x6_202 x8_202 : Int32) (w1_202 : Int32) (st_202 : QSt) : Option QSt :=
  q_bv (xGlyphPositionsModel_need w1_202 st_202) (fun sr8 => rec_112 x8_202 (x6_202 + 1) sr8)
def xGlyphPositionsModel_checkClasses_201 (N : Nat) (rec_112 : Int32 → Int32 → QSt → Option QSt) (x1_112 : Int64) (x4_112 x6_201 x8_201 : Int32) (st_201 : QSt) : Option QSt :=
  xGlyphPositionsModel_checkClasses_202 N rec_112 x1_112 x4_112 x6_201 x8_201 0 st_201
def xGlyphPositionsModel_checkClasses_112 (N : Nat) (x1_112 : Int64) (x4_112 : Int32) : Nat → Int32 → Int32 → QSt → Option QSt
  | 0, _, _, _ => none
  | n_112 + 1, x5_112, x6_112, st_112 => if x4_112 ≤ x6_112 then (some st_112) else (if (st_112.1 14) = 0 then (q_bm (xGlyphPositionsModel_u16 ((x1_112 + 4) + ((6 : Int64) * x6_112.toInt64)) st_112) (fun r5 sr5 => q_bm (xGlyphPositionsModel_u16 ((x1_112 + 6) + ((6 : Int64) * x6_112.toInt64)) sr5) (fun r6 sr6 => q_bm (xGlyphPositionsModel_u16 ((x1_112 + 8) + ((6 : Int64) * x6_112.toInt64)) sr6) (fun r7 sr7 => if r5 ≤ x5_112 then (xGlyphPositionsModel_checkClasses_201 N (xGlyphPositionsModel_checkClasses_112 N x1_112 x4_112 n_112) x1_112 x4_112 x6_112 r6 sr7) else (if r6 < r5 then (xGlyphPositionsModel_checkClasses_201 N (xGlyphPositionsModel_checkClasses_112 N x1_112 x4_112 n_112) x1_112 x4_112 x6_112 r6 sr7) else (xGlyphPositionsModel_checkClasses_202 N (xGlyphPositionsModel_checkClasses_112 N x1_112 x4_112 n_112) x1_112 x4_112 x6_112 r6 1 sr7)))))) else (some st_112))
def xGlyphPositionsModel_checkClasses_68 (N : Nat) (x1_68 : Int64) (x4_68 : Int32) (w1_68 : Int32) (st_68 : QSt) : Option QSt :=
  q_bv (xGlyphPositionsModel_need w1_68 st_68) (fun sr11 => if x4_68 ≤ 0 then (some sr11) else (q_bm (xGlyphPositionsModel_u16 ((x1_68 + 4) + ((2 : Int64) * x4_68.toInt64)) sr11) (fun r12 sr12 => some sr12)))
def xGlyphPositionsModel_checkClasses_26 (N : Nat) (x1_26 : Int64) (x3_26 : Int32) (w1_26 : Int32) (st_26 : QSt) : Option QSt :=
  q_bv (xGlyphPositionsModel_need w1_26 st_26) (fun sr3 => if x3_26 = 1 then (q_bm (xGlyphPositionsModel_u16 (x1_26 + 4) sr3) (fun r9 sr9 => q_bm (xGlyphPositionsModel_u16 (x1_26 + 2) sr9) (fun r10 sr10 => if 65536 < (r10 + r9) then (xGlyphPositionsModel_checkClasses_68 N x1_26 r9 0 sr10) else (xGlyphPositionsModel_checkClasses_68 N x1_26 r9 1 sr10)))) else (q_bm (xGlyphPositionsModel_u16 (x1_26 + 2) sr3) (fun r4 sr4 => xGlyphPositionsModel_checkClasses_112 N x1_26 r4 N (-1) 0 sr4)))
def xGlyphPositionsModel_checkClasses_21 (N : Nat) (x1_21 : Int64) (x3_21 : Int32) (st_21 : QSt) : Option QSt :=
  xGlyphPositionsModel_checkClasses_26 N x1_21 x3_21 1 st_21
def xGlyphPositionsModel_checkClasses (N : Nat) (x1 : Int64) (st : QSt) : Option QSt :=
  q_bv (xGlyphPositionsModel_look st) (fun sr1 => q_bm (xGlyphPositionsModel_u16 x1 sr1) (fun r2 sr2 => if r2 = 1 then (xGlyphPositionsModel_checkClasses_21 N x1 r2 sr2) else (if r2 = 2 then (xGlyphPositionsModel_checkClasses_21 N x1 r2 sr2) else (xGlyphPositionsModel_checkClasses_26 N x1 r2 0 sr2))))
set_option maxHeartbeats 4000000 in
set_option maxRecDepth 100000 in
theorem c_xGlyphPositionsModel_checkClasses (l : Launch) (G : XG) {N : Nat} {x1 : Int64} {st : QSt} {so : QSt} (hf : xGlyphPositionsModel_checkClasses N x1 st = some so) : q_Mv l y_GlyphPositionsModel_checkClasses b_GlyphPositionsModel_checkClasses 9 ({ frames := 2, cells := 0, slots := 0, locals := 44 } : Room) G.1 (xT G) (wX G) [.ref (G.2.2 36), .long x1] st so := by
  refine q_Mv_of (by decide) (Nat.le_of_ble_eq_true rfl) (wX_fst G) ?_
  intro p e s m args below meth c A ls hC hr hlk hT hD hA hP hS hl
  have hx := hC.1.1
  have hb := hC.1.2.1
  have hown := hC.1.2.2.2.1
  have hts := hC.1.2.2.2.2
  have hl : lv_has ls 9 [(0, .ref (G.2.2 36)), (1, .long x1)] := hl
  have L_112 : ∀ (x1_112 : Int64) (x4_112 : Int32) (n_112 : Nat) (x5_112 x6_112 : Int32) (st_112 : QSt) (H : Heap) (locs : List Loc) (ls : Array Slot), xGlyphPositionsModel_checkClasses_112 N x1_112 x4_112 n_112 x5_112 x6_112 st_112 = some so → va_P G.1 vwCl (wX G st_112) H → va_S A s.heap H locs → lv_has ls 9 [(0, .ref (G.2.2 36)), (1, .long x1_112), (4, .int x4_112), (5, .int x5_112), (6, .int x6_112)] → W p l e ({ frames := 2, cells := 0, slots := 0, locals := 44 } : Room) s m args below meth c H locs 0 0 (q_Zv below args s G.1 (wX G) so A) (F0 m 112 ls []) := by
    intro x1_112 x4_112 n_112
    induction n_112 with
    | zero => intro _ _ _ _ _ _ hf; exact absurd hf (by simp [xGlyphPositionsModel_checkClasses_112])
    | succ n_112 ih_112 =>
      have J_202 : ∀ (x6_202 x8_202 w1_202 : Int32) (st_202 : QSt) (H : Heap) (locs : List Loc) (ls : Array Slot), xGlyphPositionsModel_checkClasses_202 N (xGlyphPositionsModel_checkClasses_112 N x1_112 x4_112 n_112) x1_112 x4_112 x6_202 x8_202 w1_202 st_202 = some so → va_P G.1 vwCl (wX G st_202) H → va_S A s.heap H locs → lv_has ls 9 [(0, .ref (G.2.2 36)), (1, .long x1_112), (4, .int x4_112), (6, .int x6_202), (8, .int x8_202)] → W p l e ({ frames := 2, cells := 0, slots := 0, locals := 44 } : Room) s m args below meth c H locs 0 0 (q_Zv below args s G.1 (wX G) so A) (F0 m 202 ls [.int w1_202, .ref (G.2.2 36)]) := by
        intro x6_202 x8_202 w1_202 st_202 H locs ls hf hP hS hl
        unfold xGlyphPositionsModel_checkClasses_202 at hf
        obtain ⟨sr8, h_r8, hf⟩ := q_bv_some hf
        refine q_callVv (As := [.int w1_202]) (rest := []) (q0 := 36) hC (c_xGlyphPositionsModel_need l G h_r8) cal_GlyphPositionsModel_need wq_148 ⟨rfl, rfl, Nat.le_of_ble_eq_true rfl, Nat.le_of_ble_eq_true rfl⟩ rfl rfl hP hD hA hS rfl hl.1 rfl (Nat.le_of_ble_eq_true rfl) d_GlyphPositionsModel_checkClasses_202 (fun H locs hP hS => ?_)
        refine lv_iload hx hb d_GlyphPositionsModel_checkClasses_205 (lv_at hl 4 rfl) ?_
        refine lv_istore (lv' := [(5, .int x8_202), (0, .ref (G.2.2 36)), (1, .long x1_112), (4, .int x4_112), (6, .int x6_202), (8, .int x8_202)]) hx hb d_GlyphPositionsModel_checkClasses_207 hl (by decide) rfl (fun ls hl => ?_)
        refine lv_iinc (v := x6_202 + 1) (lv' := [(6, .int (x6_202 + 1)), (5, .int x8_202), (0, .ref (G.2.2 36)), (1, .long x1_112), (4, .int x4_112), (8, .int x8_202)]) hx hb d_GlyphPositionsModel_checkClasses_209 hl (k := 4) rfl rfl (by decide) rfl (fun ls hl => ?_)
        refine lv_goto (tgt := 112) hx hb d_GlyphPositionsModel_checkClasses_212 (by decide) ?_
        exact ih_112 _ _ _ _ _ _ hf hP hS (lv_sub hl [2, 3, 4, 1, 0] rfl)
      have J_201 : ∀ (x6_201 x8_201 : Int32) (st_201 : QSt) (H : Heap) (locs : List Loc) (ls : Array Slot), xGlyphPositionsModel_checkClasses_201 N (xGlyphPositionsModel_checkClasses_112 N x1_112 x4_112 n_112) x1_112 x4_112 x6_201 x8_201 st_201 = some so → va_P G.1 vwCl (wX G st_201) H → va_S A s.heap H locs → lv_has ls 9 [(0, .ref (G.2.2 36)), (1, .long x1_112), (4, .int x4_112), (6, .int x6_201), (8, .int x8_201)] → W p l e ({ frames := 2, cells := 0, slots := 0, locals := 44 } : Room) s m args below meth c H locs 0 0 (q_Zv below args s G.1 (wX G) so A) (F0 m 201 ls [.ref (G.2.2 36)]) := by
        intro x6_201 x8_201 st_201 H locs ls hf hP hS hl
        unfold xGlyphPositionsModel_checkClasses_201 at hf
        refine lv_iconst (v := 0) hx hb d_GlyphPositionsModel_checkClasses_201 (by decide) ?_
        exact J_202 _ _ _ _ _ _ _ hf hP hS hl
      intro x5_112 x6_112 st_112 H locs ls hf hP hS hl
      rw [xGlyphPositionsModel_checkClasses_112] at hf
      refine lv_iload hx hb d_GlyphPositionsModel_checkClasses_112 (lv_at hl 4 rfl) ?_
      refine lv_iload hx hb d_GlyphPositionsModel_checkClasses_114 (lv_at hl 2 rfl) ?_
      refine lv_icmp_ge (tgt := 215) hx hb d_GlyphPositionsModel_checkClasses_116 (by decide) (fun c1 => ?_) (fun c1 => ?_)
      · rw [if_pos c1] at hf
        exact q_vret hC hr hlk hf hP hS d_GlyphPositionsModel_checkClasses_215
      rw [if_neg c1] at hf
      refine lv_aload_n hx hb d_GlyphPositionsModel_checkClasses_119 rfl (lv_at hl 0 rfl) ?_
      refine xg_36_bad hC hP wq_147 d_GlyphPositionsModel_checkClasses_120 ?_
      refine lv_if_ne (tgt := 215) hx hb d_GlyphPositionsModel_checkClasses_123 (by decide) (fun c1 => ?_) (fun c1 => ?_)
      · rw [if_neg c1] at hf
        exact q_vret hC hr hlk hf hP hS d_GlyphPositionsModel_checkClasses_215
      rw [if_pos c1] at hf
      refine lv_aload_n hx hb d_GlyphPositionsModel_checkClasses_126 rfl (lv_at hl 0 rfl) ?_
      refine lv_lload_n hx hb d_GlyphPositionsModel_checkClasses_127 rfl (lv_at hl 1 rfl) ?_
      refine lv_ldc2 (v := 4) hx hb hown (hts _ wq_150) d_GlyphPositionsModel_checkClasses_128 ?_
      refine lv_ladd hx hb d_GlyphPositionsModel_checkClasses_131 ?_
      refine lv_ldc2 (v := 6) hx hb hown (hts _ wq_152) d_GlyphPositionsModel_checkClasses_132 ?_
      refine lv_iload hx hb d_GlyphPositionsModel_checkClasses_135 (lv_at hl 4 rfl) ?_
      refine lv_i2l (v := x6_112.toInt64) hx hb d_GlyphPositionsModel_checkClasses_137 rfl ?_
      refine lv_lmul hx hb d_GlyphPositionsModel_checkClasses_138 ?_
      refine lv_ladd hx hb d_GlyphPositionsModel_checkClasses_139 ?_
      obtain ⟨r5, sr5, h_r5, hf⟩ := q_bm_some hf
      refine q_callVi (As := [.long ((x1_112 + 4) + ((6 : Int64) * x6_112.toInt64))]) (rest := []) (q0 := 36) hC (c_xGlyphPositionsModel_u16 l G h_r5) cal_GlyphPositionsModel_u16 wq_151 ⟨rfl, rfl, Nat.le_of_ble_eq_true rfl, Nat.le_of_ble_eq_true rfl⟩ rfl rfl hP hD hA hS rfl hl.1 rfl (Nat.le_of_ble_eq_true rfl) d_GlyphPositionsModel_checkClasses_140 (fun H locs hP hS => ?_)
      refine lv_istore (lv' := [(7, .int r5), (0, .ref (G.2.2 36)), (1, .long x1_112), (4, .int x4_112), (5, .int x5_112), (6, .int x6_112)]) hx hb d_GlyphPositionsModel_checkClasses_143 hl (by decide) rfl (fun ls hl => ?_)
      refine lv_aload_n hx hb d_GlyphPositionsModel_checkClasses_145 rfl (lv_at hl 1 rfl) ?_
      refine lv_lload_n hx hb d_GlyphPositionsModel_checkClasses_146 rfl (lv_at hl 2 rfl) ?_
      refine lv_ldc2 (v := 6) hx hb hown (hts _ wq_152) d_GlyphPositionsModel_checkClasses_147 ?_
      refine lv_ladd hx hb d_GlyphPositionsModel_checkClasses_150 ?_
      refine lv_ldc2 (v := 6) hx hb hown (hts _ wq_152) d_GlyphPositionsModel_checkClasses_151 ?_
      refine lv_iload hx hb d_GlyphPositionsModel_checkClasses_154 (lv_at hl 5 rfl) ?_
      refine lv_i2l (v := x6_112.toInt64) hx hb d_GlyphPositionsModel_checkClasses_156 rfl ?_
      refine lv_lmul hx hb d_GlyphPositionsModel_checkClasses_157 ?_
      refine lv_ladd hx hb d_GlyphPositionsModel_checkClasses_158 ?_
      obtain ⟨r6, sr6, h_r6, hf⟩ := q_bm_some hf
      refine q_callVi (As := [.long ((x1_112 + 6) + ((6 : Int64) * x6_112.toInt64))]) (rest := []) (q0 := 36) hC (c_xGlyphPositionsModel_u16 l G h_r6) cal_GlyphPositionsModel_u16 wq_151 ⟨rfl, rfl, Nat.le_of_ble_eq_true rfl, Nat.le_of_ble_eq_true rfl⟩ rfl rfl hP hD hA hS rfl hl.1 rfl (Nat.le_of_ble_eq_true rfl) d_GlyphPositionsModel_checkClasses_159 (fun H locs hP hS => ?_)
      refine lv_istore (lv' := [(8, .int r6), (7, .int r5), (0, .ref (G.2.2 36)), (1, .long x1_112), (4, .int x4_112), (5, .int x5_112), (6, .int x6_112)]) hx hb d_GlyphPositionsModel_checkClasses_162 hl (by decide) rfl (fun ls hl => ?_)
      refine lv_aload_n hx hb d_GlyphPositionsModel_checkClasses_164 rfl (lv_at hl 2 rfl) ?_
      refine lv_lload_n hx hb d_GlyphPositionsModel_checkClasses_165 rfl (lv_at hl 3 rfl) ?_
      refine lv_ldc2 (v := 8) hx hb hown (hts _ wq_153) d_GlyphPositionsModel_checkClasses_166 ?_
      refine lv_ladd hx hb d_GlyphPositionsModel_checkClasses_169 ?_
      refine lv_ldc2 (v := 6) hx hb hown (hts _ wq_152) d_GlyphPositionsModel_checkClasses_170 ?_
      refine lv_iload hx hb d_GlyphPositionsModel_checkClasses_173 (lv_at hl 6 rfl) ?_
      refine lv_i2l (v := x6_112.toInt64) hx hb d_GlyphPositionsModel_checkClasses_175 rfl ?_
      refine lv_lmul hx hb d_GlyphPositionsModel_checkClasses_176 ?_
      refine lv_ladd hx hb d_GlyphPositionsModel_checkClasses_177 ?_
      obtain ⟨r7, sr7, h_r7, hf⟩ := q_bm_some hf
      refine q_callVi (As := [.long ((x1_112 + 8) + ((6 : Int64) * x6_112.toInt64))]) (rest := []) (q0 := 36) hC (c_xGlyphPositionsModel_u16 l G h_r7) cal_GlyphPositionsModel_u16 wq_151 ⟨rfl, rfl, Nat.le_of_ble_eq_true rfl, Nat.le_of_ble_eq_true rfl⟩ rfl rfl hP hD hA hS rfl hl.1 rfl (Nat.le_of_ble_eq_true rfl) d_GlyphPositionsModel_checkClasses_178 (fun H locs hP hS => ?_)
      refine lv_pop hx hb d_GlyphPositionsModel_checkClasses_181 rfl ?_
      refine lv_aload_n hx hb d_GlyphPositionsModel_checkClasses_182 rfl (lv_at hl 2 rfl) ?_
      refine lv_iload hx hb d_GlyphPositionsModel_checkClasses_183 (lv_at hl 1 rfl) ?_
      refine lv_iload hx hb d_GlyphPositionsModel_checkClasses_185 (lv_at hl 5 rfl) ?_
      refine lv_icmp_le (tgt := 201) hx hb d_GlyphPositionsModel_checkClasses_187 (by decide) (fun c1 => ?_) (fun c1 => ?_)
      · rw [if_pos c1] at hf
        exact J_201 _ _ _ _ _ _ hf hP hS (lv_sub hl [2, 3, 4, 6, 0] rfl)
      rw [if_neg c1] at hf
      refine lv_iload hx hb d_GlyphPositionsModel_checkClasses_190 (lv_at hl 1 rfl) ?_
      refine lv_iload hx hb d_GlyphPositionsModel_checkClasses_192 (lv_at hl 0 rfl) ?_
      refine lv_icmp_gt (tgt := 201) hx hb d_GlyphPositionsModel_checkClasses_194 (by decide) (fun c1 => ?_) (fun c1 => ?_)
      · rw [if_pos c1] at hf
        exact J_201 _ _ _ _ _ _ hf hP hS (lv_sub hl [2, 3, 4, 6, 0] rfl)
      rw [if_neg c1] at hf
      refine lv_iconst (v := 1) hx hb d_GlyphPositionsModel_checkClasses_197 (by decide) ?_
      refine lv_goto (tgt := 202) hx hb d_GlyphPositionsModel_checkClasses_198 (by decide) ?_
      exact J_202 _ _ _ _ _ _ _ hf hP hS (lv_sub hl [2, 3, 4, 6, 0] rfl)
  have J_68 : ∀ (x1_68 : Int64) (x4_68 w1_68 : Int32) (st_68 : QSt) (H : Heap) (locs : List Loc) (ls : Array Slot), xGlyphPositionsModel_checkClasses_68 N x1_68 x4_68 w1_68 st_68 = some so → va_P G.1 vwCl (wX G st_68) H → va_S A s.heap H locs → lv_has ls 9 [(0, .ref (G.2.2 36)), (1, .long x1_68), (4, .int x4_68)] → W p l e ({ frames := 2, cells := 0, slots := 0, locals := 44 } : Room) s m args below meth c H locs 0 0 (q_Zv below args s G.1 (wX G) so A) (F0 m 68 ls [.int w1_68, .ref (G.2.2 36)]) := by
    intro x1_68 x4_68 w1_68 st_68 H locs ls hf hP hS hl
    unfold xGlyphPositionsModel_checkClasses_68 at hf
    obtain ⟨sr11, h_r11, hf⟩ := q_bv_some hf
    refine q_callVv (As := [.int w1_68]) (rest := []) (q0 := 36) hC (c_xGlyphPositionsModel_need l G h_r11) cal_GlyphPositionsModel_need wq_148 ⟨rfl, rfl, Nat.le_of_ble_eq_true rfl, Nat.le_of_ble_eq_true rfl⟩ rfl rfl hP hD hA hS rfl hl.1 rfl (Nat.le_of_ble_eq_true rfl) d_GlyphPositionsModel_checkClasses_68 (fun H locs hP hS => ?_)
    refine lv_iload hx hb d_GlyphPositionsModel_checkClasses_71 (lv_at hl 2 rfl) ?_
    refine lv_if_le (tgt := 94) hx hb d_GlyphPositionsModel_checkClasses_73 (by decide) (fun c1 => ?_) (fun c1 => ?_)
    · rw [if_pos c1] at hf
      exact q_vret hC hr hlk hf hP hS d_GlyphPositionsModel_checkClasses_94
    rw [if_neg c1] at hf
    refine lv_aload_n hx hb d_GlyphPositionsModel_checkClasses_76 rfl (lv_at hl 0 rfl) ?_
    refine lv_lload_n hx hb d_GlyphPositionsModel_checkClasses_77 rfl (lv_at hl 1 rfl) ?_
    refine lv_ldc2 (v := 4) hx hb hown (hts _ wq_150) d_GlyphPositionsModel_checkClasses_78 ?_
    refine lv_ladd hx hb d_GlyphPositionsModel_checkClasses_81 ?_
    refine lv_ldc2 (v := 2) hx hb hown (hts _ wq_149) d_GlyphPositionsModel_checkClasses_82 ?_
    refine lv_iload hx hb d_GlyphPositionsModel_checkClasses_85 (lv_at hl 2 rfl) ?_
    refine lv_i2l (v := x4_68.toInt64) hx hb d_GlyphPositionsModel_checkClasses_87 rfl ?_
    refine lv_lmul hx hb d_GlyphPositionsModel_checkClasses_88 ?_
    refine lv_ladd hx hb d_GlyphPositionsModel_checkClasses_89 ?_
    obtain ⟨r12, sr12, h_r12, hf⟩ := q_bm_some hf
    refine q_callVi (As := [.long ((x1_68 + 4) + ((2 : Int64) * x4_68.toInt64))]) (rest := []) (q0 := 36) hC (c_xGlyphPositionsModel_u16 l G h_r12) cal_GlyphPositionsModel_u16 wq_151 ⟨rfl, rfl, Nat.le_of_ble_eq_true rfl, Nat.le_of_ble_eq_true rfl⟩ rfl rfl hP hD hA hS rfl hl.1 rfl (Nat.le_of_ble_eq_true rfl) d_GlyphPositionsModel_checkClasses_90 (fun H locs hP hS => ?_)
    refine lv_pop hx hb d_GlyphPositionsModel_checkClasses_93 rfl ?_
    exact q_vret hC hr hlk hf hP hS d_GlyphPositionsModel_checkClasses_94
  have J_26 : ∀ (x1_26 : Int64) (x3_26 w1_26 : Int32) (st_26 : QSt) (H : Heap) (locs : List Loc) (ls : Array Slot), xGlyphPositionsModel_checkClasses_26 N x1_26 x3_26 w1_26 st_26 = some so → va_P G.1 vwCl (wX G st_26) H → va_S A s.heap H locs → lv_has ls 9 [(0, .ref (G.2.2 36)), (1, .long x1_26), (3, .int x3_26)] → W p l e ({ frames := 2, cells := 0, slots := 0, locals := 44 } : Room) s m args below meth c H locs 0 0 (q_Zv below args s G.1 (wX G) so A) (F0 m 26 ls [.int w1_26, .ref (G.2.2 36)]) := by
    intro x1_26 x3_26 w1_26 st_26 H locs ls hf hP hS hl
    unfold xGlyphPositionsModel_checkClasses_26 at hf
    obtain ⟨sr3, h_r3, hf⟩ := q_bv_some hf
    refine q_callVv (As := [.int w1_26]) (rest := []) (q0 := 36) hC (c_xGlyphPositionsModel_need l G h_r3) cal_GlyphPositionsModel_need wq_148 ⟨rfl, rfl, Nat.le_of_ble_eq_true rfl, Nat.le_of_ble_eq_true rfl⟩ rfl rfl hP hD hA hS rfl hl.1 rfl (Nat.le_of_ble_eq_true rfl) d_GlyphPositionsModel_checkClasses_26 (fun H locs hP hS => ?_)
    refine lv_iload_n hx hb d_GlyphPositionsModel_checkClasses_29 rfl (lv_at hl 2 rfl) ?_
    refine lv_iconst (v := 1) hx hb d_GlyphPositionsModel_checkClasses_30 (by decide) ?_
    refine lv_icmp_ne (tgt := 95) hx hb d_GlyphPositionsModel_checkClasses_31 (by decide) (fun c1 => ?_) (fun c1 => ?_)
    · rw [if_neg c1] at hf
      refine lv_aload_n hx hb d_GlyphPositionsModel_checkClasses_95 rfl (lv_at hl 0 rfl) ?_
      refine lv_lload_n hx hb d_GlyphPositionsModel_checkClasses_96 rfl (lv_at hl 1 rfl) ?_
      refine lv_ldc2 (v := 2) hx hb hown (hts _ wq_149) d_GlyphPositionsModel_checkClasses_97 ?_
      refine lv_ladd hx hb d_GlyphPositionsModel_checkClasses_100 ?_
      obtain ⟨r4, sr4, h_r4, hf⟩ := q_bm_some hf
      refine q_callVi (As := [.long (x1_26 + 2)]) (rest := []) (q0 := 36) hC (c_xGlyphPositionsModel_u16 l G h_r4) cal_GlyphPositionsModel_u16 wq_151 ⟨rfl, rfl, Nat.le_of_ble_eq_true rfl, Nat.le_of_ble_eq_true rfl⟩ rfl rfl hP hD hA hS rfl hl.1 rfl (Nat.le_of_ble_eq_true rfl) d_GlyphPositionsModel_checkClasses_101 (fun H locs hP hS => ?_)
      refine lv_istore (lv' := [(4, .int r4), (0, .ref (G.2.2 36)), (1, .long x1_26), (3, .int x3_26)]) hx hb d_GlyphPositionsModel_checkClasses_104 hl (by decide) rfl (fun ls hl => ?_)
      refine lv_iconst (v := (-1)) hx hb d_GlyphPositionsModel_checkClasses_106 (by decide) ?_
      refine lv_istore (lv' := [(5, .int (-1)), (4, .int r4), (0, .ref (G.2.2 36)), (1, .long x1_26), (3, .int x3_26)]) hx hb d_GlyphPositionsModel_checkClasses_107 hl (by decide) rfl (fun ls hl => ?_)
      refine lv_iconst (v := 0) hx hb d_GlyphPositionsModel_checkClasses_109 (by decide) ?_
      refine lv_istore (lv' := [(6, .int 0), (5, .int (-1)), (4, .int r4), (0, .ref (G.2.2 36)), (1, .long x1_26), (3, .int x3_26)]) hx hb d_GlyphPositionsModel_checkClasses_110 hl (by decide) rfl (fun ls hl => ?_)
      exact L_112 _ _ _ _ _ _ _ _ _ hf hP hS (lv_sub hl [3, 4, 2, 1, 0] rfl)
    rw [if_pos c1] at hf
    refine lv_aload_n hx hb d_GlyphPositionsModel_checkClasses_34 rfl (lv_at hl 0 rfl) ?_
    refine lv_lload_n hx hb d_GlyphPositionsModel_checkClasses_35 rfl (lv_at hl 1 rfl) ?_
    refine lv_ldc2 (v := 4) hx hb hown (hts _ wq_150) d_GlyphPositionsModel_checkClasses_36 ?_
    refine lv_ladd hx hb d_GlyphPositionsModel_checkClasses_39 ?_
    obtain ⟨r9, sr9, h_r9, hf⟩ := q_bm_some hf
    refine q_callVi (As := [.long (x1_26 + 4)]) (rest := []) (q0 := 36) hC (c_xGlyphPositionsModel_u16 l G h_r9) cal_GlyphPositionsModel_u16 wq_151 ⟨rfl, rfl, Nat.le_of_ble_eq_true rfl, Nat.le_of_ble_eq_true rfl⟩ rfl rfl hP hD hA hS rfl hl.1 rfl (Nat.le_of_ble_eq_true rfl) d_GlyphPositionsModel_checkClasses_40 (fun H locs hP hS => ?_)
    refine lv_istore (lv' := [(4, .int r9), (0, .ref (G.2.2 36)), (1, .long x1_26), (3, .int x3_26)]) hx hb d_GlyphPositionsModel_checkClasses_43 hl (by decide) rfl (fun ls hl => ?_)
    refine lv_aload_n hx hb d_GlyphPositionsModel_checkClasses_45 rfl (lv_at hl 1 rfl) ?_
    refine lv_aload_n hx hb d_GlyphPositionsModel_checkClasses_46 rfl (lv_at hl 1 rfl) ?_
    refine lv_lload_n hx hb d_GlyphPositionsModel_checkClasses_47 rfl (lv_at hl 2 rfl) ?_
    refine lv_ldc2 (v := 2) hx hb hown (hts _ wq_149) d_GlyphPositionsModel_checkClasses_48 ?_
    refine lv_ladd hx hb d_GlyphPositionsModel_checkClasses_51 ?_
    obtain ⟨r10, sr10, h_r10, hf⟩ := q_bm_some hf
    refine q_callVi (As := [.long (x1_26 + 2)]) (rest := [.ref (G.2.2 36)]) (q0 := 36) hC (c_xGlyphPositionsModel_u16 l G h_r10) cal_GlyphPositionsModel_u16 wq_151 ⟨rfl, rfl, Nat.le_of_ble_eq_true rfl, Nat.le_of_ble_eq_true rfl⟩ rfl rfl hP hD hA hS rfl hl.1 rfl (Nat.le_of_ble_eq_true rfl) d_GlyphPositionsModel_checkClasses_52 (fun H locs hP hS => ?_)
    refine lv_iload hx hb d_GlyphPositionsModel_checkClasses_55 (lv_at hl 0 rfl) ?_
    refine lv_iadd hx hb d_GlyphPositionsModel_checkClasses_57 ?_
    refine lv_ldc (v := 65536) hx hb hown (hts _ wq_172) d_GlyphPositionsModel_checkClasses_58 ?_
    refine lv_icmp_gt (tgt := 67) hx hb d_GlyphPositionsModel_checkClasses_60 (by decide) (fun c1 => ?_) (fun c1 => ?_)
    · rw [if_pos c1] at hf
      refine lv_iconst (v := 0) hx hb d_GlyphPositionsModel_checkClasses_67 (by decide) ?_
      exact J_68 _ _ _ _ _ _ _ hf hP hS (lv_sub hl [1, 2, 0] rfl)
    rw [if_neg c1] at hf
    refine lv_iconst (v := 1) hx hb d_GlyphPositionsModel_checkClasses_63 (by decide) ?_
    refine lv_goto (tgt := 68) hx hb d_GlyphPositionsModel_checkClasses_64 (by decide) ?_
    exact J_68 _ _ _ _ _ _ _ hf hP hS (lv_sub hl [1, 2, 0] rfl)
  have J_21 : ∀ (x1_21 : Int64) (x3_21 : Int32) (st_21 : QSt) (H : Heap) (locs : List Loc) (ls : Array Slot), xGlyphPositionsModel_checkClasses_21 N x1_21 x3_21 st_21 = some so → va_P G.1 vwCl (wX G st_21) H → va_S A s.heap H locs → lv_has ls 9 [(0, .ref (G.2.2 36)), (1, .long x1_21), (3, .int x3_21)] → W p l e ({ frames := 2, cells := 0, slots := 0, locals := 44 } : Room) s m args below meth c H locs 0 0 (q_Zv below args s G.1 (wX G) so A) (F0 m 21 ls [.ref (G.2.2 36)]) := by
    intro x1_21 x3_21 st_21 H locs ls hf hP hS hl
    unfold xGlyphPositionsModel_checkClasses_21 at hf
    refine lv_iconst (v := 1) hx hb d_GlyphPositionsModel_checkClasses_21 (by decide) ?_
    refine lv_goto (tgt := 26) hx hb d_GlyphPositionsModel_checkClasses_22 (by decide) ?_
    exact J_26 _ _ _ _ _ _ _ hf hP hS hl
  unfold xGlyphPositionsModel_checkClasses at hf
  refine lv_aload_n hx hb d_GlyphPositionsModel_checkClasses_0 rfl (lv_at hl 0 rfl) ?_
  obtain ⟨sr1, h_r1, hf⟩ := q_bv_some hf
  refine q_callVv (As := []) (rest := []) (q0 := 36) hC (c_xGlyphPositionsModel_look l G h_r1) cal_GlyphPositionsModel_look wq_163 ⟨rfl, rfl, Nat.le_of_ble_eq_true rfl, Nat.le_of_ble_eq_true rfl⟩ rfl rfl hP hD hA hS rfl hl.1 rfl (Nat.le_of_ble_eq_true rfl) d_GlyphPositionsModel_checkClasses_1 (fun H locs hP hS => ?_)
  refine lv_aload_n hx hb d_GlyphPositionsModel_checkClasses_4 rfl (lv_at hl 0 rfl) ?_
  refine lv_lload_n hx hb d_GlyphPositionsModel_checkClasses_5 rfl (lv_at hl 1 rfl) ?_
  obtain ⟨r2, sr2, h_r2, hf⟩ := q_bm_some hf
  refine q_callVi (As := [.long x1]) (rest := []) (q0 := 36) hC (c_xGlyphPositionsModel_u16 l G h_r2) cal_GlyphPositionsModel_u16 wq_151 ⟨rfl, rfl, Nat.le_of_ble_eq_true rfl, Nat.le_of_ble_eq_true rfl⟩ rfl rfl hP hD hA hS rfl hl.1 rfl (Nat.le_of_ble_eq_true rfl) d_GlyphPositionsModel_checkClasses_6 (fun H locs hP hS => ?_)
  refine lv_istore_n (lv' := [(3, .int r2), (0, .ref (G.2.2 36)), (1, .long x1)]) hx hb d_GlyphPositionsModel_checkClasses_9 rfl hl (by decide) rfl (fun ls hl => ?_)
  refine lv_aload_n hx hb d_GlyphPositionsModel_checkClasses_10 rfl (lv_at hl 1 rfl) ?_
  refine lv_iload_n hx hb d_GlyphPositionsModel_checkClasses_11 rfl (lv_at hl 0 rfl) ?_
  refine lv_iconst (v := 1) hx hb d_GlyphPositionsModel_checkClasses_12 (by decide) ?_
  refine lv_icmp_eq (tgt := 21) hx hb d_GlyphPositionsModel_checkClasses_13 (by decide) (fun c1 => ?_) (fun c1 => ?_)
  · rw [if_pos c1] at hf
    exact J_21 _ _ _ _ _ _ hf hP hS (lv_sub hl [1, 2, 0] rfl)
  rw [if_neg c1] at hf
  refine lv_iload_n hx hb d_GlyphPositionsModel_checkClasses_16 rfl (lv_at hl 0 rfl) ?_
  refine lv_iconst (v := 2) hx hb d_GlyphPositionsModel_checkClasses_17 (by decide) ?_
  refine lv_icmp_ne (tgt := 25) hx hb d_GlyphPositionsModel_checkClasses_18 (by decide) (fun c1 => ?_) (fun c1 => ?_)
  rotate_left
  · rw [if_pos c1] at hf
    exact J_21 _ _ _ _ _ _ hf hP hS (lv_sub hl [1, 2, 0] rfl)
  rw [if_neg c1] at hf
  refine lv_iconst (v := 0) hx hb d_GlyphPositionsModel_checkClasses_25 (by decide) ?_
  exact J_26 _ _ _ _ _ _ _ hf hP hS (lv_sub hl [1, 2, 0] rfl)
def xGlyphPositionsModel_reach_24 (w1_24 : Int32) (st_24 : QSt) : Option QSt :=
  q_bv (xGlyphPositionsModel_need w1_24 st_24) (fun sr1 => some sr1)
def xGlyphPositionsModel_reach_19 (st_19 : QSt) : Option QSt :=
  xGlyphPositionsModel_reach_24 1 st_19
def xGlyphPositionsModel_reach (x1 x3 : Int64) (st : QSt) : Option QSt :=
  if (lg_cmp x3 0) = 0 then (xGlyphPositionsModel_reach_19 st) else (if 0 < (lg_cmp (x1 + x3) ((st.1 12).toInt64)) then (xGlyphPositionsModel_reach_24 0 st) else (xGlyphPositionsModel_reach_19 st))
set_option maxHeartbeats 4000000 in
set_option maxRecDepth 100000 in
theorem c_xGlyphPositionsModel_reach (l : Launch) (G : XG) {x1 x3 : Int64} {st : QSt} {so : QSt} (hf : xGlyphPositionsModel_reach x1 x3 st = some so) : q_Mv l y_GlyphPositionsModel_reach b_GlyphPositionsModel_reach 5 ({ frames := 1, cells := 0, slots := 0, locals := 21 } : Room) G.1 (xT G) (wX G) [.ref (G.2.2 36), .long x1, .long x3] st so := by
  refine q_Mv_of (by decide) (Nat.le_of_ble_eq_true rfl) (wX_fst G) ?_
  intro p e s m args below meth c A ls hC hr hlk hT hD hA hP hS hl
  have hx := hC.1.1
  have hb := hC.1.2.1
  have hown := hC.1.2.2.2.1
  have hts := hC.1.2.2.2.2
  have hl : lv_has ls 5 [(0, .ref (G.2.2 36)), (1, .long x1), (3, .long x3)] := hl
  have J_24 : ∀ (w1_24 : Int32) (st_24 : QSt) (H : Heap) (locs : List Loc) (ls : Array Slot), xGlyphPositionsModel_reach_24 w1_24 st_24 = some so → va_P G.1 vwCl (wX G st_24) H → va_S A s.heap H locs → lv_has ls 5 [] → W p l e ({ frames := 1, cells := 0, slots := 0, locals := 21 } : Room) s m args below meth c H locs 0 0 (q_Zv below args s G.1 (wX G) so A) (F0 m 24 ls [.int w1_24, .ref (G.2.2 36)]) := by
    intro w1_24 st_24 H locs ls hf hP hS hl
    unfold xGlyphPositionsModel_reach_24 at hf
    obtain ⟨sr1, h_r1, hf⟩ := q_bv_some hf
    refine q_callVv (As := [.int w1_24]) (rest := []) (q0 := 36) hC (c_xGlyphPositionsModel_need l G h_r1) cal_GlyphPositionsModel_need wq_148 ⟨rfl, rfl, Nat.le_of_ble_eq_true rfl, Nat.le_of_ble_eq_true rfl⟩ rfl rfl hP hD hA hS rfl hl.1 rfl (Nat.le_of_ble_eq_true rfl) d_GlyphPositionsModel_reach_24 (fun H locs hP hS => ?_)
    exact q_vret hC hr hlk hf hP hS d_GlyphPositionsModel_reach_27
  have J_19 : ∀ (st_19 : QSt) (H : Heap) (locs : List Loc) (ls : Array Slot), xGlyphPositionsModel_reach_19 st_19 = some so → va_P G.1 vwCl (wX G st_19) H → va_S A s.heap H locs → lv_has ls 5 [] → W p l e ({ frames := 1, cells := 0, slots := 0, locals := 21 } : Room) s m args below meth c H locs 0 0 (q_Zv below args s G.1 (wX G) so A) (F0 m 19 ls [.ref (G.2.2 36)]) := by
    intro st_19 H locs ls hf hP hS hl
    unfold xGlyphPositionsModel_reach_19 at hf
    refine lv_iconst (v := 1) hx hb d_GlyphPositionsModel_reach_19 (by decide) ?_
    refine lv_goto (tgt := 24) hx hb d_GlyphPositionsModel_reach_20 (by decide) ?_
    exact J_24 _ _ _ _ _ hf hP hS hl
  unfold xGlyphPositionsModel_reach at hf
  refine lv_aload_n hx hb d_GlyphPositionsModel_reach_0 rfl (lv_at hl 0 rfl) ?_
  refine lv_lload_n hx hb d_GlyphPositionsModel_reach_1 rfl (lv_at hl 2 rfl) ?_
  refine lv_lconst (v := 0) hx hb d_GlyphPositionsModel_reach_2 (by decide) ?_
  refine W.lcmp hx hb d_GlyphPositionsModel_reach_3 ?_
  refine lv_if_eq (tgt := 19) hx hb d_GlyphPositionsModel_reach_4 (by decide) (fun c1 => ?_) (fun c1 => ?_)
  · rw [if_pos c1] at hf
    exact J_19 _ _ _ _ hf hP hS (lv_sub hl [] rfl)
  rw [if_neg c1] at hf
  refine lv_lload_n hx hb d_GlyphPositionsModel_reach_7 rfl (lv_at hl 1 rfl) ?_
  refine lv_lload_n hx hb d_GlyphPositionsModel_reach_8 rfl (lv_at hl 2 rfl) ?_
  refine lv_ladd hx hb d_GlyphPositionsModel_reach_9 ?_
  refine lv_aload_n hx hb d_GlyphPositionsModel_reach_10 rfl (lv_at hl 0 rfl) ?_
  refine xg_36_size hC hP wq_122 d_GlyphPositionsModel_reach_11 ?_
  refine lv_i2l (v := (st.1 12).toInt64) hx hb d_GlyphPositionsModel_reach_14 rfl ?_
  refine W.lcmp hx hb d_GlyphPositionsModel_reach_15 ?_
  refine lv_if_gt (tgt := 23) hx hb d_GlyphPositionsModel_reach_16 (by decide) (fun c1 => ?_) (fun c1 => ?_)
  rotate_left
  · rw [if_neg c1] at hf
    exact J_19 _ _ _ _ hf hP hS (lv_sub hl [] rfl)
  rw [if_pos c1] at hf
  refine lv_iconst (v := 0) hx hb d_GlyphPositionsModel_reach_23 (by decide) ?_
  exact J_24 _ _ _ _ _ hf hP hS (lv_sub hl [] rfl)
def xGlyphPositionsModel_checkPairSet_73 (N : Nat) (rec_20 : Int32 → Int32 → QSt → Option QSt) (x1_20 : Int64) (x3_20 x4_20 x6_73 : Int32) (x7_73 : Int64) (x9_73 : Int32) (w1_73 : Int32) (st_73 : QSt) : Option QSt :=
  q_bv (xGlyphPositionsModel_need w1_73 st_73) (fun sr5 => q_bv (xGlyphPositionsModel_reach (x7_73 + 2) x3_20.toInt64 sr5) (fun sr6 => rec_20 x9_73 (x6_73 + 1) sr6))
def xGlyphPositionsModel_checkPairSet_20 (N : Nat) (x1_20 : Int64) (x3_20 x4_20 : Int32) : Nat → Int32 → Int32 → QSt → Option QSt
  | 0, _, _, _ => none
  | n_20 + 1, x5_20, x6_20, st_20 => if x4_20 ≤ x6_20 then (some st_20) else (if (st_20.1 14) = 0 then (q_lt ((x1_20 + 2) + (((2 : Int64) + x3_20.toInt64) * x6_20.toInt64)) (fun x7_1003 => q_bm (xGlyphPositionsModel_u16 x7_1003 st_20) (fun r4 sr4 => if r4 ≤ x5_20 then (xGlyphPositionsModel_checkPairSet_73 N (xGlyphPositionsModel_checkPairSet_20 N x1_20 x3_20 x4_20 n_20) x1_20 x3_20 x4_20 x6_20 x7_1003 r4 0 sr4) else (xGlyphPositionsModel_checkPairSet_73 N (xGlyphPositionsModel_checkPairSet_20 N x1_20 x3_20 x4_20 n_20) x1_20 x3_20 x4_20 x6_20 x7_1003 r4 1 sr4)))) else (some st_20))
def xGlyphPositionsModel_checkPairSet (N : Nat) (x1 : Int64) (x3 : Int32) (st : QSt) : Option QSt :=
  q_bv (xGlyphPositionsModel_look st) (fun sr1 => q_bm (xGlyphPositionsModel_atMost x1 256 sr1) (fun r2 sr2 => xGlyphPositionsModel_checkPairSet_20 N x1 x3 r2 N (-1) 0 sr2))
set_option maxHeartbeats 4000000 in
set_option maxRecDepth 100000 in
theorem c_xGlyphPositionsModel_checkPairSet (l : Launch) (G : XG) {N : Nat} {x1 : Int64} {x3 : Int32} {st : QSt} {so : QSt} (hf : xGlyphPositionsModel_checkPairSet N x1 x3 st = some so) : q_Mv l y_GlyphPositionsModel_checkPairSet b_GlyphPositionsModel_checkPairSet 10 ({ frames := 3, cells := 0, slots := 0, locals := 68 } : Room) G.1 (xT G) (wX G) [.ref (G.2.2 36), .long x1, .int x3] st so := by
  refine q_Mv_of (by decide) (Nat.le_of_ble_eq_true rfl) (wX_fst G) ?_
  intro p e s m args below meth c A ls hC hr hlk hT hD hA hP hS hl
  have hx := hC.1.1
  have hb := hC.1.2.1
  have hown := hC.1.2.2.2.1
  have hts := hC.1.2.2.2.2
  have hl : lv_has ls 10 [(0, .ref (G.2.2 36)), (1, .long x1), (3, .int x3)] := hl
  have L_20 : ∀ (x1_20 : Int64) (x3_20 x4_20 : Int32) (n_20 : Nat) (x5_20 x6_20 : Int32) (st_20 : QSt) (H : Heap) (locs : List Loc) (ls : Array Slot), xGlyphPositionsModel_checkPairSet_20 N x1_20 x3_20 x4_20 n_20 x5_20 x6_20 st_20 = some so → va_P G.1 vwCl (wX G st_20) H → va_S A s.heap H locs → lv_has ls 10 [(0, .ref (G.2.2 36)), (1, .long x1_20), (3, .int x3_20), (4, .int x4_20), (5, .int x5_20), (6, .int x6_20)] → W p l e ({ frames := 3, cells := 0, slots := 0, locals := 68 } : Room) s m args below meth c H locs 0 0 (q_Zv below args s G.1 (wX G) so A) (F0 m 20 ls []) := by
    intro x1_20 x3_20 x4_20 n_20
    induction n_20 with
    | zero => intro _ _ _ _ _ _ hf; exact absurd hf (by simp [xGlyphPositionsModel_checkPairSet_20])
    | succ n_20 ih_20 =>
      have J_73 : ∀ (x6_73 : Int32) (x7_73 : Int64) (x9_73 w1_73 : Int32) (st_73 : QSt) (H : Heap) (locs : List Loc) (ls : Array Slot), xGlyphPositionsModel_checkPairSet_73 N (xGlyphPositionsModel_checkPairSet_20 N x1_20 x3_20 x4_20 n_20) x1_20 x3_20 x4_20 x6_73 x7_73 x9_73 w1_73 st_73 = some so → va_P G.1 vwCl (wX G st_73) H → va_S A s.heap H locs → lv_has ls 10 [(0, .ref (G.2.2 36)), (1, .long x1_20), (3, .int x3_20), (4, .int x4_20), (6, .int x6_73), (7, .long x7_73), (9, .int x9_73)] → W p l e ({ frames := 3, cells := 0, slots := 0, locals := 68 } : Room) s m args below meth c H locs 0 0 (q_Zv below args s G.1 (wX G) so A) (F0 m 73 ls [.int w1_73, .ref (G.2.2 36)]) := by
        intro x6_73 x7_73 x9_73 w1_73 st_73 H locs ls hf hP hS hl
        unfold xGlyphPositionsModel_checkPairSet_73 at hf
        obtain ⟨sr5, h_r5, hf⟩ := q_bv_some hf
        refine q_callVv (As := [.int w1_73]) (rest := []) (q0 := 36) hC (c_xGlyphPositionsModel_need l G h_r5) cal_GlyphPositionsModel_need wq_148 ⟨rfl, rfl, Nat.le_of_ble_eq_true rfl, Nat.le_of_ble_eq_true rfl⟩ rfl rfl hP hD hA hS rfl hl.1 rfl (Nat.le_of_ble_eq_true rfl) d_GlyphPositionsModel_checkPairSet_73 (fun H locs hP hS => ?_)
        refine lv_iload hx hb d_GlyphPositionsModel_checkPairSet_76 (lv_at hl 6 rfl) ?_
        refine lv_istore (lv' := [(5, .int x9_73), (0, .ref (G.2.2 36)), (1, .long x1_20), (3, .int x3_20), (4, .int x4_20), (6, .int x6_73), (7, .long x7_73), (9, .int x9_73)]) hx hb d_GlyphPositionsModel_checkPairSet_78 hl (by decide) rfl (fun ls hl => ?_)
        refine lv_aload_n hx hb d_GlyphPositionsModel_checkPairSet_80 rfl (lv_at hl 1 rfl) ?_
        refine lv_lload hx hb d_GlyphPositionsModel_checkPairSet_81 (lv_at hl 6 rfl) ?_
        refine lv_ldc2 (v := 2) hx hb hown (hts _ wq_149) d_GlyphPositionsModel_checkPairSet_83 ?_
        refine lv_ladd hx hb d_GlyphPositionsModel_checkPairSet_86 ?_
        refine lv_iload_n hx hb d_GlyphPositionsModel_checkPairSet_87 rfl (lv_at hl 3 rfl) ?_
        refine lv_i2l (v := x3_20.toInt64) hx hb d_GlyphPositionsModel_checkPairSet_88 rfl ?_
        obtain ⟨sr6, h_r6, hf⟩ := q_bv_some hf
        refine q_callVv (As := [.long (x7_73 + 2), .long x3_20.toInt64]) (rest := []) (q0 := 36) hC (c_xGlyphPositionsModel_reach l G h_r6) cal_GlyphPositionsModel_reach wq_173 ⟨rfl, rfl, Nat.le_of_ble_eq_true rfl, Nat.le_of_ble_eq_true rfl⟩ rfl rfl hP hD hA hS rfl hl.1 rfl (Nat.le_of_ble_eq_true rfl) d_GlyphPositionsModel_checkPairSet_89 (fun H locs hP hS => ?_)
        refine lv_iinc (v := x6_73 + 1) (lv' := [(6, .int (x6_73 + 1)), (5, .int x9_73), (0, .ref (G.2.2 36)), (1, .long x1_20), (3, .int x3_20), (4, .int x4_20), (7, .long x7_73), (9, .int x9_73)]) hx hb d_GlyphPositionsModel_checkPairSet_92 hl (k := 5) rfl rfl (by decide) rfl (fun ls hl => ?_)
        refine lv_goto (tgt := 20) hx hb d_GlyphPositionsModel_checkPairSet_95 (by decide) ?_
        exact ih_20 _ _ _ _ _ _ hf hP hS (lv_sub hl [2, 3, 4, 5, 1, 0] rfl)
      intro x5_20 x6_20 st_20 H locs ls hf hP hS hl
      rw [xGlyphPositionsModel_checkPairSet_20] at hf
      refine lv_iload hx hb d_GlyphPositionsModel_checkPairSet_20 (lv_at hl 5 rfl) ?_
      refine lv_iload hx hb d_GlyphPositionsModel_checkPairSet_22 (lv_at hl 3 rfl) ?_
      refine lv_icmp_ge (tgt := 98) hx hb d_GlyphPositionsModel_checkPairSet_24 (by decide) (fun c1 => ?_) (fun c1 => ?_)
      · rw [if_pos c1] at hf
        exact q_vret hC hr hlk hf hP hS d_GlyphPositionsModel_checkPairSet_98
      rw [if_neg c1] at hf
      refine lv_aload_n hx hb d_GlyphPositionsModel_checkPairSet_27 rfl (lv_at hl 0 rfl) ?_
      refine xg_36_bad hC hP wq_147 d_GlyphPositionsModel_checkPairSet_28 ?_
      refine lv_if_ne (tgt := 98) hx hb d_GlyphPositionsModel_checkPairSet_31 (by decide) (fun c1 => ?_) (fun c1 => ?_)
      · rw [if_neg c1] at hf
        exact q_vret hC hr hlk hf hP hS d_GlyphPositionsModel_checkPairSet_98
      rw [if_pos c1] at hf
      refine lv_lload_n hx hb d_GlyphPositionsModel_checkPairSet_34 rfl (lv_at hl 1 rfl) ?_
      refine lv_ldc2 (v := 2) hx hb hown (hts _ wq_149) d_GlyphPositionsModel_checkPairSet_35 ?_
      refine lv_ladd hx hb d_GlyphPositionsModel_checkPairSet_38 ?_
      refine lv_ldc2 (v := 2) hx hb hown (hts _ wq_149) d_GlyphPositionsModel_checkPairSet_39 ?_
      refine lv_iload_n hx hb d_GlyphPositionsModel_checkPairSet_42 rfl (lv_at hl 2 rfl) ?_
      refine lv_i2l (v := x3_20.toInt64) hx hb d_GlyphPositionsModel_checkPairSet_43 rfl ?_
      refine lv_ladd hx hb d_GlyphPositionsModel_checkPairSet_44 ?_
      refine lv_iload hx hb d_GlyphPositionsModel_checkPairSet_45 (lv_at hl 5 rfl) ?_
      refine lv_i2l (v := x6_20.toInt64) hx hb d_GlyphPositionsModel_checkPairSet_47 rfl ?_
      refine lv_lmul hx hb d_GlyphPositionsModel_checkPairSet_48 ?_
      refine lv_ladd hx hb d_GlyphPositionsModel_checkPairSet_49 ?_
      obtain ⟨x7_1003, e_x7_1003, hf⟩ := q_lt_some hf
      refine q_topl e_x7_1003 ?_
      refine lv_lstore (lv' := [(7, .long x7_1003), (0, .ref (G.2.2 36)), (1, .long x1_20), (3, .int x3_20), (4, .int x4_20), (5, .int x5_20), (6, .int x6_20)]) hx hb d_GlyphPositionsModel_checkPairSet_50 hl (by decide) rfl (fun ls hl => ?_)
      refine lv_aload_n hx hb d_GlyphPositionsModel_checkPairSet_52 rfl (lv_at hl 1 rfl) ?_
      refine lv_lload hx hb d_GlyphPositionsModel_checkPairSet_53 (lv_at hl 0 rfl) ?_
      obtain ⟨r4, sr4, h_r4, hf⟩ := q_bm_some hf
      refine q_callVi (As := [.long x7_1003]) (rest := []) (q0 := 36) hC (c_xGlyphPositionsModel_u16 l G h_r4) cal_GlyphPositionsModel_u16 wq_151 ⟨rfl, rfl, Nat.le_of_ble_eq_true rfl, Nat.le_of_ble_eq_true rfl⟩ rfl rfl hP hD hA hS rfl hl.1 rfl (Nat.le_of_ble_eq_true rfl) d_GlyphPositionsModel_checkPairSet_55 (fun H locs hP hS => ?_)
      refine lv_istore (lv' := [(9, .int r4), (7, .long x7_1003), (0, .ref (G.2.2 36)), (1, .long x1_20), (3, .int x3_20), (4, .int x4_20), (5, .int x5_20), (6, .int x6_20)]) hx hb d_GlyphPositionsModel_checkPairSet_58 hl (by decide) rfl (fun ls hl => ?_)
      refine lv_aload_n hx hb d_GlyphPositionsModel_checkPairSet_60 rfl (lv_at hl 2 rfl) ?_
      refine lv_iload hx hb d_GlyphPositionsModel_checkPairSet_61 (lv_at hl 0 rfl) ?_
      refine lv_iload hx hb d_GlyphPositionsModel_checkPairSet_63 (lv_at hl 6 rfl) ?_
      refine lv_icmp_le (tgt := 72) hx hb d_GlyphPositionsModel_checkPairSet_65 (by decide) (fun c1 => ?_) (fun c1 => ?_)
      · rw [if_pos c1] at hf
        refine lv_iconst (v := 0) hx hb d_GlyphPositionsModel_checkPairSet_72 (by decide) ?_
        exact J_73 _ _ _ _ _ _ _ _ hf hP hS (lv_sub hl [2, 3, 4, 5, 7, 1, 0] rfl)
      rw [if_neg c1] at hf
      refine lv_iconst (v := 1) hx hb d_GlyphPositionsModel_checkPairSet_68 (by decide) ?_
      refine lv_goto (tgt := 73) hx hb d_GlyphPositionsModel_checkPairSet_69 (by decide) ?_
      exact J_73 _ _ _ _ _ _ _ _ hf hP hS (lv_sub hl [2, 3, 4, 5, 7, 1, 0] rfl)
  unfold xGlyphPositionsModel_checkPairSet at hf
  refine lv_aload_n hx hb d_GlyphPositionsModel_checkPairSet_0 rfl (lv_at hl 0 rfl) ?_
  obtain ⟨sr1, h_r1, hf⟩ := q_bv_some hf
  refine q_callVv (As := []) (rest := []) (q0 := 36) hC (c_xGlyphPositionsModel_look l G h_r1) cal_GlyphPositionsModel_look wq_163 ⟨rfl, rfl, Nat.le_of_ble_eq_true rfl, Nat.le_of_ble_eq_true rfl⟩ rfl rfl hP hD hA hS rfl hl.1 rfl (Nat.le_of_ble_eq_true rfl) d_GlyphPositionsModel_checkPairSet_1 (fun H locs hP hS => ?_)
  refine lv_aload_n hx hb d_GlyphPositionsModel_checkPairSet_4 rfl (lv_at hl 0 rfl) ?_
  refine lv_lload_n hx hb d_GlyphPositionsModel_checkPairSet_5 rfl (lv_at hl 1 rfl) ?_
  refine lv_sipush (v := 256) hx hb d_GlyphPositionsModel_checkPairSet_6 (by decide) ?_
  obtain ⟨r2, sr2, h_r2, hf⟩ := q_bm_some hf
  refine q_callVi (As := [.long x1, .int 256]) (rest := []) (q0 := 36) hC (c_xGlyphPositionsModel_atMost l G h_r2) cal_GlyphPositionsModel_atMost wq_156 ⟨rfl, rfl, Nat.le_of_ble_eq_true rfl, Nat.le_of_ble_eq_true rfl⟩ rfl rfl hP hD hA hS rfl hl.1 rfl (Nat.le_of_ble_eq_true rfl) d_GlyphPositionsModel_checkPairSet_9 (fun H locs hP hS => ?_)
  refine lv_istore (lv' := [(4, .int r2), (0, .ref (G.2.2 36)), (1, .long x1), (3, .int x3)]) hx hb d_GlyphPositionsModel_checkPairSet_12 hl (by decide) rfl (fun ls hl => ?_)
  refine lv_iconst (v := (-1)) hx hb d_GlyphPositionsModel_checkPairSet_14 (by decide) ?_
  refine lv_istore (lv' := [(5, .int (-1)), (4, .int r2), (0, .ref (G.2.2 36)), (1, .long x1), (3, .int x3)]) hx hb d_GlyphPositionsModel_checkPairSet_15 hl (by decide) rfl (fun ls hl => ?_)
  refine lv_iconst (v := 0) hx hb d_GlyphPositionsModel_checkPairSet_17 (by decide) ?_
  refine lv_istore (lv' := [(6, .int 0), (5, .int (-1)), (4, .int r2), (0, .ref (G.2.2 36)), (1, .long x1), (3, .int x3)]) hx hb d_GlyphPositionsModel_checkPairSet_18 hl (by decide) rfl (fun ls hl => ?_)
  exact L_20 _ _ _ _ _ _ _ _ _ _ hf hP hS (lv_sub hl [3, 4, 5, 2, 1, 0] rfl)
def xGlyphPositionsModel_checkPairs_72 (N : Nat) (x1_72 : Int64) (x4_72 x5_72 : Int32) : Nat → Int32 → QSt → Option QSt
  | 0, _, _ => none
  | n_72 + 1, x6_72, st_72 => if x5_72 ≤ x6_72 then (some st_72) else (if (st_72.1 14) = 0 then (q_bm (xGlyphPositionsModel_u16 ((x1_72 + 10) + ((2 : Int64) * x6_72.toInt64)) st_72) (fun r20 sr20 => q_bv (xGlyphPositionsModel_checkPairSet N (x1_72 + r20.toInt64) x4_72 sr20) (fun sr21 => xGlyphPositionsModel_checkPairs_72 N x1_72 x4_72 x5_72 n_72 (x6_72 + 1) sr21))) else (some st_72))
def xGlyphPositionsModel_checkPairs_22 (N : Nat) (x1_22 : Int64) (x3_22 : Int32) (w1_22 : Int32) (st_22 : QSt) : Option QSt :=
  q_bv (xGlyphPositionsModel_need w1_22 st_22) (fun sr2 => q_bm (xGlyphPositionsModel_bitsAt (x1_22 + 4) sr2) (fun r3 sr3 => q_bn (xGlyphPositionsModel_sizeOf N r3) (fun r4 => q_bm (xGlyphPositionsModel_bitsAt (x1_22 + 6) sr3) (fun r5 sr5 => q_bn (xGlyphPositionsModel_sizeOf N r5) (fun r6 => q_lt (r4 + r6) (fun x4_1007 => if x3_22 = 1 then (q_bm (xGlyphPositionsModel_byIndex N x1_22 (x1_22 + 8) sr5) (fun r19 sr19 => xGlyphPositionsModel_checkPairs_72 N x1_22 x4_1007 r19 N 0 sr19)) else (if x3_22 = 2 then (q_bm (xGlyphPositionsModel_u16 (x1_22 + 2) sr5) (fun r8 sr8 => q_bm (xGlyphPositionsModel_checkCoverage N (x1_22 + r8.toInt64) sr8) (fun r9 sr9 => q_bm (xGlyphPositionsModel_u16 (x1_22 + 8) sr9) (fun r10 sr10 => q_bv (xGlyphPositionsModel_checkClasses N (x1_22 + r10.toInt64) sr10) (fun sr11 => q_bm (xGlyphPositionsModel_u16 (x1_22 + 10) sr11) (fun r12 sr12 => q_bv (xGlyphPositionsModel_checkClasses N (x1_22 + r12.toInt64) sr12) (fun sr13 => q_bm (xGlyphPositionsModel_atMost (x1_22 + 12) 256 sr13) (fun r14 sr14 => q_lt r14.toInt64 (fun x5_1015 => q_bm (xGlyphPositionsModel_atMost (x1_22 + 14) 256 sr14) (fun r16 sr16 => q_lt r16.toInt64 (fun x7_1017 => q_bv (xGlyphPositionsModel_reach (x1_22 + 16) ((x5_1015 * x7_1017) * x4_1007.toInt64) sr16) (fun sr18 => some sr18)))))))))))) else (some sr5))))))))
def xGlyphPositionsModel_checkPairs_17 (N : Nat) (x1_17 : Int64) (x3_17 : Int32) (st_17 : QSt) : Option QSt :=
  xGlyphPositionsModel_checkPairs_22 N x1_17 x3_17 1 st_17
def xGlyphPositionsModel_checkPairs (N : Nat) (x1 : Int64) (st : QSt) : Option QSt :=
  q_bm (xGlyphPositionsModel_u16 x1 st) (fun r1 sr1 => if r1 = 1 then (xGlyphPositionsModel_checkPairs_17 N x1 r1 sr1) else (if r1 = 2 then (xGlyphPositionsModel_checkPairs_17 N x1 r1 sr1) else (xGlyphPositionsModel_checkPairs_22 N x1 r1 0 sr1)))
set_option maxHeartbeats 4000000 in
set_option maxRecDepth 100000 in
theorem c_xGlyphPositionsModel_checkPairs (l : Launch) (G : XG) {N : Nat} {x1 : Int64} {st : QSt} {so : QSt} (hf : xGlyphPositionsModel_checkPairs N x1 st = some so) : q_Mv l y_GlyphPositionsModel_checkPairs b_GlyphPositionsModel_checkPairs 9 ({ frames := 4, cells := 0, slots := 0, locals := 100 } : Room) G.1 (xT G) (wX G) [.ref (G.2.2 36), .long x1] st so := by
  refine q_Mv_of (by decide) (Nat.le_of_ble_eq_true rfl) (wX_fst G) ?_
  intro p e s m args below meth c A ls hC hr hlk hT hD hA hP hS hl
  have hx := hC.1.1
  have hb := hC.1.2.1
  have hown := hC.1.2.2.2.1
  have hts := hC.1.2.2.2.2
  have hl : lv_has ls 9 [(0, .ref (G.2.2 36)), (1, .long x1)] := hl
  have L_72 : ∀ (x1_72 : Int64) (x4_72 x5_72 : Int32) (n_72 : Nat) (x6_72 : Int32) (st_72 : QSt) (H : Heap) (locs : List Loc) (ls : Array Slot), xGlyphPositionsModel_checkPairs_72 N x1_72 x4_72 x5_72 n_72 x6_72 st_72 = some so → va_P G.1 vwCl (wX G st_72) H → va_S A s.heap H locs → lv_has ls 9 [(0, .ref (G.2.2 36)), (1, .long x1_72), (4, .int x4_72), (5, .int x5_72), (6, .int x6_72)] → W p l e ({ frames := 4, cells := 0, slots := 0, locals := 100 } : Room) s m args below meth c H locs 0 0 (q_Zv below args s G.1 (wX G) so A) (F0 m 72 ls []) := by
    intro x1_72 x4_72 x5_72 n_72
    induction n_72 with
    | zero => intro _ _ _ _ _ hf; exact absurd hf (by simp [xGlyphPositionsModel_checkPairs_72])
    | succ n_72 ih_72 =>
      intro x6_72 st_72 H locs ls hf hP hS hl
      rw [xGlyphPositionsModel_checkPairs_72] at hf
      refine lv_iload hx hb d_GlyphPositionsModel_checkPairs_72 (lv_at hl 4 rfl) ?_
      refine lv_iload hx hb d_GlyphPositionsModel_checkPairs_74 (lv_at hl 3 rfl) ?_
      refine lv_icmp_ge (tgt := 118) hx hb d_GlyphPositionsModel_checkPairs_76 (by decide) (fun c1 => ?_) (fun c1 => ?_)
      · rw [if_pos c1] at hf
        refine lv_goto (tgt := 223) hx hb d_GlyphPositionsModel_checkPairs_118 (by decide) ?_
        exact q_vret hC hr hlk hf hP hS d_GlyphPositionsModel_checkPairs_223
      rw [if_neg c1] at hf
      refine lv_aload_n hx hb d_GlyphPositionsModel_checkPairs_79 rfl (lv_at hl 0 rfl) ?_
      refine xg_36_bad hC hP wq_147 d_GlyphPositionsModel_checkPairs_80 ?_
      refine lv_if_ne (tgt := 118) hx hb d_GlyphPositionsModel_checkPairs_83 (by decide) (fun c1 => ?_) (fun c1 => ?_)
      · rw [if_neg c1] at hf
        refine lv_goto (tgt := 223) hx hb d_GlyphPositionsModel_checkPairs_118 (by decide) ?_
        exact q_vret hC hr hlk hf hP hS d_GlyphPositionsModel_checkPairs_223
      rw [if_pos c1] at hf
      refine lv_aload_n hx hb d_GlyphPositionsModel_checkPairs_86 rfl (lv_at hl 0 rfl) ?_
      refine lv_lload_n hx hb d_GlyphPositionsModel_checkPairs_87 rfl (lv_at hl 1 rfl) ?_
      refine lv_aload_n hx hb d_GlyphPositionsModel_checkPairs_88 rfl (lv_at hl 0 rfl) ?_
      refine lv_lload_n hx hb d_GlyphPositionsModel_checkPairs_89 rfl (lv_at hl 1 rfl) ?_
      refine lv_ldc2 (v := 10) hx hb hown (hts _ wq_170) d_GlyphPositionsModel_checkPairs_90 ?_
      refine lv_ladd hx hb d_GlyphPositionsModel_checkPairs_93 ?_
      refine lv_ldc2 (v := 2) hx hb hown (hts _ wq_149) d_GlyphPositionsModel_checkPairs_94 ?_
      refine lv_iload hx hb d_GlyphPositionsModel_checkPairs_97 (lv_at hl 4 rfl) ?_
      refine lv_i2l (v := x6_72.toInt64) hx hb d_GlyphPositionsModel_checkPairs_99 rfl ?_
      refine lv_lmul hx hb d_GlyphPositionsModel_checkPairs_100 ?_
      refine lv_ladd hx hb d_GlyphPositionsModel_checkPairs_101 ?_
      obtain ⟨r20, sr20, h_r20, hf⟩ := q_bm_some hf
      refine q_callVi (As := [.long ((x1_72 + 10) + ((2 : Int64) * x6_72.toInt64))]) (rest := [.long x1_72, .ref (G.2.2 36)]) (q0 := 36) hC (c_xGlyphPositionsModel_u16 l G h_r20) cal_GlyphPositionsModel_u16 wq_151 ⟨rfl, rfl, Nat.le_of_ble_eq_true rfl, Nat.le_of_ble_eq_true rfl⟩ rfl rfl hP hD hA hS rfl hl.1 rfl (Nat.le_of_ble_eq_true rfl) d_GlyphPositionsModel_checkPairs_102 (fun H locs hP hS => ?_)
      refine lv_i2l (v := r20.toInt64) hx hb d_GlyphPositionsModel_checkPairs_105 rfl ?_
      refine lv_ladd hx hb d_GlyphPositionsModel_checkPairs_106 ?_
      refine lv_iload hx hb d_GlyphPositionsModel_checkPairs_107 (lv_at hl 2 rfl) ?_
      obtain ⟨sr21, h_r21, hf⟩ := q_bv_some hf
      refine q_callVv (As := [.long (x1_72 + r20.toInt64), .int x4_72]) (rest := []) (q0 := 36) hC (c_xGlyphPositionsModel_checkPairSet l G h_r21) cal_GlyphPositionsModel_checkPairSet wq_174 ⟨rfl, rfl, Nat.le_of_ble_eq_true rfl, Nat.le_of_ble_eq_true rfl⟩ rfl rfl hP hD hA hS rfl hl.1 rfl (Nat.le_of_ble_eq_true rfl) d_GlyphPositionsModel_checkPairs_109 (fun H locs hP hS => ?_)
      refine lv_iinc (v := x6_72 + 1) (lv' := [(6, .int (x6_72 + 1)), (0, .ref (G.2.2 36)), (1, .long x1_72), (4, .int x4_72), (5, .int x5_72)]) hx hb d_GlyphPositionsModel_checkPairs_112 hl (k := 4) rfl rfl (by decide) rfl (fun ls hl => ?_)
      refine lv_goto (tgt := 72) hx hb d_GlyphPositionsModel_checkPairs_115 (by decide) ?_
      exact ih_72 _ _ _ _ _ hf hP hS (lv_sub hl [1, 2, 3, 4, 0] rfl)
  have J_22 : ∀ (x1_22 : Int64) (x3_22 w1_22 : Int32) (st_22 : QSt) (H : Heap) (locs : List Loc) (ls : Array Slot), xGlyphPositionsModel_checkPairs_22 N x1_22 x3_22 w1_22 st_22 = some so → va_P G.1 vwCl (wX G st_22) H → va_S A s.heap H locs → lv_has ls 9 [(0, .ref (G.2.2 36)), (1, .long x1_22), (3, .int x3_22)] → W p l e ({ frames := 4, cells := 0, slots := 0, locals := 100 } : Room) s m args below meth c H locs 0 0 (q_Zv below args s G.1 (wX G) so A) (F0 m 22 ls [.int w1_22, .ref (G.2.2 36)]) := by
    intro x1_22 x3_22 w1_22 st_22 H locs ls hf hP hS hl
    unfold xGlyphPositionsModel_checkPairs_22 at hf
    obtain ⟨sr2, h_r2, hf⟩ := q_bv_some hf
    refine q_callVv (As := [.int w1_22]) (rest := []) (q0 := 36) hC (c_xGlyphPositionsModel_need l G h_r2) cal_GlyphPositionsModel_need wq_148 ⟨rfl, rfl, Nat.le_of_ble_eq_true rfl, Nat.le_of_ble_eq_true rfl⟩ rfl rfl hP hD hA hS rfl hl.1 rfl (Nat.le_of_ble_eq_true rfl) d_GlyphPositionsModel_checkPairs_22 (fun H locs hP hS => ?_)
    refine lv_aload_n hx hb d_GlyphPositionsModel_checkPairs_25 rfl (lv_at hl 0 rfl) ?_
    refine lv_lload_n hx hb d_GlyphPositionsModel_checkPairs_26 rfl (lv_at hl 1 rfl) ?_
    refine lv_ldc2 (v := 4) hx hb hown (hts _ wq_150) d_GlyphPositionsModel_checkPairs_27 ?_
    refine lv_ladd hx hb d_GlyphPositionsModel_checkPairs_30 ?_
    obtain ⟨r3, sr3, h_r3, hf⟩ := q_bm_some hf
    refine q_callVi (As := [.long (x1_22 + 4)]) (rest := []) (q0 := 36) hC (c_xGlyphPositionsModel_bitsAt l G h_r3) cal_GlyphPositionsModel_bitsAt wq_175 ⟨rfl, rfl, Nat.le_of_ble_eq_true rfl, Nat.le_of_ble_eq_true rfl⟩ rfl rfl hP hD hA hS rfl hl.1 rfl (Nat.le_of_ble_eq_true rfl) d_GlyphPositionsModel_checkPairs_31 (fun H locs hP hS => ?_)
    obtain ⟨r4, h_r4, hf⟩ := q_bn_some hf
    refine q_callSp (As := [.int r3]) (rest := []) hC (c_xGlyphPositionsModel_sizeOf l G h_r4) cal_GlyphPositionsModel_sizeOf wq_176 ⟨rfl, rfl, Nat.le_of_ble_eq_true rfl, Nat.le_of_ble_eq_true rfl⟩ hP hT hS rfl hl.1 rfl (Nat.le_of_ble_eq_true rfl) d_GlyphPositionsModel_checkPairs_34 (fun H locs hP hS => ?_)
    refine lv_aload_n hx hb d_GlyphPositionsModel_checkPairs_37 rfl (lv_at hl 0 rfl) ?_
    refine lv_lload_n hx hb d_GlyphPositionsModel_checkPairs_38 rfl (lv_at hl 1 rfl) ?_
    refine lv_ldc2 (v := 6) hx hb hown (hts _ wq_152) d_GlyphPositionsModel_checkPairs_39 ?_
    refine lv_ladd hx hb d_GlyphPositionsModel_checkPairs_42 ?_
    obtain ⟨r5, sr5, h_r5, hf⟩ := q_bm_some hf
    refine q_callVi (As := [.long (x1_22 + 6)]) (rest := [.int r4]) (q0 := 36) hC (c_xGlyphPositionsModel_bitsAt l G h_r5) cal_GlyphPositionsModel_bitsAt wq_175 ⟨rfl, rfl, Nat.le_of_ble_eq_true rfl, Nat.le_of_ble_eq_true rfl⟩ rfl rfl hP hD hA hS rfl hl.1 rfl (Nat.le_of_ble_eq_true rfl) d_GlyphPositionsModel_checkPairs_43 (fun H locs hP hS => ?_)
    obtain ⟨r6, h_r6, hf⟩ := q_bn_some hf
    refine q_callSp (As := [.int r5]) (rest := [.int r4]) hC (c_xGlyphPositionsModel_sizeOf l G h_r6) cal_GlyphPositionsModel_sizeOf wq_176 ⟨rfl, rfl, Nat.le_of_ble_eq_true rfl, Nat.le_of_ble_eq_true rfl⟩ hP hT hS rfl hl.1 rfl (Nat.le_of_ble_eq_true rfl) d_GlyphPositionsModel_checkPairs_46 (fun H locs hP hS => ?_)
    refine lv_iadd hx hb d_GlyphPositionsModel_checkPairs_49 ?_
    obtain ⟨x4_1007, e_x4_1007, hf⟩ := q_lt_some hf
    refine q_topi e_x4_1007 ?_
    refine lv_istore (lv' := [(4, .int x4_1007), (0, .ref (G.2.2 36)), (1, .long x1_22), (3, .int x3_22)]) hx hb d_GlyphPositionsModel_checkPairs_50 hl (by decide) rfl (fun ls hl => ?_)
    refine lv_iload_n hx hb d_GlyphPositionsModel_checkPairs_52 rfl (lv_at hl 3 rfl) ?_
    refine lv_iconst (v := 1) hx hb d_GlyphPositionsModel_checkPairs_53 (by decide) ?_
    refine lv_icmp_ne (tgt := 121) hx hb d_GlyphPositionsModel_checkPairs_54 (by decide) (fun c1 => ?_) (fun c1 => ?_)
    rotate_left
    · rw [if_pos c1] at hf
      refine lv_aload_n hx hb d_GlyphPositionsModel_checkPairs_57 rfl (lv_at hl 1 rfl) ?_
      refine lv_lload_n hx hb d_GlyphPositionsModel_checkPairs_58 rfl (lv_at hl 2 rfl) ?_
      refine lv_lload_n hx hb d_GlyphPositionsModel_checkPairs_59 rfl (lv_at hl 2 rfl) ?_
      refine lv_ldc2 (v := 8) hx hb hown (hts _ wq_153) d_GlyphPositionsModel_checkPairs_60 ?_
      refine lv_ladd hx hb d_GlyphPositionsModel_checkPairs_63 ?_
      obtain ⟨r19, sr19, h_r19, hf⟩ := q_bm_some hf
      refine q_callVi (As := [.long x1_22, .long (x1_22 + 8)]) (rest := []) (q0 := 36) hC (c_xGlyphPositionsModel_byIndex l G h_r19) cal_GlyphPositionsModel_byIndex wq_171 ⟨rfl, rfl, Nat.le_of_ble_eq_true rfl, Nat.le_of_ble_eq_true rfl⟩ rfl rfl hP hD hA hS rfl hl.1 rfl (Nat.le_of_ble_eq_true rfl) d_GlyphPositionsModel_checkPairs_64 (fun H locs hP hS => ?_)
      refine lv_istore (lv' := [(5, .int r19), (4, .int x4_1007), (0, .ref (G.2.2 36)), (1, .long x1_22), (3, .int x3_22)]) hx hb d_GlyphPositionsModel_checkPairs_67 hl (by decide) rfl (fun ls hl => ?_)
      refine lv_iconst (v := 0) hx hb d_GlyphPositionsModel_checkPairs_69 (by decide) ?_
      refine lv_istore (lv' := [(6, .int 0), (5, .int r19), (4, .int x4_1007), (0, .ref (G.2.2 36)), (1, .long x1_22), (3, .int x3_22)]) hx hb d_GlyphPositionsModel_checkPairs_70 hl (by decide) rfl (fun ls hl => ?_)
      exact L_72 _ _ _ _ _ _ _ _ _ hf hP hS (lv_sub hl [3, 4, 2, 1, 0] rfl)
    rw [if_neg c1] at hf
    refine lv_iload_n hx hb d_GlyphPositionsModel_checkPairs_121 rfl (lv_at hl 3 rfl) ?_
    refine lv_iconst (v := 2) hx hb d_GlyphPositionsModel_checkPairs_122 (by decide) ?_
    refine lv_icmp_ne (tgt := 223) hx hb d_GlyphPositionsModel_checkPairs_123 (by decide) (fun c1 => ?_) (fun c1 => ?_)
    · rw [if_neg c1] at hf
      exact q_vret hC hr hlk hf hP hS d_GlyphPositionsModel_checkPairs_223
    rw [if_pos c1] at hf
    refine lv_aload_n hx hb d_GlyphPositionsModel_checkPairs_126 rfl (lv_at hl 1 rfl) ?_
    refine lv_lload_n hx hb d_GlyphPositionsModel_checkPairs_127 rfl (lv_at hl 2 rfl) ?_
    refine lv_aload_n hx hb d_GlyphPositionsModel_checkPairs_128 rfl (lv_at hl 1 rfl) ?_
    refine lv_lload_n hx hb d_GlyphPositionsModel_checkPairs_129 rfl (lv_at hl 2 rfl) ?_
    refine lv_ldc2 (v := 2) hx hb hown (hts _ wq_149) d_GlyphPositionsModel_checkPairs_130 ?_
    refine lv_ladd hx hb d_GlyphPositionsModel_checkPairs_133 ?_
    obtain ⟨r8, sr8, h_r8, hf⟩ := q_bm_some hf
    refine q_callVi (As := [.long (x1_22 + 2)]) (rest := [.long x1_22, .ref (G.2.2 36)]) (q0 := 36) hC (c_xGlyphPositionsModel_u16 l G h_r8) cal_GlyphPositionsModel_u16 wq_151 ⟨rfl, rfl, Nat.le_of_ble_eq_true rfl, Nat.le_of_ble_eq_true rfl⟩ rfl rfl hP hD hA hS rfl hl.1 rfl (Nat.le_of_ble_eq_true rfl) d_GlyphPositionsModel_checkPairs_134 (fun H locs hP hS => ?_)
    refine lv_i2l (v := r8.toInt64) hx hb d_GlyphPositionsModel_checkPairs_137 rfl ?_
    refine lv_ladd hx hb d_GlyphPositionsModel_checkPairs_138 ?_
    obtain ⟨r9, sr9, h_r9, hf⟩ := q_bm_some hf
    refine q_callVi (As := [.long (x1_22 + r8.toInt64)]) (rest := []) (q0 := 36) hC (c_xGlyphPositionsModel_checkCoverage l G h_r9) cal_GlyphPositionsModel_checkCoverage wq_165 ⟨rfl, rfl, Nat.le_of_ble_eq_true rfl, Nat.le_of_ble_eq_true rfl⟩ rfl rfl hP hD hA hS rfl hl.1 rfl (Nat.le_of_ble_eq_true rfl) d_GlyphPositionsModel_checkPairs_139 (fun H locs hP hS => ?_)
    refine lv_pop hx hb d_GlyphPositionsModel_checkPairs_142 rfl ?_
    refine lv_aload_n hx hb d_GlyphPositionsModel_checkPairs_143 rfl (lv_at hl 1 rfl) ?_
    refine lv_lload_n hx hb d_GlyphPositionsModel_checkPairs_144 rfl (lv_at hl 2 rfl) ?_
    refine lv_aload_n hx hb d_GlyphPositionsModel_checkPairs_145 rfl (lv_at hl 1 rfl) ?_
    refine lv_lload_n hx hb d_GlyphPositionsModel_checkPairs_146 rfl (lv_at hl 2 rfl) ?_
    refine lv_ldc2 (v := 8) hx hb hown (hts _ wq_153) d_GlyphPositionsModel_checkPairs_147 ?_
    refine lv_ladd hx hb d_GlyphPositionsModel_checkPairs_150 ?_
    obtain ⟨r10, sr10, h_r10, hf⟩ := q_bm_some hf
    refine q_callVi (As := [.long (x1_22 + 8)]) (rest := [.long x1_22, .ref (G.2.2 36)]) (q0 := 36) hC (c_xGlyphPositionsModel_u16 l G h_r10) cal_GlyphPositionsModel_u16 wq_151 ⟨rfl, rfl, Nat.le_of_ble_eq_true rfl, Nat.le_of_ble_eq_true rfl⟩ rfl rfl hP hD hA hS rfl hl.1 rfl (Nat.le_of_ble_eq_true rfl) d_GlyphPositionsModel_checkPairs_151 (fun H locs hP hS => ?_)
    refine lv_i2l (v := r10.toInt64) hx hb d_GlyphPositionsModel_checkPairs_154 rfl ?_
    refine lv_ladd hx hb d_GlyphPositionsModel_checkPairs_155 ?_
    obtain ⟨sr11, h_r11, hf⟩ := q_bv_some hf
    refine q_callVv (As := [.long (x1_22 + r10.toInt64)]) (rest := []) (q0 := 36) hC (c_xGlyphPositionsModel_checkClasses l G h_r11) cal_GlyphPositionsModel_checkClasses wq_177 ⟨rfl, rfl, Nat.le_of_ble_eq_true rfl, Nat.le_of_ble_eq_true rfl⟩ rfl rfl hP hD hA hS rfl hl.1 rfl (Nat.le_of_ble_eq_true rfl) d_GlyphPositionsModel_checkPairs_156 (fun H locs hP hS => ?_)
    refine lv_aload_n hx hb d_GlyphPositionsModel_checkPairs_159 rfl (lv_at hl 1 rfl) ?_
    refine lv_lload_n hx hb d_GlyphPositionsModel_checkPairs_160 rfl (lv_at hl 2 rfl) ?_
    refine lv_aload_n hx hb d_GlyphPositionsModel_checkPairs_161 rfl (lv_at hl 1 rfl) ?_
    refine lv_lload_n hx hb d_GlyphPositionsModel_checkPairs_162 rfl (lv_at hl 2 rfl) ?_
    refine lv_ldc2 (v := 10) hx hb hown (hts _ wq_170) d_GlyphPositionsModel_checkPairs_163 ?_
    refine lv_ladd hx hb d_GlyphPositionsModel_checkPairs_166 ?_
    obtain ⟨r12, sr12, h_r12, hf⟩ := q_bm_some hf
    refine q_callVi (As := [.long (x1_22 + 10)]) (rest := [.long x1_22, .ref (G.2.2 36)]) (q0 := 36) hC (c_xGlyphPositionsModel_u16 l G h_r12) cal_GlyphPositionsModel_u16 wq_151 ⟨rfl, rfl, Nat.le_of_ble_eq_true rfl, Nat.le_of_ble_eq_true rfl⟩ rfl rfl hP hD hA hS rfl hl.1 rfl (Nat.le_of_ble_eq_true rfl) d_GlyphPositionsModel_checkPairs_167 (fun H locs hP hS => ?_)
    refine lv_i2l (v := r12.toInt64) hx hb d_GlyphPositionsModel_checkPairs_170 rfl ?_
    refine lv_ladd hx hb d_GlyphPositionsModel_checkPairs_171 ?_
    obtain ⟨sr13, h_r13, hf⟩ := q_bv_some hf
    refine q_callVv (As := [.long (x1_22 + r12.toInt64)]) (rest := []) (q0 := 36) hC (c_xGlyphPositionsModel_checkClasses l G h_r13) cal_GlyphPositionsModel_checkClasses wq_177 ⟨rfl, rfl, Nat.le_of_ble_eq_true rfl, Nat.le_of_ble_eq_true rfl⟩ rfl rfl hP hD hA hS rfl hl.1 rfl (Nat.le_of_ble_eq_true rfl) d_GlyphPositionsModel_checkPairs_172 (fun H locs hP hS => ?_)
    refine lv_aload_n hx hb d_GlyphPositionsModel_checkPairs_175 rfl (lv_at hl 1 rfl) ?_
    refine lv_lload_n hx hb d_GlyphPositionsModel_checkPairs_176 rfl (lv_at hl 2 rfl) ?_
    refine lv_ldc2 (v := 12) hx hb hown (hts _ wq_178) d_GlyphPositionsModel_checkPairs_177 ?_
    refine lv_ladd hx hb d_GlyphPositionsModel_checkPairs_180 ?_
    refine lv_sipush (v := 256) hx hb d_GlyphPositionsModel_checkPairs_181 (by decide) ?_
    obtain ⟨r14, sr14, h_r14, hf⟩ := q_bm_some hf
    refine q_callVi (As := [.long (x1_22 + 12), .int 256]) (rest := []) (q0 := 36) hC (c_xGlyphPositionsModel_atMost l G h_r14) cal_GlyphPositionsModel_atMost wq_156 ⟨rfl, rfl, Nat.le_of_ble_eq_true rfl, Nat.le_of_ble_eq_true rfl⟩ rfl rfl hP hD hA hS rfl hl.1 rfl (Nat.le_of_ble_eq_true rfl) d_GlyphPositionsModel_checkPairs_184 (fun H locs hP hS => ?_)
    refine lv_i2l (v := r14.toInt64) hx hb d_GlyphPositionsModel_checkPairs_187 rfl ?_
    obtain ⟨x5_1015, e_x5_1015, hf⟩ := q_lt_some hf
    refine q_topl e_x5_1015 ?_
    refine lv_lstore (lv' := [(5, .long x5_1015), (4, .int x4_1007), (0, .ref (G.2.2 36)), (1, .long x1_22), (3, .int x3_22)]) hx hb d_GlyphPositionsModel_checkPairs_188 hl (by decide) rfl (fun ls hl => ?_)
    refine lv_aload_n hx hb d_GlyphPositionsModel_checkPairs_190 rfl (lv_at hl 2 rfl) ?_
    refine lv_lload_n hx hb d_GlyphPositionsModel_checkPairs_191 rfl (lv_at hl 3 rfl) ?_
    refine lv_ldc2 (v := 14) hx hb hown (hts _ wq_179) d_GlyphPositionsModel_checkPairs_192 ?_
    refine lv_ladd hx hb d_GlyphPositionsModel_checkPairs_195 ?_
    refine lv_sipush (v := 256) hx hb d_GlyphPositionsModel_checkPairs_196 (by decide) ?_
    obtain ⟨r16, sr16, h_r16, hf⟩ := q_bm_some hf
    refine q_callVi (As := [.long (x1_22 + 14), .int 256]) (rest := []) (q0 := 36) hC (c_xGlyphPositionsModel_atMost l G h_r16) cal_GlyphPositionsModel_atMost wq_156 ⟨rfl, rfl, Nat.le_of_ble_eq_true rfl, Nat.le_of_ble_eq_true rfl⟩ rfl rfl hP hD hA hS rfl hl.1 rfl (Nat.le_of_ble_eq_true rfl) d_GlyphPositionsModel_checkPairs_199 (fun H locs hP hS => ?_)
    refine lv_i2l (v := r16.toInt64) hx hb d_GlyphPositionsModel_checkPairs_202 rfl ?_
    obtain ⟨x7_1017, e_x7_1017, hf⟩ := q_lt_some hf
    refine q_topl e_x7_1017 ?_
    refine lv_lstore (lv' := [(7, .long x7_1017), (5, .long x5_1015), (4, .int x4_1007), (0, .ref (G.2.2 36)), (1, .long x1_22), (3, .int x3_22)]) hx hb d_GlyphPositionsModel_checkPairs_203 hl (by decide) rfl (fun ls hl => ?_)
    refine lv_aload_n hx hb d_GlyphPositionsModel_checkPairs_205 rfl (lv_at hl 3 rfl) ?_
    refine lv_lload_n hx hb d_GlyphPositionsModel_checkPairs_206 rfl (lv_at hl 4 rfl) ?_
    refine lv_ldc2 (v := 16) hx hb hown (hts _ wq_180) d_GlyphPositionsModel_checkPairs_207 ?_
    refine lv_ladd hx hb d_GlyphPositionsModel_checkPairs_210 ?_
    refine lv_lload hx hb d_GlyphPositionsModel_checkPairs_211 (lv_at hl 1 rfl) ?_
    refine lv_lload hx hb d_GlyphPositionsModel_checkPairs_213 (lv_at hl 0 rfl) ?_
    refine lv_lmul hx hb d_GlyphPositionsModel_checkPairs_215 ?_
    refine lv_iload hx hb d_GlyphPositionsModel_checkPairs_216 (lv_at hl 2 rfl) ?_
    refine lv_i2l (v := x4_1007.toInt64) hx hb d_GlyphPositionsModel_checkPairs_218 rfl ?_
    refine lv_lmul hx hb d_GlyphPositionsModel_checkPairs_219 ?_
    obtain ⟨sr18, h_r18, hf⟩ := q_bv_some hf
    refine q_callVv (As := [.long (x1_22 + 16), .long ((x5_1015 * x7_1017) * x4_1007.toInt64)]) (rest := []) (q0 := 36) hC (c_xGlyphPositionsModel_reach l G h_r18) cal_GlyphPositionsModel_reach wq_173 ⟨rfl, rfl, Nat.le_of_ble_eq_true rfl, Nat.le_of_ble_eq_true rfl⟩ rfl rfl hP hD hA hS rfl hl.1 rfl (Nat.le_of_ble_eq_true rfl) d_GlyphPositionsModel_checkPairs_220 (fun H locs hP hS => ?_)
    exact q_vret hC hr hlk hf hP hS d_GlyphPositionsModel_checkPairs_223
  have J_17 : ∀ (x1_17 : Int64) (x3_17 : Int32) (st_17 : QSt) (H : Heap) (locs : List Loc) (ls : Array Slot), xGlyphPositionsModel_checkPairs_17 N x1_17 x3_17 st_17 = some so → va_P G.1 vwCl (wX G st_17) H → va_S A s.heap H locs → lv_has ls 9 [(0, .ref (G.2.2 36)), (1, .long x1_17), (3, .int x3_17)] → W p l e ({ frames := 4, cells := 0, slots := 0, locals := 100 } : Room) s m args below meth c H locs 0 0 (q_Zv below args s G.1 (wX G) so A) (F0 m 17 ls [.ref (G.2.2 36)]) := by
    intro x1_17 x3_17 st_17 H locs ls hf hP hS hl
    unfold xGlyphPositionsModel_checkPairs_17 at hf
    refine lv_iconst (v := 1) hx hb d_GlyphPositionsModel_checkPairs_17 (by decide) ?_
    refine lv_goto (tgt := 22) hx hb d_GlyphPositionsModel_checkPairs_18 (by decide) ?_
    exact J_22 _ _ _ _ _ _ _ hf hP hS hl
  unfold xGlyphPositionsModel_checkPairs at hf
  refine lv_aload_n hx hb d_GlyphPositionsModel_checkPairs_0 rfl (lv_at hl 0 rfl) ?_
  refine lv_lload_n hx hb d_GlyphPositionsModel_checkPairs_1 rfl (lv_at hl 1 rfl) ?_
  obtain ⟨r1, sr1, h_r1, hf⟩ := q_bm_some hf
  refine q_callVi (As := [.long x1]) (rest := []) (q0 := 36) hC (c_xGlyphPositionsModel_u16 l G h_r1) cal_GlyphPositionsModel_u16 wq_151 ⟨rfl, rfl, Nat.le_of_ble_eq_true rfl, Nat.le_of_ble_eq_true rfl⟩ rfl rfl hP hD hA hS rfl hl.1 rfl (Nat.le_of_ble_eq_true rfl) d_GlyphPositionsModel_checkPairs_2 (fun H locs hP hS => ?_)
  refine lv_istore_n (lv' := [(3, .int r1), (0, .ref (G.2.2 36)), (1, .long x1)]) hx hb d_GlyphPositionsModel_checkPairs_5 rfl hl (by decide) rfl (fun ls hl => ?_)
  refine lv_aload_n hx hb d_GlyphPositionsModel_checkPairs_6 rfl (lv_at hl 1 rfl) ?_
  refine lv_iload_n hx hb d_GlyphPositionsModel_checkPairs_7 rfl (lv_at hl 0 rfl) ?_
  refine lv_iconst (v := 1) hx hb d_GlyphPositionsModel_checkPairs_8 (by decide) ?_
  refine lv_icmp_eq (tgt := 17) hx hb d_GlyphPositionsModel_checkPairs_9 (by decide) (fun c1 => ?_) (fun c1 => ?_)
  · rw [if_pos c1] at hf
    exact J_17 _ _ _ _ _ _ hf hP hS (lv_sub hl [1, 2, 0] rfl)
  rw [if_neg c1] at hf
  refine lv_iload_n hx hb d_GlyphPositionsModel_checkPairs_12 rfl (lv_at hl 0 rfl) ?_
  refine lv_iconst (v := 2) hx hb d_GlyphPositionsModel_checkPairs_13 (by decide) ?_
  refine lv_icmp_ne (tgt := 21) hx hb d_GlyphPositionsModel_checkPairs_14 (by decide) (fun c1 => ?_) (fun c1 => ?_)
  rotate_left
  · rw [if_pos c1] at hf
    exact J_17 _ _ _ _ _ _ hf hP hS (lv_sub hl [1, 2, 0] rfl)
  rw [if_neg c1] at hf
  refine lv_iconst (v := 0) hx hb d_GlyphPositionsModel_checkPairs_21 (by decide) ?_
  exact J_22 _ _ _ _ _ _ _ hf hP hS (lv_sub hl [1, 2, 0] rfl)
def xGlyphPositionsModel_checkSingle_22 (N : Nat) (x1_22 : Int64) (x3_22 : Int32) (w1_22 : Int32) (st_22 : QSt) : Option QSt :=
  q_bv (xGlyphPositionsModel_need w1_22 st_22) (fun sr2 => q_bm (xGlyphPositionsModel_bitsAt (x1_22 + 4) sr2) (fun r3 sr3 => if x3_22 = 1 then (q_bm (xGlyphPositionsModel_u16 (x1_22 + 2) sr3) (fun r7 sr7 => q_bm (xGlyphPositionsModel_checkCoverage N (x1_22 + r7.toInt64) sr7) (fun r8 sr8 => q_bn (xGlyphPositionsModel_sizeOf N r3) (fun r9 => q_bv (xGlyphPositionsModel_reach (x1_22 + 6) r9.toInt64 sr8) (fun sr10 => some sr10))))) else (if x3_22 = 2 then (q_bm (xGlyphPositionsModel_byIndex N x1_22 (x1_22 + 6) sr3) (fun r4 sr4 => q_bn (xGlyphPositionsModel_sizeOf N r3) (fun r5 => q_bv (xGlyphPositionsModel_reach (x1_22 + 8) (r4.toInt64 * r5.toInt64) sr4) (fun sr6 => some sr6)))) else (some sr3))))
def xGlyphPositionsModel_checkSingle_17 (N : Nat) (x1_17 : Int64) (x3_17 : Int32) (st_17 : QSt) : Option QSt :=
  xGlyphPositionsModel_checkSingle_22 N x1_17 x3_17 1 st_17
def xGlyphPositionsModel_checkSingle (N : Nat) (x1 : Int64) (st : QSt) : Option QSt :=
  q_bm (xGlyphPositionsModel_u16 x1 st) (fun r1 sr1 => if r1 = 1 then (xGlyphPositionsModel_checkSingle_17 N x1 r1 sr1) else (if r1 = 2 then (xGlyphPositionsModel_checkSingle_17 N x1 r1 sr1) else (xGlyphPositionsModel_checkSingle_22 N x1 r1 0 sr1)))
set_option maxHeartbeats 4000000 in
set_option maxRecDepth 100000 in
theorem c_xGlyphPositionsModel_checkSingle (l : Launch) (G : XG) {N : Nat} {x1 : Int64} {st : QSt} {so : QSt} (hf : xGlyphPositionsModel_checkSingle N x1 st = some so) : q_Mv l y_GlyphPositionsModel_checkSingle b_GlyphPositionsModel_checkSingle 6 ({ frames := 4, cells := 0, slots := 0, locals := 100 } : Room) G.1 (xT G) (wX G) [.ref (G.2.2 36), .long x1] st so := by
  refine q_Mv_of (by decide) (Nat.le_of_ble_eq_true rfl) (wX_fst G) ?_
  intro p e s m args below meth c A ls hC hr hlk hT hD hA hP hS hl
  have hx := hC.1.1
  have hb := hC.1.2.1
  have hown := hC.1.2.2.2.1
  have hts := hC.1.2.2.2.2
  have hl : lv_has ls 6 [(0, .ref (G.2.2 36)), (1, .long x1)] := hl
  have J_22 : ∀ (x1_22 : Int64) (x3_22 w1_22 : Int32) (st_22 : QSt) (H : Heap) (locs : List Loc) (ls : Array Slot), xGlyphPositionsModel_checkSingle_22 N x1_22 x3_22 w1_22 st_22 = some so → va_P G.1 vwCl (wX G st_22) H → va_S A s.heap H locs → lv_has ls 6 [(0, .ref (G.2.2 36)), (1, .long x1_22), (3, .int x3_22)] → W p l e ({ frames := 4, cells := 0, slots := 0, locals := 100 } : Room) s m args below meth c H locs 0 0 (q_Zv below args s G.1 (wX G) so A) (F0 m 22 ls [.int w1_22, .ref (G.2.2 36)]) := by
    intro x1_22 x3_22 w1_22 st_22 H locs ls hf hP hS hl
    unfold xGlyphPositionsModel_checkSingle_22 at hf
    obtain ⟨sr2, h_r2, hf⟩ := q_bv_some hf
    refine q_callVv (As := [.int w1_22]) (rest := []) (q0 := 36) hC (c_xGlyphPositionsModel_need l G h_r2) cal_GlyphPositionsModel_need wq_148 ⟨rfl, rfl, Nat.le_of_ble_eq_true rfl, Nat.le_of_ble_eq_true rfl⟩ rfl rfl hP hD hA hS rfl hl.1 rfl (Nat.le_of_ble_eq_true rfl) d_GlyphPositionsModel_checkSingle_22 (fun H locs hP hS => ?_)
    refine lv_aload_n hx hb d_GlyphPositionsModel_checkSingle_25 rfl (lv_at hl 0 rfl) ?_
    refine lv_lload_n hx hb d_GlyphPositionsModel_checkSingle_26 rfl (lv_at hl 1 rfl) ?_
    refine lv_ldc2 (v := 4) hx hb hown (hts _ wq_150) d_GlyphPositionsModel_checkSingle_27 ?_
    refine lv_ladd hx hb d_GlyphPositionsModel_checkSingle_30 ?_
    obtain ⟨r3, sr3, h_r3, hf⟩ := q_bm_some hf
    refine q_callVi (As := [.long (x1_22 + 4)]) (rest := []) (q0 := 36) hC (c_xGlyphPositionsModel_bitsAt l G h_r3) cal_GlyphPositionsModel_bitsAt wq_175 ⟨rfl, rfl, Nat.le_of_ble_eq_true rfl, Nat.le_of_ble_eq_true rfl⟩ rfl rfl hP hD hA hS rfl hl.1 rfl (Nat.le_of_ble_eq_true rfl) d_GlyphPositionsModel_checkSingle_31 (fun H locs hP hS => ?_)
    refine lv_istore (lv' := [(4, .int r3), (0, .ref (G.2.2 36)), (1, .long x1_22), (3, .int x3_22)]) hx hb d_GlyphPositionsModel_checkSingle_34 hl (by decide) rfl (fun ls hl => ?_)
    refine lv_iload_n hx hb d_GlyphPositionsModel_checkSingle_36 rfl (lv_at hl 3 rfl) ?_
    refine lv_iconst (v := 1) hx hb d_GlyphPositionsModel_checkSingle_37 (by decide) ?_
    refine lv_icmp_ne (tgt := 76) hx hb d_GlyphPositionsModel_checkSingle_38 (by decide) (fun c1 => ?_) (fun c1 => ?_)
    rotate_left
    · rw [if_pos c1] at hf
      refine lv_aload_n hx hb d_GlyphPositionsModel_checkSingle_41 rfl (lv_at hl 1 rfl) ?_
      refine lv_lload_n hx hb d_GlyphPositionsModel_checkSingle_42 rfl (lv_at hl 2 rfl) ?_
      refine lv_aload_n hx hb d_GlyphPositionsModel_checkSingle_43 rfl (lv_at hl 1 rfl) ?_
      refine lv_lload_n hx hb d_GlyphPositionsModel_checkSingle_44 rfl (lv_at hl 2 rfl) ?_
      refine lv_ldc2 (v := 2) hx hb hown (hts _ wq_149) d_GlyphPositionsModel_checkSingle_45 ?_
      refine lv_ladd hx hb d_GlyphPositionsModel_checkSingle_48 ?_
      obtain ⟨r7, sr7, h_r7, hf⟩ := q_bm_some hf
      refine q_callVi (As := [.long (x1_22 + 2)]) (rest := [.long x1_22, .ref (G.2.2 36)]) (q0 := 36) hC (c_xGlyphPositionsModel_u16 l G h_r7) cal_GlyphPositionsModel_u16 wq_151 ⟨rfl, rfl, Nat.le_of_ble_eq_true rfl, Nat.le_of_ble_eq_true rfl⟩ rfl rfl hP hD hA hS rfl hl.1 rfl (Nat.le_of_ble_eq_true rfl) d_GlyphPositionsModel_checkSingle_49 (fun H locs hP hS => ?_)
      refine lv_i2l (v := r7.toInt64) hx hb d_GlyphPositionsModel_checkSingle_52 rfl ?_
      refine lv_ladd hx hb d_GlyphPositionsModel_checkSingle_53 ?_
      obtain ⟨r8, sr8, h_r8, hf⟩ := q_bm_some hf
      refine q_callVi (As := [.long (x1_22 + r7.toInt64)]) (rest := []) (q0 := 36) hC (c_xGlyphPositionsModel_checkCoverage l G h_r8) cal_GlyphPositionsModel_checkCoverage wq_165 ⟨rfl, rfl, Nat.le_of_ble_eq_true rfl, Nat.le_of_ble_eq_true rfl⟩ rfl rfl hP hD hA hS rfl hl.1 rfl (Nat.le_of_ble_eq_true rfl) d_GlyphPositionsModel_checkSingle_54 (fun H locs hP hS => ?_)
      refine lv_pop hx hb d_GlyphPositionsModel_checkSingle_57 rfl ?_
      refine lv_aload_n hx hb d_GlyphPositionsModel_checkSingle_58 rfl (lv_at hl 1 rfl) ?_
      refine lv_lload_n hx hb d_GlyphPositionsModel_checkSingle_59 rfl (lv_at hl 2 rfl) ?_
      refine lv_ldc2 (v := 6) hx hb hown (hts _ wq_152) d_GlyphPositionsModel_checkSingle_60 ?_
      refine lv_ladd hx hb d_GlyphPositionsModel_checkSingle_63 ?_
      refine lv_iload hx hb d_GlyphPositionsModel_checkSingle_64 (lv_at hl 0 rfl) ?_
      obtain ⟨r9, h_r9, hf⟩ := q_bn_some hf
      refine q_callSp (As := [.int r3]) (rest := [.long (x1_22 + 6), .ref (G.2.2 36)]) hC (c_xGlyphPositionsModel_sizeOf l G h_r9) cal_GlyphPositionsModel_sizeOf wq_176 ⟨rfl, rfl, Nat.le_of_ble_eq_true rfl, Nat.le_of_ble_eq_true rfl⟩ hP hT hS rfl hl.1 rfl (Nat.le_of_ble_eq_true rfl) d_GlyphPositionsModel_checkSingle_66 (fun H locs hP hS => ?_)
      refine lv_i2l (v := r9.toInt64) hx hb d_GlyphPositionsModel_checkSingle_69 rfl ?_
      obtain ⟨sr10, h_r10, hf⟩ := q_bv_some hf
      refine q_callVv (As := [.long (x1_22 + 6), .long r9.toInt64]) (rest := []) (q0 := 36) hC (c_xGlyphPositionsModel_reach l G h_r10) cal_GlyphPositionsModel_reach wq_173 ⟨rfl, rfl, Nat.le_of_ble_eq_true rfl, Nat.le_of_ble_eq_true rfl⟩ rfl rfl hP hD hA hS rfl hl.1 rfl (Nat.le_of_ble_eq_true rfl) d_GlyphPositionsModel_checkSingle_70 (fun H locs hP hS => ?_)
      refine lv_goto (tgt := 112) hx hb d_GlyphPositionsModel_checkSingle_73 (by decide) ?_
      exact q_vret hC hr hlk hf hP hS d_GlyphPositionsModel_checkSingle_112
    rw [if_neg c1] at hf
    refine lv_iload_n hx hb d_GlyphPositionsModel_checkSingle_76 rfl (lv_at hl 3 rfl) ?_
    refine lv_iconst (v := 2) hx hb d_GlyphPositionsModel_checkSingle_77 (by decide) ?_
    refine lv_icmp_ne (tgt := 112) hx hb d_GlyphPositionsModel_checkSingle_78 (by decide) (fun c1 => ?_) (fun c1 => ?_)
    · rw [if_neg c1] at hf
      exact q_vret hC hr hlk hf hP hS d_GlyphPositionsModel_checkSingle_112
    rw [if_pos c1] at hf
    refine lv_aload_n hx hb d_GlyphPositionsModel_checkSingle_81 rfl (lv_at hl 1 rfl) ?_
    refine lv_lload_n hx hb d_GlyphPositionsModel_checkSingle_82 rfl (lv_at hl 2 rfl) ?_
    refine lv_lload_n hx hb d_GlyphPositionsModel_checkSingle_83 rfl (lv_at hl 2 rfl) ?_
    refine lv_ldc2 (v := 6) hx hb hown (hts _ wq_152) d_GlyphPositionsModel_checkSingle_84 ?_
    refine lv_ladd hx hb d_GlyphPositionsModel_checkSingle_87 ?_
    obtain ⟨r4, sr4, h_r4, hf⟩ := q_bm_some hf
    refine q_callVi (As := [.long x1_22, .long (x1_22 + 6)]) (rest := []) (q0 := 36) hC (c_xGlyphPositionsModel_byIndex l G h_r4) cal_GlyphPositionsModel_byIndex wq_171 ⟨rfl, rfl, Nat.le_of_ble_eq_true rfl, Nat.le_of_ble_eq_true rfl⟩ rfl rfl hP hD hA hS rfl hl.1 rfl (Nat.le_of_ble_eq_true rfl) d_GlyphPositionsModel_checkSingle_88 (fun H locs hP hS => ?_)
    refine lv_istore (lv' := [(5, .int r4), (4, .int r3), (0, .ref (G.2.2 36)), (1, .long x1_22), (3, .int x3_22)]) hx hb d_GlyphPositionsModel_checkSingle_91 hl (by decide) rfl (fun ls hl => ?_)
    refine lv_aload_n hx hb d_GlyphPositionsModel_checkSingle_93 rfl (lv_at hl 2 rfl) ?_
    refine lv_lload_n hx hb d_GlyphPositionsModel_checkSingle_94 rfl (lv_at hl 3 rfl) ?_
    refine lv_ldc2 (v := 8) hx hb hown (hts _ wq_153) d_GlyphPositionsModel_checkSingle_95 ?_
    refine lv_ladd hx hb d_GlyphPositionsModel_checkSingle_98 ?_
    refine lv_iload hx hb d_GlyphPositionsModel_checkSingle_99 (lv_at hl 0 rfl) ?_
    refine lv_i2l (v := r4.toInt64) hx hb d_GlyphPositionsModel_checkSingle_101 rfl ?_
    refine lv_iload hx hb d_GlyphPositionsModel_checkSingle_102 (lv_at hl 1 rfl) ?_
    obtain ⟨r5, h_r5, hf⟩ := q_bn_some hf
    refine q_callSp (As := [.int r3]) (rest := [.long r4.toInt64, .long (x1_22 + 8), .ref (G.2.2 36)]) hC (c_xGlyphPositionsModel_sizeOf l G h_r5) cal_GlyphPositionsModel_sizeOf wq_176 ⟨rfl, rfl, Nat.le_of_ble_eq_true rfl, Nat.le_of_ble_eq_true rfl⟩ hP hT hS rfl hl.1 rfl (Nat.le_of_ble_eq_true rfl) d_GlyphPositionsModel_checkSingle_104 (fun H locs hP hS => ?_)
    refine lv_i2l (v := r5.toInt64) hx hb d_GlyphPositionsModel_checkSingle_107 rfl ?_
    refine lv_lmul hx hb d_GlyphPositionsModel_checkSingle_108 ?_
    obtain ⟨sr6, h_r6, hf⟩ := q_bv_some hf
    refine q_callVv (As := [.long (x1_22 + 8), .long (r4.toInt64 * r5.toInt64)]) (rest := []) (q0 := 36) hC (c_xGlyphPositionsModel_reach l G h_r6) cal_GlyphPositionsModel_reach wq_173 ⟨rfl, rfl, Nat.le_of_ble_eq_true rfl, Nat.le_of_ble_eq_true rfl⟩ rfl rfl hP hD hA hS rfl hl.1 rfl (Nat.le_of_ble_eq_true rfl) d_GlyphPositionsModel_checkSingle_109 (fun H locs hP hS => ?_)
    exact q_vret hC hr hlk hf hP hS d_GlyphPositionsModel_checkSingle_112
  have J_17 : ∀ (x1_17 : Int64) (x3_17 : Int32) (st_17 : QSt) (H : Heap) (locs : List Loc) (ls : Array Slot), xGlyphPositionsModel_checkSingle_17 N x1_17 x3_17 st_17 = some so → va_P G.1 vwCl (wX G st_17) H → va_S A s.heap H locs → lv_has ls 6 [(0, .ref (G.2.2 36)), (1, .long x1_17), (3, .int x3_17)] → W p l e ({ frames := 4, cells := 0, slots := 0, locals := 100 } : Room) s m args below meth c H locs 0 0 (q_Zv below args s G.1 (wX G) so A) (F0 m 17 ls [.ref (G.2.2 36)]) := by
    intro x1_17 x3_17 st_17 H locs ls hf hP hS hl
    unfold xGlyphPositionsModel_checkSingle_17 at hf
    refine lv_iconst (v := 1) hx hb d_GlyphPositionsModel_checkSingle_17 (by decide) ?_
    refine lv_goto (tgt := 22) hx hb d_GlyphPositionsModel_checkSingle_18 (by decide) ?_
    exact J_22 _ _ _ _ _ _ _ hf hP hS hl
  unfold xGlyphPositionsModel_checkSingle at hf
  refine lv_aload_n hx hb d_GlyphPositionsModel_checkSingle_0 rfl (lv_at hl 0 rfl) ?_
  refine lv_lload_n hx hb d_GlyphPositionsModel_checkSingle_1 rfl (lv_at hl 1 rfl) ?_
  obtain ⟨r1, sr1, h_r1, hf⟩ := q_bm_some hf
  refine q_callVi (As := [.long x1]) (rest := []) (q0 := 36) hC (c_xGlyphPositionsModel_u16 l G h_r1) cal_GlyphPositionsModel_u16 wq_151 ⟨rfl, rfl, Nat.le_of_ble_eq_true rfl, Nat.le_of_ble_eq_true rfl⟩ rfl rfl hP hD hA hS rfl hl.1 rfl (Nat.le_of_ble_eq_true rfl) d_GlyphPositionsModel_checkSingle_2 (fun H locs hP hS => ?_)
  refine lv_istore_n (lv' := [(3, .int r1), (0, .ref (G.2.2 36)), (1, .long x1)]) hx hb d_GlyphPositionsModel_checkSingle_5 rfl hl (by decide) rfl (fun ls hl => ?_)
  refine lv_aload_n hx hb d_GlyphPositionsModel_checkSingle_6 rfl (lv_at hl 1 rfl) ?_
  refine lv_iload_n hx hb d_GlyphPositionsModel_checkSingle_7 rfl (lv_at hl 0 rfl) ?_
  refine lv_iconst (v := 1) hx hb d_GlyphPositionsModel_checkSingle_8 (by decide) ?_
  refine lv_icmp_eq (tgt := 17) hx hb d_GlyphPositionsModel_checkSingle_9 (by decide) (fun c1 => ?_) (fun c1 => ?_)
  · rw [if_pos c1] at hf
    exact J_17 _ _ _ _ _ _ hf hP hS (lv_sub hl [1, 2, 0] rfl)
  rw [if_neg c1] at hf
  refine lv_iload_n hx hb d_GlyphPositionsModel_checkSingle_12 rfl (lv_at hl 0 rfl) ?_
  refine lv_iconst (v := 2) hx hb d_GlyphPositionsModel_checkSingle_13 (by decide) ?_
  refine lv_icmp_ne (tgt := 21) hx hb d_GlyphPositionsModel_checkSingle_14 (by decide) (fun c1 => ?_) (fun c1 => ?_)
  rotate_left
  · rw [if_pos c1] at hf
    exact J_17 _ _ _ _ _ _ hf hP hS (lv_sub hl [1, 2, 0] rfl)
  rw [if_neg c1] at hf
  refine lv_iconst (v := 0) hx hb d_GlyphPositionsModel_checkSingle_21 (by decide) ?_
  exact J_22 _ _ _ _ _ _ _ hf hP hS (lv_sub hl [1, 2, 0] rfl)
def xGlyphPositionsModel_checkSubtable_64 (N : Nat) (x2_64 : Int64) (st_64 : QSt) : Option QSt :=
  q_bv (xGlyphPositionsModel_checkHanging N x2_64 0 st_64) (fun sr2 => some sr2)
def xGlyphPositionsModel_checkSubtable (N : Nat) (x1 : Int32) (x2 : Int64) (st : QSt) : Option QSt :=
  if x1 = 1 then (q_bv (xGlyphPositionsModel_checkSingle N x2 st) (fun sr6 => some sr6)) else (if x1 = 2 then (q_bv (xGlyphPositionsModel_checkPairs N x2 st) (fun sr5 => some sr5)) else (if x1 = 3 then (q_bv (xGlyphPositionsModel_checkJoins N x2 st) (fun sr4 => some sr4)) else (if x1 = 4 then (xGlyphPositionsModel_checkSubtable_64 N x2 st) else (if x1 = 5 then (q_bv (xGlyphPositionsModel_checkHanging N x2 1 st) (fun sr3 => some sr3)) else (if x1 = 6 then (xGlyphPositionsModel_checkSubtable_64 N x2 st) else (q_bv (xGlyphPositionsModel_need 0 st) (fun sr1 => some sr1)))))))
set_option maxHeartbeats 4000000 in
set_option maxRecDepth 100000 in
theorem c_xGlyphPositionsModel_checkSubtable (l : Launch) (G : XG) {N : Nat} {x1 : Int32} {x2 : Int64} {st : QSt} {so : QSt} (hf : xGlyphPositionsModel_checkSubtable N x1 x2 st = some so) : q_Mv l y_GlyphPositionsModel_checkSubtable b_GlyphPositionsModel_checkSubtable 4 ({ frames := 7, cells := 0, slots := 0, locals := 170 } : Room) G.1 (xT G) (wX G) [.ref (G.2.2 36), .int x1, .long x2] st so := by
  refine q_Mv_of (by decide) (Nat.le_of_ble_eq_true rfl) (wX_fst G) ?_
  intro p e s m args below meth c A ls hC hr hlk hT hD hA hP hS hl
  have hx := hC.1.1
  have hb := hC.1.2.1
  have hown := hC.1.2.2.2.1
  have hts := hC.1.2.2.2.2
  have hl : lv_has ls 4 [(0, .ref (G.2.2 36)), (1, .int x1), (2, .long x2)] := hl
  have J_64 : ∀ (x2_64 : Int64) (st_64 : QSt) (H : Heap) (locs : List Loc) (ls : Array Slot), xGlyphPositionsModel_checkSubtable_64 N x2_64 st_64 = some so → va_P G.1 vwCl (wX G st_64) H → va_S A s.heap H locs → lv_has ls 4 [(0, .ref (G.2.2 36)), (2, .long x2_64)] → W p l e ({ frames := 7, cells := 0, slots := 0, locals := 170 } : Room) s m args below meth c H locs 0 0 (q_Zv below args s G.1 (wX G) so A) (F0 m 64 ls []) := by
    intro x2_64 st_64 H locs ls hf hP hS hl
    unfold xGlyphPositionsModel_checkSubtable_64 at hf
    refine lv_aload_n hx hb d_GlyphPositionsModel_checkSubtable_64 rfl (lv_at hl 0 rfl) ?_
    refine lv_lload_n hx hb d_GlyphPositionsModel_checkSubtable_65 rfl (lv_at hl 1 rfl) ?_
    refine lv_iconst (v := 0) hx hb d_GlyphPositionsModel_checkSubtable_66 (by decide) ?_
    obtain ⟨sr2, h_r2, hf⟩ := q_bv_some hf
    refine q_callVv (As := [.long x2_64, .int 0]) (rest := []) (q0 := 36) hC (c_xGlyphPositionsModel_checkHanging l G h_r2) cal_GlyphPositionsModel_checkHanging wq_181 ⟨rfl, rfl, Nat.le_of_ble_eq_true rfl, Nat.le_of_ble_eq_true rfl⟩ rfl rfl hP hD hA hS rfl hl.1 rfl (Nat.le_of_ble_eq_true rfl) d_GlyphPositionsModel_checkSubtable_67 (fun H locs hP hS => ?_)
    refine lv_goto (tgt := 87) hx hb d_GlyphPositionsModel_checkSubtable_70 (by decide) ?_
    exact q_vret hC hr hlk hf hP hS d_GlyphPositionsModel_checkSubtable_87
  unfold xGlyphPositionsModel_checkSubtable at hf
  refine lv_iload_n hx hb d_GlyphPositionsModel_checkSubtable_0 rfl (lv_at hl 1 rfl) ?_
  by_cases c1 : x1 = 1
  · rw [if_pos c1] at hf
    refine lv_tableIn (tgt := 40) hx hb d_GlyphPositionsModel_checkSubtable_1 (by rw [c1]; decide) (by rw [c1]; decide) (by rw [c1]; rfl) (by decide) ?_
    refine lv_aload_n hx hb d_GlyphPositionsModel_checkSubtable_40 rfl (lv_at hl 0 rfl) ?_
    refine lv_lload_n hx hb d_GlyphPositionsModel_checkSubtable_41 rfl (lv_at hl 2 rfl) ?_
    obtain ⟨sr6, h_r6, hf⟩ := q_bv_some hf
    refine q_callVv (As := [.long x2]) (rest := []) (q0 := 36) hC (c_xGlyphPositionsModel_checkSingle l G h_r6) cal_GlyphPositionsModel_checkSingle wq_182 ⟨rfl, rfl, Nat.le_of_ble_eq_true rfl, Nat.le_of_ble_eq_true rfl⟩ rfl rfl hP hD hA hS rfl hl.1 rfl (Nat.le_of_ble_eq_true rfl) d_GlyphPositionsModel_checkSubtable_42 (fun H locs hP hS => ?_)
    refine lv_goto (tgt := 87) hx hb d_GlyphPositionsModel_checkSubtable_45 (by decide) ?_
    exact q_vret hC hr hlk hf hP hS d_GlyphPositionsModel_checkSubtable_87
  rw [if_neg c1] at hf
  by_cases c2 : x1 = 2
  · rw [if_pos c2] at hf
    refine lv_tableIn (tgt := 48) hx hb d_GlyphPositionsModel_checkSubtable_1 (by rw [c2]; decide) (by rw [c2]; decide) (by rw [c2]; rfl) (by decide) ?_
    refine lv_aload_n hx hb d_GlyphPositionsModel_checkSubtable_48 rfl (lv_at hl 0 rfl) ?_
    refine lv_lload_n hx hb d_GlyphPositionsModel_checkSubtable_49 rfl (lv_at hl 2 rfl) ?_
    obtain ⟨sr5, h_r5, hf⟩ := q_bv_some hf
    refine q_callVv (As := [.long x2]) (rest := []) (q0 := 36) hC (c_xGlyphPositionsModel_checkPairs l G h_r5) cal_GlyphPositionsModel_checkPairs wq_183 ⟨rfl, rfl, Nat.le_of_ble_eq_true rfl, Nat.le_of_ble_eq_true rfl⟩ rfl rfl hP hD hA hS rfl hl.1 rfl (Nat.le_of_ble_eq_true rfl) d_GlyphPositionsModel_checkSubtable_50 (fun H locs hP hS => ?_)
    refine lv_goto (tgt := 87) hx hb d_GlyphPositionsModel_checkSubtable_53 (by decide) ?_
    exact q_vret hC hr hlk hf hP hS d_GlyphPositionsModel_checkSubtable_87
  rw [if_neg c2] at hf
  by_cases c3 : x1 = 3
  · rw [if_pos c3] at hf
    refine lv_tableIn (tgt := 56) hx hb d_GlyphPositionsModel_checkSubtable_1 (by rw [c3]; decide) (by rw [c3]; decide) (by rw [c3]; rfl) (by decide) ?_
    refine lv_aload_n hx hb d_GlyphPositionsModel_checkSubtable_56 rfl (lv_at hl 0 rfl) ?_
    refine lv_lload_n hx hb d_GlyphPositionsModel_checkSubtable_57 rfl (lv_at hl 2 rfl) ?_
    obtain ⟨sr4, h_r4, hf⟩ := q_bv_some hf
    refine q_callVv (As := [.long x2]) (rest := []) (q0 := 36) hC (c_xGlyphPositionsModel_checkJoins l G h_r4) cal_GlyphPositionsModel_checkJoins wq_184 ⟨rfl, rfl, Nat.le_of_ble_eq_true rfl, Nat.le_of_ble_eq_true rfl⟩ rfl rfl hP hD hA hS rfl hl.1 rfl (Nat.le_of_ble_eq_true rfl) d_GlyphPositionsModel_checkSubtable_58 (fun H locs hP hS => ?_)
    refine lv_goto (tgt := 87) hx hb d_GlyphPositionsModel_checkSubtable_61 (by decide) ?_
    exact q_vret hC hr hlk hf hP hS d_GlyphPositionsModel_checkSubtable_87
  rw [if_neg c3] at hf
  by_cases c4 : x1 = 4
  · rw [if_pos c4] at hf
    refine lv_tableIn (tgt := 64) hx hb d_GlyphPositionsModel_checkSubtable_1 (by rw [c4]; decide) (by rw [c4]; decide) (by rw [c4]; rfl) (by decide) ?_
    exact J_64 _ _ _ _ _ hf hP hS (lv_sub hl [0, 2] rfl)
  rw [if_neg c4] at hf
  by_cases c5 : x1 = 5
  · rw [if_pos c5] at hf
    refine lv_tableIn (tgt := 73) hx hb d_GlyphPositionsModel_checkSubtable_1 (by rw [c5]; decide) (by rw [c5]; decide) (by rw [c5]; rfl) (by decide) ?_
    refine lv_aload_n hx hb d_GlyphPositionsModel_checkSubtable_73 rfl (lv_at hl 0 rfl) ?_
    refine lv_lload_n hx hb d_GlyphPositionsModel_checkSubtable_74 rfl (lv_at hl 2 rfl) ?_
    refine lv_iconst (v := 1) hx hb d_GlyphPositionsModel_checkSubtable_75 (by decide) ?_
    obtain ⟨sr3, h_r3, hf⟩ := q_bv_some hf
    refine q_callVv (As := [.long x2, .int 1]) (rest := []) (q0 := 36) hC (c_xGlyphPositionsModel_checkHanging l G h_r3) cal_GlyphPositionsModel_checkHanging wq_181 ⟨rfl, rfl, Nat.le_of_ble_eq_true rfl, Nat.le_of_ble_eq_true rfl⟩ rfl rfl hP hD hA hS rfl hl.1 rfl (Nat.le_of_ble_eq_true rfl) d_GlyphPositionsModel_checkSubtable_76 (fun H locs hP hS => ?_)
    refine lv_goto (tgt := 87) hx hb d_GlyphPositionsModel_checkSubtable_79 (by decide) ?_
    exact q_vret hC hr hlk hf hP hS d_GlyphPositionsModel_checkSubtable_87
  rw [if_neg c5] at hf
  by_cases c6 : x1 = 6
  · rw [if_pos c6] at hf
    refine lv_tableIn (tgt := 64) hx hb d_GlyphPositionsModel_checkSubtable_1 (by rw [c6]; decide) (by rw [c6]; decide) (by rw [c6]; rfl) (by decide) ?_
    exact J_64 _ _ _ _ _ hf hP hS (lv_sub hl [0, 2] rfl)
  rw [if_neg c6] at hf
  refine lv_tableOut (tgt := 82) hx hb d_GlyphPositionsModel_checkSubtable_1 (by have z0 := True.intro; have z2 : (x1).toInt ≠ 1 := q_ine c1; have z3 : (x1).toInt ≠ 2 := q_ine c2; have z4 : (x1).toInt ≠ 3 := q_ine c3; have z5 : (x1).toInt ≠ 4 := q_ine c4; have z6 : (x1).toInt ≠ 5 := q_ine c5; have z7 : (x1).toInt ≠ 6 := q_ine c6; omega) (by decide) ?_
  refine lv_aload_n hx hb d_GlyphPositionsModel_checkSubtable_82 rfl (lv_at hl 0 rfl) ?_
  refine lv_iconst (v := 0) hx hb d_GlyphPositionsModel_checkSubtable_83 (by decide) ?_
  obtain ⟨sr1, h_r1, hf⟩ := q_bv_some hf
  refine q_callVv (As := [.int 0]) (rest := []) (q0 := 36) hC (c_xGlyphPositionsModel_need l G h_r1) cal_GlyphPositionsModel_need wq_148 ⟨rfl, rfl, Nat.le_of_ble_eq_true rfl, Nat.le_of_ble_eq_true rfl⟩ rfl rfl hP hD hA hS rfl hl.1 rfl (Nat.le_of_ble_eq_true rfl) d_GlyphPositionsModel_checkSubtable_84 (fun H locs hP hS => ?_)
  exact q_vret hC hr hlk hf hP hS d_GlyphPositionsModel_checkSubtable_87
def xGlyphPositionsModel_checkLookup_158 (N : Nat) (rec_76 : Int32 → Int32 → QSt → Option QSt) (x1_76 : Int64) (x3_76 x4_76 x6_158 : Int32) (x7_158 : Int64) (x9_158 : Int32) (w1_158 : Int32) (st_158 : QSt) : Option QSt :=
  q_bv (xGlyphPositionsModel_need w1_158 st_158) (fun sr11 => q_bm (xGlyphPositionsModel_u32 (x7_158 + 4) sr11) (fun r12 sr12 => q_bv (xGlyphPositionsModel_checkSubtable N x9_158 (x7_158 + r12) sr12) (fun sr13 => rec_76 x9_158 (x6_158 + 1) sr13)))
def xGlyphPositionsModel_checkLookup_157 (N : Nat) (rec_76 : Int32 → Int32 → QSt → Option QSt) (x1_76 : Int64) (x3_76 x4_76 x6_157 : Int32) (x7_157 : Int64) (x9_157 : Int32) (st_157 : QSt) : Option QSt :=
  xGlyphPositionsModel_checkLookup_158 N rec_76 x1_76 x3_76 x4_76 x6_157 x7_157 x9_157 0 st_157
def xGlyphPositionsModel_checkLookup_153 (N : Nat) (rec_76 : Int32 → Int32 → QSt → Option QSt) (x1_76 : Int64) (x3_76 x4_76 x6_153 : Int32) (x7_153 : Int64) (x9_153 : Int32) (st_153 : QSt) : Option QSt :=
  xGlyphPositionsModel_checkLookup_158 N rec_76 x1_76 x3_76 x4_76 x6_153 x7_153 x9_153 1 st_153
def xGlyphPositionsModel_checkLookup_76 (N : Nat) (x1_76 : Int64) (x3_76 x4_76 : Int32) : Nat → Int32 → Int32 → QSt → Option QSt
  | 0, _, _, _ => none
  | n_76 + 1, x5_76, x6_76, st_76 => if x4_76 ≤ x6_76 then (some st_76) else (if (st_76.1 14) = 0 then (q_bm (xGlyphPositionsModel_u16 ((x1_76 + 6) + ((2 : Int64) * x6_76.toInt64)) st_76) (fun r6 sr6 => q_lt (x1_76 + r6.toInt64) (fun x7_1007 => if x3_76 = 9 then (q_bm (xGlyphPositionsModel_u16 (x7_1007 + 2) sr6) (fun r9 sr9 => q_bm (xGlyphPositionsModel_u16 x7_1007 sr9) (fun r10 sr10 => if r10 = 1 then (if x6_76 = 0 then (xGlyphPositionsModel_checkLookup_153 N (xGlyphPositionsModel_checkLookup_76 N x1_76 x3_76 x4_76 n_76) x1_76 x3_76 x4_76 x6_76 x7_1007 r9 sr10) else (if r9 = x5_76 then (xGlyphPositionsModel_checkLookup_153 N (xGlyphPositionsModel_checkLookup_76 N x1_76 x3_76 x4_76 n_76) x1_76 x3_76 x4_76 x6_76 x7_1007 r9 sr10) else (xGlyphPositionsModel_checkLookup_157 N (xGlyphPositionsModel_checkLookup_76 N x1_76 x3_76 x4_76 n_76) x1_76 x3_76 x4_76 x6_76 x7_1007 r9 sr10))) else (xGlyphPositionsModel_checkLookup_157 N (xGlyphPositionsModel_checkLookup_76 N x1_76 x3_76 x4_76 n_76) x1_76 x3_76 x4_76 x6_76 x7_1007 r9 sr10)))) else (q_bv (xGlyphPositionsModel_checkSubtable N x3_76 x7_1007 sr6) (fun sr8 => xGlyphPositionsModel_checkLookup_76 N x1_76 x3_76 x4_76 n_76 x5_76 (x6_76 + 1) sr8))))) else (some st_76))
def xGlyphPositionsModel_checkLookup_54 (N : Nat) (x1_54 : Int64) (x3_54 : Int32) (w1_54 : Int32) (st_54 : QSt) : Option QSt :=
  q_bv (xGlyphPositionsModel_need w1_54 st_54) (fun sr4 => q_bm (xGlyphPositionsModel_atMost (x1_54 + 4) 16 sr4) (fun r5 sr5 => xGlyphPositionsModel_checkLookup_76 N x1_54 x3_54 r5 N 0 0 sr5))
def xGlyphPositionsModel_checkLookup_29 (N : Nat) (x1_29 : Int64) (x3_29 : Int32) (w1_29 : Int32) (st_29 : QSt) : Option QSt :=
  q_bv (xGlyphPositionsModel_need w1_29 st_29) (fun sr2 => q_bm (xGlyphPositionsModel_u16 (x1_29 + 2) sr2) (fun r3 sr3 => if ((r3 >>> (4 &&& 31)) &&& 1) = 0 then (xGlyphPositionsModel_checkLookup_54 N x1_29 x3_29 1 sr3) else (xGlyphPositionsModel_checkLookup_54 N x1_29 x3_29 0 sr3)))
def xGlyphPositionsModel_checkLookup_24 (N : Nat) (x1_24 : Int64) (x3_24 : Int32) (st_24 : QSt) : Option QSt :=
  xGlyphPositionsModel_checkLookup_29 N x1_24 x3_24 1 st_24
def xGlyphPositionsModel_checkLookup_18 (N : Nat) (x1_18 : Int64) (x3_18 : Int32) (st_18 : QSt) : Option QSt :=
  if x3_18 = 9 then (xGlyphPositionsModel_checkLookup_24 N x1_18 x3_18 st_18) else (xGlyphPositionsModel_checkLookup_29 N x1_18 x3_18 0 st_18)
def xGlyphPositionsModel_checkLookup (N : Nat) (x1 : Int64) (st : QSt) : Option QSt :=
  q_bm (xGlyphPositionsModel_u16 x1 st) (fun r1 sr1 => if r1 < 1 then (xGlyphPositionsModel_checkLookup_18 N x1 r1 sr1) else (if r1 ≤ 6 then (xGlyphPositionsModel_checkLookup_24 N x1 r1 sr1) else (xGlyphPositionsModel_checkLookup_18 N x1 r1 sr1)))
set_option maxHeartbeats 4000000 in
set_option maxRecDepth 100000 in
theorem c_xGlyphPositionsModel_checkLookup (l : Launch) (G : XG) {N : Nat} {x1 : Int64} {st : QSt} {so : QSt} (hf : xGlyphPositionsModel_checkLookup N x1 st = some so) : q_Mv l y_GlyphPositionsModel_checkLookup b_GlyphPositionsModel_checkLookup 10 ({ frames := 8, cells := 0, slots := 0, locals := 193 } : Room) G.1 (xT G) (wX G) [.ref (G.2.2 36), .long x1] st so := by
  refine q_Mv_of (by decide) (Nat.le_of_ble_eq_true rfl) (wX_fst G) ?_
  intro p e s m args below meth c A ls hC hr hlk hT hD hA hP hS hl
  have hx := hC.1.1
  have hb := hC.1.2.1
  have hown := hC.1.2.2.2.1
  have hts := hC.1.2.2.2.2
  have hl : lv_has ls 10 [(0, .ref (G.2.2 36)), (1, .long x1)] := hl
  have L_76 : ∀ (x1_76 : Int64) (x3_76 x4_76 : Int32) (n_76 : Nat) (x5_76 x6_76 : Int32) (st_76 : QSt) (H : Heap) (locs : List Loc) (ls : Array Slot), xGlyphPositionsModel_checkLookup_76 N x1_76 x3_76 x4_76 n_76 x5_76 x6_76 st_76 = some so → va_P G.1 vwCl (wX G st_76) H → va_S A s.heap H locs → lv_has ls 10 [(0, .ref (G.2.2 36)), (1, .long x1_76), (3, .int x3_76), (4, .int x4_76), (5, .int x5_76), (6, .int x6_76)] → W p l e ({ frames := 8, cells := 0, slots := 0, locals := 193 } : Room) s m args below meth c H locs 0 0 (q_Zv below args s G.1 (wX G) so A) (F0 m 76 ls []) := by
    intro x1_76 x3_76 x4_76 n_76
    induction n_76 with
    | zero => intro _ _ _ _ _ _ hf; exact absurd hf (by simp [xGlyphPositionsModel_checkLookup_76])
    | succ n_76 ih_76 =>
      have J_158 : ∀ (x6_158 : Int32) (x7_158 : Int64) (x9_158 w1_158 : Int32) (st_158 : QSt) (H : Heap) (locs : List Loc) (ls : Array Slot), xGlyphPositionsModel_checkLookup_158 N (xGlyphPositionsModel_checkLookup_76 N x1_76 x3_76 x4_76 n_76) x1_76 x3_76 x4_76 x6_158 x7_158 x9_158 w1_158 st_158 = some so → va_P G.1 vwCl (wX G st_158) H → va_S A s.heap H locs → lv_has ls 10 [(0, .ref (G.2.2 36)), (1, .long x1_76), (3, .int x3_76), (4, .int x4_76), (6, .int x6_158), (7, .long x7_158), (9, .int x9_158)] → W p l e ({ frames := 8, cells := 0, slots := 0, locals := 193 } : Room) s m args below meth c H locs 0 0 (q_Zv below args s G.1 (wX G) so A) (F0 m 158 ls [.int w1_158, .ref (G.2.2 36)]) := by
        intro x6_158 x7_158 x9_158 w1_158 st_158 H locs ls hf hP hS hl
        unfold xGlyphPositionsModel_checkLookup_158 at hf
        obtain ⟨sr11, h_r11, hf⟩ := q_bv_some hf
        refine q_callVv (As := [.int w1_158]) (rest := []) (q0 := 36) hC (c_xGlyphPositionsModel_need l G h_r11) cal_GlyphPositionsModel_need wq_148 ⟨rfl, rfl, Nat.le_of_ble_eq_true rfl, Nat.le_of_ble_eq_true rfl⟩ rfl rfl hP hD hA hS rfl hl.1 rfl (Nat.le_of_ble_eq_true rfl) d_GlyphPositionsModel_checkLookup_158 (fun H locs hP hS => ?_)
        refine lv_iload hx hb d_GlyphPositionsModel_checkLookup_161 (lv_at hl 6 rfl) ?_
        refine lv_istore (lv' := [(5, .int x9_158), (0, .ref (G.2.2 36)), (1, .long x1_76), (3, .int x3_76), (4, .int x4_76), (6, .int x6_158), (7, .long x7_158), (9, .int x9_158)]) hx hb d_GlyphPositionsModel_checkLookup_163 hl (by decide) rfl (fun ls hl => ?_)
        refine lv_aload_n hx hb d_GlyphPositionsModel_checkLookup_165 rfl (lv_at hl 1 rfl) ?_
        refine lv_iload hx hb d_GlyphPositionsModel_checkLookup_166 (lv_at hl 7 rfl) ?_
        refine lv_lload hx hb d_GlyphPositionsModel_checkLookup_168 (lv_at hl 6 rfl) ?_
        refine lv_aload_n hx hb d_GlyphPositionsModel_checkLookup_170 rfl (lv_at hl 1 rfl) ?_
        refine lv_lload hx hb d_GlyphPositionsModel_checkLookup_171 (lv_at hl 6 rfl) ?_
        refine lv_ldc2 (v := 4) hx hb hown (hts _ wq_150) d_GlyphPositionsModel_checkLookup_173 ?_
        refine lv_ladd hx hb d_GlyphPositionsModel_checkLookup_176 ?_
        obtain ⟨r12, sr12, h_r12, hf⟩ := q_bm_some hf
        refine q_callVl (As := [.long (x7_158 + 4)]) (rest := [.long x7_158, .int x9_158, .ref (G.2.2 36)]) (q0 := 36) hC (c_xGlyphPositionsModel_u32 l G h_r12) cal_GlyphPositionsModel_u32 wq_158 ⟨rfl, rfl, Nat.le_of_ble_eq_true rfl, Nat.le_of_ble_eq_true rfl⟩ rfl rfl hP hD hA hS rfl hl.1 rfl (Nat.le_of_ble_eq_true rfl) d_GlyphPositionsModel_checkLookup_177 (fun H locs hP hS => ?_)
        refine lv_ladd hx hb d_GlyphPositionsModel_checkLookup_180 ?_
        obtain ⟨sr13, h_r13, hf⟩ := q_bv_some hf
        refine q_callVv (As := [.int x9_158, .long (x7_158 + r12)]) (rest := []) (q0 := 36) hC (c_xGlyphPositionsModel_checkSubtable l G h_r13) cal_GlyphPositionsModel_checkSubtable wq_185 ⟨rfl, rfl, Nat.le_of_ble_eq_true rfl, Nat.le_of_ble_eq_true rfl⟩ rfl rfl hP hD hA hS rfl hl.1 rfl (Nat.le_of_ble_eq_true rfl) d_GlyphPositionsModel_checkLookup_181 (fun H locs hP hS => ?_)
        refine lv_goto (tgt := 194) hx hb d_GlyphPositionsModel_checkLookup_184 (by decide) ?_
        refine lv_iinc (v := x6_158 + 1) (lv' := [(6, .int (x6_158 + 1)), (5, .int x9_158), (0, .ref (G.2.2 36)), (1, .long x1_76), (3, .int x3_76), (4, .int x4_76), (7, .long x7_158), (9, .int x9_158)]) hx hb d_GlyphPositionsModel_checkLookup_194 hl (k := 5) rfl rfl (by decide) rfl (fun ls hl => ?_)
        refine lv_goto (tgt := 76) hx hb d_GlyphPositionsModel_checkLookup_197 (by decide) ?_
        exact ih_76 _ _ _ _ _ _ hf hP hS (lv_sub hl [2, 3, 4, 5, 1, 0] rfl)
      have J_157 : ∀ (x6_157 : Int32) (x7_157 : Int64) (x9_157 : Int32) (st_157 : QSt) (H : Heap) (locs : List Loc) (ls : Array Slot), xGlyphPositionsModel_checkLookup_157 N (xGlyphPositionsModel_checkLookup_76 N x1_76 x3_76 x4_76 n_76) x1_76 x3_76 x4_76 x6_157 x7_157 x9_157 st_157 = some so → va_P G.1 vwCl (wX G st_157) H → va_S A s.heap H locs → lv_has ls 10 [(0, .ref (G.2.2 36)), (1, .long x1_76), (3, .int x3_76), (4, .int x4_76), (6, .int x6_157), (7, .long x7_157), (9, .int x9_157)] → W p l e ({ frames := 8, cells := 0, slots := 0, locals := 193 } : Room) s m args below meth c H locs 0 0 (q_Zv below args s G.1 (wX G) so A) (F0 m 157 ls [.ref (G.2.2 36)]) := by
        intro x6_157 x7_157 x9_157 st_157 H locs ls hf hP hS hl
        unfold xGlyphPositionsModel_checkLookup_157 at hf
        refine lv_iconst (v := 0) hx hb d_GlyphPositionsModel_checkLookup_157 (by decide) ?_
        exact J_158 _ _ _ _ _ _ _ _ hf hP hS hl
      have J_153 : ∀ (x6_153 : Int32) (x7_153 : Int64) (x9_153 : Int32) (st_153 : QSt) (H : Heap) (locs : List Loc) (ls : Array Slot), xGlyphPositionsModel_checkLookup_153 N (xGlyphPositionsModel_checkLookup_76 N x1_76 x3_76 x4_76 n_76) x1_76 x3_76 x4_76 x6_153 x7_153 x9_153 st_153 = some so → va_P G.1 vwCl (wX G st_153) H → va_S A s.heap H locs → lv_has ls 10 [(0, .ref (G.2.2 36)), (1, .long x1_76), (3, .int x3_76), (4, .int x4_76), (6, .int x6_153), (7, .long x7_153), (9, .int x9_153)] → W p l e ({ frames := 8, cells := 0, slots := 0, locals := 193 } : Room) s m args below meth c H locs 0 0 (q_Zv below args s G.1 (wX G) so A) (F0 m 153 ls [.ref (G.2.2 36)]) := by
        intro x6_153 x7_153 x9_153 st_153 H locs ls hf hP hS hl
        unfold xGlyphPositionsModel_checkLookup_153 at hf
        refine lv_iconst (v := 1) hx hb d_GlyphPositionsModel_checkLookup_153 (by decide) ?_
        refine lv_goto (tgt := 158) hx hb d_GlyphPositionsModel_checkLookup_154 (by decide) ?_
        exact J_158 _ _ _ _ _ _ _ _ hf hP hS hl
      intro x5_76 x6_76 st_76 H locs ls hf hP hS hl
      rw [xGlyphPositionsModel_checkLookup_76] at hf
      refine lv_iload hx hb d_GlyphPositionsModel_checkLookup_76 (lv_at hl 5 rfl) ?_
      refine lv_iload hx hb d_GlyphPositionsModel_checkLookup_78 (lv_at hl 3 rfl) ?_
      refine lv_icmp_ge (tgt := 200) hx hb d_GlyphPositionsModel_checkLookup_80 (by decide) (fun c1 => ?_) (fun c1 => ?_)
      · rw [if_pos c1] at hf
        exact q_vret hC hr hlk hf hP hS d_GlyphPositionsModel_checkLookup_200
      rw [if_neg c1] at hf
      refine lv_aload_n hx hb d_GlyphPositionsModel_checkLookup_83 rfl (lv_at hl 0 rfl) ?_
      refine xg_36_bad hC hP wq_147 d_GlyphPositionsModel_checkLookup_84 ?_
      refine lv_if_ne (tgt := 200) hx hb d_GlyphPositionsModel_checkLookup_87 (by decide) (fun c1 => ?_) (fun c1 => ?_)
      · rw [if_neg c1] at hf
        exact q_vret hC hr hlk hf hP hS d_GlyphPositionsModel_checkLookup_200
      rw [if_pos c1] at hf
      refine lv_lload_n hx hb d_GlyphPositionsModel_checkLookup_90 rfl (lv_at hl 1 rfl) ?_
      refine lv_aload_n hx hb d_GlyphPositionsModel_checkLookup_91 rfl (lv_at hl 0 rfl) ?_
      refine lv_lload_n hx hb d_GlyphPositionsModel_checkLookup_92 rfl (lv_at hl 1 rfl) ?_
      refine lv_ldc2 (v := 6) hx hb hown (hts _ wq_152) d_GlyphPositionsModel_checkLookup_93 ?_
      refine lv_ladd hx hb d_GlyphPositionsModel_checkLookup_96 ?_
      refine lv_ldc2 (v := 2) hx hb hown (hts _ wq_149) d_GlyphPositionsModel_checkLookup_97 ?_
      refine lv_iload hx hb d_GlyphPositionsModel_checkLookup_100 (lv_at hl 5 rfl) ?_
      refine lv_i2l (v := x6_76.toInt64) hx hb d_GlyphPositionsModel_checkLookup_102 rfl ?_
      refine lv_lmul hx hb d_GlyphPositionsModel_checkLookup_103 ?_
      refine lv_ladd hx hb d_GlyphPositionsModel_checkLookup_104 ?_
      obtain ⟨r6, sr6, h_r6, hf⟩ := q_bm_some hf
      refine q_callVi (As := [.long ((x1_76 + 6) + ((2 : Int64) * x6_76.toInt64))]) (rest := [.long x1_76]) (q0 := 36) hC (c_xGlyphPositionsModel_u16 l G h_r6) cal_GlyphPositionsModel_u16 wq_151 ⟨rfl, rfl, Nat.le_of_ble_eq_true rfl, Nat.le_of_ble_eq_true rfl⟩ rfl rfl hP hD hA hS rfl hl.1 rfl (Nat.le_of_ble_eq_true rfl) d_GlyphPositionsModel_checkLookup_105 (fun H locs hP hS => ?_)
      refine lv_i2l (v := r6.toInt64) hx hb d_GlyphPositionsModel_checkLookup_108 rfl ?_
      refine lv_ladd hx hb d_GlyphPositionsModel_checkLookup_109 ?_
      obtain ⟨x7_1007, e_x7_1007, hf⟩ := q_lt_some hf
      refine q_topl e_x7_1007 ?_
      refine lv_lstore (lv' := [(7, .long x7_1007), (0, .ref (G.2.2 36)), (1, .long x1_76), (3, .int x3_76), (4, .int x4_76), (5, .int x5_76), (6, .int x6_76)]) hx hb d_GlyphPositionsModel_checkLookup_110 hl (by decide) rfl (fun ls hl => ?_)
      refine lv_iload_n hx hb d_GlyphPositionsModel_checkLookup_112 rfl (lv_at hl 3 rfl) ?_
      refine lv_bipush (v := 9) hx hb d_GlyphPositionsModel_checkLookup_113 (by decide) ?_
      refine lv_icmp_ne (tgt := 187) hx hb d_GlyphPositionsModel_checkLookup_115 (by decide) (fun c1 => ?_) (fun c1 => ?_)
      · rw [if_neg c1] at hf
        refine lv_aload_n hx hb d_GlyphPositionsModel_checkLookup_187 rfl (lv_at hl 1 rfl) ?_
        refine lv_iload_n hx hb d_GlyphPositionsModel_checkLookup_188 rfl (lv_at hl 3 rfl) ?_
        refine lv_lload hx hb d_GlyphPositionsModel_checkLookup_189 (lv_at hl 0 rfl) ?_
        obtain ⟨sr8, h_r8, hf⟩ := q_bv_some hf
        refine q_callVv (As := [.int x3_76, .long x7_1007]) (rest := []) (q0 := 36) hC (c_xGlyphPositionsModel_checkSubtable l G h_r8) cal_GlyphPositionsModel_checkSubtable wq_185 ⟨rfl, rfl, Nat.le_of_ble_eq_true rfl, Nat.le_of_ble_eq_true rfl⟩ rfl rfl hP hD hA hS rfl hl.1 rfl (Nat.le_of_ble_eq_true rfl) d_GlyphPositionsModel_checkLookup_191 (fun H locs hP hS => ?_)
        refine lv_iinc (v := x6_76 + 1) (lv' := [(6, .int (x6_76 + 1)), (7, .long x7_1007), (0, .ref (G.2.2 36)), (1, .long x1_76), (3, .int x3_76), (4, .int x4_76), (5, .int x5_76)]) hx hb d_GlyphPositionsModel_checkLookup_194 hl (k := 6) rfl rfl (by decide) rfl (fun ls hl => ?_)
        refine lv_goto (tgt := 76) hx hb d_GlyphPositionsModel_checkLookup_197 (by decide) ?_
        exact ih_76 _ _ _ _ _ _ hf hP hS (lv_sub hl [2, 3, 4, 5, 6, 0] rfl)
      rw [if_pos c1] at hf
      refine lv_aload_n hx hb d_GlyphPositionsModel_checkLookup_118 rfl (lv_at hl 1 rfl) ?_
      refine lv_lload hx hb d_GlyphPositionsModel_checkLookup_119 (lv_at hl 0 rfl) ?_
      refine lv_ldc2 (v := 2) hx hb hown (hts _ wq_149) d_GlyphPositionsModel_checkLookup_121 ?_
      refine lv_ladd hx hb d_GlyphPositionsModel_checkLookup_124 ?_
      obtain ⟨r9, sr9, h_r9, hf⟩ := q_bm_some hf
      refine q_callVi (As := [.long (x7_1007 + 2)]) (rest := []) (q0 := 36) hC (c_xGlyphPositionsModel_u16 l G h_r9) cal_GlyphPositionsModel_u16 wq_151 ⟨rfl, rfl, Nat.le_of_ble_eq_true rfl, Nat.le_of_ble_eq_true rfl⟩ rfl rfl hP hD hA hS rfl hl.1 rfl (Nat.le_of_ble_eq_true rfl) d_GlyphPositionsModel_checkLookup_125 (fun H locs hP hS => ?_)
      refine lv_istore (lv' := [(9, .int r9), (7, .long x7_1007), (0, .ref (G.2.2 36)), (1, .long x1_76), (3, .int x3_76), (4, .int x4_76), (5, .int x5_76), (6, .int x6_76)]) hx hb d_GlyphPositionsModel_checkLookup_128 hl (by decide) rfl (fun ls hl => ?_)
      refine lv_aload_n hx hb d_GlyphPositionsModel_checkLookup_130 rfl (lv_at hl 2 rfl) ?_
      refine lv_aload_n hx hb d_GlyphPositionsModel_checkLookup_131 rfl (lv_at hl 2 rfl) ?_
      refine lv_lload hx hb d_GlyphPositionsModel_checkLookup_132 (lv_at hl 1 rfl) ?_
      obtain ⟨r10, sr10, h_r10, hf⟩ := q_bm_some hf
      refine q_callVi (As := [.long x7_1007]) (rest := [.ref (G.2.2 36)]) (q0 := 36) hC (c_xGlyphPositionsModel_u16 l G h_r10) cal_GlyphPositionsModel_u16 wq_151 ⟨rfl, rfl, Nat.le_of_ble_eq_true rfl, Nat.le_of_ble_eq_true rfl⟩ rfl rfl hP hD hA hS rfl hl.1 rfl (Nat.le_of_ble_eq_true rfl) d_GlyphPositionsModel_checkLookup_134 (fun H locs hP hS => ?_)
      refine lv_iconst (v := 1) hx hb d_GlyphPositionsModel_checkLookup_137 (by decide) ?_
      refine lv_icmp_ne (tgt := 157) hx hb d_GlyphPositionsModel_checkLookup_138 (by decide) (fun c1 => ?_) (fun c1 => ?_)
      · rw [if_neg c1] at hf
        exact J_157 _ _ _ _ _ _ _ hf hP hS (lv_sub hl [2, 3, 4, 5, 7, 1, 0] rfl)
      rw [if_pos c1] at hf
      refine lv_iload hx hb d_GlyphPositionsModel_checkLookup_141 (lv_at hl 7 rfl) ?_
      refine lv_if_eq (tgt := 153) hx hb d_GlyphPositionsModel_checkLookup_143 (by decide) (fun c1 => ?_) (fun c1 => ?_)
      · rw [if_pos c1] at hf
        exact J_153 _ _ _ _ _ _ _ hf hP hS (lv_sub hl [2, 3, 4, 5, 7, 1, 0] rfl)
      rw [if_neg c1] at hf
      refine lv_iload hx hb d_GlyphPositionsModel_checkLookup_146 (lv_at hl 0 rfl) ?_
      refine lv_iload hx hb d_GlyphPositionsModel_checkLookup_148 (lv_at hl 6 rfl) ?_
      refine lv_icmp_ne (tgt := 157) hx hb d_GlyphPositionsModel_checkLookup_150 (by decide) (fun c1 => ?_) (fun c1 => ?_)
      · rw [if_neg c1] at hf
        exact J_157 _ _ _ _ _ _ _ hf hP hS (lv_sub hl [2, 3, 4, 5, 7, 1, 0] rfl)
      rw [if_pos c1] at hf
      exact J_153 _ _ _ _ _ _ _ hf hP hS (lv_sub hl [2, 3, 4, 5, 7, 1, 0] rfl)
  have J_54 : ∀ (x1_54 : Int64) (x3_54 w1_54 : Int32) (st_54 : QSt) (H : Heap) (locs : List Loc) (ls : Array Slot), xGlyphPositionsModel_checkLookup_54 N x1_54 x3_54 w1_54 st_54 = some so → va_P G.1 vwCl (wX G st_54) H → va_S A s.heap H locs → lv_has ls 10 [(0, .ref (G.2.2 36)), (1, .long x1_54), (3, .int x3_54)] → W p l e ({ frames := 8, cells := 0, slots := 0, locals := 193 } : Room) s m args below meth c H locs 0 0 (q_Zv below args s G.1 (wX G) so A) (F0 m 54 ls [.int w1_54, .ref (G.2.2 36)]) := by
    intro x1_54 x3_54 w1_54 st_54 H locs ls hf hP hS hl
    unfold xGlyphPositionsModel_checkLookup_54 at hf
    obtain ⟨sr4, h_r4, hf⟩ := q_bv_some hf
    refine q_callVv (As := [.int w1_54]) (rest := []) (q0 := 36) hC (c_xGlyphPositionsModel_need l G h_r4) cal_GlyphPositionsModel_need wq_148 ⟨rfl, rfl, Nat.le_of_ble_eq_true rfl, Nat.le_of_ble_eq_true rfl⟩ rfl rfl hP hD hA hS rfl hl.1 rfl (Nat.le_of_ble_eq_true rfl) d_GlyphPositionsModel_checkLookup_54 (fun H locs hP hS => ?_)
    refine lv_aload_n hx hb d_GlyphPositionsModel_checkLookup_57 rfl (lv_at hl 0 rfl) ?_
    refine lv_lload_n hx hb d_GlyphPositionsModel_checkLookup_58 rfl (lv_at hl 1 rfl) ?_
    refine lv_ldc2 (v := 4) hx hb hown (hts _ wq_150) d_GlyphPositionsModel_checkLookup_59 ?_
    refine lv_ladd hx hb d_GlyphPositionsModel_checkLookup_62 ?_
    refine lv_bipush (v := 16) hx hb d_GlyphPositionsModel_checkLookup_63 (by decide) ?_
    obtain ⟨r5, sr5, h_r5, hf⟩ := q_bm_some hf
    refine q_callVi (As := [.long (x1_54 + 4), .int 16]) (rest := []) (q0 := 36) hC (c_xGlyphPositionsModel_atMost l G h_r5) cal_GlyphPositionsModel_atMost wq_156 ⟨rfl, rfl, Nat.le_of_ble_eq_true rfl, Nat.le_of_ble_eq_true rfl⟩ rfl rfl hP hD hA hS rfl hl.1 rfl (Nat.le_of_ble_eq_true rfl) d_GlyphPositionsModel_checkLookup_65 (fun H locs hP hS => ?_)
    refine lv_istore (lv' := [(4, .int r5), (0, .ref (G.2.2 36)), (1, .long x1_54), (3, .int x3_54)]) hx hb d_GlyphPositionsModel_checkLookup_68 hl (by decide) rfl (fun ls hl => ?_)
    refine lv_iconst (v := 0) hx hb d_GlyphPositionsModel_checkLookup_70 (by decide) ?_
    refine lv_istore (lv' := [(5, .int 0), (4, .int r5), (0, .ref (G.2.2 36)), (1, .long x1_54), (3, .int x3_54)]) hx hb d_GlyphPositionsModel_checkLookup_71 hl (by decide) rfl (fun ls hl => ?_)
    refine lv_iconst (v := 0) hx hb d_GlyphPositionsModel_checkLookup_73 (by decide) ?_
    refine lv_istore (lv' := [(6, .int 0), (5, .int 0), (4, .int r5), (0, .ref (G.2.2 36)), (1, .long x1_54), (3, .int x3_54)]) hx hb d_GlyphPositionsModel_checkLookup_74 hl (by decide) rfl (fun ls hl => ?_)
    exact L_76 _ _ _ _ _ _ _ _ _ _ hf hP hS (lv_sub hl [3, 4, 5, 2, 1, 0] rfl)
  have J_29 : ∀ (x1_29 : Int64) (x3_29 w1_29 : Int32) (st_29 : QSt) (H : Heap) (locs : List Loc) (ls : Array Slot), xGlyphPositionsModel_checkLookup_29 N x1_29 x3_29 w1_29 st_29 = some so → va_P G.1 vwCl (wX G st_29) H → va_S A s.heap H locs → lv_has ls 10 [(0, .ref (G.2.2 36)), (1, .long x1_29), (3, .int x3_29)] → W p l e ({ frames := 8, cells := 0, slots := 0, locals := 193 } : Room) s m args below meth c H locs 0 0 (q_Zv below args s G.1 (wX G) so A) (F0 m 29 ls [.int w1_29, .ref (G.2.2 36)]) := by
    intro x1_29 x3_29 w1_29 st_29 H locs ls hf hP hS hl
    unfold xGlyphPositionsModel_checkLookup_29 at hf
    obtain ⟨sr2, h_r2, hf⟩ := q_bv_some hf
    refine q_callVv (As := [.int w1_29]) (rest := []) (q0 := 36) hC (c_xGlyphPositionsModel_need l G h_r2) cal_GlyphPositionsModel_need wq_148 ⟨rfl, rfl, Nat.le_of_ble_eq_true rfl, Nat.le_of_ble_eq_true rfl⟩ rfl rfl hP hD hA hS rfl hl.1 rfl (Nat.le_of_ble_eq_true rfl) d_GlyphPositionsModel_checkLookup_29 (fun H locs hP hS => ?_)
    refine lv_aload_n hx hb d_GlyphPositionsModel_checkLookup_32 rfl (lv_at hl 0 rfl) ?_
    refine lv_aload_n hx hb d_GlyphPositionsModel_checkLookup_33 rfl (lv_at hl 0 rfl) ?_
    refine lv_lload_n hx hb d_GlyphPositionsModel_checkLookup_34 rfl (lv_at hl 1 rfl) ?_
    refine lv_ldc2 (v := 2) hx hb hown (hts _ wq_149) d_GlyphPositionsModel_checkLookup_35 ?_
    refine lv_ladd hx hb d_GlyphPositionsModel_checkLookup_38 ?_
    obtain ⟨r3, sr3, h_r3, hf⟩ := q_bm_some hf
    refine q_callVi (As := [.long (x1_29 + 2)]) (rest := [.ref (G.2.2 36)]) (q0 := 36) hC (c_xGlyphPositionsModel_u16 l G h_r3) cal_GlyphPositionsModel_u16 wq_151 ⟨rfl, rfl, Nat.le_of_ble_eq_true rfl, Nat.le_of_ble_eq_true rfl⟩ rfl rfl hP hD hA hS rfl hl.1 rfl (Nat.le_of_ble_eq_true rfl) d_GlyphPositionsModel_checkLookup_39 (fun H locs hP hS => ?_)
    refine lv_iconst (v := 4) hx hb d_GlyphPositionsModel_checkLookup_42 (by decide) ?_
    refine lv_ishr hx hb d_GlyphPositionsModel_checkLookup_43 ?_
    refine lv_iconst (v := 1) hx hb d_GlyphPositionsModel_checkLookup_44 (by decide) ?_
    refine lv_iand hx hb d_GlyphPositionsModel_checkLookup_45 ?_
    refine lv_if_ne (tgt := 53) hx hb d_GlyphPositionsModel_checkLookup_46 (by decide) (fun c1 => ?_) (fun c1 => ?_)
    · rw [if_neg c1] at hf
      refine lv_iconst (v := 0) hx hb d_GlyphPositionsModel_checkLookup_53 (by decide) ?_
      exact J_54 _ _ _ _ _ _ _ hf hP hS hl
    rw [if_pos c1] at hf
    refine lv_iconst (v := 1) hx hb d_GlyphPositionsModel_checkLookup_49 (by decide) ?_
    refine lv_goto (tgt := 54) hx hb d_GlyphPositionsModel_checkLookup_50 (by decide) ?_
    exact J_54 _ _ _ _ _ _ _ hf hP hS hl
  have J_24 : ∀ (x1_24 : Int64) (x3_24 : Int32) (st_24 : QSt) (H : Heap) (locs : List Loc) (ls : Array Slot), xGlyphPositionsModel_checkLookup_24 N x1_24 x3_24 st_24 = some so → va_P G.1 vwCl (wX G st_24) H → va_S A s.heap H locs → lv_has ls 10 [(0, .ref (G.2.2 36)), (1, .long x1_24), (3, .int x3_24)] → W p l e ({ frames := 8, cells := 0, slots := 0, locals := 193 } : Room) s m args below meth c H locs 0 0 (q_Zv below args s G.1 (wX G) so A) (F0 m 24 ls [.ref (G.2.2 36)]) := by
    intro x1_24 x3_24 st_24 H locs ls hf hP hS hl
    unfold xGlyphPositionsModel_checkLookup_24 at hf
    refine lv_iconst (v := 1) hx hb d_GlyphPositionsModel_checkLookup_24 (by decide) ?_
    refine lv_goto (tgt := 29) hx hb d_GlyphPositionsModel_checkLookup_25 (by decide) ?_
    exact J_29 _ _ _ _ _ _ _ hf hP hS hl
  have J_18 : ∀ (x1_18 : Int64) (x3_18 : Int32) (st_18 : QSt) (H : Heap) (locs : List Loc) (ls : Array Slot), xGlyphPositionsModel_checkLookup_18 N x1_18 x3_18 st_18 = some so → va_P G.1 vwCl (wX G st_18) H → va_S A s.heap H locs → lv_has ls 10 [(0, .ref (G.2.2 36)), (1, .long x1_18), (3, .int x3_18)] → W p l e ({ frames := 8, cells := 0, slots := 0, locals := 193 } : Room) s m args below meth c H locs 0 0 (q_Zv below args s G.1 (wX G) so A) (F0 m 18 ls [.ref (G.2.2 36)]) := by
    intro x1_18 x3_18 st_18 H locs ls hf hP hS hl
    unfold xGlyphPositionsModel_checkLookup_18 at hf
    refine lv_iload_n hx hb d_GlyphPositionsModel_checkLookup_18 rfl (lv_at hl 2 rfl) ?_
    refine lv_bipush (v := 9) hx hb d_GlyphPositionsModel_checkLookup_19 (by decide) ?_
    refine lv_icmp_ne (tgt := 28) hx hb d_GlyphPositionsModel_checkLookup_21 (by decide) (fun c1 => ?_) (fun c1 => ?_)
    rotate_left
    · rw [if_pos c1] at hf
      exact J_24 _ _ _ _ _ _ hf hP hS hl
    rw [if_neg c1] at hf
    refine lv_iconst (v := 0) hx hb d_GlyphPositionsModel_checkLookup_28 (by decide) ?_
    exact J_29 _ _ _ _ _ _ _ hf hP hS hl
  unfold xGlyphPositionsModel_checkLookup at hf
  refine lv_aload_n hx hb d_GlyphPositionsModel_checkLookup_0 rfl (lv_at hl 0 rfl) ?_
  refine lv_lload_n hx hb d_GlyphPositionsModel_checkLookup_1 rfl (lv_at hl 1 rfl) ?_
  obtain ⟨r1, sr1, h_r1, hf⟩ := q_bm_some hf
  refine q_callVi (As := [.long x1]) (rest := []) (q0 := 36) hC (c_xGlyphPositionsModel_u16 l G h_r1) cal_GlyphPositionsModel_u16 wq_151 ⟨rfl, rfl, Nat.le_of_ble_eq_true rfl, Nat.le_of_ble_eq_true rfl⟩ rfl rfl hP hD hA hS rfl hl.1 rfl (Nat.le_of_ble_eq_true rfl) d_GlyphPositionsModel_checkLookup_2 (fun H locs hP hS => ?_)
  refine lv_istore_n (lv' := [(3, .int r1), (0, .ref (G.2.2 36)), (1, .long x1)]) hx hb d_GlyphPositionsModel_checkLookup_5 rfl hl (by decide) rfl (fun ls hl => ?_)
  refine lv_aload_n hx hb d_GlyphPositionsModel_checkLookup_6 rfl (lv_at hl 1 rfl) ?_
  refine lv_iload_n hx hb d_GlyphPositionsModel_checkLookup_7 rfl (lv_at hl 0 rfl) ?_
  refine lv_iconst (v := 1) hx hb d_GlyphPositionsModel_checkLookup_8 (by decide) ?_
  refine lv_icmp_lt (tgt := 18) hx hb d_GlyphPositionsModel_checkLookup_9 (by decide) (fun c1 => ?_) (fun c1 => ?_)
  · rw [if_pos c1] at hf
    exact J_18 _ _ _ _ _ _ hf hP hS (lv_sub hl [1, 2, 0] rfl)
  rw [if_neg c1] at hf
  refine lv_iload_n hx hb d_GlyphPositionsModel_checkLookup_12 rfl (lv_at hl 0 rfl) ?_
  refine lv_bipush (v := 6) hx hb d_GlyphPositionsModel_checkLookup_13 (by decide) ?_
  refine lv_icmp_le (tgt := 24) hx hb d_GlyphPositionsModel_checkLookup_15 (by decide) (fun c1 => ?_) (fun c1 => ?_)
  · rw [if_pos c1] at hf
    exact J_24 _ _ _ _ _ _ hf hP hS (lv_sub hl [1, 2, 0] rfl)
  rw [if_neg c1] at hf
  exact J_18 _ _ _ _ _ _ hf hP hS (lv_sub hl [1, 2, 0] rfl)
def xGlyphPositionsModel_checkLookups_20 (N : Nat) (x1_20 : Int64) (x3_20 : Int32) : Nat → Int32 → QSt → Option QSt
  | 0, _, _ => none
  | n_20 + 1, x4_20, st_20 => if x3_20 ≤ x4_20 then (some st_20) else (if (st_20.1 14) = 0 then (q_bm (xGlyphPositionsModel_u16 ((x1_20 + 2) + ((2 : Int64) * x4_20.toInt64)) st_20) (fun r4 sr4 => q_bv (xGlyphPositionsModel_checkLookup N (x1_20 + r4.toInt64) sr4) (fun sr5 => xGlyphPositionsModel_checkLookups_20 N x1_20 x3_20 n_20 (x4_20 + 1) sr5))) else (some st_20))
def xGlyphPositionsModel_checkLookups (N : Nat) (st : QSt) : Option QSt :=
  q_bm (xGlyphPositionsModel_u16 8 st) (fun r1 sr1 => q_lt r1.toInt64 (fun x1_1002 => q_bm (xGlyphPositionsModel_atMost x1_1002 64 sr1) (fun r3 sr3 => xGlyphPositionsModel_checkLookups_20 N x1_1002 r3 N 0 sr3)))
set_option maxHeartbeats 4000000 in
set_option maxRecDepth 100000 in
theorem c_xGlyphPositionsModel_checkLookups (l : Launch) (G : XG) {N : Nat} {st : QSt} {so : QSt} (hf : xGlyphPositionsModel_checkLookups N st = some so) : q_Mv l y_GlyphPositionsModel_checkLookups b_GlyphPositionsModel_checkLookups 5 ({ frames := 9, cells := 0, slots := 0, locals := 222 } : Room) G.1 (xT G) (wX G) [.ref (G.2.2 36)] st so := by
  refine q_Mv_of (by decide) (Nat.le_of_ble_eq_true rfl) (wX_fst G) ?_
  intro p e s m args below meth c A ls hC hr hlk hT hD hA hP hS hl
  have hx := hC.1.1
  have hb := hC.1.2.1
  have hown := hC.1.2.2.2.1
  have hts := hC.1.2.2.2.2
  have hl : lv_has ls 5 [(0, .ref (G.2.2 36))] := hl
  have L_20 : ∀ (x1_20 : Int64) (x3_20 : Int32) (n_20 : Nat) (x4_20 : Int32) (st_20 : QSt) (H : Heap) (locs : List Loc) (ls : Array Slot), xGlyphPositionsModel_checkLookups_20 N x1_20 x3_20 n_20 x4_20 st_20 = some so → va_P G.1 vwCl (wX G st_20) H → va_S A s.heap H locs → lv_has ls 5 [(0, .ref (G.2.2 36)), (1, .long x1_20), (3, .int x3_20), (4, .int x4_20)] → W p l e ({ frames := 9, cells := 0, slots := 0, locals := 222 } : Room) s m args below meth c H locs 0 0 (q_Zv below args s G.1 (wX G) so A) (F0 m 20 ls []) := by
    intro x1_20 x3_20 n_20
    induction n_20 with
    | zero => intro _ _ _ _ _ hf; exact absurd hf (by simp [xGlyphPositionsModel_checkLookups_20])
    | succ n_20 ih_20 =>
      intro x4_20 st_20 H locs ls hf hP hS hl
      rw [xGlyphPositionsModel_checkLookups_20] at hf
      refine lv_iload hx hb d_GlyphPositionsModel_checkLookups_20 (lv_at hl 3 rfl) ?_
      refine lv_iload_n hx hb d_GlyphPositionsModel_checkLookups_22 rfl (lv_at hl 2 rfl) ?_
      refine lv_icmp_ge (tgt := 63) hx hb d_GlyphPositionsModel_checkLookups_23 (by decide) (fun c1 => ?_) (fun c1 => ?_)
      · rw [if_pos c1] at hf
        exact q_vret hC hr hlk hf hP hS d_GlyphPositionsModel_checkLookups_63
      rw [if_neg c1] at hf
      refine lv_aload_n hx hb d_GlyphPositionsModel_checkLookups_26 rfl (lv_at hl 0 rfl) ?_
      refine xg_36_bad hC hP wq_147 d_GlyphPositionsModel_checkLookups_27 ?_
      refine lv_if_ne (tgt := 63) hx hb d_GlyphPositionsModel_checkLookups_30 (by decide) (fun c1 => ?_) (fun c1 => ?_)
      · rw [if_neg c1] at hf
        exact q_vret hC hr hlk hf hP hS d_GlyphPositionsModel_checkLookups_63
      rw [if_pos c1] at hf
      refine lv_aload_n hx hb d_GlyphPositionsModel_checkLookups_33 rfl (lv_at hl 0 rfl) ?_
      refine lv_lload_n hx hb d_GlyphPositionsModel_checkLookups_34 rfl (lv_at hl 1 rfl) ?_
      refine lv_aload_n hx hb d_GlyphPositionsModel_checkLookups_35 rfl (lv_at hl 0 rfl) ?_
      refine lv_lload_n hx hb d_GlyphPositionsModel_checkLookups_36 rfl (lv_at hl 1 rfl) ?_
      refine lv_ldc2 (v := 2) hx hb hown (hts _ wq_149) d_GlyphPositionsModel_checkLookups_37 ?_
      refine lv_ladd hx hb d_GlyphPositionsModel_checkLookups_40 ?_
      refine lv_ldc2 (v := 2) hx hb hown (hts _ wq_149) d_GlyphPositionsModel_checkLookups_41 ?_
      refine lv_iload hx hb d_GlyphPositionsModel_checkLookups_44 (lv_at hl 3 rfl) ?_
      refine lv_i2l (v := x4_20.toInt64) hx hb d_GlyphPositionsModel_checkLookups_46 rfl ?_
      refine lv_lmul hx hb d_GlyphPositionsModel_checkLookups_47 ?_
      refine lv_ladd hx hb d_GlyphPositionsModel_checkLookups_48 ?_
      obtain ⟨r4, sr4, h_r4, hf⟩ := q_bm_some hf
      refine q_callVi (As := [.long ((x1_20 + 2) + ((2 : Int64) * x4_20.toInt64))]) (rest := [.long x1_20, .ref (G.2.2 36)]) (q0 := 36) hC (c_xGlyphPositionsModel_u16 l G h_r4) cal_GlyphPositionsModel_u16 wq_151 ⟨rfl, rfl, Nat.le_of_ble_eq_true rfl, Nat.le_of_ble_eq_true rfl⟩ rfl rfl hP hD hA hS rfl hl.1 rfl (Nat.le_of_ble_eq_true rfl) d_GlyphPositionsModel_checkLookups_49 (fun H locs hP hS => ?_)
      refine lv_i2l (v := r4.toInt64) hx hb d_GlyphPositionsModel_checkLookups_52 rfl ?_
      refine lv_ladd hx hb d_GlyphPositionsModel_checkLookups_53 ?_
      obtain ⟨sr5, h_r5, hf⟩ := q_bv_some hf
      refine q_callVv (As := [.long (x1_20 + r4.toInt64)]) (rest := []) (q0 := 36) hC (c_xGlyphPositionsModel_checkLookup l G h_r5) cal_GlyphPositionsModel_checkLookup wq_186 ⟨rfl, rfl, Nat.le_of_ble_eq_true rfl, Nat.le_of_ble_eq_true rfl⟩ rfl rfl hP hD hA hS rfl hl.1 rfl (Nat.le_of_ble_eq_true rfl) d_GlyphPositionsModel_checkLookups_54 (fun H locs hP hS => ?_)
      refine lv_iinc (v := x4_20 + 1) (lv' := [(4, .int (x4_20 + 1)), (0, .ref (G.2.2 36)), (1, .long x1_20), (3, .int x3_20)]) hx hb d_GlyphPositionsModel_checkLookups_57 hl (k := 3) rfl rfl (by decide) rfl (fun ls hl => ?_)
      refine lv_goto (tgt := 20) hx hb d_GlyphPositionsModel_checkLookups_60 (by decide) ?_
      exact ih_20 _ _ _ _ _ hf hP hS (lv_sub hl [1, 2, 3, 0] rfl)
  unfold xGlyphPositionsModel_checkLookups at hf
  refine lv_aload_n hx hb d_GlyphPositionsModel_checkLookups_0 rfl (lv_at hl 0 rfl) ?_
  refine lv_ldc2 (v := 8) hx hb hown (hts _ wq_153) d_GlyphPositionsModel_checkLookups_1 ?_
  obtain ⟨r1, sr1, h_r1, hf⟩ := q_bm_some hf
  refine q_callVi (As := [.long 8]) (rest := []) (q0 := 36) hC (c_xGlyphPositionsModel_u16 l G h_r1) cal_GlyphPositionsModel_u16 wq_151 ⟨rfl, rfl, Nat.le_of_ble_eq_true rfl, Nat.le_of_ble_eq_true rfl⟩ rfl rfl hP hD hA hS rfl hl.1 rfl (Nat.le_of_ble_eq_true rfl) d_GlyphPositionsModel_checkLookups_4 (fun H locs hP hS => ?_)
  refine lv_i2l (v := r1.toInt64) hx hb d_GlyphPositionsModel_checkLookups_7 rfl ?_
  obtain ⟨x1_1002, e_x1_1002, hf⟩ := q_lt_some hf
  refine q_topl e_x1_1002 ?_
  refine lv_lstore_n (lv' := [(1, .long x1_1002), (0, .ref (G.2.2 36))]) hx hb d_GlyphPositionsModel_checkLookups_8 rfl hl (by decide) rfl (fun ls hl => ?_)
  refine lv_aload_n hx hb d_GlyphPositionsModel_checkLookups_9 rfl (lv_at hl 1 rfl) ?_
  refine lv_lload_n hx hb d_GlyphPositionsModel_checkLookups_10 rfl (lv_at hl 0 rfl) ?_
  refine lv_bipush (v := 64) hx hb d_GlyphPositionsModel_checkLookups_11 (by decide) ?_
  obtain ⟨r3, sr3, h_r3, hf⟩ := q_bm_some hf
  refine q_callVi (As := [.long x1_1002, .int 64]) (rest := []) (q0 := 36) hC (c_xGlyphPositionsModel_atMost l G h_r3) cal_GlyphPositionsModel_atMost wq_156 ⟨rfl, rfl, Nat.le_of_ble_eq_true rfl, Nat.le_of_ble_eq_true rfl⟩ rfl rfl hP hD hA hS rfl hl.1 rfl (Nat.le_of_ble_eq_true rfl) d_GlyphPositionsModel_checkLookups_13 (fun H locs hP hS => ?_)
  refine lv_istore_n (lv' := [(3, .int r3), (1, .long x1_1002), (0, .ref (G.2.2 36))]) hx hb d_GlyphPositionsModel_checkLookups_16 rfl hl (by decide) rfl (fun ls hl => ?_)
  refine lv_iconst (v := 0) hx hb d_GlyphPositionsModel_checkLookups_17 (by decide) ?_
  refine lv_istore (lv' := [(4, .int 0), (3, .int r3), (1, .long x1_1002), (0, .ref (G.2.2 36))]) hx hb d_GlyphPositionsModel_checkLookups_18 hl (by decide) rfl (fun ls hl => ?_)
  exact L_20 _ _ _ _ _ _ _ _ hf hP hS (lv_sub hl [3, 2, 1, 0] rfl)
def xGlyphPositionsModel_load_72 (N : Nat) : Nat → Int32 → QSt → Option (Int32 × QSt)
  | 0, _, _ => none
  | n_72 + 1, x1_72, st_72 => if 8192 ≤ x1_72 then (q_lt (q_ps st_72 13 1) (fun s8 => q_bm (xGlyphPositionsModel_lookupCount s8) (fun r9 sr9 => some (r9, sr9)))) else (q_grd (q_vpb x1_72 8192) (q_lt (st_72.2 26 x1_72.toNatClampNeg) (fun v10 => q_grd (q_vpb x1_72 8192) (q_lt (q_pa st_72 27 x1_72.toNatClampNeg v10) (fun s11 => xGlyphPositionsModel_load_72 N n_72 (x1_72 + 1) s11)))))
def xGlyphPositionsModel_load (N : Nat) (st : QSt) : Option (Int32 × QSt) :=
  q_lt (q_ps st 11 0) (fun s1 => q_lt (q_ps s1 14 0) (fun s2 => q_lt (q_ps s2 15 0) (fun s3 => q_bv (xGlyphPositionsModel_checkHead s3) (fun sr4 => if (sr4.1 14) = 0 then (q_bv (xGlyphPositionsModel_checkScripts N sr4) (fun sr5 => if (sr5.1 14) = 0 then (q_bv (xGlyphPositionsModel_checkFeatures N sr5) (fun sr6 => if (sr6.1 14) = 0 then (q_bv (xGlyphPositionsModel_checkLookups N sr6) (fun sr7 => if (sr7.1 14) = 0 then (xGlyphPositionsModel_load_72 N N 0 sr7) else (some ((-4), sr7)))) else (some ((-3), sr6)))) else (some ((-2), sr5)))) else (some ((-1), sr4))))))
set_option maxHeartbeats 4000000 in
set_option maxRecDepth 100000 in
theorem c_xGlyphPositionsModel_load (l : Launch) (G : XG) {N : Nat} {st : QSt} {ro : Int32} {so : QSt} (hf : xGlyphPositionsModel_load N st = some (ro, so)) : q_Mi l y_GlyphPositionsModel_load b_GlyphPositionsModel_load 2 .int ({ frames := 10, cells := 0, slots := 0, locals := 246 } : Room) G.1 (xT G) (wX G) [.ref (G.2.2 36)] st ro so := by
  refine q_Mi_of (by decide) (Nat.le_of_ble_eq_true rfl) (wX_fst G) ?_
  intro p e s m args below meth c A ls hC hr hlk hT hD hA hP hS hl
  have hx := hC.1.1
  have hb := hC.1.2.1
  have hown := hC.1.2.2.2.1
  have hts := hC.1.2.2.2.2
  have hl : lv_has ls 2 [(0, .ref (G.2.2 36))] := hl
  have L_72 : ∀ (n_72 : Nat) (x1_72 : Int32) (st_72 : QSt) (H : Heap) (locs : List Loc) (ls : Array Slot), xGlyphPositionsModel_load_72 N n_72 x1_72 st_72 = some (ro, so) → va_P G.1 vwCl (wX G st_72) H → va_S A s.heap H locs → lv_has ls 2 [(0, .ref (G.2.2 36)), (1, .int x1_72)] → W p l e ({ frames := 10, cells := 0, slots := 0, locals := 246 } : Room) s m args below meth c H locs 0 0 (q_Zi below args s G.1 (wX G) ro so A) (F0 m 72 ls []) := by
    intro n_72
    induction n_72 with
    | zero => intro _ _ _ _ _ hf; exact absurd hf (by simp [xGlyphPositionsModel_load_72])
    | succ n_72 ih_72 =>
      intro x1_72 st_72 H locs ls hf hP hS hl
      rw [xGlyphPositionsModel_load_72] at hf
      refine lv_iload_n hx hb d_GlyphPositionsModel_load_72 rfl (lv_at hl 1 rfl) ?_
      refine lv_sipush (v := 8192) hx hb d_GlyphPositionsModel_load_73 (by decide) ?_
      refine lv_icmp_ge (tgt := 97) hx hb d_GlyphPositionsModel_load_76 (by decide) (fun c1 => ?_) (fun c1 => ?_)
      · rw [if_pos c1] at hf
        refine lv_aload_n hx hb d_GlyphPositionsModel_load_97 rfl (lv_at hl 0 rfl) ?_
        refine lv_iconst (v := 1) hx hb d_GlyphPositionsModel_load_98 (by decide) ?_
        obtain ⟨s8, e_s8, hf⟩ := q_lt_some hf
        refine xp_36_isFont hC hP hD hS e_s8 rfl wq_187 d_GlyphPositionsModel_load_99 (fun H locs hP hS => ?_)
        refine lv_aload_n hx hb d_GlyphPositionsModel_load_102 rfl (lv_at hl 0 rfl) ?_
        obtain ⟨r9, sr9, h_r9, hf⟩ := q_bm_some hf
        refine q_callVi (As := []) (rest := []) (q0 := 36) hC (c_xGlyphPositionsModel_lookupCount l G h_r9) cal_GlyphPositionsModel_lookupCount wq_161 ⟨rfl, rfl, Nat.le_of_ble_eq_true rfl, Nat.le_of_ble_eq_true rfl⟩ rfl rfl hP hD hA hS rfl hl.1 rfl (Nat.le_of_ble_eq_true rfl) d_GlyphPositionsModel_load_103 (fun H locs hP hS => ?_)
        exact q_iret hC hr hlk hf (by first | rfl | decide) hP hS d_GlyphPositionsModel_load_106
      rw [if_neg c1] at hf
      refine lv_aload_n hx hb d_GlyphPositionsModel_load_79 rfl (lv_at hl 0 rfl) ?_
      refine xg_36_font hC hP wq_188 d_GlyphPositionsModel_load_80 ?_
      refine lv_iload_n hx hb d_GlyphPositionsModel_load_83 rfl (lv_at hl 1 rfl) ?_
      refine lv_aload_n hx hb d_GlyphPositionsModel_load_84 rfl (lv_at hl 0 rfl) ?_
      refine xg_36_tape hC hP wq_123 d_GlyphPositionsModel_load_85 ?_
      refine lv_iload_n hx hb d_GlyphPositionsModel_load_88 rfl (lv_at hl 1 rfl) ?_
      obtain ⟨hi, hf⟩ := q_grd_some hf
      obtain ⟨v10, e_v10, hf⟩ := q_lt_some hf
      refine xl_37 hC hP e_v10 hi d_GlyphPositionsModel_load_89 ?_
      obtain ⟨hi, hf⟩ := q_grd_some hf
      obtain ⟨s11, e_s11, hf⟩ := q_lt_some hf
      refine xs_38 hC hP hD hS e_s11 hi d_GlyphPositionsModel_load_90 (fun H locs hP hS => ?_)
      refine lv_iinc (v := x1_72 + 1) (lv' := [(1, .int (x1_72 + 1)), (0, .ref (G.2.2 36))]) hx hb d_GlyphPositionsModel_load_91 hl (k := 1) rfl rfl (by decide) rfl (fun ls hl => ?_)
      refine lv_goto (tgt := 72) hx hb d_GlyphPositionsModel_load_94 (by decide) ?_
      exact ih_72 _ _ _ _ _ hf hP hS (lv_sub hl [1, 0] rfl)
  unfold xGlyphPositionsModel_load at hf
  refine lv_aload_n hx hb d_GlyphPositionsModel_load_0 rfl (lv_at hl 0 rfl) ?_
  refine lv_iconst (v := 0) hx hb d_GlyphPositionsModel_load_1 (by decide) ?_
  obtain ⟨s1, e_s1, hf⟩ := q_lt_some hf
  refine xp_36_fault hC hP hD hS e_s1 wq_121 d_GlyphPositionsModel_load_2 (fun H locs hP hS => ?_)
  refine lv_aload_n hx hb d_GlyphPositionsModel_load_5 rfl (lv_at hl 0 rfl) ?_
  refine lv_iconst (v := 0) hx hb d_GlyphPositionsModel_load_6 (by decide) ?_
  obtain ⟨s2, e_s2, hf⟩ := q_lt_some hf
  refine xp_36_bad hC hP hD hS e_s2 rfl wq_147 d_GlyphPositionsModel_load_7 (fun H locs hP hS => ?_)
  refine lv_aload_n hx hb d_GlyphPositionsModel_load_10 rfl (lv_at hl 0 rfl) ?_
  refine lv_iconst (v := 0) hx hb d_GlyphPositionsModel_load_11 (by decide) ?_
  obtain ⟨s3, e_s3, hf⟩ := q_lt_some hf
  refine xp_36_looked hC hP hD hS e_s3 wq_162 d_GlyphPositionsModel_load_12 (fun H locs hP hS => ?_)
  refine lv_aload_n hx hb d_GlyphPositionsModel_load_15 rfl (lv_at hl 0 rfl) ?_
  obtain ⟨sr4, h_r4, hf⟩ := q_bv_some hf
  refine q_callVv (As := []) (rest := []) (q0 := 36) hC (c_xGlyphPositionsModel_checkHead l G h_r4) cal_GlyphPositionsModel_checkHead wq_189 ⟨rfl, rfl, Nat.le_of_ble_eq_true rfl, Nat.le_of_ble_eq_true rfl⟩ rfl rfl hP hD hA hS rfl hl.1 rfl (Nat.le_of_ble_eq_true rfl) d_GlyphPositionsModel_load_16 (fun H locs hP hS => ?_)
  refine lv_aload_n hx hb d_GlyphPositionsModel_load_19 rfl (lv_at hl 0 rfl) ?_
  refine xg_36_bad hC hP wq_147 d_GlyphPositionsModel_load_20 ?_
  refine lv_if_eq (tgt := 28) hx hb d_GlyphPositionsModel_load_23 (by decide) (fun c1 => ?_) (fun c1 => ?_)
  rotate_left
  · rw [if_neg c1] at hf
    refine lv_iconst (v := (-1)) hx hb d_GlyphPositionsModel_load_26 (by decide) ?_
    exact q_iret hC hr hlk hf (by first | rfl | decide) hP hS d_GlyphPositionsModel_load_27
  rw [if_pos c1] at hf
  refine lv_aload_n hx hb d_GlyphPositionsModel_load_28 rfl (lv_at hl 0 rfl) ?_
  obtain ⟨sr5, h_r5, hf⟩ := q_bv_some hf
  refine q_callVv (As := []) (rest := []) (q0 := 36) hC (c_xGlyphPositionsModel_checkScripts l G h_r5) cal_GlyphPositionsModel_checkScripts wq_190 ⟨rfl, rfl, Nat.le_of_ble_eq_true rfl, Nat.le_of_ble_eq_true rfl⟩ rfl rfl hP hD hA hS rfl hl.1 rfl (Nat.le_of_ble_eq_true rfl) d_GlyphPositionsModel_load_29 (fun H locs hP hS => ?_)
  refine lv_aload_n hx hb d_GlyphPositionsModel_load_32 rfl (lv_at hl 0 rfl) ?_
  refine xg_36_bad hC hP wq_147 d_GlyphPositionsModel_load_33 ?_
  refine lv_if_eq (tgt := 42) hx hb d_GlyphPositionsModel_load_36 (by decide) (fun c1 => ?_) (fun c1 => ?_)
  rotate_left
  · rw [if_neg c1] at hf
    refine lv_bipush (v := (-2)) hx hb d_GlyphPositionsModel_load_39 (by decide) ?_
    exact q_iret hC hr hlk hf (by first | rfl | decide) hP hS d_GlyphPositionsModel_load_41
  rw [if_pos c1] at hf
  refine lv_aload_n hx hb d_GlyphPositionsModel_load_42 rfl (lv_at hl 0 rfl) ?_
  obtain ⟨sr6, h_r6, hf⟩ := q_bv_some hf
  refine q_callVv (As := []) (rest := []) (q0 := 36) hC (c_xGlyphPositionsModel_checkFeatures l G h_r6) cal_GlyphPositionsModel_checkFeatures wq_191 ⟨rfl, rfl, Nat.le_of_ble_eq_true rfl, Nat.le_of_ble_eq_true rfl⟩ rfl rfl hP hD hA hS rfl hl.1 rfl (Nat.le_of_ble_eq_true rfl) d_GlyphPositionsModel_load_43 (fun H locs hP hS => ?_)
  refine lv_aload_n hx hb d_GlyphPositionsModel_load_46 rfl (lv_at hl 0 rfl) ?_
  refine xg_36_bad hC hP wq_147 d_GlyphPositionsModel_load_47 ?_
  refine lv_if_eq (tgt := 56) hx hb d_GlyphPositionsModel_load_50 (by decide) (fun c1 => ?_) (fun c1 => ?_)
  rotate_left
  · rw [if_neg c1] at hf
    refine lv_bipush (v := (-3)) hx hb d_GlyphPositionsModel_load_53 (by decide) ?_
    exact q_iret hC hr hlk hf (by first | rfl | decide) hP hS d_GlyphPositionsModel_load_55
  rw [if_pos c1] at hf
  refine lv_aload_n hx hb d_GlyphPositionsModel_load_56 rfl (lv_at hl 0 rfl) ?_
  obtain ⟨sr7, h_r7, hf⟩ := q_bv_some hf
  refine q_callVv (As := []) (rest := []) (q0 := 36) hC (c_xGlyphPositionsModel_checkLookups l G h_r7) cal_GlyphPositionsModel_checkLookups wq_192 ⟨rfl, rfl, Nat.le_of_ble_eq_true rfl, Nat.le_of_ble_eq_true rfl⟩ rfl rfl hP hD hA hS rfl hl.1 rfl (Nat.le_of_ble_eq_true rfl) d_GlyphPositionsModel_load_57 (fun H locs hP hS => ?_)
  refine lv_aload_n hx hb d_GlyphPositionsModel_load_60 rfl (lv_at hl 0 rfl) ?_
  refine xg_36_bad hC hP wq_147 d_GlyphPositionsModel_load_61 ?_
  refine lv_if_eq (tgt := 70) hx hb d_GlyphPositionsModel_load_64 (by decide) (fun c1 => ?_) (fun c1 => ?_)
  rotate_left
  · rw [if_neg c1] at hf
    refine lv_bipush (v := (-4)) hx hb d_GlyphPositionsModel_load_67 (by decide) ?_
    exact q_iret hC hr hlk hf (by first | rfl | decide) hP hS d_GlyphPositionsModel_load_69
  rw [if_pos c1] at hf
  refine lv_iconst (v := 0) hx hb d_GlyphPositionsModel_load_70 (by decide) ?_
  refine lv_istore_n (lv' := [(1, .int 0), (0, .ref (G.2.2 36))]) hx hb d_GlyphPositionsModel_load_71 rfl hl (by decide) rfl (fun ls hl => ?_)
  exact L_72 _ _ _ _ _ _ hf hP hS (lv_sub hl [1, 0] rfl)
