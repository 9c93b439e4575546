def lawF_575 (xs : Nat → Int32) (L : Nat) (N : Nat) (rec_23 : Int32 → QSt → Option (Int32 × QSt)) (x4_575 x5_575 : Int32) (w1_575 : Int32) (st_575 : QSt) : Option (Int32 × QSt) :=
  q_bm (xGlyphPositionsModel_set N w1_575 st_575) (fun r12 sr12 => q_bn (xGlyphPositionsModel_thrown sr12) (fun r13 => if r13 = x5_575 then (if x5_575 = 0 then (if (lg_cmp ((sr12.2 48 0).toInt64) r12.toInt64) = 0 then (rec_23 (x4_575 + 5) sr12) else (some (0, sr12))) else (rec_23 (x4_575 + 5) sr12)) else (some (0, sr12))))
def lawF_554 (xs : Nat → Int32) (L : Nat) (N : Nat) (rec_23 : Int32 → QSt → Option (Int32 × QSt)) (x4_554 : Int32) (w1_554 : Int32) (st_554 : QSt) : Option (Int32 × QSt) :=
  q_bm (xw_set N w1_554 st_554) (fun r10 sr10 => q_grd (q_vpb (x4_554 + 1) L) (q_lt (xs (x4_554 + 1).toNatClampNeg) (fun v11 => if v11 = 0 then (lawF_575 xs L N rec_23 x4_554 r10 0 sr10) else (lawF_575 xs L N rec_23 x4_554 r10 1 sr10))))
def lawF_429 (xs : Nat → Int32) (L : Nat) (N : Nat) (rec_23 : Int32 → QSt → Option (Int32 × QSt)) (x4_429 x5_429 : Int32) (w1_429 w2_429 : Int32) (st_429 : QSt) : Option (Int32 × QSt) :=
  q_bv (xGlyphPositionsModel_feature N w1_429 w2_429 st_429) (fun sr30 => q_bn (xGlyphPositionsModel_thrown sr30) (fun r31 => if r31 = x5_429 then (rec_23 (x4_429 + 5) sr30) else (some (0, sr30))))
def lawF_403 (xs : Nat → Int32) (L : Nat) (N : Nat) (rec_23 : Int32 → QSt → Option (Int32 × QSt)) (x4_403 : Int32) (w1_403 w2_403 : Int32) (st_403 : QSt) : Option (Int32 × QSt) :=
  q_bm (xw_feature N w1_403 w2_403 st_403) (fun r27 sr27 => q_grd (q_vpb (x4_403 + 1) L) (q_lt (xs (x4_403 + 1).toNatClampNeg) (fun v28 => q_grd (q_vpb (x4_403 + 2) L) (q_lt (xs (x4_403 + 2).toNatClampNeg) (fun v29 => if v29 = 0 then (lawF_429 xs L N rec_23 x4_403 r27 v28 0 sr27) else (lawF_429 xs L N rec_23 x4_403 r27 v28 1 sr27))))))
def lawF_23 (xs : Nat → Int32) (L : Nat) (N : Nat) : Nat → Int32 → QSt → Option (Int32 × QSt)
  | 0, _, _ => none
  | n_23 + 1, x4_23, st_23 => if ((Int32.ofNat L) - 5) < x4_23 then (some (1, st_23)) else (q_grd (q_vpb x4_23 L) (q_lt (xs x4_23.toNatClampNeg) (fun v1 => if (v1 &&& 15) = 0 then (q_grd (q_vpb (x4_23 + 1) L) (q_lt (xs (x4_23 + 1).toNatClampNeg) (fun v65 => q_bm (xGlyphPositions_feed v65 st_23) (fun r66 sr66 => q_grd (q_vpb (x4_23 + 1) L) (q_lt (xs (x4_23 + 1).toNatClampNeg) (fun v67 => q_bm (xGlyphPositionsModel_feed N v67 sr66) (fun r68 sr68 => if r66 = r68 then (lawF_23 xs L N n_23 (x4_23 + 5) sr68) else (some (0, sr68))))))))) else (if (v1 &&& 15) = 1 then (q_grd (q_vpb (x4_23 + 1) L) (q_lt (xs (x4_23 + 1).toNatClampNeg) (fun v58 => q_grd (q_vpb (x4_23 + 2) L) (q_lt (xs (x4_23 + 2).toNatClampNeg) (fun v59 => q_bm (xw_put v58 v59 st_23) (fun r60 sr60 => q_grd (q_vpb (x4_23 + 1) L) (q_lt (xs (x4_23 + 1).toNatClampNeg) (fun v61 => q_grd (q_vpb (x4_23 + 2) L) (q_lt (xs (x4_23 + 2).toNatClampNeg) (fun v62 => q_bm (xGlyphPositionsModel_put v61 v62 sr60) (fun r63 sr63 => q_bn (xGlyphPositionsModel_thrown sr63) (fun r64 => if r64 = r60 then (if r60 = 0 then (if (lg_cmp ((sr63.2 48 0).toInt64) r63.toInt64) = 0 then (lawF_23 xs L N n_23 (x4_23 + 5) sr63) else (some (0, sr63))) else (lawF_23 xs L N n_23 (x4_23 + 5) sr63)) else (some (0, sr63)))))))))))))) else (if (v1 &&& 15) = 2 then (q_grd (q_vpb (x4_23 + 1) L) (q_lt (xs (x4_23 + 1).toNatClampNeg) (fun v53 => q_bm (xw_cut v53 st_23) (fun r54 sr54 => q_grd (q_vpb (x4_23 + 1) L) (q_lt (xs (x4_23 + 1).toNatClampNeg) (fun v55 => q_bm (xGlyphPositionsModel_cut v55 sr54) (fun r56 sr56 => q_bn (xGlyphPositionsModel_thrown sr56) (fun r57 => if r57 = r54 then (if r54 = 0 then (if (lg_cmp ((sr56.2 48 0).toInt64) r56.toInt64) = 0 then (lawF_23 xs L N n_23 (x4_23 + 5) sr56) else (some (0, sr56))) else (lawF_23 xs L N n_23 (x4_23 + 5) sr56)) else (some (0, sr56)))))))))) else (if (v1 &&& 15) = 3 then (q_bm (xGlyphPositions_load N st_23) (fun r51 sr51 => q_bm (xGlyphPositionsModel_load N sr51) (fun r52 sr52 => if r51 = r52 then (lawF_23 xs L N n_23 (x4_23 + 5) sr52) else (some (0, sr52))))) else (if (v1 &&& 15) = 4 then (q_grd (q_vpb (x4_23 + 1) L) (q_lt (xs (x4_23 + 1).toNatClampNeg) (fun v40 => q_grd (q_vpb (x4_23 + 2) L) (q_lt (xs (x4_23 + 2).toNatClampNeg) (fun v41 => q_grd (q_vpb (x4_23 + 3) L) (q_lt (xs (x4_23 + 3).toNatClampNeg) (fun v42 => q_grd (q_vpb (x4_23 + 4) L) (q_lt (xs (x4_23 + 4).toNatClampNeg) (fun v43 => q_bm (xw_kind v40 v41 v42 v43 st_23) (fun r44 sr44 => q_grd (q_vpb (x4_23 + 1) L) (q_lt (xs (x4_23 + 1).toNatClampNeg) (fun v45 => q_grd (q_vpb (x4_23 + 2) L) (q_lt (xs (x4_23 + 2).toNatClampNeg) (fun v46 => q_grd (q_vpb (x4_23 + 3) L) (q_lt (xs (x4_23 + 3).toNatClampNeg) (fun v47 => q_grd (q_vpb (x4_23 + 4) L) (q_lt (xs (x4_23 + 4).toNatClampNeg) (fun v48 => q_bv (xGlyphPositionsModel_kind v45 v46 v47 v48 sr44) (fun sr49 => q_bn (xGlyphPositionsModel_thrown sr49) (fun r50 => if r50 = r44 then (lawF_23 xs L N n_23 (x4_23 + 5) sr49) else (some (0, sr49)))))))))))))))))))))) else (if (v1 &&& 15) = 5 then (q_bm (xGlyphPositions_forget st_23) (fun r38 sr38 => q_bm (xGlyphPositionsModel_forget sr38) (fun r39 sr39 => if r38 = r39 then (lawF_23 xs L N n_23 (x4_23 + 5) sr39) else (some (0, sr39))))) else (if (v1 &&& 15) = 6 then (q_grd (q_vpb (x4_23 + 1) L) (q_lt (xs (x4_23 + 1).toNatClampNeg) (fun v32 => q_grd (q_vpb (x4_23 + 2) L) (q_lt (xs (x4_23 + 2).toNatClampNeg) (fun v33 => q_bv (xGlyphPositions_choose v32 v33 st_23) (fun sr34 => q_grd (q_vpb (x4_23 + 1) L) (q_lt (xs (x4_23 + 1).toNatClampNeg) (fun v35 => q_grd (q_vpb (x4_23 + 2) L) (q_lt (xs (x4_23 + 2).toNatClampNeg) (fun v36 => q_bv (xGlyphPositionsModel_choose v35 v36 sr34) (fun sr37 => lawF_23 xs L N n_23 (x4_23 + 5) sr37))))))))))) else (if (v1 &&& 15) = 7 then (q_grd (q_vpb (x4_23 + 1) L) (q_lt (xs (x4_23 + 1).toNatClampNeg) (fun v25 => q_grd (q_vpb (x4_23 + 2) L) (q_lt (xs (x4_23 + 2).toNatClampNeg) (fun v26 => if v26 = 0 then (lawF_403 xs L N (lawF_23 xs L N n_23) x4_23 v25 0 st_23) else (lawF_403 xs L N (lawF_23 xs L N n_23) x4_23 v25 1 st_23)))))) else (if (v1 &&& 15) = 8 then (q_grd (q_vpb (x4_23 + 1) L) (q_lt (xs (x4_23 + 1).toNatClampNeg) (fun v16 => q_grd (q_vpb (x4_23 + 2) L) (q_lt (xs (x4_23 + 2).toNatClampNeg) (fun v17 => q_grd (q_vpb (x4_23 + 3) L) (q_lt (xs (x4_23 + 3).toNatClampNeg) (fun v18 => q_bm (xw_add v16 v17 v18 st_23) (fun r19 sr19 => q_grd (q_vpb (x4_23 + 1) L) (q_lt (xs (x4_23 + 1).toNatClampNeg) (fun v20 => q_grd (q_vpb (x4_23 + 2) L) (q_lt (xs (x4_23 + 2).toNatClampNeg) (fun v21 => q_grd (q_vpb (x4_23 + 3) L) (q_lt (xs (x4_23 + 3).toNatClampNeg) (fun v22 => q_bm (xGlyphPositionsModel_add v20 v21 v22 sr19) (fun r23 sr23 => q_bn (xGlyphPositionsModel_thrown sr23) (fun r24 => if r24 = r19 then (if r19 = 0 then (if (lg_cmp ((sr23.2 48 0).toInt64) r23.toInt64) = 0 then (lawF_23 xs L N n_23 (x4_23 + 5) sr23) else (some (0, sr23))) else (lawF_23 xs L N n_23 (x4_23 + 5) sr23)) else (some (0, sr23)))))))))))))))))) else (if (v1 &&& 15) = 9 then (q_bm (xGlyphPositions_clear st_23) (fun r14 sr14 => q_bm (xGlyphPositionsModel_clear sr14) (fun r15 sr15 => if r14 = r15 then (lawF_23 xs L N n_23 (x4_23 + 5) sr15) else (some (0, sr15))))) else (if (v1 &&& 15) = 10 then (q_grd (q_vpb (x4_23 + 1) L) (q_lt (xs (x4_23 + 1).toNatClampNeg) (fun v9 => if v9 = 0 then (lawF_554 xs L N (lawF_23 xs L N n_23) x4_23 0 st_23) else (lawF_554 xs L N (lawF_23 xs L N n_23) x4_23 1 st_23)))) else (if (v1 &&& 15) = 11 then (q_grd (q_vpb (x4_23 + 1) L) (q_lt (xs (x4_23 + 1).toNatClampNeg) (fun v2 => q_grd (q_vpb (x4_23 + 2) L) (q_lt (xs (x4_23 + 2).toNatClampNeg) (fun v3 => q_bm (xw_place N v2 v3 st_23) (fun r4 sr4 => q_grd (q_vpb (x4_23 + 1) L) (q_lt (xs (x4_23 + 1).toNatClampNeg) (fun v5 => q_grd (q_vpb (x4_23 + 2) L) (q_lt (xs (x4_23 + 2).toNatClampNeg) (fun v6 => q_bm (xGlyphPositionsModel_place N v5 v6 sr4) (fun r7 sr7 => q_bn (xGlyphPositionsModel_thrown sr7) (fun r8 => if r8 = r4 then (if r4 = 0 then (if (lg_cmp ((sr7.2 48 0).toInt64) r7.toInt64) = 0 then (lawF_23 xs L N n_23 (x4_23 + 5) sr7) else (some (0, sr7))) else (lawF_23 xs L N n_23 (x4_23 + 5) sr7)) else (some (0, sr7)))))))))))))) else (lawF_23 xs L N n_23 (x4_23 + 5) st_23)))))))))))))))
set_option maxHeartbeats 8000000 in
set_option maxRecDepth 100000 in
theorem law_loop {p : Program} {l : Launch} {e : Env} {s : State} {m : MethodId} {below : List Frame} {meth : Method} {c : Code} (hl0 : l.stackTraces = false) {b L : Nat} {xs : Nat → Int32} {G : XG} {N : Nat} {so : QSt} (hC : q_Cx p s m #[Value.ref b] c code 7 R_law G.1 (xT G)) (hr : meth.sig.returnType = ret) (hlk : meth.locks = false) (hX : va_X b L xs s s.heap) (hbl : b < s.heap.size) (hZ : q_Zt s) (hT : ∀ z, va_D (fun _ => True) (wX G z)) (hD : ∀ z, va_D (fun q : Nat => s.heap.size ≤ q) (wX G z)) : ∀ (n_23 : Nat) (x4_23 : Int32) (st_23 : QSt) (H : Heap) (locs : List Loc) (ls : Array Slot) (cells slots : Nat), q_cs cells slots n_23 → lawF_23 xs L N n_23 x4_23 st_23 = some (1, so) → va_P G.1 vwCl (wX G st_23) H → va_S (fun q : Nat => s.heap.size ≤ q) s.heap H locs → lv_has ls 7 [(0, .ref b), (1, .ref (G.2.2 0)), (2, .ref (G.2.2 36)), (3, .ref (G.2.2 59)), (4, .int x4_23)] → W p l e room_1 s m #[Value.ref b] below meth c H locs cells slots (lw_Z below #[Value.ref b] s) (F0 m 23 ls []) := by
  have hx := hC.1.1
  have hb := hC.1.2.1
  have hown := hC.1.2.2.2.1
  have hts := hC.1.2.2.2.2
  have hA : ∀ q : Nat, s.heap.size ≤ q → (fun q : Nat => s.heap.size ≤ q) q := fun _ h => h
  have hbA : ¬ (fun q : Nat => s.heap.size ≤ q) b := Nat.not_le.mpr hbl
  intro n_23
  induction n_23 with
  | zero => intro _ _ _ _ _ _ _ _ hf; exact absurd hf (by simp [lawF_23])
  | succ n_23 ih_23 =>
    have J_575 : ∀ (x4_575 x5_575 w1_575 : Int32) (st_575 : QSt) (H : Heap) (locs : List Loc) (ls : Array Slot) (cells slots : Nat), q_cs cells slots n_23 → lawF_575 xs L N (lawF_23 xs L N n_23) x4_575 x5_575 w1_575 st_575 = some (1, so) → va_P G.1 vwCl (wX G st_575) H → va_S (fun q : Nat => s.heap.size ≤ q) s.heap H locs → lv_has ls 7 [(0, .ref b), (1, .ref (G.2.2 0)), (2, .ref (G.2.2 36)), (3, .ref (G.2.2 59)), (4, .int x4_575), (5, .int x5_575)] → W p l e room_1 s m #[Value.ref b] below meth c H locs cells slots (lw_Z below #[Value.ref b] s) (F0 m 575 ls [.int w1_575, .ref (G.2.2 36)]) := by
      intro x4_575 x5_575 w1_575 st_575 H locs ls cells slots hcs hf hP hS hl
      unfold lawF_575 at hf
      obtain ⟨r12, sr12, h_r12, hf⟩ := q_bm_some hf
      refine q_callViC (As := [.int w1_575]) (rest := []) (q0 := 36) hC (c_xGlyphPositionsModel_set l G h_r12) cal_GlyphPositionsModel_set wq_699 ⟨rfl, rfl, (Nat.le_of_ble_eq_true rfl), (Nat.le_of_ble_eq_true rfl)⟩ hcs.1 rfl rfl hP hD hA hS rfl hl.1 rfl (Nat.le_of_ble_eq_true rfl) d_law_575 (fun H locs hP hS => ?_)
      refine lv_istore (lv' := [(6, .int r12), (0, .ref b), (1, .ref (G.2.2 0)), (2, .ref (G.2.2 36)), (3, .ref (G.2.2 59)), (4, .int x4_575), (5, .int x5_575)]) hx hb d_law_578 hl (by decide) rfl (fun ls hl => ?_)
      refine lv_aload_n hx hb d_law_580 rfl (lv_at hl 3 rfl) ?_
      obtain ⟨r13, h_r13, hf⟩ := q_bn_some hf
      refine q_callVpC (As := []) (rest := []) (q0 := 36) hC (c_xGlyphPositionsModel_thrown l G h_r13) cal_GlyphPositionsModel_thrown wq_700 ⟨rfl, rfl, (Nat.le_of_ble_eq_true rfl), (Nat.le_of_ble_eq_true rfl)⟩ hcs.1 rfl rfl hP hT hS rfl hl.1 rfl (Nat.le_of_ble_eq_true rfl) d_law_581 (fun H locs hP hS => ?_)
      refine lv_iload hx hb d_law_584 (lv_at hl 6 rfl) ?_
      refine lv_icmp_eq (tgt := 591) hx hb d_law_586 (by decide) (fun c1 => ?_) (fun c1 => ?_)
      rotate_left
      · rw [if_neg c1] at hf
        refine lv_iconst (v := 0) hx hb d_law_589 (by decide) ?_
        first | (cases hf; done) | (cases hf; exact q_lawret hC hr hlk hS hcs d_law_590)
      rw [if_pos c1] at hf
      refine lv_iload hx hb d_law_591 (lv_at hl 6 rfl) ?_
      refine lv_if_ne (tgt := 608) hx hb d_law_593 (by decide) (fun c1 => ?_) (fun c1 => ?_)
      · rw [if_neg c1] at hf
        refine lv_goto (tgt := 679) hx hb d_law_608 (by decide) ?_
        refine lv_iinc (v := x4_575 + 5) (lv' := [(4, .int (x4_575 + 5)), (6, .int r12), (0, .ref b), (1, .ref (G.2.2 0)), (2, .ref (G.2.2 36)), (3, .ref (G.2.2 59)), (5, .int x5_575)]) hx hb d_law_679 hl (k := 5) rfl rfl (by decide) rfl (fun ls hl => ?_)
        refine lv_goto (tgt := 23) hx hb d_law_682 (by decide) ?_
        exact ih_23 _ _ _ _ _ _ _ (by first | exact hcs | exact q_cs_fall hcs) hf hP hS (lv_sub hl [2, 3, 4, 5, 0] rfl)
      rw [if_pos c1] at hf
      refine lv_aload_n hx hb d_law_596 rfl (lv_at hl 4 rfl) ?_
      refine lv_iconst (v := 0) hx hb d_law_597 (by decide) ?_
      refine xl_out hC hP d_law_598 ?_
      refine lv_iload hx hb d_law_599 (lv_at hl 0 rfl) ?_
      refine lv_i2l (v := r12.toInt64) hx hb d_law_601 rfl ?_
      refine W.lcmp hx hb d_law_602 ?_
      refine lv_if_eq (tgt := 608) hx hb d_law_603 (by decide) (fun c1 => ?_) (fun c1 => ?_)
      rotate_left
      · rw [if_neg c1] at hf
        refine lv_iconst (v := 0) hx hb d_law_606 (by decide) ?_
        first | (cases hf; done) | (cases hf; exact q_lawret hC hr hlk hS hcs d_law_607)
      rw [if_pos c1] at hf
      refine lv_goto (tgt := 679) hx hb d_law_608 (by decide) ?_
      refine lv_iinc (v := x4_575 + 5) (lv' := [(4, .int (x4_575 + 5)), (6, .int r12), (0, .ref b), (1, .ref (G.2.2 0)), (2, .ref (G.2.2 36)), (3, .ref (G.2.2 59)), (5, .int x5_575)]) hx hb d_law_679 hl (k := 5) rfl rfl (by decide) rfl (fun ls hl => ?_)
      refine lv_goto (tgt := 23) hx hb d_law_682 (by decide) ?_
      exact ih_23 _ _ _ _ _ _ _ (by first | exact hcs | exact q_cs_fall hcs) hf hP hS (lv_sub hl [2, 3, 4, 5, 0] rfl)
    have J_554 : ∀ (x4_554 w1_554 : Int32) (st_554 : QSt) (H : Heap) (locs : List Loc) (ls : Array Slot) (cells slots : Nat), q_cs cells slots (n_23 + 1) → lawF_554 xs L N (lawF_23 xs L N n_23) x4_554 w1_554 st_554 = some (1, so) → va_P G.1 vwCl (wX G st_554) H → va_S (fun q : Nat => s.heap.size ≤ q) s.heap H locs → lv_has ls 7 [(0, .ref b), (1, .ref (G.2.2 0)), (2, .ref (G.2.2 36)), (3, .ref (G.2.2 59)), (4, .int x4_554)] → W p l e room_1 s m #[Value.ref b] below meth c H locs cells slots (lw_Z below #[Value.ref b] s) (F0 m 554 ls [.int w1_554, .ref (G.2.2 0)]) := by
      intro x4_554 w1_554 st_554 H locs ls cells slots hcs hf hP hS hl
      unfold lawF_554 at hf
      refine lv_aload_n hx hb d_law_554 rfl (lv_at hl 3 rfl) ?_
      obtain ⟨r10, sr10, h_r10, hf⟩ := q_bm_some hf
      refine q_callW (As := [.ref (G.2.2 0), .int w1_554, .ref (G.2.2 59)]) (rest := []) hC (c_xw_set l hl0 G h_r10) calw_xw_set wq_701 ⟨rfl, rfl, (Nat.le_of_ble_eq_true rfl), (Nat.le_of_ble_eq_true rfl)⟩ hcs hP hT hD hA hZ hS rfl hl.1 rfl (Nat.le_of_ble_eq_true rfl) d_law_555 (fun H locs hP hS => ?_)
      have hcs : q_cs (cells + 1) (slots + 6) n_23 := q_cs_next hcs
      refine lv_istore (lv' := [(5, .int r10), (0, .ref b), (1, .ref (G.2.2 0)), (2, .ref (G.2.2 36)), (3, .ref (G.2.2 59)), (4, .int x4_554)]) hx hb d_law_558 hl (by decide) rfl (fun ls hl => ?_)
      refine lv_aload_n hx hb d_law_560 rfl (lv_at hl 3 rfl) ?_
      refine lv_aload_n hx hb d_law_561 rfl (lv_at hl 1 rfl) ?_
      refine lv_iload hx hb d_law_562 (lv_at hl 5 rfl) ?_
      refine lv_iconst (v := 1) hx hb d_law_564 (by decide) ?_
      refine lv_iadd hx hb d_law_565 ?_
      obtain ⟨hi, hf⟩ := q_grd_some hf
      obtain ⟨v11, e_v11, hf⟩ := q_lt_some hf
      refine va_sld hx hb hX hbl hbA hS (q_vpb_in hi) d_law_566 ?_
      refine q_topi e_v11 ?_
      refine lv_if_eq (tgt := 574) hx hb d_law_567 (by decide) (fun c1 => ?_) (fun c1 => ?_)
      · rw [if_pos c1] at hf
        refine lv_iconst (v := 0) hx hb d_law_574 (by decide) ?_
        exact J_575 _ _ _ _ _ _ _ _ _ (by first | exact hcs | exact q_cs_fall hcs) hf hP hS (lv_sub hl [1, 2, 3, 4, 5, 0] rfl)
      rw [if_neg c1] at hf
      refine lv_iconst (v := 1) hx hb d_law_570 (by decide) ?_
      refine lv_goto (tgt := 575) hx hb d_law_571 (by decide) ?_
      exact J_575 _ _ _ _ _ _ _ _ _ (by first | exact hcs | exact q_cs_fall hcs) hf hP hS (lv_sub hl [1, 2, 3, 4, 5, 0] rfl)
    have J_429 : ∀ (x4_429 x5_429 w1_429 w2_429 : Int32) (st_429 : QSt) (H : Heap) (locs : List Loc) (ls : Array Slot) (cells slots : Nat), q_cs cells slots n_23 → lawF_429 xs L N (lawF_23 xs L N n_23) x4_429 x5_429 w1_429 w2_429 st_429 = some (1, so) → va_P G.1 vwCl (wX G st_429) H → va_S (fun q : Nat => s.heap.size ≤ q) s.heap H locs → lv_has ls 7 [(0, .ref b), (1, .ref (G.2.2 0)), (2, .ref (G.2.2 36)), (3, .ref (G.2.2 59)), (4, .int x4_429), (5, .int x5_429)] → W p l e room_1 s m #[Value.ref b] below meth c H locs cells slots (lw_Z below #[Value.ref b] s) (F0 m 429 ls [.int w2_429, .int w1_429, .ref (G.2.2 36)]) := by
      intro x4_429 x5_429 w1_429 w2_429 st_429 H locs ls cells slots hcs hf hP hS hl
      unfold lawF_429 at hf
      obtain ⟨sr30, h_r30, hf⟩ := q_bv_some hf
      refine q_callVvC (As := [.int w1_429, .int w2_429]) (rest := []) (q0 := 36) hC (c_xGlyphPositionsModel_feature l G h_r30) cal_GlyphPositionsModel_feature wq_702 ⟨rfl, rfl, (Nat.le_of_ble_eq_true rfl), (Nat.le_of_ble_eq_true rfl)⟩ hcs.1 rfl rfl hP hD hA hS rfl hl.1 rfl (Nat.le_of_ble_eq_true rfl) d_law_429 (fun H locs hP hS => ?_)
      refine lv_aload_n hx hb d_law_432 rfl (lv_at hl 2 rfl) ?_
      obtain ⟨r31, h_r31, hf⟩ := q_bn_some hf
      refine q_callVpC (As := []) (rest := []) (q0 := 36) hC (c_xGlyphPositionsModel_thrown l G h_r31) cal_GlyphPositionsModel_thrown wq_700 ⟨rfl, rfl, (Nat.le_of_ble_eq_true rfl), (Nat.le_of_ble_eq_true rfl)⟩ hcs.1 rfl rfl hP hT hS rfl hl.1 rfl (Nat.le_of_ble_eq_true rfl) d_law_433 (fun H locs hP hS => ?_)
      refine lv_iload hx hb d_law_436 (lv_at hl 5 rfl) ?_
      refine lv_icmp_eq (tgt := 443) hx hb d_law_438 (by decide) (fun c1 => ?_) (fun c1 => ?_)
      rotate_left
      · rw [if_neg c1] at hf
        refine lv_iconst (v := 0) hx hb d_law_441 (by decide) ?_
        first | (cases hf; done) | (cases hf; exact q_lawret hC hr hlk hS hcs d_law_442)
      rw [if_pos c1] at hf
      refine lv_goto (tgt := 679) hx hb d_law_443 (by decide) ?_
      refine lv_iinc (v := x4_429 + 5) (lv' := [(4, .int (x4_429 + 5)), (0, .ref b), (1, .ref (G.2.2 0)), (2, .ref (G.2.2 36)), (3, .ref (G.2.2 59)), (5, .int x5_429)]) hx hb d_law_679 hl (k := 4) rfl rfl (by decide) rfl (fun ls hl => ?_)
      refine lv_goto (tgt := 23) hx hb d_law_682 (by decide) ?_
      exact ih_23 _ _ _ _ _ _ _ (by first | exact hcs | exact q_cs_fall hcs) hf hP hS (lv_sub hl [1, 2, 3, 4, 0] rfl)
    have J_403 : ∀ (x4_403 w1_403 w2_403 : Int32) (st_403 : QSt) (H : Heap) (locs : List Loc) (ls : Array Slot) (cells slots : Nat), q_cs cells slots (n_23 + 1) → lawF_403 xs L N (lawF_23 xs L N n_23) x4_403 w1_403 w2_403 st_403 = some (1, so) → va_P G.1 vwCl (wX G st_403) H → va_S (fun q : Nat => s.heap.size ≤ q) s.heap H locs → lv_has ls 7 [(0, .ref b), (1, .ref (G.2.2 0)), (2, .ref (G.2.2 36)), (3, .ref (G.2.2 59)), (4, .int x4_403)] → W p l e room_1 s m #[Value.ref b] below meth c H locs cells slots (lw_Z below #[Value.ref b] s) (F0 m 403 ls [.int w2_403, .int w1_403, .ref (G.2.2 0)]) := by
      intro x4_403 w1_403 w2_403 st_403 H locs ls cells slots hcs hf hP hS hl
      unfold lawF_403 at hf
      obtain ⟨r27, sr27, h_r27, hf⟩ := q_bm_some hf
      refine q_callW (As := [.ref (G.2.2 0), .int w1_403, .int w2_403]) (rest := []) hC (c_xw_feature l hl0 G h_r27) calw_xw_feature wq_703 ⟨rfl, rfl, (Nat.le_of_ble_eq_true rfl), (Nat.le_of_ble_eq_true rfl)⟩ hcs hP hT hD hA hZ hS rfl hl.1 rfl (Nat.le_of_ble_eq_true rfl) d_law_403 (fun H locs hP hS => ?_)
      have hcs : q_cs (cells + 1) (slots + 6) n_23 := q_cs_next hcs
      refine lv_istore (lv' := [(5, .int r27), (0, .ref b), (1, .ref (G.2.2 0)), (2, .ref (G.2.2 36)), (3, .ref (G.2.2 59)), (4, .int x4_403)]) hx hb d_law_406 hl (by decide) rfl (fun ls hl => ?_)
      refine lv_aload_n hx hb d_law_408 rfl (lv_at hl 3 rfl) ?_
      refine lv_aload_n hx hb d_law_409 rfl (lv_at hl 1 rfl) ?_
      refine lv_iload hx hb d_law_410 (lv_at hl 5 rfl) ?_
      refine lv_iconst (v := 1) hx hb d_law_412 (by decide) ?_
      refine lv_iadd hx hb d_law_413 ?_
      obtain ⟨hi, hf⟩ := q_grd_some hf
      obtain ⟨v28, e_v28, hf⟩ := q_lt_some hf
      refine va_sld hx hb hX hbl hbA hS (q_vpb_in hi) d_law_414 ?_
      refine q_topi e_v28 ?_
      refine lv_aload_n hx hb d_law_415 rfl (lv_at hl 1 rfl) ?_
      refine lv_iload hx hb d_law_416 (lv_at hl 5 rfl) ?_
      refine lv_iconst (v := 2) hx hb d_law_418 (by decide) ?_
      refine lv_iadd hx hb d_law_419 ?_
      obtain ⟨hi, hf⟩ := q_grd_some hf
      obtain ⟨v29, e_v29, hf⟩ := q_lt_some hf
      refine va_sld hx hb hX hbl hbA hS (q_vpb_in hi) d_law_420 ?_
      refine q_topi e_v29 ?_
      refine lv_if_eq (tgt := 428) hx hb d_law_421 (by decide) (fun c1 => ?_) (fun c1 => ?_)
      · rw [if_pos c1] at hf
        refine lv_iconst (v := 0) hx hb d_law_428 (by decide) ?_
        exact J_429 _ _ _ _ _ _ _ _ _ _ (by first | exact hcs | exact q_cs_fall hcs) hf hP hS (lv_sub hl [1, 2, 3, 4, 5, 0] rfl)
      rw [if_neg c1] at hf
      refine lv_iconst (v := 1) hx hb d_law_424 (by decide) ?_
      refine lv_goto (tgt := 429) hx hb d_law_425 (by decide) ?_
      exact J_429 _ _ _ _ _ _ _ _ _ _ (by first | exact hcs | exact q_cs_fall hcs) hf hP hS (lv_sub hl [1, 2, 3, 4, 5, 0] rfl)
    intro x4_23 st_23 H locs ls cells slots hcs hf hP hS hl
    rw [lawF_23] at hf
    refine lv_iload hx hb d_law_23 (lv_at hl 4 rfl) ?_
    refine lv_aload_n hx hb d_law_25 rfl (lv_at hl 0 rfl) ?_
    refine va_slen hx hb hX hbl hbA hS d_law_26 ?_
    refine lv_iconst (v := 5) hx hb d_law_27 (by decide) ?_
    refine lv_isub hx hb d_law_28 ?_
    refine lv_icmp_gt (tgt := 685) hx hb d_law_29 (by decide) (fun c1 => ?_) (fun c1 => ?_)
    · rw [if_pos c1] at hf
      refine lv_iconst (v := 1) hx hb d_law_685 (by decide) ?_
      first | (cases hf; done) | (cases hf; exact q_lawret hC hr hlk hS hcs d_law_686)
    rw [if_neg c1] at hf
    refine lv_aload_n hx hb d_law_32 rfl (lv_at hl 0 rfl) ?_
    refine lv_iload hx hb d_law_33 (lv_at hl 4 rfl) ?_
    obtain ⟨hi, hf⟩ := q_grd_some hf
    obtain ⟨v1, e_v1, hf⟩ := q_lt_some hf
    refine va_sld hx hb hX hbl hbA hS (q_vpb_in hi) d_law_35 ?_
    refine q_topi e_v1 ?_
    refine lv_bipush (v := 15) hx hb d_law_36 (by decide) ?_
    refine lv_iand hx hb d_law_38 ?_
    by_cases c0 : (v1 &&& 15) = 0
    · rw [if_pos c0] at hf
      refine lv_tableIn (tgt := 100) hx hb d_law_39 (by rw [c0]; decide) (by rw [c0]; decide) (by rw [c0]; rfl) (by decide) ?_
      refine lv_aload_n hx hb d_law_100 rfl (lv_at hl 1 rfl) ?_
      refine lv_aload_n hx hb d_law_101 rfl (lv_at hl 0 rfl) ?_
      refine lv_iload hx hb d_law_102 (lv_at hl 4 rfl) ?_
      refine lv_iconst (v := 1) hx hb d_law_104 (by decide) ?_
      refine lv_iadd hx hb d_law_105 ?_
      obtain ⟨hi, hf⟩ := q_grd_some hf
      obtain ⟨v65, e_v65, hf⟩ := q_lt_some hf
      refine va_sld hx hb hX hbl hbA hS (q_vpb_in hi) d_law_106 ?_
      refine q_topi e_v65 ?_
      obtain ⟨r66, sr66, h_r66, hf⟩ := q_bm_some hf
      refine q_callViC (As := [.int v65]) (rest := []) (q0 := 0) hC (c_xGlyphPositions_feed l G h_r66) cal_GP_feed wq_704 ⟨rfl, rfl, (Nat.le_of_ble_eq_true rfl), (Nat.le_of_ble_eq_true rfl)⟩ hcs.1 rfl rfl hP hD hA hS rfl hl.1 rfl (Nat.le_of_ble_eq_true rfl) d_law_107 (fun H locs hP hS => ?_)
      refine lv_aload_n hx hb d_law_110 rfl (lv_at hl 2 rfl) ?_
      refine lv_aload_n hx hb d_law_111 rfl (lv_at hl 0 rfl) ?_
      refine lv_iload hx hb d_law_112 (lv_at hl 4 rfl) ?_
      refine lv_iconst (v := 1) hx hb d_law_114 (by decide) ?_
      refine lv_iadd hx hb d_law_115 ?_
      obtain ⟨hi, hf⟩ := q_grd_some hf
      obtain ⟨v67, e_v67, hf⟩ := q_lt_some hf
      refine va_sld hx hb hX hbl hbA hS (q_vpb_in hi) d_law_116 ?_
      refine q_topi e_v67 ?_
      obtain ⟨r68, sr68, h_r68, hf⟩ := q_bm_some hf
      refine q_callViC (As := [.int v67]) (rest := [.int r66]) (q0 := 36) hC (c_xGlyphPositionsModel_feed l G h_r68) cal_GlyphPositionsModel_feed wq_705 ⟨rfl, rfl, (Nat.le_of_ble_eq_true rfl), (Nat.le_of_ble_eq_true rfl)⟩ hcs.1 rfl rfl hP hD hA hS rfl hl.1 rfl (Nat.le_of_ble_eq_true rfl) d_law_117 (fun H locs hP hS => ?_)
      refine lv_icmp_eq (tgt := 679) hx hb d_law_120 (by decide) (fun c1 => ?_) (fun c1 => ?_)
      rotate_left
      · rw [if_neg c1] at hf
        refine lv_iconst (v := 0) hx hb d_law_123 (by decide) ?_
        first | (cases hf; done) | (cases hf; exact q_lawret hC hr hlk hS hcs d_law_124)
      rw [if_pos c1] at hf
      refine lv_iinc (v := x4_23 + 5) (lv' := [(4, .int (x4_23 + 5)), (0, .ref b), (1, .ref (G.2.2 0)), (2, .ref (G.2.2 36)), (3, .ref (G.2.2 59))]) hx hb d_law_679 hl (k := 4) rfl rfl (by decide) rfl (fun ls hl => ?_)
      refine lv_goto (tgt := 23) hx hb d_law_682 (by decide) ?_
      exact ih_23 _ _ _ _ _ _ _ (by first | exact hcs | exact q_cs_fall hcs) hf hP hS (lv_sub hl [1, 2, 3, 4, 0] rfl)
    rw [if_neg c0] at hf
    by_cases c1 : (v1 &&& 15) = 1
    · rw [if_pos c1] at hf
      refine lv_tableIn (tgt := 125) hx hb d_law_39 (by rw [c1]; decide) (by rw [c1]; decide) (by rw [c1]; rfl) (by decide) ?_
      refine lv_aload_n hx hb d_law_125 rfl (lv_at hl 1 rfl) ?_
      refine lv_aload_n hx hb d_law_126 rfl (lv_at hl 0 rfl) ?_
      refine lv_iload hx hb d_law_127 (lv_at hl 4 rfl) ?_
      refine lv_iconst (v := 1) hx hb d_law_129 (by decide) ?_
      refine lv_iadd hx hb d_law_130 ?_
      obtain ⟨hi, hf⟩ := q_grd_some hf
      obtain ⟨v58, e_v58, hf⟩ := q_lt_some hf
      refine va_sld hx hb hX hbl hbA hS (q_vpb_in hi) d_law_131 ?_
      refine q_topi e_v58 ?_
      refine lv_aload_n hx hb d_law_132 rfl (lv_at hl 0 rfl) ?_
      refine lv_iload hx hb d_law_133 (lv_at hl 4 rfl) ?_
      refine lv_iconst (v := 2) hx hb d_law_135 (by decide) ?_
      refine lv_iadd hx hb d_law_136 ?_
      obtain ⟨hi, hf⟩ := q_grd_some hf
      obtain ⟨v59, e_v59, hf⟩ := q_lt_some hf
      refine va_sld hx hb hX hbl hbA hS (q_vpb_in hi) d_law_137 ?_
      refine q_topi e_v59 ?_
      refine lv_aload_n hx hb d_law_138 rfl (lv_at hl 3 rfl) ?_
      obtain ⟨r60, sr60, h_r60, hf⟩ := q_bm_some hf
      refine q_callW (As := [.ref (G.2.2 0), .int v58, .int v59, .ref (G.2.2 59)]) (rest := []) hC (c_xw_put l hl0 G h_r60) calw_xw_put wq_706 ⟨rfl, rfl, (Nat.le_of_ble_eq_true rfl), (Nat.le_of_ble_eq_true rfl)⟩ hcs hP hT hD hA hZ hS rfl hl.1 rfl (Nat.le_of_ble_eq_true rfl) d_law_139 (fun H locs hP hS => ?_)
      have hcs : q_cs (cells + 1) (slots + 6) n_23 := q_cs_next hcs
      refine lv_istore (lv' := [(5, .int r60), (0, .ref b), (1, .ref (G.2.2 0)), (2, .ref (G.2.2 36)), (3, .ref (G.2.2 59)), (4, .int x4_23)]) hx hb d_law_142 hl (by decide) rfl (fun ls hl => ?_)
      refine lv_aload_n hx hb d_law_144 rfl (lv_at hl 3 rfl) ?_
      refine lv_aload_n hx hb d_law_145 rfl (lv_at hl 1 rfl) ?_
      refine lv_iload hx hb d_law_146 (lv_at hl 5 rfl) ?_
      refine lv_iconst (v := 1) hx hb d_law_148 (by decide) ?_
      refine lv_iadd hx hb d_law_149 ?_
      obtain ⟨hi, hf⟩ := q_grd_some hf
      obtain ⟨v61, e_v61, hf⟩ := q_lt_some hf
      refine va_sld hx hb hX hbl hbA hS (q_vpb_in hi) d_law_150 ?_
      refine q_topi e_v61 ?_
      refine lv_aload_n hx hb d_law_151 rfl (lv_at hl 1 rfl) ?_
      refine lv_iload hx hb d_law_152 (lv_at hl 5 rfl) ?_
      refine lv_iconst (v := 2) hx hb d_law_154 (by decide) ?_
      refine lv_iadd hx hb d_law_155 ?_
      obtain ⟨hi, hf⟩ := q_grd_some hf
      obtain ⟨v62, e_v62, hf⟩ := q_lt_some hf
      refine va_sld hx hb hX hbl hbA hS (q_vpb_in hi) d_law_156 ?_
      refine q_topi e_v62 ?_
      obtain ⟨r63, sr63, h_r63, hf⟩ := q_bm_some hf
      refine q_callViC (As := [.int v61, .int v62]) (rest := []) (q0 := 36) hC (c_xGlyphPositionsModel_put l G h_r63) cal_GlyphPositionsModel_put wq_707 ⟨rfl, rfl, (Nat.le_of_ble_eq_true rfl), (Nat.le_of_ble_eq_true rfl)⟩ hcs.1 rfl rfl hP hD hA hS rfl hl.1 rfl (Nat.le_of_ble_eq_true rfl) d_law_157 (fun H locs hP hS => ?_)
      refine lv_istore (lv' := [(6, .int r63), (5, .int r60), (0, .ref b), (1, .ref (G.2.2 0)), (2, .ref (G.2.2 36)), (3, .ref (G.2.2 59)), (4, .int x4_23)]) hx hb d_law_160 hl (by decide) rfl (fun ls hl => ?_)
      refine lv_aload_n hx hb d_law_162 rfl (lv_at hl 4 rfl) ?_
      obtain ⟨r64, h_r64, hf⟩ := q_bn_some hf
      refine q_callVpC (As := []) (rest := []) (q0 := 36) hC (c_xGlyphPositionsModel_thrown l G h_r64) cal_GlyphPositionsModel_thrown wq_700 ⟨rfl, rfl, (Nat.le_of_ble_eq_true rfl), (Nat.le_of_ble_eq_true rfl)⟩ hcs.1 rfl rfl hP hT hS rfl hl.1 rfl (Nat.le_of_ble_eq_true rfl) d_law_163 (fun H locs hP hS => ?_)
      refine lv_iload hx hb d_law_166 (lv_at hl 1 rfl) ?_
      refine lv_icmp_eq (tgt := 173) hx hb d_law_168 (by decide) (fun c1 => ?_) (fun c1 => ?_)
      rotate_left
      · rw [if_neg c1] at hf
        refine lv_iconst (v := 0) hx hb d_law_171 (by decide) ?_
        first | (cases hf; done) | (cases hf; exact q_lawret hC hr hlk hS hcs d_law_172)
      rw [if_pos c1] at hf
      refine lv_iload hx hb d_law_173 (lv_at hl 1 rfl) ?_
      refine lv_if_ne (tgt := 190) hx hb d_law_175 (by decide) (fun c1 => ?_) (fun c1 => ?_)
      · rw [if_neg c1] at hf
        refine lv_goto (tgt := 679) hx hb d_law_190 (by decide) ?_
        refine lv_iinc (v := x4_23 + 5) (lv' := [(4, .int (x4_23 + 5)), (6, .int r63), (5, .int r60), (0, .ref b), (1, .ref (G.2.2 0)), (2, .ref (G.2.2 36)), (3, .ref (G.2.2 59))]) hx hb d_law_679 hl (k := 6) rfl rfl (by decide) rfl (fun ls hl => ?_)
        refine lv_goto (tgt := 23) hx hb d_law_682 (by decide) ?_
        exact ih_23 _ _ _ _ _ _ _ (by first | exact hcs | exact q_cs_fall hcs) hf hP hS (lv_sub hl [3, 4, 5, 6, 0] rfl)
      rw [if_pos c1] at hf
      refine lv_aload_n hx hb d_law_178 rfl (lv_at hl 5 rfl) ?_
      refine lv_iconst (v := 0) hx hb d_law_179 (by decide) ?_
      refine xl_out hC hP d_law_180 ?_
      refine lv_iload hx hb d_law_181 (lv_at hl 0 rfl) ?_
      refine lv_i2l (v := r63.toInt64) hx hb d_law_183 rfl ?_
      refine W.lcmp hx hb d_law_184 ?_
      refine lv_if_eq (tgt := 190) hx hb d_law_185 (by decide) (fun c1 => ?_) (fun c1 => ?_)
      rotate_left
      · rw [if_neg c1] at hf
        refine lv_iconst (v := 0) hx hb d_law_188 (by decide) ?_
        first | (cases hf; done) | (cases hf; exact q_lawret hC hr hlk hS hcs d_law_189)
      rw [if_pos c1] at hf
      refine lv_goto (tgt := 679) hx hb d_law_190 (by decide) ?_
      refine lv_iinc (v := x4_23 + 5) (lv' := [(4, .int (x4_23 + 5)), (6, .int r63), (5, .int r60), (0, .ref b), (1, .ref (G.2.2 0)), (2, .ref (G.2.2 36)), (3, .ref (G.2.2 59))]) hx hb d_law_679 hl (k := 6) rfl rfl (by decide) rfl (fun ls hl => ?_)
      refine lv_goto (tgt := 23) hx hb d_law_682 (by decide) ?_
      exact ih_23 _ _ _ _ _ _ _ (by first | exact hcs | exact q_cs_fall hcs) hf hP hS (lv_sub hl [3, 4, 5, 6, 0] rfl)
    rw [if_neg c1] at hf
    by_cases c2 : (v1 &&& 15) = 2
    · rw [if_pos c2] at hf
      refine lv_tableIn (tgt := 193) hx hb d_law_39 (by rw [c2]; decide) (by rw [c2]; decide) (by rw [c2]; rfl) (by decide) ?_
      refine lv_aload_n hx hb d_law_193 rfl (lv_at hl 1 rfl) ?_
      refine lv_aload_n hx hb d_law_194 rfl (lv_at hl 0 rfl) ?_
      refine lv_iload hx hb d_law_195 (lv_at hl 4 rfl) ?_
      refine lv_iconst (v := 1) hx hb d_law_197 (by decide) ?_
      refine lv_iadd hx hb d_law_198 ?_
      obtain ⟨hi, hf⟩ := q_grd_some hf
      obtain ⟨v53, e_v53, hf⟩ := q_lt_some hf
      refine va_sld hx hb hX hbl hbA hS (q_vpb_in hi) d_law_199 ?_
      refine q_topi e_v53 ?_
      refine lv_aload_n hx hb d_law_200 rfl (lv_at hl 3 rfl) ?_
      obtain ⟨r54, sr54, h_r54, hf⟩ := q_bm_some hf
      refine q_callW (As := [.ref (G.2.2 0), .int v53, .ref (G.2.2 59)]) (rest := []) hC (c_xw_cut l hl0 G h_r54) calw_xw_cut wq_708 ⟨rfl, rfl, (Nat.le_of_ble_eq_true rfl), (Nat.le_of_ble_eq_true rfl)⟩ hcs hP hT hD hA hZ hS rfl hl.1 rfl (Nat.le_of_ble_eq_true rfl) d_law_201 (fun H locs hP hS => ?_)
      have hcs : q_cs (cells + 1) (slots + 6) n_23 := q_cs_next hcs
      refine lv_istore (lv' := [(5, .int r54), (0, .ref b), (1, .ref (G.2.2 0)), (2, .ref (G.2.2 36)), (3, .ref (G.2.2 59)), (4, .int x4_23)]) hx hb d_law_204 hl (by decide) rfl (fun ls hl => ?_)
      refine lv_aload_n hx hb d_law_206 rfl (lv_at hl 3 rfl) ?_
      refine lv_aload_n hx hb d_law_207 rfl (lv_at hl 1 rfl) ?_
      refine lv_iload hx hb d_law_208 (lv_at hl 5 rfl) ?_
      refine lv_iconst (v := 1) hx hb d_law_210 (by decide) ?_
      refine lv_iadd hx hb d_law_211 ?_
      obtain ⟨hi, hf⟩ := q_grd_some hf
      obtain ⟨v55, e_v55, hf⟩ := q_lt_some hf
      refine va_sld hx hb hX hbl hbA hS (q_vpb_in hi) d_law_212 ?_
      refine q_topi e_v55 ?_
      obtain ⟨r56, sr56, h_r56, hf⟩ := q_bm_some hf
      refine q_callViC (As := [.int v55]) (rest := []) (q0 := 36) hC (c_xGlyphPositionsModel_cut l G h_r56) cal_GlyphPositionsModel_cut wq_709 ⟨rfl, rfl, (Nat.le_of_ble_eq_true rfl), (Nat.le_of_ble_eq_true rfl)⟩ hcs.1 rfl rfl hP hD hA hS rfl hl.1 rfl (Nat.le_of_ble_eq_true rfl) d_law_213 (fun H locs hP hS => ?_)
      refine lv_istore (lv' := [(6, .int r56), (5, .int r54), (0, .ref b), (1, .ref (G.2.2 0)), (2, .ref (G.2.2 36)), (3, .ref (G.2.2 59)), (4, .int x4_23)]) hx hb d_law_216 hl (by decide) rfl (fun ls hl => ?_)
      refine lv_aload_n hx hb d_law_218 rfl (lv_at hl 4 rfl) ?_
      obtain ⟨r57, h_r57, hf⟩ := q_bn_some hf
      refine q_callVpC (As := []) (rest := []) (q0 := 36) hC (c_xGlyphPositionsModel_thrown l G h_r57) cal_GlyphPositionsModel_thrown wq_700 ⟨rfl, rfl, (Nat.le_of_ble_eq_true rfl), (Nat.le_of_ble_eq_true rfl)⟩ hcs.1 rfl rfl hP hT hS rfl hl.1 rfl (Nat.le_of_ble_eq_true rfl) d_law_219 (fun H locs hP hS => ?_)
      refine lv_iload hx hb d_law_222 (lv_at hl 1 rfl) ?_
      refine lv_icmp_eq (tgt := 229) hx hb d_law_224 (by decide) (fun c1 => ?_) (fun c1 => ?_)
      rotate_left
      · rw [if_neg c1] at hf
        refine lv_iconst (v := 0) hx hb d_law_227 (by decide) ?_
        first | (cases hf; done) | (cases hf; exact q_lawret hC hr hlk hS hcs d_law_228)
      rw [if_pos c1] at hf
      refine lv_iload hx hb d_law_229 (lv_at hl 1 rfl) ?_
      refine lv_if_ne (tgt := 246) hx hb d_law_231 (by decide) (fun c1 => ?_) (fun c1 => ?_)
      · rw [if_neg c1] at hf
        refine lv_goto (tgt := 679) hx hb d_law_246 (by decide) ?_
        refine lv_iinc (v := x4_23 + 5) (lv' := [(4, .int (x4_23 + 5)), (6, .int r56), (5, .int r54), (0, .ref b), (1, .ref (G.2.2 0)), (2, .ref (G.2.2 36)), (3, .ref (G.2.2 59))]) hx hb d_law_679 hl (k := 6) rfl rfl (by decide) rfl (fun ls hl => ?_)
        refine lv_goto (tgt := 23) hx hb d_law_682 (by decide) ?_
        exact ih_23 _ _ _ _ _ _ _ (by first | exact hcs | exact q_cs_fall hcs) hf hP hS (lv_sub hl [3, 4, 5, 6, 0] rfl)
      rw [if_pos c1] at hf
      refine lv_aload_n hx hb d_law_234 rfl (lv_at hl 5 rfl) ?_
      refine lv_iconst (v := 0) hx hb d_law_235 (by decide) ?_
      refine xl_out hC hP d_law_236 ?_
      refine lv_iload hx hb d_law_237 (lv_at hl 0 rfl) ?_
      refine lv_i2l (v := r56.toInt64) hx hb d_law_239 rfl ?_
      refine W.lcmp hx hb d_law_240 ?_
      refine lv_if_eq (tgt := 246) hx hb d_law_241 (by decide) (fun c1 => ?_) (fun c1 => ?_)
      rotate_left
      · rw [if_neg c1] at hf
        refine lv_iconst (v := 0) hx hb d_law_244 (by decide) ?_
        first | (cases hf; done) | (cases hf; exact q_lawret hC hr hlk hS hcs d_law_245)
      rw [if_pos c1] at hf
      refine lv_goto (tgt := 679) hx hb d_law_246 (by decide) ?_
      refine lv_iinc (v := x4_23 + 5) (lv' := [(4, .int (x4_23 + 5)), (6, .int r56), (5, .int r54), (0, .ref b), (1, .ref (G.2.2 0)), (2, .ref (G.2.2 36)), (3, .ref (G.2.2 59))]) hx hb d_law_679 hl (k := 6) rfl rfl (by decide) rfl (fun ls hl => ?_)
      refine lv_goto (tgt := 23) hx hb d_law_682 (by decide) ?_
      exact ih_23 _ _ _ _ _ _ _ (by first | exact hcs | exact q_cs_fall hcs) hf hP hS (lv_sub hl [3, 4, 5, 6, 0] rfl)
    rw [if_neg c2] at hf
    by_cases c3 : (v1 &&& 15) = 3
    · rw [if_pos c3] at hf
      refine lv_tableIn (tgt := 249) hx hb d_law_39 (by rw [c3]; decide) (by rw [c3]; decide) (by rw [c3]; rfl) (by decide) ?_
      refine lv_aload_n hx hb d_law_249 rfl (lv_at hl 1 rfl) ?_
      obtain ⟨r51, sr51, h_r51, hf⟩ := q_bm_some hf
      refine q_callViC (As := []) (rest := []) (q0 := 0) hC (c_xGlyphPositions_load l G h_r51) cal_GP_load wq_710 ⟨rfl, rfl, (Nat.le_of_ble_eq_true rfl), (Nat.le_of_ble_eq_true rfl)⟩ hcs.1 rfl rfl hP hD hA hS rfl hl.1 rfl (Nat.le_of_ble_eq_true rfl) d_law_250 (fun H locs hP hS => ?_)
      refine lv_aload_n hx hb d_law_253 rfl (lv_at hl 2 rfl) ?_
      obtain ⟨r52, sr52, h_r52, hf⟩ := q_bm_some hf
      refine q_callViC (As := []) (rest := [.int r51]) (q0 := 36) hC (c_xGlyphPositionsModel_load l G h_r52) cal_GlyphPositionsModel_load wq_711 ⟨rfl, rfl, (Nat.le_of_ble_eq_true rfl), (Nat.le_of_ble_eq_true rfl)⟩ hcs.1 rfl rfl hP hD hA hS rfl hl.1 rfl (Nat.le_of_ble_eq_true rfl) d_law_254 (fun H locs hP hS => ?_)
      refine lv_icmp_eq (tgt := 679) hx hb d_law_257 (by decide) (fun c1 => ?_) (fun c1 => ?_)
      rotate_left
      · rw [if_neg c1] at hf
        refine lv_iconst (v := 0) hx hb d_law_260 (by decide) ?_
        first | (cases hf; done) | (cases hf; exact q_lawret hC hr hlk hS hcs d_law_261)
      rw [if_pos c1] at hf
      refine lv_iinc (v := x4_23 + 5) (lv' := [(4, .int (x4_23 + 5)), (0, .ref b), (1, .ref (G.2.2 0)), (2, .ref (G.2.2 36)), (3, .ref (G.2.2 59))]) hx hb d_law_679 hl (k := 4) rfl rfl (by decide) rfl (fun ls hl => ?_)
      refine lv_goto (tgt := 23) hx hb d_law_682 (by decide) ?_
      exact ih_23 _ _ _ _ _ _ _ (by first | exact hcs | exact q_cs_fall hcs) hf hP hS (lv_sub hl [1, 2, 3, 4, 0] rfl)
    rw [if_neg c3] at hf
    by_cases c4 : (v1 &&& 15) = 4
    · rw [if_pos c4] at hf
      refine lv_tableIn (tgt := 262) hx hb d_law_39 (by rw [c4]; decide) (by rw [c4]; decide) (by rw [c4]; rfl) (by decide) ?_
      refine lv_aload_n hx hb d_law_262 rfl (lv_at hl 1 rfl) ?_
      refine lv_aload_n hx hb d_law_263 rfl (lv_at hl 0 rfl) ?_
      refine lv_iload hx hb d_law_264 (lv_at hl 4 rfl) ?_
      refine lv_iconst (v := 1) hx hb d_law_266 (by decide) ?_
      refine lv_iadd hx hb d_law_267 ?_
      obtain ⟨hi, hf⟩ := q_grd_some hf
      obtain ⟨v40, e_v40, hf⟩ := q_lt_some hf
      refine va_sld hx hb hX hbl hbA hS (q_vpb_in hi) d_law_268 ?_
      refine q_topi e_v40 ?_
      refine lv_aload_n hx hb d_law_269 rfl (lv_at hl 0 rfl) ?_
      refine lv_iload hx hb d_law_270 (lv_at hl 4 rfl) ?_
      refine lv_iconst (v := 2) hx hb d_law_272 (by decide) ?_
      refine lv_iadd hx hb d_law_273 ?_
      obtain ⟨hi, hf⟩ := q_grd_some hf
      obtain ⟨v41, e_v41, hf⟩ := q_lt_some hf
      refine va_sld hx hb hX hbl hbA hS (q_vpb_in hi) d_law_274 ?_
      refine q_topi e_v41 ?_
      refine lv_aload_n hx hb d_law_275 rfl (lv_at hl 0 rfl) ?_
      refine lv_iload hx hb d_law_276 (lv_at hl 4 rfl) ?_
      refine lv_iconst (v := 3) hx hb d_law_278 (by decide) ?_
      refine lv_iadd hx hb d_law_279 ?_
      obtain ⟨hi, hf⟩ := q_grd_some hf
      obtain ⟨v42, e_v42, hf⟩ := q_lt_some hf
      refine va_sld hx hb hX hbl hbA hS (q_vpb_in hi) d_law_280 ?_
      refine q_topi e_v42 ?_
      refine lv_aload_n hx hb d_law_281 rfl (lv_at hl 0 rfl) ?_
      refine lv_iload hx hb d_law_282 (lv_at hl 4 rfl) ?_
      refine lv_iconst (v := 4) hx hb d_law_284 (by decide) ?_
      refine lv_iadd hx hb d_law_285 ?_
      obtain ⟨hi, hf⟩ := q_grd_some hf
      obtain ⟨v43, e_v43, hf⟩ := q_lt_some hf
      refine va_sld hx hb hX hbl hbA hS (q_vpb_in hi) d_law_286 ?_
      refine q_topi e_v43 ?_
      obtain ⟨r44, sr44, h_r44, hf⟩ := q_bm_some hf
      refine q_callW (As := [.ref (G.2.2 0), .int v40, .int v41, .int v42, .int v43]) (rest := []) hC (c_xw_kind l hl0 G h_r44) calw_xw_kind wq_712 ⟨rfl, rfl, (Nat.le_of_ble_eq_true rfl), (Nat.le_of_ble_eq_true rfl)⟩ hcs hP hT hD hA hZ hS rfl hl.1 rfl (Nat.le_of_ble_eq_true rfl) d_law_287 (fun H locs hP hS => ?_)
      have hcs : q_cs (cells + 1) (slots + 6) n_23 := q_cs_next hcs
      refine lv_istore (lv' := [(5, .int r44), (0, .ref b), (1, .ref (G.2.2 0)), (2, .ref (G.2.2 36)), (3, .ref (G.2.2 59)), (4, .int x4_23)]) hx hb d_law_290 hl (by decide) rfl (fun ls hl => ?_)
      refine lv_aload_n hx hb d_law_292 rfl (lv_at hl 3 rfl) ?_
      refine lv_aload_n hx hb d_law_293 rfl (lv_at hl 1 rfl) ?_
      refine lv_iload hx hb d_law_294 (lv_at hl 5 rfl) ?_
      refine lv_iconst (v := 1) hx hb d_law_296 (by decide) ?_
      refine lv_iadd hx hb d_law_297 ?_
      obtain ⟨hi, hf⟩ := q_grd_some hf
      obtain ⟨v45, e_v45, hf⟩ := q_lt_some hf
      refine va_sld hx hb hX hbl hbA hS (q_vpb_in hi) d_law_298 ?_
      refine q_topi e_v45 ?_
      refine lv_aload_n hx hb d_law_299 rfl (lv_at hl 1 rfl) ?_
      refine lv_iload hx hb d_law_300 (lv_at hl 5 rfl) ?_
      refine lv_iconst (v := 2) hx hb d_law_302 (by decide) ?_
      refine lv_iadd hx hb d_law_303 ?_
      obtain ⟨hi, hf⟩ := q_grd_some hf
      obtain ⟨v46, e_v46, hf⟩ := q_lt_some hf
      refine va_sld hx hb hX hbl hbA hS (q_vpb_in hi) d_law_304 ?_
      refine q_topi e_v46 ?_
      refine lv_aload_n hx hb d_law_305 rfl (lv_at hl 1 rfl) ?_
      refine lv_iload hx hb d_law_306 (lv_at hl 5 rfl) ?_
      refine lv_iconst (v := 3) hx hb d_law_308 (by decide) ?_
      refine lv_iadd hx hb d_law_309 ?_
      obtain ⟨hi, hf⟩ := q_grd_some hf
      obtain ⟨v47, e_v47, hf⟩ := q_lt_some hf
      refine va_sld hx hb hX hbl hbA hS (q_vpb_in hi) d_law_310 ?_
      refine q_topi e_v47 ?_
      refine lv_aload_n hx hb d_law_311 rfl (lv_at hl 1 rfl) ?_
      refine lv_iload hx hb d_law_312 (lv_at hl 5 rfl) ?_
      refine lv_iconst (v := 4) hx hb d_law_314 (by decide) ?_
      refine lv_iadd hx hb d_law_315 ?_
      obtain ⟨hi, hf⟩ := q_grd_some hf
      obtain ⟨v48, e_v48, hf⟩ := q_lt_some hf
      refine va_sld hx hb hX hbl hbA hS (q_vpb_in hi) d_law_316 ?_
      refine q_topi e_v48 ?_
      obtain ⟨sr49, h_r49, hf⟩ := q_bv_some hf
      refine q_callVvC (As := [.int v45, .int v46, .int v47, .int v48]) (rest := []) (q0 := 36) hC (c_xGlyphPositionsModel_kind l G h_r49) cal_GlyphPositionsModel_kind wq_713 ⟨rfl, rfl, (Nat.le_of_ble_eq_true rfl), (Nat.le_of_ble_eq_true rfl)⟩ hcs.1 rfl rfl hP hD hA hS rfl hl.1 rfl (Nat.le_of_ble_eq_true rfl) d_law_317 (fun H locs hP hS => ?_)
      refine lv_aload_n hx hb d_law_320 rfl (lv_at hl 3 rfl) ?_
      obtain ⟨r50, h_r50, hf⟩ := q_bn_some hf
      refine q_callVpC (As := []) (rest := []) (q0 := 36) hC (c_xGlyphPositionsModel_thrown l G h_r50) cal_GlyphPositionsModel_thrown wq_700 ⟨rfl, rfl, (Nat.le_of_ble_eq_true rfl), (Nat.le_of_ble_eq_true rfl)⟩ hcs.1 rfl rfl hP hT hS rfl hl.1 rfl (Nat.le_of_ble_eq_true rfl) d_law_321 (fun H locs hP hS => ?_)
      refine lv_iload hx hb d_law_324 (lv_at hl 0 rfl) ?_
      refine lv_icmp_eq (tgt := 331) hx hb d_law_326 (by decide) (fun c1 => ?_) (fun c1 => ?_)
      rotate_left
      · rw [if_neg c1] at hf
        refine lv_iconst (v := 0) hx hb d_law_329 (by decide) ?_
        first | (cases hf; done) | (cases hf; exact q_lawret hC hr hlk hS hcs d_law_330)
      rw [if_pos c1] at hf
      refine lv_goto (tgt := 679) hx hb d_law_331 (by decide) ?_
      refine lv_iinc (v := x4_23 + 5) (lv' := [(4, .int (x4_23 + 5)), (5, .int r44), (0, .ref b), (1, .ref (G.2.2 0)), (2, .ref (G.2.2 36)), (3, .ref (G.2.2 59))]) hx hb d_law_679 hl (k := 5) rfl rfl (by decide) rfl (fun ls hl => ?_)
      refine lv_goto (tgt := 23) hx hb d_law_682 (by decide) ?_
      exact ih_23 _ _ _ _ _ _ _ (by first | exact hcs | exact q_cs_fall hcs) hf hP hS (lv_sub hl [2, 3, 4, 5, 0] rfl)
    rw [if_neg c4] at hf
    by_cases c5 : (v1 &&& 15) = 5
    · rw [if_pos c5] at hf
      refine lv_tableIn (tgt := 334) hx hb d_law_39 (by rw [c5]; decide) (by rw [c5]; decide) (by rw [c5]; rfl) (by decide) ?_
      refine lv_aload_n hx hb d_law_334 rfl (lv_at hl 1 rfl) ?_
      obtain ⟨r38, sr38, h_r38, hf⟩ := q_bm_some hf
      refine q_callViC (As := []) (rest := []) (q0 := 0) hC (c_xGlyphPositions_forget l G h_r38) cal_GP_forget wq_714 ⟨rfl, rfl, (Nat.le_of_ble_eq_true rfl), (Nat.le_of_ble_eq_true rfl)⟩ hcs.1 rfl rfl hP hD hA hS rfl hl.1 rfl (Nat.le_of_ble_eq_true rfl) d_law_335 (fun H locs hP hS => ?_)
      refine lv_aload_n hx hb d_law_338 rfl (lv_at hl 2 rfl) ?_
      obtain ⟨r39, sr39, h_r39, hf⟩ := q_bm_some hf
      refine q_callViC (As := []) (rest := [.int r38]) (q0 := 36) hC (c_xGlyphPositionsModel_forget l G h_r39) cal_GlyphPositionsModel_forget wq_715 ⟨rfl, rfl, (Nat.le_of_ble_eq_true rfl), (Nat.le_of_ble_eq_true rfl)⟩ hcs.1 rfl rfl hP hD hA hS rfl hl.1 rfl (Nat.le_of_ble_eq_true rfl) d_law_339 (fun H locs hP hS => ?_)
      refine lv_icmp_eq (tgt := 679) hx hb d_law_342 (by decide) (fun c1 => ?_) (fun c1 => ?_)
      rotate_left
      · rw [if_neg c1] at hf
        refine lv_iconst (v := 0) hx hb d_law_345 (by decide) ?_
        first | (cases hf; done) | (cases hf; exact q_lawret hC hr hlk hS hcs d_law_346)
      rw [if_pos c1] at hf
      refine lv_iinc (v := x4_23 + 5) (lv' := [(4, .int (x4_23 + 5)), (0, .ref b), (1, .ref (G.2.2 0)), (2, .ref (G.2.2 36)), (3, .ref (G.2.2 59))]) hx hb d_law_679 hl (k := 4) rfl rfl (by decide) rfl (fun ls hl => ?_)
      refine lv_goto (tgt := 23) hx hb d_law_682 (by decide) ?_
      exact ih_23 _ _ _ _ _ _ _ (by first | exact hcs | exact q_cs_fall hcs) hf hP hS (lv_sub hl [1, 2, 3, 4, 0] rfl)
    rw [if_neg c5] at hf
    by_cases c6 : (v1 &&& 15) = 6
    · rw [if_pos c6] at hf
      refine lv_tableIn (tgt := 347) hx hb d_law_39 (by rw [c6]; decide) (by rw [c6]; decide) (by rw [c6]; rfl) (by decide) ?_
      refine lv_aload_n hx hb d_law_347 rfl (lv_at hl 1 rfl) ?_
      refine lv_aload_n hx hb d_law_348 rfl (lv_at hl 0 rfl) ?_
      refine lv_iload hx hb d_law_349 (lv_at hl 4 rfl) ?_
      refine lv_iconst (v := 1) hx hb d_law_351 (by decide) ?_
      refine lv_iadd hx hb d_law_352 ?_
      obtain ⟨hi, hf⟩ := q_grd_some hf
      obtain ⟨v32, e_v32, hf⟩ := q_lt_some hf
      refine va_sld hx hb hX hbl hbA hS (q_vpb_in hi) d_law_353 ?_
      refine q_topi e_v32 ?_
      refine lv_aload_n hx hb d_law_354 rfl (lv_at hl 0 rfl) ?_
      refine lv_iload hx hb d_law_355 (lv_at hl 4 rfl) ?_
      refine lv_iconst (v := 2) hx hb d_law_357 (by decide) ?_
      refine lv_iadd hx hb d_law_358 ?_
      obtain ⟨hi, hf⟩ := q_grd_some hf
      obtain ⟨v33, e_v33, hf⟩ := q_lt_some hf
      refine va_sld hx hb hX hbl hbA hS (q_vpb_in hi) d_law_359 ?_
      refine q_topi e_v33 ?_
      obtain ⟨sr34, h_r34, hf⟩ := q_bv_some hf
      refine q_callVvC (As := [.int v32, .int v33]) (rest := []) (q0 := 0) hC (c_xGlyphPositions_choose l G h_r34) cal_GP_choose wq_716 ⟨rfl, rfl, (Nat.le_of_ble_eq_true rfl), (Nat.le_of_ble_eq_true rfl)⟩ hcs.1 rfl rfl hP hD hA hS rfl hl.1 rfl (Nat.le_of_ble_eq_true rfl) d_law_360 (fun H locs hP hS => ?_)
      refine lv_aload_n hx hb d_law_363 rfl (lv_at hl 2 rfl) ?_
      refine lv_aload_n hx hb d_law_364 rfl (lv_at hl 0 rfl) ?_
      refine lv_iload hx hb d_law_365 (lv_at hl 4 rfl) ?_
      refine lv_iconst (v := 1) hx hb d_law_367 (by decide) ?_
      refine lv_iadd hx hb d_law_368 ?_
      obtain ⟨hi, hf⟩ := q_grd_some hf
      obtain ⟨v35, e_v35, hf⟩ := q_lt_some hf
      refine va_sld hx hb hX hbl hbA hS (q_vpb_in hi) d_law_369 ?_
      refine q_topi e_v35 ?_
      refine lv_aload_n hx hb d_law_370 rfl (lv_at hl 0 rfl) ?_
      refine lv_iload hx hb d_law_371 (lv_at hl 4 rfl) ?_
      refine lv_iconst (v := 2) hx hb d_law_373 (by decide) ?_
      refine lv_iadd hx hb d_law_374 ?_
      obtain ⟨hi, hf⟩ := q_grd_some hf
      obtain ⟨v36, e_v36, hf⟩ := q_lt_some hf
      refine va_sld hx hb hX hbl hbA hS (q_vpb_in hi) d_law_375 ?_
      refine q_topi e_v36 ?_
      obtain ⟨sr37, h_r37, hf⟩ := q_bv_some hf
      refine q_callVvC (As := [.int v35, .int v36]) (rest := []) (q0 := 36) hC (c_xGlyphPositionsModel_choose l G h_r37) cal_GlyphPositionsModel_choose wq_717 ⟨rfl, rfl, (Nat.le_of_ble_eq_true rfl), (Nat.le_of_ble_eq_true rfl)⟩ hcs.1 rfl rfl hP hD hA hS rfl hl.1 rfl (Nat.le_of_ble_eq_true rfl) d_law_376 (fun H locs hP hS => ?_)
      refine lv_goto (tgt := 679) hx hb d_law_379 (by decide) ?_
      refine lv_iinc (v := x4_23 + 5) (lv' := [(4, .int (x4_23 + 5)), (0, .ref b), (1, .ref (G.2.2 0)), (2, .ref (G.2.2 36)), (3, .ref (G.2.2 59))]) hx hb d_law_679 hl (k := 4) rfl rfl (by decide) rfl (fun ls hl => ?_)
      refine lv_goto (tgt := 23) hx hb d_law_682 (by decide) ?_
      exact ih_23 _ _ _ _ _ _ _ (by first | exact hcs | exact q_cs_fall hcs) hf hP hS (lv_sub hl [1, 2, 3, 4, 0] rfl)
    rw [if_neg c6] at hf
    by_cases c7 : (v1 &&& 15) = 7
    · rw [if_pos c7] at hf
      refine lv_tableIn (tgt := 382) hx hb d_law_39 (by rw [c7]; decide) (by rw [c7]; decide) (by rw [c7]; rfl) (by decide) ?_
      refine lv_aload_n hx hb d_law_382 rfl (lv_at hl 1 rfl) ?_
      refine lv_aload_n hx hb d_law_383 rfl (lv_at hl 0 rfl) ?_
      refine lv_iload hx hb d_law_384 (lv_at hl 4 rfl) ?_
      refine lv_iconst (v := 1) hx hb d_law_386 (by decide) ?_
      refine lv_iadd hx hb d_law_387 ?_
      obtain ⟨hi, hf⟩ := q_grd_some hf
      obtain ⟨v25, e_v25, hf⟩ := q_lt_some hf
      refine va_sld hx hb hX hbl hbA hS (q_vpb_in hi) d_law_388 ?_
      refine q_topi e_v25 ?_
      refine lv_aload_n hx hb d_law_389 rfl (lv_at hl 0 rfl) ?_
      refine lv_iload hx hb d_law_390 (lv_at hl 4 rfl) ?_
      refine lv_iconst (v := 2) hx hb d_law_392 (by decide) ?_
      refine lv_iadd hx hb d_law_393 ?_
      obtain ⟨hi, hf⟩ := q_grd_some hf
      obtain ⟨v26, e_v26, hf⟩ := q_lt_some hf
      refine va_sld hx hb hX hbl hbA hS (q_vpb_in hi) d_law_394 ?_
      refine q_topi e_v26 ?_
      refine lv_if_eq (tgt := 402) hx hb d_law_395 (by decide) (fun c1 => ?_) (fun c1 => ?_)
      · rw [if_pos c1] at hf
        refine lv_iconst (v := 0) hx hb d_law_402 (by decide) ?_
        exact J_403 _ _ _ _ _ _ _ _ _ (by first | exact hcs | exact q_cs_fall hcs) hf hP hS hl
      rw [if_neg c1] at hf
      refine lv_iconst (v := 1) hx hb d_law_398 (by decide) ?_
      refine lv_goto (tgt := 403) hx hb d_law_399 (by decide) ?_
      exact J_403 _ _ _ _ _ _ _ _ _ (by first | exact hcs | exact q_cs_fall hcs) hf hP hS hl
    rw [if_neg c7] at hf
    by_cases c8 : (v1 &&& 15) = 8
    · rw [if_pos c8] at hf
      refine lv_tableIn (tgt := 446) hx hb d_law_39 (by rw [c8]; decide) (by rw [c8]; decide) (by rw [c8]; rfl) (by decide) ?_
      refine lv_aload_n hx hb d_law_446 rfl (lv_at hl 1 rfl) ?_
      refine lv_aload_n hx hb d_law_447 rfl (lv_at hl 0 rfl) ?_
      refine lv_iload hx hb d_law_448 (lv_at hl 4 rfl) ?_
      refine lv_iconst (v := 1) hx hb d_law_450 (by decide) ?_
      refine lv_iadd hx hb d_law_451 ?_
      obtain ⟨hi, hf⟩ := q_grd_some hf
      obtain ⟨v16, e_v16, hf⟩ := q_lt_some hf
      refine va_sld hx hb hX hbl hbA hS (q_vpb_in hi) d_law_452 ?_
      refine q_topi e_v16 ?_
      refine lv_aload_n hx hb d_law_453 rfl (lv_at hl 0 rfl) ?_
      refine lv_iload hx hb d_law_454 (lv_at hl 4 rfl) ?_
      refine lv_iconst (v := 2) hx hb d_law_456 (by decide) ?_
      refine lv_iadd hx hb d_law_457 ?_
      obtain ⟨hi, hf⟩ := q_grd_some hf
      obtain ⟨v17, e_v17, hf⟩ := q_lt_some hf
      refine va_sld hx hb hX hbl hbA hS (q_vpb_in hi) d_law_458 ?_
      refine q_topi e_v17 ?_
      refine lv_aload_n hx hb d_law_459 rfl (lv_at hl 0 rfl) ?_
      refine lv_iload hx hb d_law_460 (lv_at hl 4 rfl) ?_
      refine lv_iconst (v := 3) hx hb d_law_462 (by decide) ?_
      refine lv_iadd hx hb d_law_463 ?_
      obtain ⟨hi, hf⟩ := q_grd_some hf
      obtain ⟨v18, e_v18, hf⟩ := q_lt_some hf
      refine va_sld hx hb hX hbl hbA hS (q_vpb_in hi) d_law_464 ?_
      refine q_topi e_v18 ?_
      refine lv_aload_n hx hb d_law_465 rfl (lv_at hl 3 rfl) ?_
      obtain ⟨r19, sr19, h_r19, hf⟩ := q_bm_some hf
      refine q_callW (As := [.ref (G.2.2 0), .int v16, .int v17, .int v18, .ref (G.2.2 59)]) (rest := []) hC (c_xw_add l hl0 G h_r19) calw_xw_add wq_718 ⟨rfl, rfl, (Nat.le_of_ble_eq_true rfl), (Nat.le_of_ble_eq_true rfl)⟩ hcs hP hT hD hA hZ hS rfl hl.1 rfl (Nat.le_of_ble_eq_true rfl) d_law_466 (fun H locs hP hS => ?_)
      have hcs : q_cs (cells + 1) (slots + 6) n_23 := q_cs_next hcs
      refine lv_istore (lv' := [(5, .int r19), (0, .ref b), (1, .ref (G.2.2 0)), (2, .ref (G.2.2 36)), (3, .ref (G.2.2 59)), (4, .int x4_23)]) hx hb d_law_469 hl (by decide) rfl (fun ls hl => ?_)
      refine lv_aload_n hx hb d_law_471 rfl (lv_at hl 3 rfl) ?_
      refine lv_aload_n hx hb d_law_472 rfl (lv_at hl 1 rfl) ?_
      refine lv_iload hx hb d_law_473 (lv_at hl 5 rfl) ?_
      refine lv_iconst (v := 1) hx hb d_law_475 (by decide) ?_
      refine lv_iadd hx hb d_law_476 ?_
      obtain ⟨hi, hf⟩ := q_grd_some hf
      obtain ⟨v20, e_v20, hf⟩ := q_lt_some hf
      refine va_sld hx hb hX hbl hbA hS (q_vpb_in hi) d_law_477 ?_
      refine q_topi e_v20 ?_
      refine lv_aload_n hx hb d_law_478 rfl (lv_at hl 1 rfl) ?_
      refine lv_iload hx hb d_law_479 (lv_at hl 5 rfl) ?_
      refine lv_iconst (v := 2) hx hb d_law_481 (by decide) ?_
      refine lv_iadd hx hb d_law_482 ?_
      obtain ⟨hi, hf⟩ := q_grd_some hf
      obtain ⟨v21, e_v21, hf⟩ := q_lt_some hf
      refine va_sld hx hb hX hbl hbA hS (q_vpb_in hi) d_law_483 ?_
      refine q_topi e_v21 ?_
      refine lv_aload_n hx hb d_law_484 rfl (lv_at hl 1 rfl) ?_
      refine lv_iload hx hb d_law_485 (lv_at hl 5 rfl) ?_
      refine lv_iconst (v := 3) hx hb d_law_487 (by decide) ?_
      refine lv_iadd hx hb d_law_488 ?_
      obtain ⟨hi, hf⟩ := q_grd_some hf
      obtain ⟨v22, e_v22, hf⟩ := q_lt_some hf
      refine va_sld hx hb hX hbl hbA hS (q_vpb_in hi) d_law_489 ?_
      refine q_topi e_v22 ?_
      obtain ⟨r23, sr23, h_r23, hf⟩ := q_bm_some hf
      refine q_callViC (As := [.int v20, .int v21, .int v22]) (rest := []) (q0 := 36) hC (c_xGlyphPositionsModel_add l G h_r23) cal_GlyphPositionsModel_add wq_719 ⟨rfl, rfl, (Nat.le_of_ble_eq_true rfl), (Nat.le_of_ble_eq_true rfl)⟩ hcs.1 rfl rfl hP hD hA hS rfl hl.1 rfl (Nat.le_of_ble_eq_true rfl) d_law_490 (fun H locs hP hS => ?_)
      refine lv_istore (lv' := [(6, .int r23), (5, .int r19), (0, .ref b), (1, .ref (G.2.2 0)), (2, .ref (G.2.2 36)), (3, .ref (G.2.2 59)), (4, .int x4_23)]) hx hb d_law_493 hl (by decide) rfl (fun ls hl => ?_)
      refine lv_aload_n hx hb d_law_495 rfl (lv_at hl 4 rfl) ?_
      obtain ⟨r24, h_r24, hf⟩ := q_bn_some hf
      refine q_callVpC (As := []) (rest := []) (q0 := 36) hC (c_xGlyphPositionsModel_thrown l G h_r24) cal_GlyphPositionsModel_thrown wq_700 ⟨rfl, rfl, (Nat.le_of_ble_eq_true rfl), (Nat.le_of_ble_eq_true rfl)⟩ hcs.1 rfl rfl hP hT hS rfl hl.1 rfl (Nat.le_of_ble_eq_true rfl) d_law_496 (fun H locs hP hS => ?_)
      refine lv_iload hx hb d_law_499 (lv_at hl 1 rfl) ?_
      refine lv_icmp_eq (tgt := 506) hx hb d_law_501 (by decide) (fun c1 => ?_) (fun c1 => ?_)
      rotate_left
      · rw [if_neg c1] at hf
        refine lv_iconst (v := 0) hx hb d_law_504 (by decide) ?_
        first | (cases hf; done) | (cases hf; exact q_lawret hC hr hlk hS hcs d_law_505)
      rw [if_pos c1] at hf
      refine lv_iload hx hb d_law_506 (lv_at hl 1 rfl) ?_
      refine lv_if_ne (tgt := 523) hx hb d_law_508 (by decide) (fun c1 => ?_) (fun c1 => ?_)
      · rw [if_neg c1] at hf
        refine lv_goto (tgt := 679) hx hb d_law_523 (by decide) ?_
        refine lv_iinc (v := x4_23 + 5) (lv' := [(4, .int (x4_23 + 5)), (6, .int r23), (5, .int r19), (0, .ref b), (1, .ref (G.2.2 0)), (2, .ref (G.2.2 36)), (3, .ref (G.2.2 59))]) hx hb d_law_679 hl (k := 6) rfl rfl (by decide) rfl (fun ls hl => ?_)
        refine lv_goto (tgt := 23) hx hb d_law_682 (by decide) ?_
        exact ih_23 _ _ _ _ _ _ _ (by first | exact hcs | exact q_cs_fall hcs) hf hP hS (lv_sub hl [3, 4, 5, 6, 0] rfl)
      rw [if_pos c1] at hf
      refine lv_aload_n hx hb d_law_511 rfl (lv_at hl 5 rfl) ?_
      refine lv_iconst (v := 0) hx hb d_law_512 (by decide) ?_
      refine xl_out hC hP d_law_513 ?_
      refine lv_iload hx hb d_law_514 (lv_at hl 0 rfl) ?_
      refine lv_i2l (v := r23.toInt64) hx hb d_law_516 rfl ?_
      refine W.lcmp hx hb d_law_517 ?_
      refine lv_if_eq (tgt := 523) hx hb d_law_518 (by decide) (fun c1 => ?_) (fun c1 => ?_)
      rotate_left
      · rw [if_neg c1] at hf
        refine lv_iconst (v := 0) hx hb d_law_521 (by decide) ?_
        first | (cases hf; done) | (cases hf; exact q_lawret hC hr hlk hS hcs d_law_522)
      rw [if_pos c1] at hf
      refine lv_goto (tgt := 679) hx hb d_law_523 (by decide) ?_
      refine lv_iinc (v := x4_23 + 5) (lv' := [(4, .int (x4_23 + 5)), (6, .int r23), (5, .int r19), (0, .ref b), (1, .ref (G.2.2 0)), (2, .ref (G.2.2 36)), (3, .ref (G.2.2 59))]) hx hb d_law_679 hl (k := 6) rfl rfl (by decide) rfl (fun ls hl => ?_)
      refine lv_goto (tgt := 23) hx hb d_law_682 (by decide) ?_
      exact ih_23 _ _ _ _ _ _ _ (by first | exact hcs | exact q_cs_fall hcs) hf hP hS (lv_sub hl [3, 4, 5, 6, 0] rfl)
    rw [if_neg c8] at hf
    by_cases c9 : (v1 &&& 15) = 9
    · rw [if_pos c9] at hf
      refine lv_tableIn (tgt := 526) hx hb d_law_39 (by rw [c9]; decide) (by rw [c9]; decide) (by rw [c9]; rfl) (by decide) ?_
      refine lv_aload_n hx hb d_law_526 rfl (lv_at hl 1 rfl) ?_
      obtain ⟨r14, sr14, h_r14, hf⟩ := q_bm_some hf
      refine q_callViC (As := []) (rest := []) (q0 := 0) hC (c_xGlyphPositions_clear l G h_r14) cal_GP_clear wq_720 ⟨rfl, rfl, (Nat.le_of_ble_eq_true rfl), (Nat.le_of_ble_eq_true rfl)⟩ hcs.1 rfl rfl hP hD hA hS rfl hl.1 rfl (Nat.le_of_ble_eq_true rfl) d_law_527 (fun H locs hP hS => ?_)
      refine lv_aload_n hx hb d_law_530 rfl (lv_at hl 2 rfl) ?_
      obtain ⟨r15, sr15, h_r15, hf⟩ := q_bm_some hf
      refine q_callViC (As := []) (rest := [.int r14]) (q0 := 36) hC (c_xGlyphPositionsModel_clear l G h_r15) cal_GlyphPositionsModel_clear wq_721 ⟨rfl, rfl, (Nat.le_of_ble_eq_true rfl), (Nat.le_of_ble_eq_true rfl)⟩ hcs.1 rfl rfl hP hD hA hS rfl hl.1 rfl (Nat.le_of_ble_eq_true rfl) d_law_531 (fun H locs hP hS => ?_)
      refine lv_icmp_eq (tgt := 679) hx hb d_law_534 (by decide) (fun c1 => ?_) (fun c1 => ?_)
      rotate_left
      · rw [if_neg c1] at hf
        refine lv_iconst (v := 0) hx hb d_law_537 (by decide) ?_
        first | (cases hf; done) | (cases hf; exact q_lawret hC hr hlk hS hcs d_law_538)
      rw [if_pos c1] at hf
      refine lv_iinc (v := x4_23 + 5) (lv' := [(4, .int (x4_23 + 5)), (0, .ref b), (1, .ref (G.2.2 0)), (2, .ref (G.2.2 36)), (3, .ref (G.2.2 59))]) hx hb d_law_679 hl (k := 4) rfl rfl (by decide) rfl (fun ls hl => ?_)
      refine lv_goto (tgt := 23) hx hb d_law_682 (by decide) ?_
      exact ih_23 _ _ _ _ _ _ _ (by first | exact hcs | exact q_cs_fall hcs) hf hP hS (lv_sub hl [1, 2, 3, 4, 0] rfl)
    rw [if_neg c9] at hf
    by_cases c10 : (v1 &&& 15) = 10
    · rw [if_pos c10] at hf
      refine lv_tableIn (tgt := 539) hx hb d_law_39 (by rw [c10]; decide) (by rw [c10]; decide) (by rw [c10]; rfl) (by decide) ?_
      refine lv_aload_n hx hb d_law_539 rfl (lv_at hl 1 rfl) ?_
      refine lv_aload_n hx hb d_law_540 rfl (lv_at hl 0 rfl) ?_
      refine lv_iload hx hb d_law_541 (lv_at hl 4 rfl) ?_
      refine lv_iconst (v := 1) hx hb d_law_543 (by decide) ?_
      refine lv_iadd hx hb d_law_544 ?_
      obtain ⟨hi, hf⟩ := q_grd_some hf
      obtain ⟨v9, e_v9, hf⟩ := q_lt_some hf
      refine va_sld hx hb hX hbl hbA hS (q_vpb_in hi) d_law_545 ?_
      refine q_topi e_v9 ?_
      refine lv_if_eq (tgt := 553) hx hb d_law_546 (by decide) (fun c1 => ?_) (fun c1 => ?_)
      · rw [if_pos c1] at hf
        refine lv_iconst (v := 0) hx hb d_law_553 (by decide) ?_
        exact J_554 _ _ _ _ _ _ _ _ (by first | exact hcs | exact q_cs_fall hcs) hf hP hS hl
      rw [if_neg c1] at hf
      refine lv_iconst (v := 1) hx hb d_law_549 (by decide) ?_
      refine lv_goto (tgt := 554) hx hb d_law_550 (by decide) ?_
      exact J_554 _ _ _ _ _ _ _ _ (by first | exact hcs | exact q_cs_fall hcs) hf hP hS hl
    rw [if_neg c10] at hf
    by_cases c11 : (v1 &&& 15) = 11
    · rw [if_pos c11] at hf
      refine lv_tableIn (tgt := 611) hx hb d_law_39 (by rw [c11]; decide) (by rw [c11]; decide) (by rw [c11]; rfl) (by decide) ?_
      refine lv_aload_n hx hb d_law_611 rfl (lv_at hl 1 rfl) ?_
      refine lv_aload_n hx hb d_law_612 rfl (lv_at hl 0 rfl) ?_
      refine lv_iload hx hb d_law_613 (lv_at hl 4 rfl) ?_
      refine lv_iconst (v := 1) hx hb d_law_615 (by decide) ?_
      refine lv_iadd hx hb d_law_616 ?_
      obtain ⟨hi, hf⟩ := q_grd_some hf
      obtain ⟨v2, e_v2, hf⟩ := q_lt_some hf
      refine va_sld hx hb hX hbl hbA hS (q_vpb_in hi) d_law_617 ?_
      refine q_topi e_v2 ?_
      refine lv_aload_n hx hb d_law_618 rfl (lv_at hl 0 rfl) ?_
      refine lv_iload hx hb d_law_619 (lv_at hl 4 rfl) ?_
      refine lv_iconst (v := 2) hx hb d_law_621 (by decide) ?_
      refine lv_iadd hx hb d_law_622 ?_
      obtain ⟨hi, hf⟩ := q_grd_some hf
      obtain ⟨v3, e_v3, hf⟩ := q_lt_some hf
      refine va_sld hx hb hX hbl hbA hS (q_vpb_in hi) d_law_623 ?_
      refine q_topi e_v3 ?_
      refine lv_aload_n hx hb d_law_624 rfl (lv_at hl 3 rfl) ?_
      obtain ⟨r4, sr4, h_r4, hf⟩ := q_bm_some hf
      refine q_callW (As := [.ref (G.2.2 0), .int v2, .int v3, .ref (G.2.2 59)]) (rest := []) hC (c_xw_place l hl0 G h_r4) calw_xw_place wq_722 ⟨rfl, rfl, (Nat.le_of_ble_eq_true rfl), (Nat.le_of_ble_eq_true rfl)⟩ hcs hP hT hD hA hZ hS rfl hl.1 rfl (Nat.le_of_ble_eq_true rfl) d_law_625 (fun H locs hP hS => ?_)
      have hcs : q_cs (cells + 1) (slots + 6) n_23 := q_cs_next hcs
      refine lv_istore (lv' := [(5, .int r4), (0, .ref b), (1, .ref (G.2.2 0)), (2, .ref (G.2.2 36)), (3, .ref (G.2.2 59)), (4, .int x4_23)]) hx hb d_law_628 hl (by decide) rfl (fun ls hl => ?_)
      refine lv_aload_n hx hb d_law_630 rfl (lv_at hl 3 rfl) ?_
      refine lv_aload_n hx hb d_law_631 rfl (lv_at hl 1 rfl) ?_
      refine lv_iload hx hb d_law_632 (lv_at hl 5 rfl) ?_
      refine lv_iconst (v := 1) hx hb d_law_634 (by decide) ?_
      refine lv_iadd hx hb d_law_635 ?_
      obtain ⟨hi, hf⟩ := q_grd_some hf
      obtain ⟨v5, e_v5, hf⟩ := q_lt_some hf
      refine va_sld hx hb hX hbl hbA hS (q_vpb_in hi) d_law_636 ?_
      refine q_topi e_v5 ?_
      refine lv_aload_n hx hb d_law_637 rfl (lv_at hl 1 rfl) ?_
      refine lv_iload hx hb d_law_638 (lv_at hl 5 rfl) ?_
      refine lv_iconst (v := 2) hx hb d_law_640 (by decide) ?_
      refine lv_iadd hx hb d_law_641 ?_
      obtain ⟨hi, hf⟩ := q_grd_some hf
      obtain ⟨v6, e_v6, hf⟩ := q_lt_some hf
      refine va_sld hx hb hX hbl hbA hS (q_vpb_in hi) d_law_642 ?_
      refine q_topi e_v6 ?_
      obtain ⟨r7, sr7, h_r7, hf⟩ := q_bm_some hf
      refine q_callViC (As := [.int v5, .int v6]) (rest := []) (q0 := 36) hC (c_xGlyphPositionsModel_place l G h_r7) cal_GlyphPositionsModel_place wq_723 ⟨rfl, rfl, (Nat.le_of_ble_eq_true rfl), (Nat.le_of_ble_eq_true rfl)⟩ hcs.1 rfl rfl hP hD hA hS rfl hl.1 rfl (Nat.le_of_ble_eq_true rfl) d_law_643 (fun H locs hP hS => ?_)
      refine lv_istore (lv' := [(6, .int r7), (5, .int r4), (0, .ref b), (1, .ref (G.2.2 0)), (2, .ref (G.2.2 36)), (3, .ref (G.2.2 59)), (4, .int x4_23)]) hx hb d_law_646 hl (by decide) rfl (fun ls hl => ?_)
      refine lv_aload_n hx hb d_law_648 rfl (lv_at hl 4 rfl) ?_
      obtain ⟨r8, h_r8, hf⟩ := q_bn_some hf
      refine q_callVpC (As := []) (rest := []) (q0 := 36) hC (c_xGlyphPositionsModel_thrown l G h_r8) cal_GlyphPositionsModel_thrown wq_700 ⟨rfl, rfl, (Nat.le_of_ble_eq_true rfl), (Nat.le_of_ble_eq_true rfl)⟩ hcs.1 rfl rfl hP hT hS rfl hl.1 rfl (Nat.le_of_ble_eq_true rfl) d_law_649 (fun H locs hP hS => ?_)
      refine lv_iload hx hb d_law_652 (lv_at hl 1 rfl) ?_
      refine lv_icmp_eq (tgt := 659) hx hb d_law_654 (by decide) (fun c1 => ?_) (fun c1 => ?_)
      rotate_left
      · rw [if_neg c1] at hf
        refine lv_iconst (v := 0) hx hb d_law_657 (by decide) ?_
        first | (cases hf; done) | (cases hf; exact q_lawret hC hr hlk hS hcs d_law_658)
      rw [if_pos c1] at hf
      refine lv_iload hx hb d_law_659 (lv_at hl 1 rfl) ?_
      refine lv_if_ne (tgt := 676) hx hb d_law_661 (by decide) (fun c1 => ?_) (fun c1 => ?_)
      · rw [if_neg c1] at hf
        refine lv_goto (tgt := 679) hx hb d_law_676 (by decide) ?_
        refine lv_iinc (v := x4_23 + 5) (lv' := [(4, .int (x4_23 + 5)), (6, .int r7), (5, .int r4), (0, .ref b), (1, .ref (G.2.2 0)), (2, .ref (G.2.2 36)), (3, .ref (G.2.2 59))]) hx hb d_law_679 hl (k := 6) rfl rfl (by decide) rfl (fun ls hl => ?_)
        refine lv_goto (tgt := 23) hx hb d_law_682 (by decide) ?_
        exact ih_23 _ _ _ _ _ _ _ (by first | exact hcs | exact q_cs_fall hcs) hf hP hS (lv_sub hl [3, 4, 5, 6, 0] rfl)
      rw [if_pos c1] at hf
      refine lv_aload_n hx hb d_law_664 rfl (lv_at hl 5 rfl) ?_
      refine lv_iconst (v := 0) hx hb d_law_665 (by decide) ?_
      refine xl_out hC hP d_law_666 ?_
      refine lv_iload hx hb d_law_667 (lv_at hl 0 rfl) ?_
      refine lv_i2l (v := r7.toInt64) hx hb d_law_669 rfl ?_
      refine W.lcmp hx hb d_law_670 ?_
      refine lv_if_eq (tgt := 676) hx hb d_law_671 (by decide) (fun c1 => ?_) (fun c1 => ?_)
      rotate_left
      · rw [if_neg c1] at hf
        refine lv_iconst (v := 0) hx hb d_law_674 (by decide) ?_
        first | (cases hf; done) | (cases hf; exact q_lawret hC hr hlk hS hcs d_law_675)
      rw [if_pos c1] at hf
      refine lv_goto (tgt := 679) hx hb d_law_676 (by decide) ?_
      refine lv_iinc (v := x4_23 + 5) (lv' := [(4, .int (x4_23 + 5)), (6, .int r7), (5, .int r4), (0, .ref b), (1, .ref (G.2.2 0)), (2, .ref (G.2.2 36)), (3, .ref (G.2.2 59))]) hx hb d_law_679 hl (k := 6) rfl rfl (by decide) rfl (fun ls hl => ?_)
      refine lv_goto (tgt := 23) hx hb d_law_682 (by decide) ?_
      exact ih_23 _ _ _ _ _ _ _ (by first | exact hcs | exact q_cs_fall hcs) hf hP hS (lv_sub hl [3, 4, 5, 6, 0] rfl)
    rw [if_neg c11] at hf
    refine lv_tableOut (tgt := 679) hx hb d_law_39 (by have z0 := True.intro; have z1 : (v1 &&& 15).toInt ≠ 0 := q_ine c0; have z2 : (v1 &&& 15).toInt ≠ 1 := q_ine c1; have z3 : (v1 &&& 15).toInt ≠ 2 := q_ine c2; have z4 : (v1 &&& 15).toInt ≠ 3 := q_ine c3; have z5 : (v1 &&& 15).toInt ≠ 4 := q_ine c4; have z6 : (v1 &&& 15).toInt ≠ 5 := q_ine c5; have z7 : (v1 &&& 15).toInt ≠ 6 := q_ine c6; have z8 : (v1 &&& 15).toInt ≠ 7 := q_ine c7; have z9 : (v1 &&& 15).toInt ≠ 8 := q_ine c8; have z10 : (v1 &&& 15).toInt ≠ 9 := q_ine c9; have z11 : (v1 &&& 15).toInt ≠ 10 := q_ine c10; have z12 : (v1 &&& 15).toInt ≠ 11 := q_ine c11; omega) (by decide) ?_
    refine lv_iinc (v := x4_23 + 5) (lv' := [(4, .int (x4_23 + 5)), (0, .ref b), (1, .ref (G.2.2 0)), (2, .ref (G.2.2 36)), (3, .ref (G.2.2 59))]) hx hb d_law_679 hl (k := 4) rfl rfl (by decide) rfl (fun ls hl => ?_)
    refine lv_goto (tgt := 23) hx hb d_law_682 (by decide) ?_
    exact ih_23 _ _ _ _ _ _ _ (by first | exact hcs | exact q_cs_fall hcs) hf hP hS (lv_sub hl [1, 2, 3, 4, 0] rfl)
