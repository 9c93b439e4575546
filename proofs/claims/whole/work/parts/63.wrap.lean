set_option maxHeartbeats 4000000 in
set_option maxRecDepth 100000 in
theorem cw_put (l : Launch) (G : XG) {x1 x2 : Int32} {st : QSt} {ro : Int32} {so : QSt} (hf : xGlyphPositions_put x1 x2 st = some (ro, so)) : q_Mw l y_GlyphPositionsLaw_put b_GlyphPositionsLaw_put 5 [(0, 10, 13, 13), (0, 10, 17, 15)] ({ frames := 8, cells := 1, slots := 6, locals := 142 } : Room) G.1 (xT G) (wX G) [.ref (G.2.2 0), .int x1, .int x2, .ref (G.2.2 59)] st 0 (q_pa so 48 0 ro) := by
  refine q_Mw_of (by decide) (Nat.le_of_ble_eq_true rfl) (wX_fst G) ?_
  intro p e s m args below meth c ls hC hr hlk htab hZ hT hD hA hP hS hl
  have hx := hC.1.1
  have hb := hC.1.2.1
  have hts := hC.1.2.2.2.2
  have hl : lv_has ls 5 [(0, .ref (G.2.2 0)), (1, .int x1), (2, .int x2), (3, .ref (G.2.2 59))] := hl
  refine lv_aload_n hx hb d_GlyphPositionsLaw_put_0 rfl (lv_at hl 3 rfl) ?_
  refine lv_iconst (v := 0) hx hb d_GlyphPositionsLaw_put_1 (by decide) ?_
  refine lv_aload_n hx hb d_GlyphPositionsLaw_put_2 rfl (lv_at hl 0 rfl) ?_
  refine lv_iload_n hx hb d_GlyphPositionsLaw_put_3 rfl (lv_at hl 1 rfl) ?_
  refine lv_iload_n hx hb d_GlyphPositionsLaw_put_4 rfl (lv_at hl 2 rfl) ?_
  refine q_callVi (As := [.int x1, .int x2]) (rest := [.int 0, .ref (G.2.2 59)]) (q0 := 0) hC (c_xGlyphPositions_put l G hf) cal_GP_put wq_668 ⟨rfl, rfl, (Nat.le_of_ble_eq_true rfl), (Nat.le_of_ble_eq_true rfl)⟩ rfl rfl hP hD hA hS rfl hl.1 rfl (Nat.le_of_ble_eq_true rfl) d_GlyphPositionsLaw_put_5 (fun H locs hP hS => ?_)
  refine lv_i2l (v := ro.toInt64) hx hb d_GlyphPositionsLaw_put_8 rfl ?_
  refine xs_out hC hP hD hS d_GlyphPositionsLaw_put_9 (fun H locs hP hS => ?_)
  refine lv_goto (tgt := 21) hx hb d_GlyphPositionsLaw_put_10 (by decide) ?_
  refine lv_iconst (v := 0) hx hb d_GlyphPositionsLaw_put_21 (by decide) ?_
  exact q_wret hC hr hlk (Nat.le_of_ble_eq_true rfl) (Nat.le_of_ble_eq_true rfl) hP hS d_GlyphPositionsLaw_put_22
set_option maxHeartbeats 4000000 in
set_option maxRecDepth 100000 in
theorem cx_put_1 (l : Launch) (hl0 : l.stackTraces = false) (G : XG) {x1 x2 : Int32} {st : QSt} (hf : xGlyphPositions_put_t x1 x2 st = some 1) : q_Mw l y_GlyphPositionsLaw_put b_GlyphPositionsLaw_put 5 [(0, 10, 13, 13), (0, 10, 17, 15)] ({ frames := 8, cells := 1, slots := 6, locals := 142 } : Room) G.1 (xT G) (wX G) [.ref (G.2.2 0), .int x1, .int x2, .ref (G.2.2 59)] st 1 st := by
  refine q_Mw_of (by decide) (Nat.le_of_ble_eq_true rfl) (wX_fst G) ?_
  intro p e s m args below meth c ls hC hr hlk htab hZ hT hD hA hP hS hl
  have hx := hC.1.1
  have hb := hC.1.2.1
  have hts := hC.1.2.2.2.2
  have hl : lv_has ls 5 [(0, .ref (G.2.2 0)), (1, .int x1), (2, .int x2), (3, .ref (G.2.2 59))] := hl
  refine lv_aload_n hx hb d_GlyphPositionsLaw_put_0 rfl (lv_at hl 3 rfl) ?_
  refine lv_iconst (v := 0) hx hb d_GlyphPositionsLaw_put_1 (by decide) ?_
  refine lv_aload_n hx hb d_GlyphPositionsLaw_put_2 rfl (lv_at hl 0 rfl) ?_
  refine lv_iload_n hx hb d_GlyphPositionsLaw_put_3 rfl (lv_at hl 1 rfl) ?_
  refine lv_iload_n hx hb d_GlyphPositionsLaw_put_4 rfl (lv_at hl 2 rfl) ?_
  refine q_callX (As := [.int x1, .int x2]) (rest := [.int 0, .ref (G.2.2 59)]) (q0 := 0) hC (c_xGlyphPositions_put_t l hl0 G hf) cal_GP_put wq_668 ⟨rfl, rfl, (Nat.le_of_ble_eq_true rfl), (Nat.le_of_ble_eq_true rfl)⟩ ⟨(Nat.le_of_ble_eq_true rfl), (Nat.le_of_ble_eq_true rfl)⟩ rfl rfl hP hT (fun U hU hW => hZ.move hW (fun q cell h1 h2 => by rw [hU]; exact q_keep hP hS q cell h1 h2)) hS rfl hl.1 rfl (Nat.le_of_ble_eq_true rfl) d_GlyphPositionsLaw_put_5 [] ⟨0, 10, 13, 13⟩ [⟨0, 10, 17, 15⟩] (htab.trans rfl) (fun z hz => by cases hz) ⟨by decide, by decide, "java/lang/IndexOutOfBoundsException", hts _ wq_669, hZ.1.1.word _ (by decide +kernel)⟩ (fun H qq hP hS => ?_)
  refine W.eq (g2 := F0 m 13 ls [.ref qq]) rfl ?_
  refine lv_astore (lv' := [(4, .ref qq), (0, .ref (G.2.2 0)), (1, .int x1), (2, .int x2), (3, .ref (G.2.2 59))]) hx hb d_GlyphPositionsLaw_put_13 hl (by decide) rfl (fun ls hl => ?_)
  refine lv_iconst (v := 1) hx hb d_GlyphPositionsLaw_put_15 (by decide) ?_
  exact q_wret hC hr hlk (Nat.le_of_ble_eq_true rfl) (Nat.le_of_ble_eq_true rfl) hP hS d_GlyphPositionsLaw_put_16
set_option maxHeartbeats 4000000 in
set_option maxRecDepth 100000 in
theorem cx_put_2 (l : Launch) (hl0 : l.stackTraces = false) (G : XG) {x1 x2 : Int32} {st : QSt} (hf : xGlyphPositions_put_t x1 x2 st = some 2) : q_Mw l y_GlyphPositionsLaw_put b_GlyphPositionsLaw_put 5 [(0, 10, 13, 13), (0, 10, 17, 15)] ({ frames := 8, cells := 1, slots := 6, locals := 142 } : Room) G.1 (xT G) (wX G) [.ref (G.2.2 0), .int x1, .int x2, .ref (G.2.2 59)] st 2 st := by
  refine q_Mw_of (by decide) (Nat.le_of_ble_eq_true rfl) (wX_fst G) ?_
  intro p e s m args below meth c ls hC hr hlk htab hZ hT hD hA hP hS hl
  have hx := hC.1.1
  have hb := hC.1.2.1
  have hts := hC.1.2.2.2.2
  have hl : lv_has ls 5 [(0, .ref (G.2.2 0)), (1, .int x1), (2, .int x2), (3, .ref (G.2.2 59))] := hl
  refine lv_aload_n hx hb d_GlyphPositionsLaw_put_0 rfl (lv_at hl 3 rfl) ?_
  refine lv_iconst (v := 0) hx hb d_GlyphPositionsLaw_put_1 (by decide) ?_
  refine lv_aload_n hx hb d_GlyphPositionsLaw_put_2 rfl (lv_at hl 0 rfl) ?_
  refine lv_iload_n hx hb d_GlyphPositionsLaw_put_3 rfl (lv_at hl 1 rfl) ?_
  refine lv_iload_n hx hb d_GlyphPositionsLaw_put_4 rfl (lv_at hl 2 rfl) ?_
  refine q_callX (As := [.int x1, .int x2]) (rest := [.int 0, .ref (G.2.2 59)]) (q0 := 0) hC (c_xGlyphPositions_put_t l hl0 G hf) cal_GP_put wq_668 ⟨rfl, rfl, (Nat.le_of_ble_eq_true rfl), (Nat.le_of_ble_eq_true rfl)⟩ ⟨(Nat.le_of_ble_eq_true rfl), (Nat.le_of_ble_eq_true rfl)⟩ rfl rfl hP hT (fun U hU hW => hZ.move hW (fun q cell h1 h2 => by rw [hU]; exact q_keep hP hS q cell h1 h2)) hS rfl hl.1 rfl (Nat.le_of_ble_eq_true rfl) d_GlyphPositionsLaw_put_5 [⟨0, 10, 13, 13⟩] ⟨0, 10, 17, 15⟩ [] (htab.trans rfl) (fun z hz => by rcases List.mem_singleton.mp hz with rfl; exact ⟨by decide, by decide, "java/lang/IndexOutOfBoundsException", hts _ wq_669, hZ.1.2.1⟩) ⟨by decide, by decide, "java/lang/IllegalArgumentException", hts _ wq_670, hZ.1.1.word _ (by decide +kernel)⟩ (fun H qq hP hS => ?_)
  refine W.eq (g2 := F0 m 17 ls [.ref qq]) rfl ?_
  refine lv_astore (lv' := [(4, .ref qq), (0, .ref (G.2.2 0)), (1, .int x1), (2, .int x2), (3, .ref (G.2.2 59))]) hx hb d_GlyphPositionsLaw_put_17 hl (by decide) rfl (fun ls hl => ?_)
  refine lv_iconst (v := 2) hx hb d_GlyphPositionsLaw_put_19 (by decide) ?_
  exact q_wret hC hr hlk (Nat.le_of_ble_eq_true rfl) (Nat.le_of_ble_eq_true rfl) hP hS d_GlyphPositionsLaw_put_20
set_option maxHeartbeats 4000000 in
set_option maxRecDepth 100000 in
theorem cw_cut (l : Launch) (G : XG) {x1 : Int32} {st : QSt} {ro : Int32} {so : QSt} (hf : xGlyphPositions_cut x1 st = some (ro, so)) : q_Mw l y_GlyphPositionsLaw_cut b_GlyphPositionsLaw_cut 4 [(0, 9, 12, 15)] ({ frames := 8, cells := 1, slots := 6, locals := 141 } : Room) G.1 (xT G) (wX G) [.ref (G.2.2 0), .int x1, .ref (G.2.2 59)] st 0 (q_pa so 48 0 ro) := by
  refine q_Mw_of (by decide) (Nat.le_of_ble_eq_true rfl) (wX_fst G) ?_
  intro p e s m args below meth c ls hC hr hlk htab hZ hT hD hA hP hS hl
  have hx := hC.1.1
  have hb := hC.1.2.1
  have hts := hC.1.2.2.2.2
  have hl : lv_has ls 4 [(0, .ref (G.2.2 0)), (1, .int x1), (2, .ref (G.2.2 59))] := hl
  refine lv_aload_n hx hb d_GlyphPositionsLaw_cut_0 rfl (lv_at hl 2 rfl) ?_
  refine lv_iconst (v := 0) hx hb d_GlyphPositionsLaw_cut_1 (by decide) ?_
  refine lv_aload_n hx hb d_GlyphPositionsLaw_cut_2 rfl (lv_at hl 0 rfl) ?_
  refine lv_iload_n hx hb d_GlyphPositionsLaw_cut_3 rfl (lv_at hl 1 rfl) ?_
  refine q_callVi (As := [.int x1]) (rest := [.int 0, .ref (G.2.2 59)]) (q0 := 0) hC (c_xGlyphPositions_cut l G hf) cal_GP_cut wq_671 ⟨rfl, rfl, (Nat.le_of_ble_eq_true rfl), (Nat.le_of_ble_eq_true rfl)⟩ rfl rfl hP hD hA hS rfl hl.1 rfl (Nat.le_of_ble_eq_true rfl) d_GlyphPositionsLaw_cut_4 (fun H locs hP hS => ?_)
  refine lv_i2l (v := ro.toInt64) hx hb d_GlyphPositionsLaw_cut_7 rfl ?_
  refine xs_out hC hP hD hS d_GlyphPositionsLaw_cut_8 (fun H locs hP hS => ?_)
  refine lv_goto (tgt := 15) hx hb d_GlyphPositionsLaw_cut_9 (by decide) ?_
  refine lv_iconst (v := 0) hx hb d_GlyphPositionsLaw_cut_15 (by decide) ?_
  exact q_wret hC hr hlk (Nat.le_of_ble_eq_true rfl) (Nat.le_of_ble_eq_true rfl) hP hS d_GlyphPositionsLaw_cut_16
set_option maxHeartbeats 4000000 in
set_option maxRecDepth 100000 in
theorem cx_cut_2 (l : Launch) (hl0 : l.stackTraces = false) (G : XG) {x1 : Int32} {st : QSt} (hf : xGlyphPositions_cut_t x1 st = some 2) : q_Mw l y_GlyphPositionsLaw_cut b_GlyphPositionsLaw_cut 4 [(0, 9, 12, 15)] ({ frames := 8, cells := 1, slots := 6, locals := 141 } : Room) G.1 (xT G) (wX G) [.ref (G.2.2 0), .int x1, .ref (G.2.2 59)] st 1 st := by
  refine q_Mw_of (by decide) (Nat.le_of_ble_eq_true rfl) (wX_fst G) ?_
  intro p e s m args below meth c ls hC hr hlk htab hZ hT hD hA hP hS hl
  have hx := hC.1.1
  have hb := hC.1.2.1
  have hts := hC.1.2.2.2.2
  have hl : lv_has ls 4 [(0, .ref (G.2.2 0)), (1, .int x1), (2, .ref (G.2.2 59))] := hl
  refine lv_aload_n hx hb d_GlyphPositionsLaw_cut_0 rfl (lv_at hl 2 rfl) ?_
  refine lv_iconst (v := 0) hx hb d_GlyphPositionsLaw_cut_1 (by decide) ?_
  refine lv_aload_n hx hb d_GlyphPositionsLaw_cut_2 rfl (lv_at hl 0 rfl) ?_
  refine lv_iload_n hx hb d_GlyphPositionsLaw_cut_3 rfl (lv_at hl 1 rfl) ?_
  refine q_callX (As := [.int x1]) (rest := [.int 0, .ref (G.2.2 59)]) (q0 := 0) hC (c_xGlyphPositions_cut_t l hl0 G hf) cal_GP_cut wq_671 ⟨rfl, rfl, (Nat.le_of_ble_eq_true rfl), (Nat.le_of_ble_eq_true rfl)⟩ ⟨(Nat.le_of_ble_eq_true rfl), (Nat.le_of_ble_eq_true rfl)⟩ rfl rfl hP hT (fun U hU hW => hZ.move hW (fun q cell h1 h2 => by rw [hU]; exact q_keep hP hS q cell h1 h2)) hS rfl hl.1 rfl (Nat.le_of_ble_eq_true rfl) d_GlyphPositionsLaw_cut_4 [] ⟨0, 9, 12, 15⟩ [] (htab.trans rfl) (fun z hz => by cases hz) ⟨by decide, by decide, "java/lang/IllegalArgumentException", hts _ wq_670, hZ.1.1.word _ (by decide +kernel)⟩ (fun H qq hP hS => ?_)
  refine W.eq (g2 := F0 m 12 ls [.ref qq]) rfl ?_
  refine lv_astore_n (lv' := [(3, .ref qq), (0, .ref (G.2.2 0)), (1, .int x1), (2, .ref (G.2.2 59))]) hx hb d_GlyphPositionsLaw_cut_12 rfl hl (by decide) rfl (fun ls hl => ?_)
  refine lv_iconst (v := 1) hx hb d_GlyphPositionsLaw_cut_13 (by decide) ?_
  exact q_wret hC hr hlk (Nat.le_of_ble_eq_true rfl) (Nat.le_of_ble_eq_true rfl) hP hS d_GlyphPositionsLaw_cut_14
set_option maxHeartbeats 4000000 in
set_option maxRecDepth 100000 in
theorem cw_kind (l : Launch) (G : XG) {x1 x2 x3 x4 : Int32} {st : QSt} {so : QSt} (hf : xGlyphPositions_kind x1 x2 x3 x4 st = some so) : q_Mw l y_GlyphPositionsLaw_kind b_GlyphPositionsLaw_kind 6 [(0, 9, 12, 15), (0, 9, 16, 25)] ({ frames := 8, cells := 1, slots := 6, locals := 144 } : Room) G.1 (xT G) (wX G) [.ref (G.2.2 0), .int x1, .int x2, .int x3, .int x4] st 0 so := by
  refine q_Mw_of (by decide) (Nat.le_of_ble_eq_true rfl) (wX_fst G) ?_
  intro p e s m args below meth c ls hC hr hlk htab hZ hT hD hA hP hS hl
  have hx := hC.1.1
  have hb := hC.1.2.1
  have hts := hC.1.2.2.2.2
  have hl : lv_has ls 6 [(0, .ref (G.2.2 0)), (1, .int x1), (2, .int x2), (3, .int x3), (4, .int x4)] := hl
  refine lv_aload_n hx hb d_GlyphPositionsLaw_kind_0 rfl (lv_at hl 0 rfl) ?_
  refine lv_iload_n hx hb d_GlyphPositionsLaw_kind_1 rfl (lv_at hl 1 rfl) ?_
  refine lv_iload_n hx hb d_GlyphPositionsLaw_kind_2 rfl (lv_at hl 2 rfl) ?_
  refine lv_iload_n hx hb d_GlyphPositionsLaw_kind_3 rfl (lv_at hl 3 rfl) ?_
  refine lv_iload hx hb d_GlyphPositionsLaw_kind_4 (lv_at hl 4 rfl) ?_
  refine q_callVv (As := [.int x1, .int x2, .int x3, .int x4]) (rest := []) (q0 := 0) hC (c_xGlyphPositions_kind l G hf) cal_GP_kind wq_672 ⟨rfl, rfl, (Nat.le_of_ble_eq_true rfl), (Nat.le_of_ble_eq_true rfl)⟩ rfl rfl hP hD hA hS rfl hl.1 rfl (Nat.le_of_ble_eq_true rfl) d_GlyphPositionsLaw_kind_6 (fun H locs hP hS => ?_)
  refine lv_goto (tgt := 20) hx hb d_GlyphPositionsLaw_kind_9 (by decide) ?_
  refine lv_iconst (v := 0) hx hb d_GlyphPositionsLaw_kind_20 (by decide) ?_
  exact q_wret hC hr hlk (Nat.le_of_ble_eq_true rfl) (Nat.le_of_ble_eq_true rfl) hP hS d_GlyphPositionsLaw_kind_21
set_option maxHeartbeats 4000000 in
set_option maxRecDepth 100000 in
theorem cx_kind_2 (l : Launch) (hl0 : l.stackTraces = false) (G : XG) {x1 x2 x3 x4 : Int32} {st : QSt} (hf : xGlyphPositions_kind_t x1 x2 x3 x4 st = some 2) : q_Mw l y_GlyphPositionsLaw_kind b_GlyphPositionsLaw_kind 6 [(0, 9, 12, 15), (0, 9, 16, 25)] ({ frames := 8, cells := 1, slots := 6, locals := 144 } : Room) G.1 (xT G) (wX G) [.ref (G.2.2 0), .int x1, .int x2, .int x3, .int x4] st 1 st := by
  refine q_Mw_of (by decide) (Nat.le_of_ble_eq_true rfl) (wX_fst G) ?_
  intro p e s m args below meth c ls hC hr hlk htab hZ hT hD hA hP hS hl
  have hx := hC.1.1
  have hb := hC.1.2.1
  have hts := hC.1.2.2.2.2
  have hl : lv_has ls 6 [(0, .ref (G.2.2 0)), (1, .int x1), (2, .int x2), (3, .int x3), (4, .int x4)] := hl
  refine lv_aload_n hx hb d_GlyphPositionsLaw_kind_0 rfl (lv_at hl 0 rfl) ?_
  refine lv_iload_n hx hb d_GlyphPositionsLaw_kind_1 rfl (lv_at hl 1 rfl) ?_
  refine lv_iload_n hx hb d_GlyphPositionsLaw_kind_2 rfl (lv_at hl 2 rfl) ?_
  refine lv_iload_n hx hb d_GlyphPositionsLaw_kind_3 rfl (lv_at hl 3 rfl) ?_
  refine lv_iload hx hb d_GlyphPositionsLaw_kind_4 (lv_at hl 4 rfl) ?_
  refine q_callX (As := [.int x1, .int x2, .int x3, .int x4]) (rest := []) (q0 := 0) hC (c_xGlyphPositions_kind_t l hl0 G hf) cal_GP_kind wq_672 ⟨rfl, rfl, (Nat.le_of_ble_eq_true rfl), (Nat.le_of_ble_eq_true rfl)⟩ ⟨(Nat.le_of_ble_eq_true rfl), (Nat.le_of_ble_eq_true rfl)⟩ rfl rfl hP hT (fun U hU hW => hZ.move hW (fun q cell h1 h2 => by rw [hU]; exact q_keep hP hS q cell h1 h2)) hS rfl hl.1 rfl (Nat.le_of_ble_eq_true rfl) d_GlyphPositionsLaw_kind_6 [] ⟨0, 9, 12, 15⟩ [⟨0, 9, 16, 25⟩] (htab.trans rfl) (fun z hz => by cases hz) ⟨by decide, by decide, "java/lang/IllegalArgumentException", hts _ wq_670, hZ.1.1.word _ (by decide +kernel)⟩ (fun H qq hP hS => ?_)
  refine W.eq (g2 := F0 m 12 ls [.ref qq]) rfl ?_
  refine lv_astore (lv' := [(5, .ref qq), (0, .ref (G.2.2 0)), (1, .int x1), (2, .int x2), (3, .int x3), (4, .int x4)]) hx hb d_GlyphPositionsLaw_kind_12 hl (by decide) rfl (fun ls hl => ?_)
  refine lv_iconst (v := 1) hx hb d_GlyphPositionsLaw_kind_14 (by decide) ?_
  exact q_wret hC hr hlk (Nat.le_of_ble_eq_true rfl) (Nat.le_of_ble_eq_true rfl) hP hS d_GlyphPositionsLaw_kind_15
set_option maxHeartbeats 4000000 in
set_option maxRecDepth 100000 in
theorem cx_kind_3 (l : Launch) (hl0 : l.stackTraces = false) (G : XG) {x1 x2 x3 x4 : Int32} {st : QSt} (hf : xGlyphPositions_kind_t x1 x2 x3 x4 st = some 3) : q_Mw l y_GlyphPositionsLaw_kind b_GlyphPositionsLaw_kind 6 [(0, 9, 12, 15), (0, 9, 16, 25)] ({ frames := 8, cells := 1, slots := 6, locals := 144 } : Room) G.1 (xT G) (wX G) [.ref (G.2.2 0), .int x1, .int x2, .int x3, .int x4] st 2 st := by
  refine q_Mw_of (by decide) (Nat.le_of_ble_eq_true rfl) (wX_fst G) ?_
  intro p e s m args below meth c ls hC hr hlk htab hZ hT hD hA hP hS hl
  have hx := hC.1.1
  have hb := hC.1.2.1
  have hts := hC.1.2.2.2.2
  have hl : lv_has ls 6 [(0, .ref (G.2.2 0)), (1, .int x1), (2, .int x2), (3, .int x3), (4, .int x4)] := hl
  refine lv_aload_n hx hb d_GlyphPositionsLaw_kind_0 rfl (lv_at hl 0 rfl) ?_
  refine lv_iload_n hx hb d_GlyphPositionsLaw_kind_1 rfl (lv_at hl 1 rfl) ?_
  refine lv_iload_n hx hb d_GlyphPositionsLaw_kind_2 rfl (lv_at hl 2 rfl) ?_
  refine lv_iload_n hx hb d_GlyphPositionsLaw_kind_3 rfl (lv_at hl 3 rfl) ?_
  refine lv_iload hx hb d_GlyphPositionsLaw_kind_4 (lv_at hl 4 rfl) ?_
  refine q_callX (As := [.int x1, .int x2, .int x3, .int x4]) (rest := []) (q0 := 0) hC (c_xGlyphPositions_kind_t l hl0 G hf) cal_GP_kind wq_672 ⟨rfl, rfl, (Nat.le_of_ble_eq_true rfl), (Nat.le_of_ble_eq_true rfl)⟩ ⟨(Nat.le_of_ble_eq_true rfl), (Nat.le_of_ble_eq_true rfl)⟩ rfl rfl hP hT (fun U hU hW => hZ.move hW (fun q cell h1 h2 => by rw [hU]; exact q_keep hP hS q cell h1 h2)) hS rfl hl.1 rfl (Nat.le_of_ble_eq_true rfl) d_GlyphPositionsLaw_kind_6 [⟨0, 9, 12, 15⟩] ⟨0, 9, 16, 25⟩ [] (htab.trans rfl) (fun z hz => by rcases List.mem_singleton.mp hz with rfl; exact ⟨by decide, by decide, "java/lang/IllegalArgumentException", hts _ wq_670, hZ.1.2.2⟩) ⟨by decide, by decide, "java/lang/IllegalStateException", hts _ wq_673, hZ.1.1.word _ (by decide +kernel)⟩ (fun H qq hP hS => ?_)
  refine W.eq (g2 := F0 m 16 ls [.ref qq]) rfl ?_
  refine lv_astore (lv' := [(5, .ref qq), (0, .ref (G.2.2 0)), (1, .int x1), (2, .int x2), (3, .int x3), (4, .int x4)]) hx hb d_GlyphPositionsLaw_kind_16 hl (by decide) rfl (fun ls hl => ?_)
  refine lv_iconst (v := 2) hx hb d_GlyphPositionsLaw_kind_18 (by decide) ?_
  exact q_wret hC hr hlk (Nat.le_of_ble_eq_true rfl) (Nat.le_of_ble_eq_true rfl) hP hS d_GlyphPositionsLaw_kind_19
set_option maxHeartbeats 4000000 in
set_option maxRecDepth 100000 in
theorem cw_feature (l : Launch) (G : XG) {N : Nat} {x1 x2 : Int32} {st : QSt} {so : QSt} (hf : xGlyphPositions_feature N x1 x2 st = some so) : q_Mw l y_GlyphPositionsLaw_feature b_GlyphPositionsLaw_feature 4 [(0, 6, 9, 25)] ({ frames := 8, cells := 1, slots := 6, locals := 142 } : Room) G.1 (xT G) (wX G) [.ref (G.2.2 0), .int x1, .int x2] st 0 so := by
  refine q_Mw_of (by decide) (Nat.le_of_ble_eq_true rfl) (wX_fst G) ?_
  intro p e s m args below meth c ls hC hr hlk htab hZ hT hD hA hP hS hl
  have hx := hC.1.1
  have hb := hC.1.2.1
  have hts := hC.1.2.2.2.2
  have hl : lv_has ls 4 [(0, .ref (G.2.2 0)), (1, .int x1), (2, .int x2)] := hl
  refine lv_aload_n hx hb d_GlyphPositionsLaw_feature_0 rfl (lv_at hl 0 rfl) ?_
  refine lv_iload_n hx hb d_GlyphPositionsLaw_feature_1 rfl (lv_at hl 1 rfl) ?_
  refine lv_iload_n hx hb d_GlyphPositionsLaw_feature_2 rfl (lv_at hl 2 rfl) ?_
  refine q_callVv (As := [.int x1, .int x2]) (rest := []) (q0 := 0) hC (c_xGlyphPositions_feature l G hf) cal_GP_feature wq_674 ⟨rfl, rfl, (Nat.le_of_ble_eq_true rfl), (Nat.le_of_ble_eq_true rfl)⟩ rfl rfl hP hD hA hS rfl hl.1 rfl (Nat.le_of_ble_eq_true rfl) d_GlyphPositionsLaw_feature_3 (fun H locs hP hS => ?_)
  refine lv_goto (tgt := 12) hx hb d_GlyphPositionsLaw_feature_6 (by decide) ?_
  refine lv_iconst (v := 0) hx hb d_GlyphPositionsLaw_feature_12 (by decide) ?_
  exact q_wret hC hr hlk (Nat.le_of_ble_eq_true rfl) (Nat.le_of_ble_eq_true rfl) hP hS d_GlyphPositionsLaw_feature_13
set_option maxHeartbeats 4000000 in
set_option maxRecDepth 100000 in
theorem cx_feature_3 (l : Launch) (hl0 : l.stackTraces = false) (G : XG) {N : Nat} {x1 x2 : Int32} {st : QSt} (hf : xGlyphPositions_feature_t N x1 x2 st = some 3) : q_Mw l y_GlyphPositionsLaw_feature b_GlyphPositionsLaw_feature 4 [(0, 6, 9, 25)] ({ frames := 8, cells := 1, slots := 6, locals := 142 } : Room) G.1 (xT G) (wX G) [.ref (G.2.2 0), .int x1, .int x2] st 1 st := by
  refine q_Mw_of (by decide) (Nat.le_of_ble_eq_true rfl) (wX_fst G) ?_
  intro p e s m args below meth c ls hC hr hlk htab hZ hT hD hA hP hS hl
  have hx := hC.1.1
  have hb := hC.1.2.1
  have hts := hC.1.2.2.2.2
  have hl : lv_has ls 4 [(0, .ref (G.2.2 0)), (1, .int x1), (2, .int x2)] := hl
  refine lv_aload_n hx hb d_GlyphPositionsLaw_feature_0 rfl (lv_at hl 0 rfl) ?_
  refine lv_iload_n hx hb d_GlyphPositionsLaw_feature_1 rfl (lv_at hl 1 rfl) ?_
  refine lv_iload_n hx hb d_GlyphPositionsLaw_feature_2 rfl (lv_at hl 2 rfl) ?_
  refine q_callX (As := [.int x1, .int x2]) (rest := []) (q0 := 0) hC (c_xGlyphPositions_feature_t l hl0 G hf) cal_GP_feature wq_674 ⟨rfl, rfl, (Nat.le_of_ble_eq_true rfl), (Nat.le_of_ble_eq_true rfl)⟩ ⟨(Nat.le_of_ble_eq_true rfl), (Nat.le_of_ble_eq_true rfl)⟩ rfl rfl hP hT (fun U hU hW => hZ.move hW (fun q cell h1 h2 => by rw [hU]; exact q_keep hP hS q cell h1 h2)) hS rfl hl.1 rfl (Nat.le_of_ble_eq_true rfl) d_GlyphPositionsLaw_feature_3 [] ⟨0, 6, 9, 25⟩ [] (htab.trans rfl) (fun z hz => by cases hz) ⟨by decide, by decide, "java/lang/IllegalStateException", hts _ wq_673, hZ.1.1.word _ (by decide +kernel)⟩ (fun H qq hP hS => ?_)
  refine W.eq (g2 := F0 m 9 ls [.ref qq]) rfl ?_
  refine lv_astore_n (lv' := [(3, .ref qq), (0, .ref (G.2.2 0)), (1, .int x1), (2, .int x2)]) hx hb d_GlyphPositionsLaw_feature_9 rfl hl (by decide) rfl (fun ls hl => ?_)
  refine lv_iconst (v := 1) hx hb d_GlyphPositionsLaw_feature_10 (by decide) ?_
  exact q_wret hC hr hlk (Nat.le_of_ble_eq_true rfl) (Nat.le_of_ble_eq_true rfl) hP hS d_GlyphPositionsLaw_feature_11
set_option maxHeartbeats 4000000 in
set_option maxRecDepth 100000 in
theorem cw_add (l : Launch) (G : XG) {x1 x2 x3 : Int32} {st : QSt} {ro : Int32} {so : QSt} (hf : xGlyphPositions_add x1 x2 x3 st = some (ro, so)) : q_Mw l y_GlyphPositionsLaw_add b_GlyphPositionsLaw_add 6 [(0, 12, 15, 15), (0, 12, 19, 25)] ({ frames := 8, cells := 1, slots := 6, locals := 143 } : Room) G.1 (xT G) (wX G) [.ref (G.2.2 0), .int x1, .int x2, .int x3, .ref (G.2.2 59)] st 0 (q_pa so 48 0 ro) := by
  refine q_Mw_of (by decide) (Nat.le_of_ble_eq_true rfl) (wX_fst G) ?_
  intro p e s m args below meth c ls hC hr hlk htab hZ hT hD hA hP hS hl
  have hx := hC.1.1
  have hb := hC.1.2.1
  have hts := hC.1.2.2.2.2
  have hl : lv_has ls 6 [(0, .ref (G.2.2 0)), (1, .int x1), (2, .int x2), (3, .int x3), (4, .ref (G.2.2 59))] := hl
  refine lv_aload hx hb d_GlyphPositionsLaw_add_0 (lv_at hl 4 rfl) ?_
  refine lv_iconst (v := 0) hx hb d_GlyphPositionsLaw_add_2 (by decide) ?_
  refine lv_aload_n hx hb d_GlyphPositionsLaw_add_3 rfl (lv_at hl 0 rfl) ?_
  refine lv_iload_n hx hb d_GlyphPositionsLaw_add_4 rfl (lv_at hl 1 rfl) ?_
  refine lv_iload_n hx hb d_GlyphPositionsLaw_add_5 rfl (lv_at hl 2 rfl) ?_
  refine lv_iload_n hx hb d_GlyphPositionsLaw_add_6 rfl (lv_at hl 3 rfl) ?_
  refine q_callVi (As := [.int x1, .int x2, .int x3]) (rest := [.int 0, .ref (G.2.2 59)]) (q0 := 0) hC (c_xGlyphPositions_add l G hf) cal_GP_add wq_675 ⟨rfl, rfl, (Nat.le_of_ble_eq_true rfl), (Nat.le_of_ble_eq_true rfl)⟩ rfl rfl hP hD hA hS rfl hl.1 rfl (Nat.le_of_ble_eq_true rfl) d_GlyphPositionsLaw_add_7 (fun H locs hP hS => ?_)
  refine lv_i2l (v := ro.toInt64) hx hb d_GlyphPositionsLaw_add_10 rfl ?_
  refine xs_out hC hP hD hS d_GlyphPositionsLaw_add_11 (fun H locs hP hS => ?_)
  refine lv_goto (tgt := 23) hx hb d_GlyphPositionsLaw_add_12 (by decide) ?_
  refine lv_iconst (v := 0) hx hb d_GlyphPositionsLaw_add_23 (by decide) ?_
  exact q_wret hC hr hlk (Nat.le_of_ble_eq_true rfl) (Nat.le_of_ble_eq_true rfl) hP hS d_GlyphPositionsLaw_add_24
set_option maxHeartbeats 4000000 in
set_option maxRecDepth 100000 in
theorem cx_add_2 (l : Launch) (hl0 : l.stackTraces = false) (G : XG) {x1 x2 x3 : Int32} {st : QSt} (hf : xGlyphPositions_add_t x1 x2 x3 st = some 2) : q_Mw l y_GlyphPositionsLaw_add b_GlyphPositionsLaw_add 6 [(0, 12, 15, 15), (0, 12, 19, 25)] ({ frames := 8, cells := 1, slots := 6, locals := 143 } : Room) G.1 (xT G) (wX G) [.ref (G.2.2 0), .int x1, .int x2, .int x3, .ref (G.2.2 59)] st 1 st := by
  refine q_Mw_of (by decide) (Nat.le_of_ble_eq_true rfl) (wX_fst G) ?_
  intro p e s m args below meth c ls hC hr hlk htab hZ hT hD hA hP hS hl
  have hx := hC.1.1
  have hb := hC.1.2.1
  have hts := hC.1.2.2.2.2
  have hl : lv_has ls 6 [(0, .ref (G.2.2 0)), (1, .int x1), (2, .int x2), (3, .int x3), (4, .ref (G.2.2 59))] := hl
  refine lv_aload hx hb d_GlyphPositionsLaw_add_0 (lv_at hl 4 rfl) ?_
  refine lv_iconst (v := 0) hx hb d_GlyphPositionsLaw_add_2 (by decide) ?_
  refine lv_aload_n hx hb d_GlyphPositionsLaw_add_3 rfl (lv_at hl 0 rfl) ?_
  refine lv_iload_n hx hb d_GlyphPositionsLaw_add_4 rfl (lv_at hl 1 rfl) ?_
  refine lv_iload_n hx hb d_GlyphPositionsLaw_add_5 rfl (lv_at hl 2 rfl) ?_
  refine lv_iload_n hx hb d_GlyphPositionsLaw_add_6 rfl (lv_at hl 3 rfl) ?_
  refine q_callX (As := [.int x1, .int x2, .int x3]) (rest := [.int 0, .ref (G.2.2 59)]) (q0 := 0) hC (c_xGlyphPositions_add_t l hl0 G hf) cal_GP_add wq_675 ⟨rfl, rfl, (Nat.le_of_ble_eq_true rfl), (Nat.le_of_ble_eq_true rfl)⟩ ⟨(Nat.le_of_ble_eq_true rfl), (Nat.le_of_ble_eq_true rfl)⟩ rfl rfl hP hT (fun U hU hW => hZ.move hW (fun q cell h1 h2 => by rw [hU]; exact q_keep hP hS q cell h1 h2)) hS rfl hl.1 rfl (Nat.le_of_ble_eq_true rfl) d_GlyphPositionsLaw_add_7 [] ⟨0, 12, 15, 15⟩ [⟨0, 12, 19, 25⟩] (htab.trans rfl) (fun z hz => by cases hz) ⟨by decide, by decide, "java/lang/IllegalArgumentException", hts _ wq_670, hZ.1.1.word _ (by decide +kernel)⟩ (fun H qq hP hS => ?_)
  refine W.eq (g2 := F0 m 15 ls [.ref qq]) rfl ?_
  refine lv_astore (lv' := [(5, .ref qq), (0, .ref (G.2.2 0)), (1, .int x1), (2, .int x2), (3, .int x3), (4, .ref (G.2.2 59))]) hx hb d_GlyphPositionsLaw_add_15 hl (by decide) rfl (fun ls hl => ?_)
  refine lv_iconst (v := 1) hx hb d_GlyphPositionsLaw_add_17 (by decide) ?_
  exact q_wret hC hr hlk (Nat.le_of_ble_eq_true rfl) (Nat.le_of_ble_eq_true rfl) hP hS d_GlyphPositionsLaw_add_18
set_option maxHeartbeats 4000000 in
set_option maxRecDepth 100000 in
theorem cx_add_3 (l : Launch) (hl0 : l.stackTraces = false) (G : XG) {x1 x2 x3 : Int32} {st : QSt} (hf : xGlyphPositions_add_t x1 x2 x3 st = some 3) : q_Mw l y_GlyphPositionsLaw_add b_GlyphPositionsLaw_add 6 [(0, 12, 15, 15), (0, 12, 19, 25)] ({ frames := 8, cells := 1, slots := 6, locals := 143 } : Room) G.1 (xT G) (wX G) [.ref (G.2.2 0), .int x1, .int x2, .int x3, .ref (G.2.2 59)] st 2 st := by
  refine q_Mw_of (by decide) (Nat.le_of_ble_eq_true rfl) (wX_fst G) ?_
  intro p e s m args below meth c ls hC hr hlk htab hZ hT hD hA hP hS hl
  have hx := hC.1.1
  have hb := hC.1.2.1
  have hts := hC.1.2.2.2.2
  have hl : lv_has ls 6 [(0, .ref (G.2.2 0)), (1, .int x1), (2, .int x2), (3, .int x3), (4, .ref (G.2.2 59))] := hl
  refine lv_aload hx hb d_GlyphPositionsLaw_add_0 (lv_at hl 4 rfl) ?_
  refine lv_iconst (v := 0) hx hb d_GlyphPositionsLaw_add_2 (by decide) ?_
  refine lv_aload_n hx hb d_GlyphPositionsLaw_add_3 rfl (lv_at hl 0 rfl) ?_
  refine lv_iload_n hx hb d_GlyphPositionsLaw_add_4 rfl (lv_at hl 1 rfl) ?_
  refine lv_iload_n hx hb d_GlyphPositionsLaw_add_5 rfl (lv_at hl 2 rfl) ?_
  refine lv_iload_n hx hb d_GlyphPositionsLaw_add_6 rfl (lv_at hl 3 rfl) ?_
  refine q_callX (As := [.int x1, .int x2, .int x3]) (rest := [.int 0, .ref (G.2.2 59)]) (q0 := 0) hC (c_xGlyphPositions_add_t l hl0 G hf) cal_GP_add wq_675 ⟨rfl, rfl, (Nat.le_of_ble_eq_true rfl), (Nat.le_of_ble_eq_true rfl)⟩ ⟨(Nat.le_of_ble_eq_true rfl), (Nat.le_of_ble_eq_true rfl)⟩ rfl rfl hP hT (fun U hU hW => hZ.move hW (fun q cell h1 h2 => by rw [hU]; exact q_keep hP hS q cell h1 h2)) hS rfl hl.1 rfl (Nat.le_of_ble_eq_true rfl) d_GlyphPositionsLaw_add_7 [⟨0, 12, 15, 15⟩] ⟨0, 12, 19, 25⟩ [] (htab.trans rfl) (fun z hz => by rcases List.mem_singleton.mp hz with rfl; exact ⟨by decide, by decide, "java/lang/IllegalArgumentException", hts _ wq_670, hZ.1.2.2⟩) ⟨by decide, by decide, "java/lang/IllegalStateException", hts _ wq_673, hZ.1.1.word _ (by decide +kernel)⟩ (fun H qq hP hS => ?_)
  refine W.eq (g2 := F0 m 19 ls [.ref qq]) rfl ?_
  refine lv_astore (lv' := [(5, .ref qq), (0, .ref (G.2.2 0)), (1, .int x1), (2, .int x2), (3, .int x3), (4, .ref (G.2.2 59))]) hx hb d_GlyphPositionsLaw_add_19 hl (by decide) rfl (fun ls hl => ?_)
  refine lv_iconst (v := 2) hx hb d_GlyphPositionsLaw_add_21 (by decide) ?_
  exact q_wret hC hr hlk (Nat.le_of_ble_eq_true rfl) (Nat.le_of_ble_eq_true rfl) hP hS d_GlyphPositionsLaw_add_22
set_option maxHeartbeats 4000000 in
set_option maxRecDepth 100000 in
theorem cw_set (l : Launch) (G : XG) {N : Nat} {x1 : Int32} {st : QSt} {ro : Int32} {so : QSt} (hf : xGlyphPositions_set N x1 st = some (ro, so)) : q_Mw l y_GlyphPositionsLaw_set b_GlyphPositionsLaw_set 4 [(0, 9, 12, 25)] ({ frames := 8, cells := 1, slots := 6, locals := 203 } : Room) G.1 (xT G) (wX G) [.ref (G.2.2 0), .int x1, .ref (G.2.2 59)] st 0 (q_pa so 48 0 ro) := by
  refine q_Mw_of (by decide) (Nat.le_of_ble_eq_true rfl) (wX_fst G) ?_
  intro p e s m args below meth c ls hC hr hlk htab hZ hT hD hA hP hS hl
  have hx := hC.1.1
  have hb := hC.1.2.1
  have hts := hC.1.2.2.2.2
  have hl : lv_has ls 4 [(0, .ref (G.2.2 0)), (1, .int x1), (2, .ref (G.2.2 59))] := hl
  refine lv_aload_n hx hb d_GlyphPositionsLaw_set_0 rfl (lv_at hl 2 rfl) ?_
  refine lv_iconst (v := 0) hx hb d_GlyphPositionsLaw_set_1 (by decide) ?_
  refine lv_aload_n hx hb d_GlyphPositionsLaw_set_2 rfl (lv_at hl 0 rfl) ?_
  refine lv_iload_n hx hb d_GlyphPositionsLaw_set_3 rfl (lv_at hl 1 rfl) ?_
  refine q_callVi (As := [.int x1]) (rest := [.int 0, .ref (G.2.2 59)]) (q0 := 0) hC (c_xGlyphPositions_set l G hf) cal_GP_set wq_676 ⟨rfl, rfl, (Nat.le_of_ble_eq_true rfl), (Nat.le_of_ble_eq_true rfl)⟩ rfl rfl hP hD hA hS rfl hl.1 rfl (Nat.le_of_ble_eq_true rfl) d_GlyphPositionsLaw_set_4 (fun H locs hP hS => ?_)
  refine lv_i2l (v := ro.toInt64) hx hb d_GlyphPositionsLaw_set_7 rfl ?_
  refine xs_out hC hP hD hS d_GlyphPositionsLaw_set_8 (fun H locs hP hS => ?_)
  refine lv_goto (tgt := 15) hx hb d_GlyphPositionsLaw_set_9 (by decide) ?_
  refine lv_iconst (v := 0) hx hb d_GlyphPositionsLaw_set_15 (by decide) ?_
  exact q_wret hC hr hlk (Nat.le_of_ble_eq_true rfl) (Nat.le_of_ble_eq_true rfl) hP hS d_GlyphPositionsLaw_set_16
set_option maxHeartbeats 4000000 in
set_option maxRecDepth 100000 in
theorem cx_set_3 (l : Launch) (hl0 : l.stackTraces = false) (G : XG) {N : Nat} {x1 : Int32} {st : QSt} (hf : xGlyphPositions_set_t N x1 st = some 3) : q_Mw l y_GlyphPositionsLaw_set b_GlyphPositionsLaw_set 4 [(0, 9, 12, 25)] ({ frames := 8, cells := 1, slots := 6, locals := 203 } : Room) G.1 (xT G) (wX G) [.ref (G.2.2 0), .int x1, .ref (G.2.2 59)] st 1 st := by
  refine q_Mw_of (by decide) (Nat.le_of_ble_eq_true rfl) (wX_fst G) ?_
  intro p e s m args below meth c ls hC hr hlk htab hZ hT hD hA hP hS hl
  have hx := hC.1.1
  have hb := hC.1.2.1
  have hts := hC.1.2.2.2.2
  have hl : lv_has ls 4 [(0, .ref (G.2.2 0)), (1, .int x1), (2, .ref (G.2.2 59))] := hl
  refine lv_aload_n hx hb d_GlyphPositionsLaw_set_0 rfl (lv_at hl 2 rfl) ?_
  refine lv_iconst (v := 0) hx hb d_GlyphPositionsLaw_set_1 (by decide) ?_
  refine lv_aload_n hx hb d_GlyphPositionsLaw_set_2 rfl (lv_at hl 0 rfl) ?_
  refine lv_iload_n hx hb d_GlyphPositionsLaw_set_3 rfl (lv_at hl 1 rfl) ?_
  refine q_callX (As := [.int x1]) (rest := [.int 0, .ref (G.2.2 59)]) (q0 := 0) hC (c_xGlyphPositions_set_t l hl0 G hf) cal_GP_set wq_676 ⟨rfl, rfl, (Nat.le_of_ble_eq_true rfl), (Nat.le_of_ble_eq_true rfl)⟩ ⟨(Nat.le_of_ble_eq_true rfl), (Nat.le_of_ble_eq_true rfl)⟩ rfl rfl hP hT (fun U hU hW => hZ.move hW (fun q cell h1 h2 => by rw [hU]; exact q_keep hP hS q cell h1 h2)) hS rfl hl.1 rfl (Nat.le_of_ble_eq_true rfl) d_GlyphPositionsLaw_set_4 [] ⟨0, 9, 12, 25⟩ [] (htab.trans rfl) (fun z hz => by cases hz) ⟨by decide, by decide, "java/lang/IllegalStateException", hts _ wq_673, hZ.1.1.word _ (by decide +kernel)⟩ (fun H qq hP hS => ?_)
  refine W.eq (g2 := F0 m 12 ls [.ref qq]) rfl ?_
  refine lv_astore_n (lv' := [(3, .ref qq), (0, .ref (G.2.2 0)), (1, .int x1), (2, .ref (G.2.2 59))]) hx hb d_GlyphPositionsLaw_set_12 rfl hl (by decide) rfl (fun ls hl => ?_)
  refine lv_iconst (v := 1) hx hb d_GlyphPositionsLaw_set_13 (by decide) ?_
  exact q_wret hC hr hlk (Nat.le_of_ble_eq_true rfl) (Nat.le_of_ble_eq_true rfl) hP hS d_GlyphPositionsLaw_set_14
set_option maxHeartbeats 4000000 in
set_option maxRecDepth 100000 in
theorem cw_place (l : Launch) (G : XG) {N : Nat} {x1 x2 : Int32} {st : QSt} {ro : Int32} (hf : xGlyphPositions_place N x1 x2 st = some ro) : q_Mw l y_GlyphPositionsLaw_place b_GlyphPositionsLaw_place 5 [(0, 10, 13, 13)] ({ frames := 8, cells := 1, slots := 6, locals := 142 } : Room) G.1 (xT G) (wX G) [.ref (G.2.2 0), .int x1, .int x2, .ref (G.2.2 59)] st 0 (q_pa st 48 0 ro) := by
  refine q_Mw_of (by decide) (Nat.le_of_ble_eq_true rfl) (wX_fst G) ?_
  intro p e s m args below meth c ls hC hr hlk htab hZ hT hD hA hP hS hl
  have hx := hC.1.1
  have hb := hC.1.2.1
  have hts := hC.1.2.2.2.2
  have hl : lv_has ls 5 [(0, .ref (G.2.2 0)), (1, .int x1), (2, .int x2), (3, .ref (G.2.2 59))] := hl
  refine lv_aload_n hx hb d_GlyphPositionsLaw_place_0 rfl (lv_at hl 3 rfl) ?_
  refine lv_iconst (v := 0) hx hb d_GlyphPositionsLaw_place_1 (by decide) ?_
  refine lv_aload_n hx hb d_GlyphPositionsLaw_place_2 rfl (lv_at hl 0 rfl) ?_
  refine lv_iload_n hx hb d_GlyphPositionsLaw_place_3 rfl (lv_at hl 1 rfl) ?_
  refine lv_iload_n hx hb d_GlyphPositionsLaw_place_4 rfl (lv_at hl 2 rfl) ?_
  refine q_callVp (As := [.int x1, .int x2]) (rest := [.int 0, .ref (G.2.2 59)]) (q0 := 0) hC (c_xGlyphPositions_place l G hf) cal_GP_place wq_677 ⟨rfl, rfl, (Nat.le_of_ble_eq_true rfl), (Nat.le_of_ble_eq_true rfl)⟩ rfl rfl hP hT hS rfl hl.1 rfl (Nat.le_of_ble_eq_true rfl) d_GlyphPositionsLaw_place_5 (fun H locs hP hS => ?_)
  refine lv_i2l (v := ro.toInt64) hx hb d_GlyphPositionsLaw_place_8 rfl ?_
  refine xs_out hC hP hD hS d_GlyphPositionsLaw_place_9 (fun H locs hP hS => ?_)
  refine lv_goto (tgt := 17) hx hb d_GlyphPositionsLaw_place_10 (by decide) ?_
  refine lv_iconst (v := 0) hx hb d_GlyphPositionsLaw_place_17 (by decide) ?_
  exact q_wret hC hr hlk (Nat.le_of_ble_eq_true rfl) (Nat.le_of_ble_eq_true rfl) hP hS d_GlyphPositionsLaw_place_18
set_option maxHeartbeats 4000000 in
set_option maxRecDepth 100000 in
theorem cx_place_1 (l : Launch) (hl0 : l.stackTraces = false) (G : XG) {N : Nat} {x1 x2 : Int32} {st : QSt} (hf : xGlyphPositions_place_t N x1 x2 st = some 1) : q_Mw l y_GlyphPositionsLaw_place b_GlyphPositionsLaw_place 5 [(0, 10, 13, 13)] ({ frames := 8, cells := 1, slots := 6, locals := 142 } : Room) G.1 (xT G) (wX G) [.ref (G.2.2 0), .int x1, .int x2, .ref (G.2.2 59)] st 1 st := by
  refine q_Mw_of (by decide) (Nat.le_of_ble_eq_true rfl) (wX_fst G) ?_
  intro p e s m args below meth c ls hC hr hlk htab hZ hT hD hA hP hS hl
  have hx := hC.1.1
  have hb := hC.1.2.1
  have hts := hC.1.2.2.2.2
  have hl : lv_has ls 5 [(0, .ref (G.2.2 0)), (1, .int x1), (2, .int x2), (3, .ref (G.2.2 59))] := hl
  refine lv_aload_n hx hb d_GlyphPositionsLaw_place_0 rfl (lv_at hl 3 rfl) ?_
  refine lv_iconst (v := 0) hx hb d_GlyphPositionsLaw_place_1 (by decide) ?_
  refine lv_aload_n hx hb d_GlyphPositionsLaw_place_2 rfl (lv_at hl 0 rfl) ?_
  refine lv_iload_n hx hb d_GlyphPositionsLaw_place_3 rfl (lv_at hl 1 rfl) ?_
  refine lv_iload_n hx hb d_GlyphPositionsLaw_place_4 rfl (lv_at hl 2 rfl) ?_
  refine q_callX (As := [.int x1, .int x2]) (rest := [.int 0, .ref (G.2.2 59)]) (q0 := 0) hC (c_xGlyphPositions_place_t l hl0 G hf) cal_GP_place wq_677 ⟨rfl, rfl, (Nat.le_of_ble_eq_true rfl), (Nat.le_of_ble_eq_true rfl)⟩ ⟨(Nat.le_of_ble_eq_true rfl), (Nat.le_of_ble_eq_true rfl)⟩ rfl rfl hP hT (fun U hU hW => hZ.move hW (fun q cell h1 h2 => by rw [hU]; exact q_keep hP hS q cell h1 h2)) hS rfl hl.1 rfl (Nat.le_of_ble_eq_true rfl) d_GlyphPositionsLaw_place_5 [] ⟨0, 10, 13, 13⟩ [] (htab.trans rfl) (fun z hz => by cases hz) ⟨by decide, by decide, "java/lang/IndexOutOfBoundsException", hts _ wq_669, hZ.1.1.word _ (by decide +kernel)⟩ (fun H qq hP hS => ?_)
  refine W.eq (g2 := F0 m 13 ls [.ref qq]) rfl ?_
  refine lv_astore (lv' := [(4, .ref qq), (0, .ref (G.2.2 0)), (1, .int x1), (2, .int x2), (3, .ref (G.2.2 59))]) hx hb d_GlyphPositionsLaw_place_13 hl (by decide) rfl (fun ls hl => ?_)
  refine lv_iconst (v := 1) hx hb d_GlyphPositionsLaw_place_15 (by decide) ?_
  exact q_wret hC hr hlk (Nat.le_of_ble_eq_true rfl) (Nat.le_of_ble_eq_true rfl) hP hS d_GlyphPositionsLaw_place_16
