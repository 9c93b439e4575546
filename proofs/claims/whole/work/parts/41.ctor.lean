set_option maxHeartbeats 4000000 in
set_option maxRecDepth 100000 in
theorem ki_Table (l : Launch) (D : va_G) (cA : Nat → ClassId) (h0 sz : Nat) : Met l y_Table_init (Cond.code y_Table_init b_Table_init 1 none :: q_tbl) ({ frames := 1, cells := 1, slots := 8192, locals := 12 } : Room) (va_Pc [.ref h0] (q_PreK D cA [(h0, .inr (6, [.null, .int 0]))] sz)) (va_Qv (fun _ : (Nat → Nat) => True) (fun a t => va_P D vwCl [(h0, .inr (6, [.ref (a 1), .int 0])), ((a 1), .inl (cA 1, 8192, .inl (fun _ => 0)))] t.heap ∧ va_D (va_A [(h0, .inr (6, [.null, .int 0]))] sz) [(h0, .inr (6, [.ref (a 1), .int 0])), ((a 1), .inl (cA 1, 8192, .inl (fun _ => 0)))]) (va_A [(h0, .inr (6, [.null, .int 0]))] sz)) 1 8192 (va_A [(h0, .inr (6, [.null, .int 0]))] sz) := by
  refine Met.ofW (cc := b_Table_init) (maxL := 1) (ret := none) (by decide) rfl ?_
  intro p e s m args below meth c s₁ B hml hv
  obtain ⟨rfl, hsz, hP, hK, hD0, hNt⟩ := hv
  have hx := B.exec
  have hb := B.bytes
  have hr := B.returns
  have hts : ∀ w ∈ q_tbl, w.before _ s = true := fun w h => atoms_spec (ws := Cond.code y_Table_init b_Table_init 1 none :: q_tbl) B.pre w (List.mem_cons_of_mem _ h)
  have hown : s.vm.findClass R_Table = some m.cls := findClass_of_methodNamed B.named
  have hlocks := B.notSynchronized
  have hin : meth.name = "<init>" := (name_of_methodNamed B.named B.method).1
  subst hsz
  have hD := hD0.self (sz := s.heap.size)
  generalize hAe : va_A [(h0, .inr (6, [.null, .int 0]))] s.heap.size = A at hD ⊢
  have hA : ∀ q : Nat, s.heap.size ≤ q → A q := fun q h => by rw [← hAe]; exact Or.inr h
  have hS : va_S A s.heap s.heap [] := va_S.rf
  have hl := lv_entry ([.ref h0]) (n := 1) (Nat.le_of_ble_eq_true rfl)
  rw [lg_entry_eq]
  generalize (lg_sl ([.ref h0]) ++ List.replicate (1 - (lg_sl ([.ref h0])).length) Slot.unset).toArray = ls at hl ⊢
  have hl : lv_has ls 1 [(0, .ref h0)] := hl
  refine lv_aload_n hx hb d_Table_init_0 rfl (lv_at hl 0 rfl) ?_
  refine W.objInit hx hb hown (hts _ wq_604) (hts _ wq_605) (hts _ wq_606) rfl (by rw [hml]; exact hl.1) rfl d_Table_init_1 (Nat.le_of_ble_eq_true rfl) (Nat.le_of_ble_eq_true rfl) ?_
  refine W.eq (g2 := F0 m 4 ls []) rfl ?_
  refine lv_aload_n hx hb d_Table_init_4 rfl (lv_at hl 0 rfl) ?_
  refine lv_sipush (v := 8192) hx hb d_Table_init_5 (by decide) ?_
  refine q_newa (atype := .byte) (ty := .byte) (a0 := (8192, .inl (fun _ => 0))) (N' := 8192) 1 rfl (by intro C h; cases h) hx hb (hts _ wq_607) rfl hK hP hD hS hA (fun _ => rfl) (by decide) rfl (by decide) (Nat.le_of_ble_eq_true rfl) (Nat.le_of_ble_eq_true rfl) d_Table_init_8 (fun q1 H hP hD hS => ?_)
  have hP : va_P D vwCl [(h0, .inr (6, [.null, .int 0])), (q1, .inl (cA 1, 8192, .inl (fun _ => 0)))] H := hP
  have hD : va_D A [(h0, .inr (6, [.null, .int 0])), (q1, .inl (cA 1, 8192, .inl (fun _ => 0)))] := hD
  refine W.widen (k := 1) (n := 8192) (Nat.le_of_ble_eq_true rfl) (Nat.le_of_ble_eq_true rfl) ?_
  refine va_putF (D := D) (ty := (.array .byte)) (ci := 6) (v := .ref q1) (C := R_Table) (T := T_Table) (N := 2) hx hb hts in_Table ty_Table tyok_Table nm_Table hown hK hP hD hS 0 rfl rfl 0 (by decide) (hts _ wq_1) (fun _ h9 => h9) rfl hin rfl (by decide +kernel) rfl rfl (Nat.le_of_ble_eq_true rfl) d_Table_init_10 (fun H locs hP hD hS => ?_)
  have hP : va_P D vwCl [(h0, .inr (6, [.ref q1, .int 0])), (q1, .inl (cA 1, 8192, .inl (fun _ => 0)))] H := hP
  have hD : va_D A [(h0, .inr (6, [.ref q1, .int 0])), (q1, .inl (cA 1, 8192, .inl (fun _ => 0)))] := hD
  exact W.vret hx hb hr (fun t ht hW => ⟨⟨fun k => match k with | 1 => q1 | _ => 0, rfl, trivial, by rw [ht]; exact hP, hD⟩, hS.F ht⟩) hS.2.2 d_Table_init_13
set_option maxHeartbeats 4000000 in
set_option maxRecDepth 100000 in
theorem ki_Loader (l : Launch) (D : va_G) (cA : Nat → ClassId) (h0 p1 sz : Nat) : Met l y_Loader_init (Cond.code y_Loader_init b_Loader_init 2 none :: q_tbl) ({ frames := 1, cells := 0, slots := 0, locals := 12 } : Room) (va_Pc [.ref h0, .ref p1] (q_PreK D cA [(h0, .inr (3, [.null, .int 0]))] sz)) (va_Qv (fun _ : (Nat → Nat) => True) (fun a t => va_P D vwCl [(h0, .inr (3, [.ref p1, .int 0]))] t.heap ∧ va_D (va_A [(h0, .inr (3, [.null, .int 0]))] sz) [(h0, .inr (3, [.ref p1, .int 0]))]) (va_A [(h0, .inr (3, [.null, .int 0]))] sz)) 0 0 (va_A [(h0, .inr (3, [.null, .int 0]))] sz) := by
  refine Met.ofW (cc := b_Loader_init) (maxL := 2) (ret := none) (by decide) rfl ?_
  intro p e s m args below meth c s₁ B hml hv
  obtain ⟨rfl, hsz, hP, hK, hD0, hNt⟩ := hv
  have hx := B.exec
  have hb := B.bytes
  have hr := B.returns
  have hts : ∀ w ∈ q_tbl, w.before _ s = true := fun w h => atoms_spec (ws := Cond.code y_Loader_init b_Loader_init 2 none :: q_tbl) B.pre w (List.mem_cons_of_mem _ h)
  have hown : s.vm.findClass R_Loader = some m.cls := findClass_of_methodNamed B.named
  have hlocks := B.notSynchronized
  have hin : meth.name = "<init>" := (name_of_methodNamed B.named B.method).1
  subst hsz
  have hD := hD0.self (sz := s.heap.size)
  generalize hAe : va_A [(h0, .inr (3, [.null, .int 0]))] s.heap.size = A at hD ⊢
  have hA : ∀ q : Nat, s.heap.size ≤ q → A q := fun q h => by rw [← hAe]; exact Or.inr h
  have hS : va_S A s.heap s.heap [] := va_S.rf
  have hl := lv_entry ([.ref h0, .ref p1]) (n := 2) (Nat.le_of_ble_eq_true rfl)
  rw [lg_entry_eq]
  generalize (lg_sl ([.ref h0, .ref p1]) ++ List.replicate (2 - (lg_sl ([.ref h0, .ref p1])).length) Slot.unset).toArray = ls at hl ⊢
  have hl : lv_has ls 2 [(0, .ref h0), (1, .ref p1)] := hl
  refine lv_aload_n hx hb d_Loader_init_0 rfl (lv_at hl 0 rfl) ?_
  refine W.objInit hx hb hown (hts _ wq_608) (hts _ wq_605) (hts _ wq_606) rfl (by rw [hml]; exact hl.1) rfl d_Loader_init_1 (Nat.le_of_ble_eq_true rfl) (Nat.le_of_ble_eq_true rfl) ?_
  refine W.eq (g2 := F0 m 4 ls []) rfl ?_
  refine lv_aload_n hx hb d_Loader_init_4 rfl (lv_at hl 0 rfl) ?_
  refine lv_aload_n hx hb d_Loader_init_5 rfl (lv_at hl 1 rfl) ?_
  refine va_putF (D := D) (ty := (.object "GlyphPositions$Table")) (ci := 3) (v := .ref p1) (C := R_Loader) (T := T_Loader) (N := 2) hx hb hts in_Loader ty_Loader tyok_Loader nm_Loader hown hK hP hD hS 0 rfl rfl 0 (by decide) (hts _ wq_8) (fun _ h9 => h9) rfl hin rfl (by decide +kernel) rfl rfl (Nat.le_of_ble_eq_true rfl) d_Loader_init_6 (fun H locs hP hD hS => ?_)
  have hP : va_P D vwCl [(h0, .inr (3, [.ref p1, .int 0]))] H := hP
  have hD : va_D A [(h0, .inr (3, [.ref p1, .int 0]))] := hD
  exact W.vret hx hb hr (fun t ht hW => ⟨⟨fun _ => 0, rfl, trivial, by rw [ht]; exact hP, hD⟩, hS.F ht⟩) hS.2.2 d_Loader_init_9
set_option maxHeartbeats 4000000 in
set_option maxRecDepth 100000 in
theorem ki_Kinds (l : Launch) (D : va_G) (cA : Nat → ClassId) (h0 sz : Nat) : Met l y_Kinds_init (Cond.code y_Kinds_init b_Kinds_init 1 none :: q_tbl) ({ frames := 1, cells := 4, slots := 1024, locals := 12 } : Room) (va_Pc [.ref h0] (q_PreK D cA [(h0, .inr (2, [.null, .null, .null, .null, .int 0]))] sz)) (va_Qv (fun _ : (Nat → Nat) => True) (fun a t => va_P D vwCl [(h0, .inr (2, [.ref (a 1), .ref (a 2), .ref (a 3), .ref (a 4), .int 0])), ((a 1), .inl (cA 0, 256, .inl (fun _ => 0))), ((a 2), .inl (cA 0, 256, .inl (fun _ => 0))), ((a 3), .inl (cA 0, 256, .inl (fun _ => 0))), ((a 4), .inl (cA 0, 256, .inl (fun _ => 0)))] t.heap ∧ va_D (va_A [(h0, .inr (2, [.null, .null, .null, .null, .int 0]))] sz) [(h0, .inr (2, [.ref (a 1), .ref (a 2), .ref (a 3), .ref (a 4), .int 0])), ((a 1), .inl (cA 0, 256, .inl (fun _ => 0))), ((a 2), .inl (cA 0, 256, .inl (fun _ => 0))), ((a 3), .inl (cA 0, 256, .inl (fun _ => 0))), ((a 4), .inl (cA 0, 256, .inl (fun _ => 0)))]) (va_A [(h0, .inr (2, [.null, .null, .null, .null, .int 0]))] sz)) 4 1024 (va_A [(h0, .inr (2, [.null, .null, .null, .null, .int 0]))] sz) := by
  refine Met.ofW (cc := b_Kinds_init) (maxL := 1) (ret := none) (by decide) rfl ?_
  intro p e s m args below meth c s₁ B hml hv
  obtain ⟨rfl, hsz, hP, hK, hD0, hNt⟩ := hv
  have hx := B.exec
  have hb := B.bytes
  have hr := B.returns
  have hts : ∀ w ∈ q_tbl, w.before _ s = true := fun w h => atoms_spec (ws := Cond.code y_Kinds_init b_Kinds_init 1 none :: q_tbl) B.pre w (List.mem_cons_of_mem _ h)
  have hown : s.vm.findClass R_Kinds = some m.cls := findClass_of_methodNamed B.named
  have hlocks := B.notSynchronized
  have hin : meth.name = "<init>" := (name_of_methodNamed B.named B.method).1
  subst hsz
  have hD := hD0.self (sz := s.heap.size)
  generalize hAe : va_A [(h0, .inr (2, [.null, .null, .null, .null, .int 0]))] s.heap.size = A at hD ⊢
  have hA : ∀ q : Nat, s.heap.size ≤ q → A q := fun q h => by rw [← hAe]; exact Or.inr h
  have hS : va_S A s.heap s.heap [] := va_S.rf
  have hl := lv_entry ([.ref h0]) (n := 1) (Nat.le_of_ble_eq_true rfl)
  rw [lg_entry_eq]
  generalize (lg_sl ([.ref h0]) ++ List.replicate (1 - (lg_sl ([.ref h0])).length) Slot.unset).toArray = ls at hl ⊢
  have hl : lv_has ls 1 [(0, .ref h0)] := hl
  refine lv_aload_n hx hb d_Kinds_init_0 rfl (lv_at hl 0 rfl) ?_
  refine W.objInit hx hb hown (hts _ wq_609) (hts _ wq_605) (hts _ wq_606) rfl (by rw [hml]; exact hl.1) rfl d_Kinds_init_1 (Nat.le_of_ble_eq_true rfl) (Nat.le_of_ble_eq_true rfl) ?_
  refine W.eq (g2 := F0 m 4 ls []) rfl ?_
  refine lv_aload_n hx hb d_Kinds_init_4 rfl (lv_at hl 0 rfl) ?_
  refine lv_sipush (v := 256) hx hb d_Kinds_init_5 (by decide) ?_
  refine q_newa (atype := .int) (ty := .int) (a0 := (256, .inl (fun _ => 0))) (N' := 256) 0 rfl (by intro C h; cases h) hx hb (hts _ wq_610) rfl hK hP hD hS hA (fun _ => rfl) (by decide) rfl (by decide) (Nat.le_of_ble_eq_true rfl) (Nat.le_of_ble_eq_true rfl) d_Kinds_init_8 (fun q1 H hP hD hS => ?_)
  have hP : va_P D vwCl [(h0, .inr (2, [.null, .null, .null, .null, .int 0])), (q1, .inl (cA 0, 256, .inl (fun _ => 0)))] H := hP
  have hD : va_D A [(h0, .inr (2, [.null, .null, .null, .null, .int 0])), (q1, .inl (cA 0, 256, .inl (fun _ => 0)))] := hD
  refine W.widen (k := 1) (n := 256) (Nat.le_of_ble_eq_true rfl) (Nat.le_of_ble_eq_true rfl) ?_
  refine va_putF (D := D) (ty := (.array .int)) (ci := 2) (v := .ref q1) (C := R_Kinds) (T := T_Kinds) (N := 5) hx hb hts in_Kinds ty_Kinds tyok_Kinds nm_Kinds hown hK hP hD hS 0 rfl rfl 0 (by decide) (hts _ wq_43) (fun _ h9 => h9) rfl hin rfl (by decide +kernel) rfl rfl (Nat.le_of_ble_eq_true rfl) d_Kinds_init_10 (fun H locs hP hD hS => ?_)
  have hP : va_P D vwCl [(h0, .inr (2, [.ref q1, .null, .null, .null, .int 0])), (q1, .inl (cA 0, 256, .inl (fun _ => 0)))] H := hP
  have hD : va_D A [(h0, .inr (2, [.ref q1, .null, .null, .null, .int 0])), (q1, .inl (cA 0, 256, .inl (fun _ => 0)))] := hD
  refine lv_aload_n hx hb d_Kinds_init_13 rfl (lv_at hl 0 rfl) ?_
  refine lv_sipush (v := 256) hx hb d_Kinds_init_14 (by decide) ?_
  refine q_newa (atype := .int) (ty := .int) (a0 := (256, .inl (fun _ => 0))) (N' := 256) 0 rfl (by intro C h; cases h) hx hb (hts _ wq_610) rfl hK hP hD hS hA (fun _ => rfl) (by decide) rfl (by decide) (Nat.le_of_ble_eq_true rfl) (Nat.le_of_ble_eq_true rfl) d_Kinds_init_17 (fun q2 H hP hD hS => ?_)
  have hP : va_P D vwCl [(h0, .inr (2, [.ref q1, .null, .null, .null, .int 0])), (q1, .inl (cA 0, 256, .inl (fun _ => 0))), (q2, .inl (cA 0, 256, .inl (fun _ => 0)))] H := hP
  have hD : va_D A [(h0, .inr (2, [.ref q1, .null, .null, .null, .int 0])), (q1, .inl (cA 0, 256, .inl (fun _ => 0))), (q2, .inl (cA 0, 256, .inl (fun _ => 0)))] := hD
  refine W.widen (k := 2) (n := 512) (Nat.le_of_ble_eq_true rfl) (Nat.le_of_ble_eq_true rfl) ?_
  refine va_putF (D := D) (ty := (.array .int)) (ci := 2) (v := .ref q2) (C := R_Kinds) (T := T_Kinds) (N := 5) hx hb hts in_Kinds ty_Kinds tyok_Kinds nm_Kinds hown hK hP hD hS 0 rfl rfl 1 (by decide) (hts _ wq_44) (fun _ h9 => h9) rfl hin rfl (by decide +kernel) rfl rfl (Nat.le_of_ble_eq_true rfl) d_Kinds_init_19 (fun H locs hP hD hS => ?_)
  have hP : va_P D vwCl [(h0, .inr (2, [.ref q1, .ref q2, .null, .null, .int 0])), (q1, .inl (cA 0, 256, .inl (fun _ => 0))), (q2, .inl (cA 0, 256, .inl (fun _ => 0)))] H := hP
  have hD : va_D A [(h0, .inr (2, [.ref q1, .ref q2, .null, .null, .int 0])), (q1, .inl (cA 0, 256, .inl (fun _ => 0))), (q2, .inl (cA 0, 256, .inl (fun _ => 0)))] := hD
  refine lv_aload_n hx hb d_Kinds_init_22 rfl (lv_at hl 0 rfl) ?_
  refine lv_sipush (v := 256) hx hb d_Kinds_init_23 (by decide) ?_
  refine q_newa (atype := .int) (ty := .int) (a0 := (256, .inl (fun _ => 0))) (N' := 256) 0 rfl (by intro C h; cases h) hx hb (hts _ wq_610) rfl hK hP hD hS hA (fun _ => rfl) (by decide) rfl (by decide) (Nat.le_of_ble_eq_true rfl) (Nat.le_of_ble_eq_true rfl) d_Kinds_init_26 (fun q3 H hP hD hS => ?_)
  have hP : va_P D vwCl [(h0, .inr (2, [.ref q1, .ref q2, .null, .null, .int 0])), (q1, .inl (cA 0, 256, .inl (fun _ => 0))), (q2, .inl (cA 0, 256, .inl (fun _ => 0))), (q3, .inl (cA 0, 256, .inl (fun _ => 0)))] H := hP
  have hD : va_D A [(h0, .inr (2, [.ref q1, .ref q2, .null, .null, .int 0])), (q1, .inl (cA 0, 256, .inl (fun _ => 0))), (q2, .inl (cA 0, 256, .inl (fun _ => 0))), (q3, .inl (cA 0, 256, .inl (fun _ => 0)))] := hD
  refine W.widen (k := 3) (n := 768) (Nat.le_of_ble_eq_true rfl) (Nat.le_of_ble_eq_true rfl) ?_
  refine va_putF (D := D) (ty := (.array .int)) (ci := 2) (v := .ref q3) (C := R_Kinds) (T := T_Kinds) (N := 5) hx hb hts in_Kinds ty_Kinds tyok_Kinds nm_Kinds hown hK hP hD hS 0 rfl rfl 2 (by decide) (hts _ wq_45) (fun _ h9 => h9) rfl hin rfl (by decide +kernel) rfl rfl (Nat.le_of_ble_eq_true rfl) d_Kinds_init_28 (fun H locs hP hD hS => ?_)
  have hP : va_P D vwCl [(h0, .inr (2, [.ref q1, .ref q2, .ref q3, .null, .int 0])), (q1, .inl (cA 0, 256, .inl (fun _ => 0))), (q2, .inl (cA 0, 256, .inl (fun _ => 0))), (q3, .inl (cA 0, 256, .inl (fun _ => 0)))] H := hP
  have hD : va_D A [(h0, .inr (2, [.ref q1, .ref q2, .ref q3, .null, .int 0])), (q1, .inl (cA 0, 256, .inl (fun _ => 0))), (q2, .inl (cA 0, 256, .inl (fun _ => 0))), (q3, .inl (cA 0, 256, .inl (fun _ => 0)))] := hD
  refine lv_aload_n hx hb d_Kinds_init_31 rfl (lv_at hl 0 rfl) ?_
  refine lv_sipush (v := 256) hx hb d_Kinds_init_32 (by decide) ?_
  refine q_newa (atype := .int) (ty := .int) (a0 := (256, .inl (fun _ => 0))) (N' := 256) 0 rfl (by intro C h; cases h) hx hb (hts _ wq_610) rfl hK hP hD hS hA (fun _ => rfl) (by decide) rfl (by decide) (Nat.le_of_ble_eq_true rfl) (Nat.le_of_ble_eq_true rfl) d_Kinds_init_35 (fun q4 H hP hD hS => ?_)
  have hP : va_P D vwCl [(h0, .inr (2, [.ref q1, .ref q2, .ref q3, .null, .int 0])), (q1, .inl (cA 0, 256, .inl (fun _ => 0))), (q2, .inl (cA 0, 256, .inl (fun _ => 0))), (q3, .inl (cA 0, 256, .inl (fun _ => 0))), (q4, .inl (cA 0, 256, .inl (fun _ => 0)))] H := hP
  have hD : va_D A [(h0, .inr (2, [.ref q1, .ref q2, .ref q3, .null, .int 0])), (q1, .inl (cA 0, 256, .inl (fun _ => 0))), (q2, .inl (cA 0, 256, .inl (fun _ => 0))), (q3, .inl (cA 0, 256, .inl (fun _ => 0))), (q4, .inl (cA 0, 256, .inl (fun _ => 0)))] := hD
  refine W.widen (k := 4) (n := 1024) (Nat.le_of_ble_eq_true rfl) (Nat.le_of_ble_eq_true rfl) ?_
  refine va_putF (D := D) (ty := (.array .int)) (ci := 2) (v := .ref q4) (C := R_Kinds) (T := T_Kinds) (N := 5) hx hb hts in_Kinds ty_Kinds tyok_Kinds nm_Kinds hown hK hP hD hS 0 rfl rfl 3 (by decide) (hts _ wq_46) (fun _ h9 => h9) rfl hin rfl (by decide +kernel) rfl rfl (Nat.le_of_ble_eq_true rfl) d_Kinds_init_37 (fun H locs hP hD hS => ?_)
  have hP : va_P D vwCl [(h0, .inr (2, [.ref q1, .ref q2, .ref q3, .ref q4, .int 0])), (q1, .inl (cA 0, 256, .inl (fun _ => 0))), (q2, .inl (cA 0, 256, .inl (fun _ => 0))), (q3, .inl (cA 0, 256, .inl (fun _ => 0))), (q4, .inl (cA 0, 256, .inl (fun _ => 0)))] H := hP
  have hD : va_D A [(h0, .inr (2, [.ref q1, .ref q2, .ref q3, .ref q4, .int 0])), (q1, .inl (cA 0, 256, .inl (fun _ => 0))), (q2, .inl (cA 0, 256, .inl (fun _ => 0))), (q3, .inl (cA 0, 256, .inl (fun _ => 0))), (q4, .inl (cA 0, 256, .inl (fun _ => 0)))] := hD
  exact W.vret hx hb hr (fun t ht hW => ⟨⟨fun k => match k with | 1 => q1 | 2 => q2 | 3 => q3 | 4 => q4 | _ => 0, rfl, trivial, by rw [ht]; exact hP, hD⟩, hS.F ht⟩) hS.2.2 d_Kinds_init_40
set_option maxHeartbeats 4000000 in
set_option maxRecDepth 100000 in
theorem ki_Tags (l : Launch) (D : va_G) (cA : Nat → ClassId) (h0 sz : Nat) : Met l y_Tags_init (Cond.code y_Tags_init b_Tags_init 1 none :: q_tbl) ({ frames := 1, cells := 2, slots := 40, locals := 12 } : Room) (va_Pc [.ref h0] (q_PreK D cA [(h0, .inr (7, [.null, .null, .int 0]))] sz)) (va_Qv (fun _ : (Nat → Nat) => True) (fun a t => va_P D vwCl [(h0, .inr (7, [.ref (a 1), .ref (a 2), .int 0])), ((a 1), .inl (cA 0, 20, .inl (fun _ => 0))), ((a 2), .inl (cA 2, 20, .inl (fun _ => 0)))] t.heap ∧ va_D (va_A [(h0, .inr (7, [.null, .null, .int 0]))] sz) [(h0, .inr (7, [.ref (a 1), .ref (a 2), .int 0])), ((a 1), .inl (cA 0, 20, .inl (fun _ => 0))), ((a 2), .inl (cA 2, 20, .inl (fun _ => 0)))]) (va_A [(h0, .inr (7, [.null, .null, .int 0]))] sz)) 2 40 (va_A [(h0, .inr (7, [.null, .null, .int 0]))] sz) := by
  refine Met.ofW (cc := b_Tags_init) (maxL := 1) (ret := none) (by decide) rfl ?_
  intro p e s m args below meth c s₁ B hml hv
  obtain ⟨rfl, hsz, hP, hK, hD0, hNt⟩ := hv
  have hx := B.exec
  have hb := B.bytes
  have hr := B.returns
  have hts : ∀ w ∈ q_tbl, w.before _ s = true := fun w h => atoms_spec (ws := Cond.code y_Tags_init b_Tags_init 1 none :: q_tbl) B.pre w (List.mem_cons_of_mem _ h)
  have hown : s.vm.findClass R_Tags = some m.cls := findClass_of_methodNamed B.named
  have hlocks := B.notSynchronized
  have hin : meth.name = "<init>" := (name_of_methodNamed B.named B.method).1
  subst hsz
  have hD := hD0.self (sz := s.heap.size)
  generalize hAe : va_A [(h0, .inr (7, [.null, .null, .int 0]))] s.heap.size = A at hD ⊢
  have hA : ∀ q : Nat, s.heap.size ≤ q → A q := fun q h => by rw [← hAe]; exact Or.inr h
  have hS : va_S A s.heap s.heap [] := va_S.rf
  have hl := lv_entry ([.ref h0]) (n := 1) (Nat.le_of_ble_eq_true rfl)
  rw [lg_entry_eq]
  generalize (lg_sl ([.ref h0]) ++ List.replicate (1 - (lg_sl ([.ref h0])).length) Slot.unset).toArray = ls at hl ⊢
  have hl : lv_has ls 1 [(0, .ref h0)] := hl
  refine lv_aload_n hx hb d_Tags_init_0 rfl (lv_at hl 0 rfl) ?_
  refine W.objInit hx hb hown (hts _ wq_611) (hts _ wq_605) (hts _ wq_606) rfl (by rw [hml]; exact hl.1) rfl d_Tags_init_1 (Nat.le_of_ble_eq_true rfl) (Nat.le_of_ble_eq_true rfl) ?_
  refine W.eq (g2 := F0 m 4 ls []) rfl ?_
  refine lv_aload_n hx hb d_Tags_init_4 rfl (lv_at hl 0 rfl) ?_
  refine lv_bipush (v := 20) hx hb d_Tags_init_5 (by decide) ?_
  refine q_newa (atype := .int) (ty := .int) (a0 := (20, .inl (fun _ => 0))) (N' := 20) 0 rfl (by intro C h; cases h) hx hb (hts _ wq_610) rfl hK hP hD hS hA (fun _ => rfl) (by decide) rfl (by decide) (Nat.le_of_ble_eq_true rfl) (Nat.le_of_ble_eq_true rfl) d_Tags_init_7 (fun q1 H hP hD hS => ?_)
  have hP : va_P D vwCl [(h0, .inr (7, [.null, .null, .int 0])), (q1, .inl (cA 0, 20, .inl (fun _ => 0)))] H := hP
  have hD : va_D A [(h0, .inr (7, [.null, .null, .int 0])), (q1, .inl (cA 0, 20, .inl (fun _ => 0)))] := hD
  refine W.widen (k := 1) (n := 20) (Nat.le_of_ble_eq_true rfl) (Nat.le_of_ble_eq_true rfl) ?_
  refine va_putF (D := D) (ty := (.array .int)) (ci := 7) (v := .ref q1) (C := R_Tags) (T := T_Tags) (N := 3) hx hb hts in_Tags ty_Tags tyok_Tags nm_Tags hown hK hP hD hS 0 rfl rfl 0 (by decide) (hts _ wq_48) (fun _ h9 => h9) rfl hin rfl (by decide +kernel) rfl rfl (Nat.le_of_ble_eq_true rfl) d_Tags_init_9 (fun H locs hP hD hS => ?_)
  have hP : va_P D vwCl [(h0, .inr (7, [.ref q1, .null, .int 0])), (q1, .inl (cA 0, 20, .inl (fun _ => 0)))] H := hP
  have hD : va_D A [(h0, .inr (7, [.ref q1, .null, .int 0])), (q1, .inl (cA 0, 20, .inl (fun _ => 0)))] := hD
  refine lv_aload_n hx hb d_Tags_init_12 rfl (lv_at hl 0 rfl) ?_
  refine lv_bipush (v := 20) hx hb d_Tags_init_13 (by decide) ?_
  refine q_newa (atype := .boolean) (ty := .boolean) (a0 := (20, .inl (fun _ => 0))) (N' := 20) 2 rfl (by intro C h; cases h) hx hb (hts _ wq_612) rfl hK hP hD hS hA (fun _ => rfl) (by decide) rfl (by decide) (Nat.le_of_ble_eq_true rfl) (Nat.le_of_ble_eq_true rfl) d_Tags_init_15 (fun q2 H hP hD hS => ?_)
  have hP : va_P D vwCl [(h0, .inr (7, [.ref q1, .null, .int 0])), (q1, .inl (cA 0, 20, .inl (fun _ => 0))), (q2, .inl (cA 2, 20, .inl (fun _ => 0)))] H := hP
  have hD : va_D A [(h0, .inr (7, [.ref q1, .null, .int 0])), (q1, .inl (cA 0, 20, .inl (fun _ => 0))), (q2, .inl (cA 2, 20, .inl (fun _ => 0)))] := hD
  refine W.widen (k := 2) (n := 40) (Nat.le_of_ble_eq_true rfl) (Nat.le_of_ble_eq_true rfl) ?_
  refine va_putF (D := D) (ty := (.array .boolean)) (ci := 7) (v := .ref q2) (C := R_Tags) (T := T_Tags) (N := 3) hx hb hts in_Tags ty_Tags tyok_Tags nm_Tags hown hK hP hD hS 0 rfl rfl 1 (by decide) (hts _ wq_49) (fun _ h9 => h9) rfl hin rfl (by decide +kernel) rfl rfl (Nat.le_of_ble_eq_true rfl) d_Tags_init_17 (fun H locs hP hD hS => ?_)
  have hP : va_P D vwCl [(h0, .inr (7, [.ref q1, .ref q2, .int 0])), (q1, .inl (cA 0, 20, .inl (fun _ => 0))), (q2, .inl (cA 2, 20, .inl (fun _ => 0)))] H := hP
  have hD : va_D A [(h0, .inr (7, [.ref q1, .ref q2, .int 0])), (q1, .inl (cA 0, 20, .inl (fun _ => 0))), (q2, .inl (cA 2, 20, .inl (fun _ => 0)))] := hD
  exact W.vret hx hb hr (fun t ht hW => ⟨⟨fun k => match k with | 1 => q1 | 2 => q2 | _ => 0, rfl, trivial, by rw [ht]; exact hP, hD⟩, hS.F ht⟩) hS.2.2 d_Tags_init_20
set_option maxHeartbeats 4000000 in
set_option maxRecDepth 100000 in
theorem ki_Told (l : Launch) (D : va_G) (cA : Nat → ClassId) (h0 sz : Nat) : Met l y_Told_init (Cond.code y_Told_init b_Told_init 1 none :: q_tbl) ({ frames := 1, cells := 3, slots := 2400, locals := 12 } : Room) (va_Pc [.ref h0] (q_PreK D cA [(h0, .inr (8, [.null, .null, .null, .int 0]))] sz)) (va_Qv (fun _ : (Nat → Nat) => True) (fun a t => va_P D vwCl [(h0, .inr (8, [.ref (a 1), .ref (a 2), .ref (a 3), .int 0])), ((a 1), .inl (cA 0, 800, .inl (fun _ => 0))), ((a 2), .inl (cA 0, 800, .inl (fun _ => 0))), ((a 3), .inl (cA 0, 800, .inl (fun _ => 0)))] t.heap ∧ va_D (va_A [(h0, .inr (8, [.null, .null, .null, .int 0]))] sz) [(h0, .inr (8, [.ref (a 1), .ref (a 2), .ref (a 3), .int 0])), ((a 1), .inl (cA 0, 800, .inl (fun _ => 0))), ((a 2), .inl (cA 0, 800, .inl (fun _ => 0))), ((a 3), .inl (cA 0, 800, .inl (fun _ => 0)))]) (va_A [(h0, .inr (8, [.null, .null, .null, .int 0]))] sz)) 3 2400 (va_A [(h0, .inr (8, [.null, .null, .null, .int 0]))] sz) := by
  refine Met.ofW (cc := b_Told_init) (maxL := 1) (ret := none) (by decide) rfl ?_
  intro p e s m args below meth c s₁ B hml hv
  obtain ⟨rfl, hsz, hP, hK, hD0, hNt⟩ := hv
  have hx := B.exec
  have hb := B.bytes
  have hr := B.returns
  have hts : ∀ w ∈ q_tbl, w.before _ s = true := fun w h => atoms_spec (ws := Cond.code y_Told_init b_Told_init 1 none :: q_tbl) B.pre w (List.mem_cons_of_mem _ h)
  have hown : s.vm.findClass R_Told = some m.cls := findClass_of_methodNamed B.named
  have hlocks := B.notSynchronized
  have hin : meth.name = "<init>" := (name_of_methodNamed B.named B.method).1
  subst hsz
  have hD := hD0.self (sz := s.heap.size)
  generalize hAe : va_A [(h0, .inr (8, [.null, .null, .null, .int 0]))] s.heap.size = A at hD ⊢
  have hA : ∀ q : Nat, s.heap.size ≤ q → A q := fun q h => by rw [← hAe]; exact Or.inr h
  have hS : va_S A s.heap s.heap [] := va_S.rf
  have hl := lv_entry ([.ref h0]) (n := 1) (Nat.le_of_ble_eq_true rfl)
  rw [lg_entry_eq]
  generalize (lg_sl ([.ref h0]) ++ List.replicate (1 - (lg_sl ([.ref h0])).length) Slot.unset).toArray = ls at hl ⊢
  have hl : lv_has ls 1 [(0, .ref h0)] := hl
  refine lv_aload_n hx hb d_Told_init_0 rfl (lv_at hl 0 rfl) ?_
  refine W.objInit hx hb hown (hts _ wq_613) (hts _ wq_605) (hts _ wq_606) rfl (by rw [hml]; exact hl.1) rfl d_Told_init_1 (Nat.le_of_ble_eq_true rfl) (Nat.le_of_ble_eq_true rfl) ?_
  refine W.eq (g2 := F0 m 4 ls []) rfl ?_
  refine lv_aload_n hx hb d_Told_init_4 rfl (lv_at hl 0 rfl) ?_
  refine lv_sipush (v := 800) hx hb d_Told_init_5 (by decide) ?_
  refine q_newa (atype := .int) (ty := .int) (a0 := (800, .inl (fun _ => 0))) (N' := 800) 0 rfl (by intro C h; cases h) hx hb (hts _ wq_610) rfl hK hP hD hS hA (fun _ => rfl) (by decide) rfl (by decide) (Nat.le_of_ble_eq_true rfl) (Nat.le_of_ble_eq_true rfl) d_Told_init_8 (fun q1 H hP hD hS => ?_)
  have hP : va_P D vwCl [(h0, .inr (8, [.null, .null, .null, .int 0])), (q1, .inl (cA 0, 800, .inl (fun _ => 0)))] H := hP
  have hD : va_D A [(h0, .inr (8, [.null, .null, .null, .int 0])), (q1, .inl (cA 0, 800, .inl (fun _ => 0)))] := hD
  refine W.widen (k := 1) (n := 800) (Nat.le_of_ble_eq_true rfl) (Nat.le_of_ble_eq_true rfl) ?_
  refine va_putF (D := D) (ty := (.array .int)) (ci := 8) (v := .ref q1) (C := R_Told) (T := T_Told) (N := 4) hx hb hts in_Told ty_Told tyok_Told nm_Told hown hK hP hD hS 0 rfl rfl 0 (by decide) (hts _ wq_52) (fun _ h9 => h9) rfl hin rfl (by decide +kernel) rfl rfl (Nat.le_of_ble_eq_true rfl) d_Told_init_10 (fun H locs hP hD hS => ?_)
  have hP : va_P D vwCl [(h0, .inr (8, [.ref q1, .null, .null, .int 0])), (q1, .inl (cA 0, 800, .inl (fun _ => 0)))] H := hP
  have hD : va_D A [(h0, .inr (8, [.ref q1, .null, .null, .int 0])), (q1, .inl (cA 0, 800, .inl (fun _ => 0)))] := hD
  refine lv_aload_n hx hb d_Told_init_13 rfl (lv_at hl 0 rfl) ?_
  refine lv_sipush (v := 800) hx hb d_Told_init_14 (by decide) ?_
  refine q_newa (atype := .int) (ty := .int) (a0 := (800, .inl (fun _ => 0))) (N' := 800) 0 rfl (by intro C h; cases h) hx hb (hts _ wq_610) rfl hK hP hD hS hA (fun _ => rfl) (by decide) rfl (by decide) (Nat.le_of_ble_eq_true rfl) (Nat.le_of_ble_eq_true rfl) d_Told_init_17 (fun q2 H hP hD hS => ?_)
  have hP : va_P D vwCl [(h0, .inr (8, [.ref q1, .null, .null, .int 0])), (q1, .inl (cA 0, 800, .inl (fun _ => 0))), (q2, .inl (cA 0, 800, .inl (fun _ => 0)))] H := hP
  have hD : va_D A [(h0, .inr (8, [.ref q1, .null, .null, .int 0])), (q1, .inl (cA 0, 800, .inl (fun _ => 0))), (q2, .inl (cA 0, 800, .inl (fun _ => 0)))] := hD
  refine W.widen (k := 2) (n := 1600) (Nat.le_of_ble_eq_true rfl) (Nat.le_of_ble_eq_true rfl) ?_
  refine va_putF (D := D) (ty := (.array .int)) (ci := 8) (v := .ref q2) (C := R_Told) (T := T_Told) (N := 4) hx hb hts in_Told ty_Told tyok_Told nm_Told hown hK hP hD hS 0 rfl rfl 1 (by decide) (hts _ wq_53) (fun _ h9 => h9) rfl hin rfl (by decide +kernel) rfl rfl (Nat.le_of_ble_eq_true rfl) d_Told_init_19 (fun H locs hP hD hS => ?_)
  have hP : va_P D vwCl [(h0, .inr (8, [.ref q1, .ref q2, .null, .int 0])), (q1, .inl (cA 0, 800, .inl (fun _ => 0))), (q2, .inl (cA 0, 800, .inl (fun _ => 0)))] H := hP
  have hD : va_D A [(h0, .inr (8, [.ref q1, .ref q2, .null, .int 0])), (q1, .inl (cA 0, 800, .inl (fun _ => 0))), (q2, .inl (cA 0, 800, .inl (fun _ => 0)))] := hD
  refine lv_aload_n hx hb d_Told_init_22 rfl (lv_at hl 0 rfl) ?_
  refine lv_sipush (v := 800) hx hb d_Told_init_23 (by decide) ?_
  refine q_newa (atype := .int) (ty := .int) (a0 := (800, .inl (fun _ => 0))) (N' := 800) 0 rfl (by intro C h; cases h) hx hb (hts _ wq_610) rfl hK hP hD hS hA (fun _ => rfl) (by decide) rfl (by decide) (Nat.le_of_ble_eq_true rfl) (Nat.le_of_ble_eq_true rfl) d_Told_init_26 (fun q3 H hP hD hS => ?_)
  have hP : va_P D vwCl [(h0, .inr (8, [.ref q1, .ref q2, .null, .int 0])), (q1, .inl (cA 0, 800, .inl (fun _ => 0))), (q2, .inl (cA 0, 800, .inl (fun _ => 0))), (q3, .inl (cA 0, 800, .inl (fun _ => 0)))] H := hP
  have hD : va_D A [(h0, .inr (8, [.ref q1, .ref q2, .null, .int 0])), (q1, .inl (cA 0, 800, .inl (fun _ => 0))), (q2, .inl (cA 0, 800, .inl (fun _ => 0))), (q3, .inl (cA 0, 800, .inl (fun _ => 0)))] := hD
  refine W.widen (k := 3) (n := 2400) (Nat.le_of_ble_eq_true rfl) (Nat.le_of_ble_eq_true rfl) ?_
  refine va_putF (D := D) (ty := (.array .int)) (ci := 8) (v := .ref q3) (C := R_Told) (T := T_Told) (N := 4) hx hb hts in_Told ty_Told tyok_Told nm_Told hown hK hP hD hS 0 rfl rfl 2 (by decide) (hts _ wq_54) (fun _ h9 => h9) rfl hin rfl (by decide +kernel) rfl rfl (Nat.le_of_ble_eq_true rfl) d_Told_init_28 (fun H locs hP hD hS => ?_)
  have hP : va_P D vwCl [(h0, .inr (8, [.ref q1, .ref q2, .ref q3, .int 0])), (q1, .inl (cA 0, 800, .inl (fun _ => 0))), (q2, .inl (cA 0, 800, .inl (fun _ => 0))), (q3, .inl (cA 0, 800, .inl (fun _ => 0)))] H := hP
  have hD : va_D A [(h0, .inr (8, [.ref q1, .ref q2, .ref q3, .int 0])), (q1, .inl (cA 0, 800, .inl (fun _ => 0))), (q2, .inl (cA 0, 800, .inl (fun _ => 0))), (q3, .inl (cA 0, 800, .inl (fun _ => 0)))] := hD
  exact W.vret hx hb hr (fun t ht hW => ⟨⟨fun k => match k with | 1 => q1 | 2 => q2 | 3 => q3 | _ => 0, rfl, trivial, by rw [ht]; exact hP, hD⟩, hS.F ht⟩) hS.2.2 d_Told_init_31
set_option maxHeartbeats 4000000 in
set_option maxRecDepth 100000 in
theorem ki_Choice (l : Launch) (D : va_G) (cA : Nat → ClassId) (h0 p1 p2 sz : Nat) : Met l y_Choice_init (Cond.code y_Choice_init b_Choice_init 3 none :: q_tbl) ({ frames := 1, cells := 1, slots := 64, locals := 12 } : Room) (va_Pc [.ref h0, .ref p1, .ref p2] (q_PreK D cA [(h0, .inr (1, [.null, .null, .null]))] sz)) (va_Qv (fun _ : (Nat → Nat) => True) (fun a t => va_P D vwCl [(h0, .inr (1, [.ref p1, .ref p2, .ref (a 1)])), ((a 1), .inl (cA 2, 64, .inl (fun _ => 0)))] t.heap ∧ va_D (va_A [(h0, .inr (1, [.null, .null, .null]))] sz) [(h0, .inr (1, [.ref p1, .ref p2, .ref (a 1)])), ((a 1), .inl (cA 2, 64, .inl (fun _ => 0)))]) (va_A [(h0, .inr (1, [.null, .null, .null]))] sz)) 1 64 (va_A [(h0, .inr (1, [.null, .null, .null]))] sz) := by
  refine Met.ofW (cc := b_Choice_init) (maxL := 3) (ret := none) (by decide) rfl ?_
  intro p e s m args below meth c s₁ B hml hv
  obtain ⟨rfl, hsz, hP, hK, hD0, hNt⟩ := hv
  have hx := B.exec
  have hb := B.bytes
  have hr := B.returns
  have hts : ∀ w ∈ q_tbl, w.before _ s = true := fun w h => atoms_spec (ws := Cond.code y_Choice_init b_Choice_init 3 none :: q_tbl) B.pre w (List.mem_cons_of_mem _ h)
  have hown : s.vm.findClass R_Choice = some m.cls := findClass_of_methodNamed B.named
  have hlocks := B.notSynchronized
  have hin : meth.name = "<init>" := (name_of_methodNamed B.named B.method).1
  subst hsz
  have hD := hD0.self (sz := s.heap.size)
  generalize hAe : va_A [(h0, .inr (1, [.null, .null, .null]))] s.heap.size = A at hD ⊢
  have hA : ∀ q : Nat, s.heap.size ≤ q → A q := fun q h => by rw [← hAe]; exact Or.inr h
  have hS : va_S A s.heap s.heap [] := va_S.rf
  have hl := lv_entry ([.ref h0, .ref p1, .ref p2]) (n := 3) (Nat.le_of_ble_eq_true rfl)
  rw [lg_entry_eq]
  generalize (lg_sl ([.ref h0, .ref p1, .ref p2]) ++ List.replicate (3 - (lg_sl ([.ref h0, .ref p1, .ref p2])).length) Slot.unset).toArray = ls at hl ⊢
  have hl : lv_has ls 3 [(0, .ref h0), (1, .ref p1), (2, .ref p2)] := hl
  refine lv_aload_n hx hb d_Choice_init_0 rfl (lv_at hl 0 rfl) ?_
  refine W.objInit hx hb hown (hts _ wq_614) (hts _ wq_605) (hts _ wq_606) rfl (by rw [hml]; exact hl.1) rfl d_Choice_init_1 (Nat.le_of_ble_eq_true rfl) (Nat.le_of_ble_eq_true rfl) ?_
  refine W.eq (g2 := F0 m 4 ls []) rfl ?_
  refine lv_aload_n hx hb d_Choice_init_4 rfl (lv_at hl 0 rfl) ?_
  refine lv_bipush (v := 64) hx hb d_Choice_init_5 (by decide) ?_
  refine q_newa (atype := .boolean) (ty := .boolean) (a0 := (64, .inl (fun _ => 0))) (N' := 64) 2 rfl (by intro C h; cases h) hx hb (hts _ wq_612) rfl hK hP hD hS hA (fun _ => rfl) (by decide) rfl (by decide) (Nat.le_of_ble_eq_true rfl) (Nat.le_of_ble_eq_true rfl) d_Choice_init_7 (fun q1 H hP hD hS => ?_)
  have hP : va_P D vwCl [(h0, .inr (1, [.null, .null, .null])), (q1, .inl (cA 2, 64, .inl (fun _ => 0)))] H := hP
  have hD : va_D A [(h0, .inr (1, [.null, .null, .null])), (q1, .inl (cA 2, 64, .inl (fun _ => 0)))] := hD
  refine W.widen (k := 1) (n := 64) (Nat.le_of_ble_eq_true rfl) (Nat.le_of_ble_eq_true rfl) ?_
  refine va_putF (D := D) (ty := (.array .boolean)) (ci := 1) (v := .ref q1) (C := R_Choice) (T := T_Choice) (N := 3) hx hb hts in_Choice ty_Choice tyok_Choice nm_Choice hown hK hP hD hS 0 rfl rfl 2 (by decide) (hts _ wq_60) (fun _ h9 => h9) rfl hin rfl (by decide +kernel) rfl rfl (Nat.le_of_ble_eq_true rfl) d_Choice_init_9 (fun H locs hP hD hS => ?_)
  have hP : va_P D vwCl [(h0, .inr (1, [.null, .null, .ref q1])), (q1, .inl (cA 2, 64, .inl (fun _ => 0)))] H := hP
  have hD : va_D A [(h0, .inr (1, [.null, .null, .ref q1])), (q1, .inl (cA 2, 64, .inl (fun _ => 0)))] := hD
  refine lv_aload_n hx hb d_Choice_init_12 rfl (lv_at hl 0 rfl) ?_
  refine lv_aload_n hx hb d_Choice_init_13 rfl (lv_at hl 1 rfl) ?_
  refine va_putF (D := D) (ty := (.object "GlyphPositions$Table")) (ci := 1) (v := .ref p1) (C := R_Choice) (T := T_Choice) (N := 3) hx hb hts in_Choice ty_Choice tyok_Choice nm_Choice hown hK hP hD hS 0 rfl rfl 0 (by decide) (hts _ wq_55) (fun _ h9 => h9) rfl hin rfl (by decide +kernel) rfl rfl (Nat.le_of_ble_eq_true rfl) d_Choice_init_14 (fun H locs hP hD hS => ?_)
  have hP : va_P D vwCl [(h0, .inr (1, [.ref p1, .null, .ref q1])), (q1, .inl (cA 2, 64, .inl (fun _ => 0)))] H := hP
  have hD : va_D A [(h0, .inr (1, [.ref p1, .null, .ref q1])), (q1, .inl (cA 2, 64, .inl (fun _ => 0)))] := hD
  refine lv_aload_n hx hb d_Choice_init_17 rfl (lv_at hl 0 rfl) ?_
  refine lv_aload_n hx hb d_Choice_init_18 rfl (lv_at hl 2 rfl) ?_
  refine va_putF (D := D) (ty := (.object "GlyphPositions$Tags")) (ci := 1) (v := .ref p2) (C := R_Choice) (T := T_Choice) (N := 3) hx hb hts in_Choice ty_Choice tyok_Choice nm_Choice hown hK hP hD hS 0 rfl rfl 1 (by decide) (hts _ wq_61) (fun _ h9 => h9) rfl hin rfl (by decide +kernel) rfl rfl (Nat.le_of_ble_eq_true rfl) d_Choice_init_19 (fun H locs hP hD hS => ?_)
  have hP : va_P D vwCl [(h0, .inr (1, [.ref p1, .ref p2, .ref q1])), (q1, .inl (cA 2, 64, .inl (fun _ => 0)))] H := hP
  have hD : va_D A [(h0, .inr (1, [.ref p1, .ref p2, .ref q1])), (q1, .inl (cA 2, 64, .inl (fun _ => 0)))] := hD
  exact W.vret hx hb hr (fun t ht hW => ⟨⟨fun k => match k with | 1 => q1 | _ => 0, rfl, trivial, by rw [ht]; exact hP, hD⟩, hS.F ht⟩) hS.2.2 d_Choice_init_22
set_option maxHeartbeats 4000000 in
set_option maxRecDepth 100000 in
theorem ki_Run (l : Launch) (D : va_G) (cA : Nat → ClassId) (h0 sz : Nat) : Met l y_Run_init (Cond.code y_Run_init b_Run_init 1 none :: q_tbl) ({ frames := 1, cells := 8, slots := 6400, locals := 12 } : Room) (va_Pc [.ref h0] (q_PreK D cA [(h0, .inr (4, [.null, .null, .null, .null, .null, .null, .null, .null, .int 0]))] sz)) (va_Qv (fun _ : (Nat → Nat) => True) (fun a t => va_P D vwCl [(h0, .inr (4, [.ref (a 1), .ref (a 2), .ref (a 3), .ref (a 4), .ref (a 5), .ref (a 6), .ref (a 7), .ref (a 8), .int 0])), ((a 1), .inl (cA 0, 800, .inl (fun _ => 0))), ((a 2), .inl (cA 0, 800, .inl (fun _ => 0))), ((a 3), .inl (cA 0, 800, .inl (fun _ => 0))), ((a 4), .inl (cA 0, 800, .inl (fun _ => 0))), ((a 5), .inl (cA 0, 800, .inl (fun _ => 0))), ((a 6), .inl (cA 2, 800, .inl (fun _ => 0))), ((a 7), .inl (cA 0, 800, .inl (fun _ => 0))), ((a 8), .inl (cA 0, 800, .inl (fun _ => 0)))] t.heap ∧ va_D (va_A [(h0, .inr (4, [.null, .null, .null, .null, .null, .null, .null, .null, .int 0]))] sz) [(h0, .inr (4, [.ref (a 1), .ref (a 2), .ref (a 3), .ref (a 4), .ref (a 5), .ref (a 6), .ref (a 7), .ref (a 8), .int 0])), ((a 1), .inl (cA 0, 800, .inl (fun _ => 0))), ((a 2), .inl (cA 0, 800, .inl (fun _ => 0))), ((a 3), .inl (cA 0, 800, .inl (fun _ => 0))), ((a 4), .inl (cA 0, 800, .inl (fun _ => 0))), ((a 5), .inl (cA 0, 800, .inl (fun _ => 0))), ((a 6), .inl (cA 2, 800, .inl (fun _ => 0))), ((a 7), .inl (cA 0, 800, .inl (fun _ => 0))), ((a 8), .inl (cA 0, 800, .inl (fun _ => 0)))]) (va_A [(h0, .inr (4, [.null, .null, .null, .null, .null, .null, .null, .null, .int 0]))] sz)) 8 6400 (va_A [(h0, .inr (4, [.null, .null, .null, .null, .null, .null, .null, .null, .int 0]))] sz) := by
  refine Met.ofW (cc := b_Run_init) (maxL := 1) (ret := none) (by decide) rfl ?_
  intro p e s m args below meth c s₁ B hml hv
  obtain ⟨rfl, hsz, hP, hK, hD0, hNt⟩ := hv
  have hx := B.exec
  have hb := B.bytes
  have hr := B.returns
  have hts : ∀ w ∈ q_tbl, w.before _ s = true := fun w h => atoms_spec (ws := Cond.code y_Run_init b_Run_init 1 none :: q_tbl) B.pre w (List.mem_cons_of_mem _ h)
  have hown : s.vm.findClass R_Run = some m.cls := findClass_of_methodNamed B.named
  have hlocks := B.notSynchronized
  have hin : meth.name = "<init>" := (name_of_methodNamed B.named B.method).1
  subst hsz
  have hD := hD0.self (sz := s.heap.size)
  generalize hAe : va_A [(h0, .inr (4, [.null, .null, .null, .null, .null, .null, .null, .null, .int 0]))] s.heap.size = A at hD ⊢
  have hA : ∀ q : Nat, s.heap.size ≤ q → A q := fun q h => by rw [← hAe]; exact Or.inr h
  have hS : va_S A s.heap s.heap [] := va_S.rf
  have hl := lv_entry ([.ref h0]) (n := 1) (Nat.le_of_ble_eq_true rfl)
  rw [lg_entry_eq]
  generalize (lg_sl ([.ref h0]) ++ List.replicate (1 - (lg_sl ([.ref h0])).length) Slot.unset).toArray = ls at hl ⊢
  have hl : lv_has ls 1 [(0, .ref h0)] := hl
  refine lv_aload_n hx hb d_Run_init_0 rfl (lv_at hl 0 rfl) ?_
  refine W.objInit hx hb hown (hts _ wq_615) (hts _ wq_605) (hts _ wq_606) rfl (by rw [hml]; exact hl.1) rfl d_Run_init_1 (Nat.le_of_ble_eq_true rfl) (Nat.le_of_ble_eq_true rfl) ?_
  refine W.eq (g2 := F0 m 4 ls []) rfl ?_
  refine lv_aload_n hx hb d_Run_init_4 rfl (lv_at hl 0 rfl) ?_
  refine lv_sipush (v := 800) hx hb d_Run_init_5 (by decide) ?_
  refine q_newa (atype := .int) (ty := .int) (a0 := (800, .inl (fun _ => 0))) (N' := 800) 0 rfl (by intro C h; cases h) hx hb (hts _ wq_610) rfl hK hP hD hS hA (fun _ => rfl) (by decide) rfl (by decide) (Nat.le_of_ble_eq_true rfl) (Nat.le_of_ble_eq_true rfl) d_Run_init_8 (fun q1 H hP hD hS => ?_)
  have hP : va_P D vwCl [(h0, .inr (4, [.null, .null, .null, .null, .null, .null, .null, .null, .int 0])), (q1, .inl (cA 0, 800, .inl (fun _ => 0)))] H := hP
  have hD : va_D A [(h0, .inr (4, [.null, .null, .null, .null, .null, .null, .null, .null, .int 0])), (q1, .inl (cA 0, 800, .inl (fun _ => 0)))] := hD
  refine W.widen (k := 1) (n := 800) (Nat.le_of_ble_eq_true rfl) (Nat.le_of_ble_eq_true rfl) ?_
  refine va_putF (D := D) (ty := (.array .int)) (ci := 4) (v := .ref q1) (C := R_Run) (T := T_Run) (N := 9) hx hb hts in_Run ty_Run tyok_Run nm_Run hown hK hP hD hS 0 rfl rfl 0 (by decide) (hts _ wq_67) (fun _ h9 => h9) rfl hin rfl (by decide +kernel) rfl rfl (Nat.le_of_ble_eq_true rfl) d_Run_init_10 (fun H locs hP hD hS => ?_)
  have hP : va_P D vwCl [(h0, .inr (4, [.ref q1, .null, .null, .null, .null, .null, .null, .null, .int 0])), (q1, .inl (cA 0, 800, .inl (fun _ => 0)))] H := hP
  have hD : va_D A [(h0, .inr (4, [.ref q1, .null, .null, .null, .null, .null, .null, .null, .int 0])), (q1, .inl (cA 0, 800, .inl (fun _ => 0)))] := hD
  refine lv_aload_n hx hb d_Run_init_13 rfl (lv_at hl 0 rfl) ?_
  refine lv_sipush (v := 800) hx hb d_Run_init_14 (by decide) ?_
  refine q_newa (atype := .int) (ty := .int) (a0 := (800, .inl (fun _ => 0))) (N' := 800) 0 rfl (by intro C h; cases h) hx hb (hts _ wq_610) rfl hK hP hD hS hA (fun _ => rfl) (by decide) rfl (by decide) (Nat.le_of_ble_eq_true rfl) (Nat.le_of_ble_eq_true rfl) d_Run_init_17 (fun q2 H hP hD hS => ?_)
  have hP : va_P D vwCl [(h0, .inr (4, [.ref q1, .null, .null, .null, .null, .null, .null, .null, .int 0])), (q1, .inl (cA 0, 800, .inl (fun _ => 0))), (q2, .inl (cA 0, 800, .inl (fun _ => 0)))] H := hP
  have hD : va_D A [(h0, .inr (4, [.ref q1, .null, .null, .null, .null, .null, .null, .null, .int 0])), (q1, .inl (cA 0, 800, .inl (fun _ => 0))), (q2, .inl (cA 0, 800, .inl (fun _ => 0)))] := hD
  refine W.widen (k := 2) (n := 1600) (Nat.le_of_ble_eq_true rfl) (Nat.le_of_ble_eq_true rfl) ?_
  refine va_putF (D := D) (ty := (.array .int)) (ci := 4) (v := .ref q2) (C := R_Run) (T := T_Run) (N := 9) hx hb hts in_Run ty_Run tyok_Run nm_Run hown hK hP hD hS 0 rfl rfl 1 (by decide) (hts _ wq_69) (fun _ h9 => h9) rfl hin rfl (by decide +kernel) rfl rfl (Nat.le_of_ble_eq_true rfl) d_Run_init_19 (fun H locs hP hD hS => ?_)
  have hP : va_P D vwCl [(h0, .inr (4, [.ref q1, .ref q2, .null, .null, .null, .null, .null, .null, .int 0])), (q1, .inl (cA 0, 800, .inl (fun _ => 0))), (q2, .inl (cA 0, 800, .inl (fun _ => 0)))] H := hP
  have hD : va_D A [(h0, .inr (4, [.ref q1, .ref q2, .null, .null, .null, .null, .null, .null, .int 0])), (q1, .inl (cA 0, 800, .inl (fun _ => 0))), (q2, .inl (cA 0, 800, .inl (fun _ => 0)))] := hD
  refine lv_aload_n hx hb d_Run_init_22 rfl (lv_at hl 0 rfl) ?_
  refine lv_sipush (v := 800) hx hb d_Run_init_23 (by decide) ?_
  refine q_newa (atype := .int) (ty := .int) (a0 := (800, .inl (fun _ => 0))) (N' := 800) 0 rfl (by intro C h; cases h) hx hb (hts _ wq_610) rfl hK hP hD hS hA (fun _ => rfl) (by decide) rfl (by decide) (Nat.le_of_ble_eq_true rfl) (Nat.le_of_ble_eq_true rfl) d_Run_init_26 (fun q3 H hP hD hS => ?_)
  have hP : va_P D vwCl [(h0, .inr (4, [.ref q1, .ref q2, .null, .null, .null, .null, .null, .null, .int 0])), (q1, .inl (cA 0, 800, .inl (fun _ => 0))), (q2, .inl (cA 0, 800, .inl (fun _ => 0))), (q3, .inl (cA 0, 800, .inl (fun _ => 0)))] H := hP
  have hD : va_D A [(h0, .inr (4, [.ref q1, .ref q2, .null, .null, .null, .null, .null, .null, .int 0])), (q1, .inl (cA 0, 800, .inl (fun _ => 0))), (q2, .inl (cA 0, 800, .inl (fun _ => 0))), (q3, .inl (cA 0, 800, .inl (fun _ => 0)))] := hD
  refine W.widen (k := 3) (n := 2400) (Nat.le_of_ble_eq_true rfl) (Nat.le_of_ble_eq_true rfl) ?_
  refine va_putF (D := D) (ty := (.array .int)) (ci := 4) (v := .ref q3) (C := R_Run) (T := T_Run) (N := 9) hx hb hts in_Run ty_Run tyok_Run nm_Run hown hK hP hD hS 0 rfl rfl 2 (by decide) (hts _ wq_70) (fun _ h9 => h9) rfl hin rfl (by decide +kernel) rfl rfl (Nat.le_of_ble_eq_true rfl) d_Run_init_28 (fun H locs hP hD hS => ?_)
  have hP : va_P D vwCl [(h0, .inr (4, [.ref q1, .ref q2, .ref q3, .null, .null, .null, .null, .null, .int 0])), (q1, .inl (cA 0, 800, .inl (fun _ => 0))), (q2, .inl (cA 0, 800, .inl (fun _ => 0))), (q3, .inl (cA 0, 800, .inl (fun _ => 0)))] H := hP
  have hD : va_D A [(h0, .inr (4, [.ref q1, .ref q2, .ref q3, .null, .null, .null, .null, .null, .int 0])), (q1, .inl (cA 0, 800, .inl (fun _ => 0))), (q2, .inl (cA 0, 800, .inl (fun _ => 0))), (q3, .inl (cA 0, 800, .inl (fun _ => 0)))] := hD
  refine lv_aload_n hx hb d_Run_init_31 rfl (lv_at hl 0 rfl) ?_
  refine lv_sipush (v := 800) hx hb d_Run_init_32 (by decide) ?_
  refine q_newa (atype := .int) (ty := .int) (a0 := (800, .inl (fun _ => 0))) (N' := 800) 0 rfl (by intro C h; cases h) hx hb (hts _ wq_610) rfl hK hP hD hS hA (fun _ => rfl) (by decide) rfl (by decide) (Nat.le_of_ble_eq_true rfl) (Nat.le_of_ble_eq_true rfl) d_Run_init_35 (fun q4 H hP hD hS => ?_)
  have hP : va_P D vwCl [(h0, .inr (4, [.ref q1, .ref q2, .ref q3, .null, .null, .null, .null, .null, .int 0])), (q1, .inl (cA 0, 800, .inl (fun _ => 0))), (q2, .inl (cA 0, 800, .inl (fun _ => 0))), (q3, .inl (cA 0, 800, .inl (fun _ => 0))), (q4, .inl (cA 0, 800, .inl (fun _ => 0)))] H := hP
  have hD : va_D A [(h0, .inr (4, [.ref q1, .ref q2, .ref q3, .null, .null, .null, .null, .null, .int 0])), (q1, .inl (cA 0, 800, .inl (fun _ => 0))), (q2, .inl (cA 0, 800, .inl (fun _ => 0))), (q3, .inl (cA 0, 800, .inl (fun _ => 0))), (q4, .inl (cA 0, 800, .inl (fun _ => 0)))] := hD
  refine W.widen (k := 4) (n := 3200) (Nat.le_of_ble_eq_true rfl) (Nat.le_of_ble_eq_true rfl) ?_
  refine va_putF (D := D) (ty := (.array .int)) (ci := 4) (v := .ref q4) (C := R_Run) (T := T_Run) (N := 9) hx hb hts in_Run ty_Run tyok_Run nm_Run hown hK hP hD hS 0 rfl rfl 3 (by decide) (hts _ wq_71) (fun _ h9 => h9) rfl hin rfl (by decide +kernel) rfl rfl (Nat.le_of_ble_eq_true rfl) d_Run_init_37 (fun H locs hP hD hS => ?_)
  have hP : va_P D vwCl [(h0, .inr (4, [.ref q1, .ref q2, .ref q3, .ref q4, .null, .null, .null, .null, .int 0])), (q1, .inl (cA 0, 800, .inl (fun _ => 0))), (q2, .inl (cA 0, 800, .inl (fun _ => 0))), (q3, .inl (cA 0, 800, .inl (fun _ => 0))), (q4, .inl (cA 0, 800, .inl (fun _ => 0)))] H := hP
  have hD : va_D A [(h0, .inr (4, [.ref q1, .ref q2, .ref q3, .ref q4, .null, .null, .null, .null, .int 0])), (q1, .inl (cA 0, 800, .inl (fun _ => 0))), (q2, .inl (cA 0, 800, .inl (fun _ => 0))), (q3, .inl (cA 0, 800, .inl (fun _ => 0))), (q4, .inl (cA 0, 800, .inl (fun _ => 0)))] := hD
  refine lv_aload_n hx hb d_Run_init_40 rfl (lv_at hl 0 rfl) ?_
  refine lv_sipush (v := 800) hx hb d_Run_init_41 (by decide) ?_
  refine q_newa (atype := .int) (ty := .int) (a0 := (800, .inl (fun _ => 0))) (N' := 800) 0 rfl (by intro C h; cases h) hx hb (hts _ wq_610) rfl hK hP hD hS hA (fun _ => rfl) (by decide) rfl (by decide) (Nat.le_of_ble_eq_true rfl) (Nat.le_of_ble_eq_true rfl) d_Run_init_44 (fun q5 H hP hD hS => ?_)
  have hP : va_P D vwCl [(h0, .inr (4, [.ref q1, .ref q2, .ref q3, .ref q4, .null, .null, .null, .null, .int 0])), (q1, .inl (cA 0, 800, .inl (fun _ => 0))), (q2, .inl (cA 0, 800, .inl (fun _ => 0))), (q3, .inl (cA 0, 800, .inl (fun _ => 0))), (q4, .inl (cA 0, 800, .inl (fun _ => 0))), (q5, .inl (cA 0, 800, .inl (fun _ => 0)))] H := hP
  have hD : va_D A [(h0, .inr (4, [.ref q1, .ref q2, .ref q3, .ref q4, .null, .null, .null, .null, .int 0])), (q1, .inl (cA 0, 800, .inl (fun _ => 0))), (q2, .inl (cA 0, 800, .inl (fun _ => 0))), (q3, .inl (cA 0, 800, .inl (fun _ => 0))), (q4, .inl (cA 0, 800, .inl (fun _ => 0))), (q5, .inl (cA 0, 800, .inl (fun _ => 0)))] := hD
  refine W.widen (k := 5) (n := 4000) (Nat.le_of_ble_eq_true rfl) (Nat.le_of_ble_eq_true rfl) ?_
  refine va_putF (D := D) (ty := (.array .int)) (ci := 4) (v := .ref q5) (C := R_Run) (T := T_Run) (N := 9) hx hb hts in_Run ty_Run tyok_Run nm_Run hown hK hP hD hS 0 rfl rfl 4 (by decide) (hts _ wq_72) (fun _ h9 => h9) rfl hin rfl (by decide +kernel) rfl rfl (Nat.le_of_ble_eq_true rfl) d_Run_init_46 (fun H locs hP hD hS => ?_)
  have hP : va_P D vwCl [(h0, .inr (4, [.ref q1, .ref q2, .ref q3, .ref q4, .ref q5, .null, .null, .null, .int 0])), (q1, .inl (cA 0, 800, .inl (fun _ => 0))), (q2, .inl (cA 0, 800, .inl (fun _ => 0))), (q3, .inl (cA 0, 800, .inl (fun _ => 0))), (q4, .inl (cA 0, 800, .inl (fun _ => 0))), (q5, .inl (cA 0, 800, .inl (fun _ => 0)))] H := hP
  have hD : va_D A [(h0, .inr (4, [.ref q1, .ref q2, .ref q3, .ref q4, .ref q5, .null, .null, .null, .int 0])), (q1, .inl (cA 0, 800, .inl (fun _ => 0))), (q2, .inl (cA 0, 800, .inl (fun _ => 0))), (q3, .inl (cA 0, 800, .inl (fun _ => 0))), (q4, .inl (cA 0, 800, .inl (fun _ => 0))), (q5, .inl (cA 0, 800, .inl (fun _ => 0)))] := hD
  refine lv_aload_n hx hb d_Run_init_49 rfl (lv_at hl 0 rfl) ?_
  refine lv_sipush (v := 800) hx hb d_Run_init_50 (by decide) ?_
  refine q_newa (atype := .boolean) (ty := .boolean) (a0 := (800, .inl (fun _ => 0))) (N' := 800) 2 rfl (by intro C h; cases h) hx hb (hts _ wq_612) rfl hK hP hD hS hA (fun _ => rfl) (by decide) rfl (by decide) (Nat.le_of_ble_eq_true rfl) (Nat.le_of_ble_eq_true rfl) d_Run_init_53 (fun q6 H hP hD hS => ?_)
  have hP : va_P D vwCl [(h0, .inr (4, [.ref q1, .ref q2, .ref q3, .ref q4, .ref q5, .null, .null, .null, .int 0])), (q1, .inl (cA 0, 800, .inl (fun _ => 0))), (q2, .inl (cA 0, 800, .inl (fun _ => 0))), (q3, .inl (cA 0, 800, .inl (fun _ => 0))), (q4, .inl (cA 0, 800, .inl (fun _ => 0))), (q5, .inl (cA 0, 800, .inl (fun _ => 0))), (q6, .inl (cA 2, 800, .inl (fun _ => 0)))] H := hP
  have hD : va_D A [(h0, .inr (4, [.ref q1, .ref q2, .ref q3, .ref q4, .ref q5, .null, .null, .null, .int 0])), (q1, .inl (cA 0, 800, .inl (fun _ => 0))), (q2, .inl (cA 0, 800, .inl (fun _ => 0))), (q3, .inl (cA 0, 800, .inl (fun _ => 0))), (q4, .inl (cA 0, 800, .inl (fun _ => 0))), (q5, .inl (cA 0, 800, .inl (fun _ => 0))), (q6, .inl (cA 2, 800, .inl (fun _ => 0)))] := hD
  refine W.widen (k := 6) (n := 4800) (Nat.le_of_ble_eq_true rfl) (Nat.le_of_ble_eq_true rfl) ?_
  refine va_putF (D := D) (ty := (.array .boolean)) (ci := 4) (v := .ref q6) (C := R_Run) (T := T_Run) (N := 9) hx hb hts in_Run ty_Run tyok_Run nm_Run hown hK hP hD hS 0 rfl rfl 5 (by decide) (hts _ wq_75) (fun _ h9 => h9) rfl hin rfl (by decide +kernel) rfl rfl (Nat.le_of_ble_eq_true rfl) d_Run_init_55 (fun H locs hP hD hS => ?_)
  have hP : va_P D vwCl [(h0, .inr (4, [.ref q1, .ref q2, .ref q3, .ref q4, .ref q5, .ref q6, .null, .null, .int 0])), (q1, .inl (cA 0, 800, .inl (fun _ => 0))), (q2, .inl (cA 0, 800, .inl (fun _ => 0))), (q3, .inl (cA 0, 800, .inl (fun _ => 0))), (q4, .inl (cA 0, 800, .inl (fun _ => 0))), (q5, .inl (cA 0, 800, .inl (fun _ => 0))), (q6, .inl (cA 2, 800, .inl (fun _ => 0)))] H := hP
  have hD : va_D A [(h0, .inr (4, [.ref q1, .ref q2, .ref q3, .ref q4, .ref q5, .ref q6, .null, .null, .int 0])), (q1, .inl (cA 0, 800, .inl (fun _ => 0))), (q2, .inl (cA 0, 800, .inl (fun _ => 0))), (q3, .inl (cA 0, 800, .inl (fun _ => 0))), (q4, .inl (cA 0, 800, .inl (fun _ => 0))), (q5, .inl (cA 0, 800, .inl (fun _ => 0))), (q6, .inl (cA 2, 800, .inl (fun _ => 0)))] := hD
  refine lv_aload_n hx hb d_Run_init_58 rfl (lv_at hl 0 rfl) ?_
  refine lv_sipush (v := 800) hx hb d_Run_init_59 (by decide) ?_
  refine q_newa (atype := .int) (ty := .int) (a0 := (800, .inl (fun _ => 0))) (N' := 800) 0 rfl (by intro C h; cases h) hx hb (hts _ wq_610) rfl hK hP hD hS hA (fun _ => rfl) (by decide) rfl (by decide) (Nat.le_of_ble_eq_true rfl) (Nat.le_of_ble_eq_true rfl) d_Run_init_62 (fun q7 H hP hD hS => ?_)
  have hP : va_P D vwCl [(h0, .inr (4, [.ref q1, .ref q2, .ref q3, .ref q4, .ref q5, .ref q6, .null, .null, .int 0])), (q1, .inl (cA 0, 800, .inl (fun _ => 0))), (q2, .inl (cA 0, 800, .inl (fun _ => 0))), (q3, .inl (cA 0, 800, .inl (fun _ => 0))), (q4, .inl (cA 0, 800, .inl (fun _ => 0))), (q5, .inl (cA 0, 800, .inl (fun _ => 0))), (q6, .inl (cA 2, 800, .inl (fun _ => 0))), (q7, .inl (cA 0, 800, .inl (fun _ => 0)))] H := hP
  have hD : va_D A [(h0, .inr (4, [.ref q1, .ref q2, .ref q3, .ref q4, .ref q5, .ref q6, .null, .null, .int 0])), (q1, .inl (cA 0, 800, .inl (fun _ => 0))), (q2, .inl (cA 0, 800, .inl (fun _ => 0))), (q3, .inl (cA 0, 800, .inl (fun _ => 0))), (q4, .inl (cA 0, 800, .inl (fun _ => 0))), (q5, .inl (cA 0, 800, .inl (fun _ => 0))), (q6, .inl (cA 2, 800, .inl (fun _ => 0))), (q7, .inl (cA 0, 800, .inl (fun _ => 0)))] := hD
  refine W.widen (k := 7) (n := 5600) (Nat.le_of_ble_eq_true rfl) (Nat.le_of_ble_eq_true rfl) ?_
  refine va_putF (D := D) (ty := (.array .int)) (ci := 4) (v := .ref q7) (C := R_Run) (T := T_Run) (N := 9) hx hb hts in_Run ty_Run tyok_Run nm_Run hown hK hP hD hS 0 rfl rfl 6 (by decide) (hts _ wq_76) (fun _ h9 => h9) rfl hin rfl (by decide +kernel) rfl rfl (Nat.le_of_ble_eq_true rfl) d_Run_init_64 (fun H locs hP hD hS => ?_)
  have hP : va_P D vwCl [(h0, .inr (4, [.ref q1, .ref q2, .ref q3, .ref q4, .ref q5, .ref q6, .ref q7, .null, .int 0])), (q1, .inl (cA 0, 800, .inl (fun _ => 0))), (q2, .inl (cA 0, 800, .inl (fun _ => 0))), (q3, .inl (cA 0, 800, .inl (fun _ => 0))), (q4, .inl (cA 0, 800, .inl (fun _ => 0))), (q5, .inl (cA 0, 800, .inl (fun _ => 0))), (q6, .inl (cA 2, 800, .inl (fun _ => 0))), (q7, .inl (cA 0, 800, .inl (fun _ => 0)))] H := hP
  have hD : va_D A [(h0, .inr (4, [.ref q1, .ref q2, .ref q3, .ref q4, .ref q5, .ref q6, .ref q7, .null, .int 0])), (q1, .inl (cA 0, 800, .inl (fun _ => 0))), (q2, .inl (cA 0, 800, .inl (fun _ => 0))), (q3, .inl (cA 0, 800, .inl (fun _ => 0))), (q4, .inl (cA 0, 800, .inl (fun _ => 0))), (q5, .inl (cA 0, 800, .inl (fun _ => 0))), (q6, .inl (cA 2, 800, .inl (fun _ => 0))), (q7, .inl (cA 0, 800, .inl (fun _ => 0)))] := hD
  refine lv_aload_n hx hb d_Run_init_67 rfl (lv_at hl 0 rfl) ?_
  refine lv_sipush (v := 800) hx hb d_Run_init_68 (by decide) ?_
  refine q_newa (atype := .int) (ty := .int) (a0 := (800, .inl (fun _ => 0))) (N' := 800) 0 rfl (by intro C h; cases h) hx hb (hts _ wq_610) rfl hK hP hD hS hA (fun _ => rfl) (by decide) rfl (by decide) (Nat.le_of_ble_eq_true rfl) (Nat.le_of_ble_eq_true rfl) d_Run_init_71 (fun q8 H hP hD hS => ?_)
  have hP : va_P D vwCl [(h0, .inr (4, [.ref q1, .ref q2, .ref q3, .ref q4, .ref q5, .ref q6, .ref q7, .null, .int 0])), (q1, .inl (cA 0, 800, .inl (fun _ => 0))), (q2, .inl (cA 0, 800, .inl (fun _ => 0))), (q3, .inl (cA 0, 800, .inl (fun _ => 0))), (q4, .inl (cA 0, 800, .inl (fun _ => 0))), (q5, .inl (cA 0, 800, .inl (fun _ => 0))), (q6, .inl (cA 2, 800, .inl (fun _ => 0))), (q7, .inl (cA 0, 800, .inl (fun _ => 0))), (q8, .inl (cA 0, 800, .inl (fun _ => 0)))] H := hP
  have hD : va_D A [(h0, .inr (4, [.ref q1, .ref q2, .ref q3, .ref q4, .ref q5, .ref q6, .ref q7, .null, .int 0])), (q1, .inl (cA 0, 800, .inl (fun _ => 0))), (q2, .inl (cA 0, 800, .inl (fun _ => 0))), (q3, .inl (cA 0, 800, .inl (fun _ => 0))), (q4, .inl (cA 0, 800, .inl (fun _ => 0))), (q5, .inl (cA 0, 800, .inl (fun _ => 0))), (q6, .inl (cA 2, 800, .inl (fun _ => 0))), (q7, .inl (cA 0, 800, .inl (fun _ => 0))), (q8, .inl (cA 0, 800, .inl (fun _ => 0)))] := hD
  refine W.widen (k := 8) (n := 6400) (Nat.le_of_ble_eq_true rfl) (Nat.le_of_ble_eq_true rfl) ?_
  refine va_putF (D := D) (ty := (.array .int)) (ci := 4) (v := .ref q8) (C := R_Run) (T := T_Run) (N := 9) hx hb hts in_Run ty_Run tyok_Run nm_Run hown hK hP hD hS 0 rfl rfl 7 (by decide) (hts _ wq_74) (fun _ h9 => h9) rfl hin rfl (by decide +kernel) rfl rfl (Nat.le_of_ble_eq_true rfl) d_Run_init_73 (fun H locs hP hD hS => ?_)
  have hP : va_P D vwCl [(h0, .inr (4, [.ref q1, .ref q2, .ref q3, .ref q4, .ref q5, .ref q6, .ref q7, .ref q8, .int 0])), (q1, .inl (cA 0, 800, .inl (fun _ => 0))), (q2, .inl (cA 0, 800, .inl (fun _ => 0))), (q3, .inl (cA 0, 800, .inl (fun _ => 0))), (q4, .inl (cA 0, 800, .inl (fun _ => 0))), (q5, .inl (cA 0, 800, .inl (fun _ => 0))), (q6, .inl (cA 2, 800, .inl (fun _ => 0))), (q7, .inl (cA 0, 800, .inl (fun _ => 0))), (q8, .inl (cA 0, 800, .inl (fun _ => 0)))] H := hP
  have hD : va_D A [(h0, .inr (4, [.ref q1, .ref q2, .ref q3, .ref q4, .ref q5, .ref q6, .ref q7, .ref q8, .int 0])), (q1, .inl (cA 0, 800, .inl (fun _ => 0))), (q2, .inl (cA 0, 800, .inl (fun _ => 0))), (q3, .inl (cA 0, 800, .inl (fun _ => 0))), (q4, .inl (cA 0, 800, .inl (fun _ => 0))), (q5, .inl (cA 0, 800, .inl (fun _ => 0))), (q6, .inl (cA 2, 800, .inl (fun _ => 0))), (q7, .inl (cA 0, 800, .inl (fun _ => 0))), (q8, .inl (cA 0, 800, .inl (fun _ => 0)))] := hD
  exact W.vret hx hb hr (fun t ht hW => ⟨⟨fun k => match k with | 1 => q1 | 2 => q2 | 3 => q3 | 4 => q4 | 5 => q5 | 6 => q6 | 7 => q7 | 8 => q8 | _ => 0, rfl, trivial, by rw [ht]; exact hP, hD⟩, hS.F ht⟩) hS.2.2 d_Run_init_76
set_option maxHeartbeats 4000000 in
set_option maxRecDepth 100000 in
theorem ki_Setter (l : Launch) (D : va_G) (cA : Nat → ClassId) (h0 p1 p2 p3 p4 sz : Nat) : Met l y_Setter_init (Cond.code y_Setter_init b_Setter_init 5 none :: q_tbl) ({ frames := 1, cells := 6, slots := 4800, locals := 12 } : Room) (va_Pc [.ref h0, .ref p1, .ref p2, .ref p3, .ref p4] (q_PreK D cA [(h0, .inr (5, [.null, .null, .null, .null, .null, .null, .null, .null, .null, .null, .int 0]))] sz)) (va_Qv (fun _ : (Nat → Nat) => True) (fun a t => va_P D vwCl [(h0, .inr (5, [.ref p1, .ref p2, .ref p3, .ref p4, .ref (a 1), .ref (a 2), .ref (a 3), .ref (a 4), .ref (a 5), .ref (a 6), .int 0])), ((a 1), .inl (cA 0, 800, .inl (fun _ => 0))), ((a 2), .inl (cA 0, 800, .inl (fun _ => 0))), ((a 3), .inl (cA 0, 800, .inl (fun _ => 0))), ((a 4), .inl (cA 2, 800, .inl (fun _ => 0))), ((a 5), .inl (cA 0, 800, .inl (fun _ => 0))), ((a 6), .inl (cA 0, 800, .inl (fun _ => 0)))] t.heap ∧ va_D (va_A [(h0, .inr (5, [.null, .null, .null, .null, .null, .null, .null, .null, .null, .null, .int 0]))] sz) [(h0, .inr (5, [.ref p1, .ref p2, .ref p3, .ref p4, .ref (a 1), .ref (a 2), .ref (a 3), .ref (a 4), .ref (a 5), .ref (a 6), .int 0])), ((a 1), .inl (cA 0, 800, .inl (fun _ => 0))), ((a 2), .inl (cA 0, 800, .inl (fun _ => 0))), ((a 3), .inl (cA 0, 800, .inl (fun _ => 0))), ((a 4), .inl (cA 2, 800, .inl (fun _ => 0))), ((a 5), .inl (cA 0, 800, .inl (fun _ => 0))), ((a 6), .inl (cA 0, 800, .inl (fun _ => 0)))]) (va_A [(h0, .inr (5, [.null, .null, .null, .null, .null, .null, .null, .null, .null, .null, .int 0]))] sz)) 6 4800 (va_A [(h0, .inr (5, [.null, .null, .null, .null, .null, .null, .null, .null, .null, .null, .int 0]))] sz) := by
  refine Met.ofW (cc := b_Setter_init) (maxL := 5) (ret := none) (by decide) rfl ?_
  intro p e s m args below meth c s₁ B hml hv
  obtain ⟨rfl, hsz, hP, hK, hD0, hNt⟩ := hv
  have hx := B.exec
  have hb := B.bytes
  have hr := B.returns
  have hts : ∀ w ∈ q_tbl, w.before _ s = true := fun w h => atoms_spec (ws := Cond.code y_Setter_init b_Setter_init 5 none :: q_tbl) B.pre w (List.mem_cons_of_mem _ h)
  have hown : s.vm.findClass R_Setter = some m.cls := findClass_of_methodNamed B.named
  have hlocks := B.notSynchronized
  have hin : meth.name = "<init>" := (name_of_methodNamed B.named B.method).1
  subst hsz
  have hD := hD0.self (sz := s.heap.size)
  generalize hAe : va_A [(h0, .inr (5, [.null, .null, .null, .null, .null, .null, .null, .null, .null, .null, .int 0]))] s.heap.size = A at hD ⊢
  have hA : ∀ q : Nat, s.heap.size ≤ q → A q := fun q h => by rw [← hAe]; exact Or.inr h
  have hS : va_S A s.heap s.heap [] := va_S.rf
  have hl := lv_entry ([.ref h0, .ref p1, .ref p2, .ref p3, .ref p4]) (n := 5) (Nat.le_of_ble_eq_true rfl)
  rw [lg_entry_eq]
  generalize (lg_sl ([.ref h0, .ref p1, .ref p2, .ref p3, .ref p4]) ++ List.replicate (5 - (lg_sl ([.ref h0, .ref p1, .ref p2, .ref p3, .ref p4])).length) Slot.unset).toArray = ls at hl ⊢
  have hl : lv_has ls 5 [(0, .ref h0), (1, .ref p1), (2, .ref p2), (3, .ref p3), (4, .ref p4)] := hl
  refine lv_aload_n hx hb d_Setter_init_0 rfl (lv_at hl 0 rfl) ?_
  refine W.objInit hx hb hown (hts _ wq_616) (hts _ wq_605) (hts _ wq_606) rfl (by rw [hml]; exact hl.1) rfl d_Setter_init_1 (Nat.le_of_ble_eq_true rfl) (Nat.le_of_ble_eq_true rfl) ?_
  refine W.eq (g2 := F0 m 4 ls []) rfl ?_
  refine lv_aload_n hx hb d_Setter_init_4 rfl (lv_at hl 0 rfl) ?_
  refine lv_sipush (v := 800) hx hb d_Setter_init_5 (by decide) ?_
  refine q_newa (atype := .int) (ty := .int) (a0 := (800, .inl (fun _ => 0))) (N' := 800) 0 rfl (by intro C h; cases h) hx hb (hts _ wq_610) rfl hK hP hD hS hA (fun _ => rfl) (by decide) rfl (by decide) (Nat.le_of_ble_eq_true rfl) (Nat.le_of_ble_eq_true rfl) d_Setter_init_8 (fun q1 H hP hD hS => ?_)
  have hP : va_P D vwCl [(h0, .inr (5, [.null, .null, .null, .null, .null, .null, .null, .null, .null, .null, .int 0])), (q1, .inl (cA 0, 800, .inl (fun _ => 0)))] H := hP
  have hD : va_D A [(h0, .inr (5, [.null, .null, .null, .null, .null, .null, .null, .null, .null, .null, .int 0])), (q1, .inl (cA 0, 800, .inl (fun _ => 0)))] := hD
  refine W.widen (k := 1) (n := 800) (Nat.le_of_ble_eq_true rfl) (Nat.le_of_ble_eq_true rfl) ?_
  refine va_putF (D := D) (ty := (.array .int)) (ci := 5) (v := .ref q1) (C := R_Setter) (T := T_Setter) (N := 11) hx hb hts in_Setter ty_Setter tyok_Setter nm_Setter hown hK hP hD hS 0 rfl rfl 4 (by decide) (hts _ wq_79) (fun _ h9 => h9) rfl hin rfl (by decide +kernel) rfl rfl (Nat.le_of_ble_eq_true rfl) d_Setter_init_10 (fun H locs hP hD hS => ?_)
  have hP : va_P D vwCl [(h0, .inr (5, [.null, .null, .null, .null, .ref q1, .null, .null, .null, .null, .null, .int 0])), (q1, .inl (cA 0, 800, .inl (fun _ => 0)))] H := hP
  have hD : va_D A [(h0, .inr (5, [.null, .null, .null, .null, .ref q1, .null, .null, .null, .null, .null, .int 0])), (q1, .inl (cA 0, 800, .inl (fun _ => 0)))] := hD
  refine lv_aload_n hx hb d_Setter_init_13 rfl (lv_at hl 0 rfl) ?_
  refine lv_sipush (v := 800) hx hb d_Setter_init_14 (by decide) ?_
  refine q_newa (atype := .int) (ty := .int) (a0 := (800, .inl (fun _ => 0))) (N' := 800) 0 rfl (by intro C h; cases h) hx hb (hts _ wq_610) rfl hK hP hD hS hA (fun _ => rfl) (by decide) rfl (by decide) (Nat.le_of_ble_eq_true rfl) (Nat.le_of_ble_eq_true rfl) d_Setter_init_17 (fun q2 H hP hD hS => ?_)
  have hP : va_P D vwCl [(h0, .inr (5, [.null, .null, .null, .null, .ref q1, .null, .null, .null, .null, .null, .int 0])), (q1, .inl (cA 0, 800, .inl (fun _ => 0))), (q2, .inl (cA 0, 800, .inl (fun _ => 0)))] H := hP
  have hD : va_D A [(h0, .inr (5, [.null, .null, .null, .null, .ref q1, .null, .null, .null, .null, .null, .int 0])), (q1, .inl (cA 0, 800, .inl (fun _ => 0))), (q2, .inl (cA 0, 800, .inl (fun _ => 0)))] := hD
  refine W.widen (k := 2) (n := 1600) (Nat.le_of_ble_eq_true rfl) (Nat.le_of_ble_eq_true rfl) ?_
  refine va_putF (D := D) (ty := (.array .int)) (ci := 5) (v := .ref q2) (C := R_Setter) (T := T_Setter) (N := 11) hx hb hts in_Setter ty_Setter tyok_Setter nm_Setter hown hK hP hD hS 0 rfl rfl 5 (by decide) (hts _ wq_80) (fun _ h9 => h9) rfl hin rfl (by decide +kernel) rfl rfl (Nat.le_of_ble_eq_true rfl) d_Setter_init_19 (fun H locs hP hD hS => ?_)
  have hP : va_P D vwCl [(h0, .inr (5, [.null, .null, .null, .null, .ref q1, .ref q2, .null, .null, .null, .null, .int 0])), (q1, .inl (cA 0, 800, .inl (fun _ => 0))), (q2, .inl (cA 0, 800, .inl (fun _ => 0)))] H := hP
  have hD : va_D A [(h0, .inr (5, [.null, .null, .null, .null, .ref q1, .ref q2, .null, .null, .null, .null, .int 0])), (q1, .inl (cA 0, 800, .inl (fun _ => 0))), (q2, .inl (cA 0, 800, .inl (fun _ => 0)))] := hD
  refine lv_aload_n hx hb d_Setter_init_22 rfl (lv_at hl 0 rfl) ?_
  refine lv_sipush (v := 800) hx hb d_Setter_init_23 (by decide) ?_
  refine q_newa (atype := .int) (ty := .int) (a0 := (800, .inl (fun _ => 0))) (N' := 800) 0 rfl (by intro C h; cases h) hx hb (hts _ wq_610) rfl hK hP hD hS hA (fun _ => rfl) (by decide) rfl (by decide) (Nat.le_of_ble_eq_true rfl) (Nat.le_of_ble_eq_true rfl) d_Setter_init_26 (fun q3 H hP hD hS => ?_)
  have hP : va_P D vwCl [(h0, .inr (5, [.null, .null, .null, .null, .ref q1, .ref q2, .null, .null, .null, .null, .int 0])), (q1, .inl (cA 0, 800, .inl (fun _ => 0))), (q2, .inl (cA 0, 800, .inl (fun _ => 0))), (q3, .inl (cA 0, 800, .inl (fun _ => 0)))] H := hP
  have hD : va_D A [(h0, .inr (5, [.null, .null, .null, .null, .ref q1, .ref q2, .null, .null, .null, .null, .int 0])), (q1, .inl (cA 0, 800, .inl (fun _ => 0))), (q2, .inl (cA 0, 800, .inl (fun _ => 0))), (q3, .inl (cA 0, 800, .inl (fun _ => 0)))] := hD
  refine W.widen (k := 3) (n := 2400) (Nat.le_of_ble_eq_true rfl) (Nat.le_of_ble_eq_true rfl) ?_
  refine va_putF (D := D) (ty := (.array .int)) (ci := 5) (v := .ref q3) (C := R_Setter) (T := T_Setter) (N := 11) hx hb hts in_Setter ty_Setter tyok_Setter nm_Setter hown hK hP hD hS 0 rfl rfl 6 (by decide) (hts _ wq_78) (fun _ h9 => h9) rfl hin rfl (by decide +kernel) rfl rfl (Nat.le_of_ble_eq_true rfl) d_Setter_init_28 (fun H locs hP hD hS => ?_)
  have hP : va_P D vwCl [(h0, .inr (5, [.null, .null, .null, .null, .ref q1, .ref q2, .ref q3, .null, .null, .null, .int 0])), (q1, .inl (cA 0, 800, .inl (fun _ => 0))), (q2, .inl (cA 0, 800, .inl (fun _ => 0))), (q3, .inl (cA 0, 800, .inl (fun _ => 0)))] H := hP
  have hD : va_D A [(h0, .inr (5, [.null, .null, .null, .null, .ref q1, .ref q2, .ref q3, .null, .null, .null, .int 0])), (q1, .inl (cA 0, 800, .inl (fun _ => 0))), (q2, .inl (cA 0, 800, .inl (fun _ => 0))), (q3, .inl (cA 0, 800, .inl (fun _ => 0)))] := hD
  refine lv_aload_n hx hb d_Setter_init_31 rfl (lv_at hl 0 rfl) ?_
  refine lv_sipush (v := 800) hx hb d_Setter_init_32 (by decide) ?_
  refine q_newa (atype := .boolean) (ty := .boolean) (a0 := (800, .inl (fun _ => 0))) (N' := 800) 2 rfl (by intro C h; cases h) hx hb (hts _ wq_612) rfl hK hP hD hS hA (fun _ => rfl) (by decide) rfl (by decide) (Nat.le_of_ble_eq_true rfl) (Nat.le_of_ble_eq_true rfl) d_Setter_init_35 (fun q4 H hP hD hS => ?_)
  have hP : va_P D vwCl [(h0, .inr (5, [.null, .null, .null, .null, .ref q1, .ref q2, .ref q3, .null, .null, .null, .int 0])), (q1, .inl (cA 0, 800, .inl (fun _ => 0))), (q2, .inl (cA 0, 800, .inl (fun _ => 0))), (q3, .inl (cA 0, 800, .inl (fun _ => 0))), (q4, .inl (cA 2, 800, .inl (fun _ => 0)))] H := hP
  have hD : va_D A [(h0, .inr (5, [.null, .null, .null, .null, .ref q1, .ref q2, .ref q3, .null, .null, .null, .int 0])), (q1, .inl (cA 0, 800, .inl (fun _ => 0))), (q2, .inl (cA 0, 800, .inl (fun _ => 0))), (q3, .inl (cA 0, 800, .inl (fun _ => 0))), (q4, .inl (cA 2, 800, .inl (fun _ => 0)))] := hD
  refine W.widen (k := 4) (n := 3200) (Nat.le_of_ble_eq_true rfl) (Nat.le_of_ble_eq_true rfl) ?_
  refine va_putF (D := D) (ty := (.array .boolean)) (ci := 5) (v := .ref q4) (C := R_Setter) (T := T_Setter) (N := 11) hx hb hts in_Setter ty_Setter tyok_Setter nm_Setter hown hK hP hD hS 0 rfl rfl 7 (by decide) (hts _ wq_91) (fun _ h9 => h9) rfl hin rfl (by decide +kernel) rfl rfl (Nat.le_of_ble_eq_true rfl) d_Setter_init_37 (fun H locs hP hD hS => ?_)
  have hP : va_P D vwCl [(h0, .inr (5, [.null, .null, .null, .null, .ref q1, .ref q2, .ref q3, .ref q4, .null, .null, .int 0])), (q1, .inl (cA 0, 800, .inl (fun _ => 0))), (q2, .inl (cA 0, 800, .inl (fun _ => 0))), (q3, .inl (cA 0, 800, .inl (fun _ => 0))), (q4, .inl (cA 2, 800, .inl (fun _ => 0)))] H := hP
  have hD : va_D A [(h0, .inr (5, [.null, .null, .null, .null, .ref q1, .ref q2, .ref q3, .ref q4, .null, .null, .int 0])), (q1, .inl (cA 0, 800, .inl (fun _ => 0))), (q2, .inl (cA 0, 800, .inl (fun _ => 0))), (q3, .inl (cA 0, 800, .inl (fun _ => 0))), (q4, .inl (cA 2, 800, .inl (fun _ => 0)))] := hD
  refine lv_aload_n hx hb d_Setter_init_40 rfl (lv_at hl 0 rfl) ?_
  refine lv_sipush (v := 800) hx hb d_Setter_init_41 (by decide) ?_
  refine q_newa (atype := .int) (ty := .int) (a0 := (800, .inl (fun _ => 0))) (N' := 800) 0 rfl (by intro C h; cases h) hx hb (hts _ wq_610) rfl hK hP hD hS hA (fun _ => rfl) (by decide) rfl (by decide) (Nat.le_of_ble_eq_true rfl) (Nat.le_of_ble_eq_true rfl) d_Setter_init_44 (fun q5 H hP hD hS => ?_)
  have hP : va_P D vwCl [(h0, .inr (5, [.null, .null, .null, .null, .ref q1, .ref q2, .ref q3, .ref q4, .null, .null, .int 0])), (q1, .inl (cA 0, 800, .inl (fun _ => 0))), (q2, .inl (cA 0, 800, .inl (fun _ => 0))), (q3, .inl (cA 0, 800, .inl (fun _ => 0))), (q4, .inl (cA 2, 800, .inl (fun _ => 0))), (q5, .inl (cA 0, 800, .inl (fun _ => 0)))] H := hP
  have hD : va_D A [(h0, .inr (5, [.null, .null, .null, .null, .ref q1, .ref q2, .ref q3, .ref q4, .null, .null, .int 0])), (q1, .inl (cA 0, 800, .inl (fun _ => 0))), (q2, .inl (cA 0, 800, .inl (fun _ => 0))), (q3, .inl (cA 0, 800, .inl (fun _ => 0))), (q4, .inl (cA 2, 800, .inl (fun _ => 0))), (q5, .inl (cA 0, 800, .inl (fun _ => 0)))] := hD
  refine W.widen (k := 5) (n := 4000) (Nat.le_of_ble_eq_true rfl) (Nat.le_of_ble_eq_true rfl) ?_
  refine va_putF (D := D) (ty := (.array .int)) (ci := 5) (v := .ref q5) (C := R_Setter) (T := T_Setter) (N := 11) hx hb hts in_Setter ty_Setter tyok_Setter nm_Setter hown hK hP hD hS 0 rfl rfl 8 (by decide) (hts _ wq_93) (fun _ h9 => h9) rfl hin rfl (by decide +kernel) rfl rfl (Nat.le_of_ble_eq_true rfl) d_Setter_init_46 (fun H locs hP hD hS => ?_)
  have hP : va_P D vwCl [(h0, .inr (5, [.null, .null, .null, .null, .ref q1, .ref q2, .ref q3, .ref q4, .ref q5, .null, .int 0])), (q1, .inl (cA 0, 800, .inl (fun _ => 0))), (q2, .inl (cA 0, 800, .inl (fun _ => 0))), (q3, .inl (cA 0, 800, .inl (fun _ => 0))), (q4, .inl (cA 2, 800, .inl (fun _ => 0))), (q5, .inl (cA 0, 800, .inl (fun _ => 0)))] H := hP
  have hD : va_D A [(h0, .inr (5, [.null, .null, .null, .null, .ref q1, .ref q2, .ref q3, .ref q4, .ref q5, .null, .int 0])), (q1, .inl (cA 0, 800, .inl (fun _ => 0))), (q2, .inl (cA 0, 800, .inl (fun _ => 0))), (q3, .inl (cA 0, 800, .inl (fun _ => 0))), (q4, .inl (cA 2, 800, .inl (fun _ => 0))), (q5, .inl (cA 0, 800, .inl (fun _ => 0)))] := hD
  refine lv_aload_n hx hb d_Setter_init_49 rfl (lv_at hl 0 rfl) ?_
  refine lv_sipush (v := 800) hx hb d_Setter_init_50 (by decide) ?_
  refine q_newa (atype := .int) (ty := .int) (a0 := (800, .inl (fun _ => 0))) (N' := 800) 0 rfl (by intro C h; cases h) hx hb (hts _ wq_610) rfl hK hP hD hS hA (fun _ => rfl) (by decide) rfl (by decide) (Nat.le_of_ble_eq_true rfl) (Nat.le_of_ble_eq_true rfl) d_Setter_init_53 (fun q6 H hP hD hS => ?_)
  have hP : va_P D vwCl [(h0, .inr (5, [.null, .null, .null, .null, .ref q1, .ref q2, .ref q3, .ref q4, .ref q5, .null, .int 0])), (q1, .inl (cA 0, 800, .inl (fun _ => 0))), (q2, .inl (cA 0, 800, .inl (fun _ => 0))), (q3, .inl (cA 0, 800, .inl (fun _ => 0))), (q4, .inl (cA 2, 800, .inl (fun _ => 0))), (q5, .inl (cA 0, 800, .inl (fun _ => 0))), (q6, .inl (cA 0, 800, .inl (fun _ => 0)))] H := hP
  have hD : va_D A [(h0, .inr (5, [.null, .null, .null, .null, .ref q1, .ref q2, .ref q3, .ref q4, .ref q5, .null, .int 0])), (q1, .inl (cA 0, 800, .inl (fun _ => 0))), (q2, .inl (cA 0, 800, .inl (fun _ => 0))), (q3, .inl (cA 0, 800, .inl (fun _ => 0))), (q4, .inl (cA 2, 800, .inl (fun _ => 0))), (q5, .inl (cA 0, 800, .inl (fun _ => 0))), (q6, .inl (cA 0, 800, .inl (fun _ => 0)))] := hD
  refine W.widen (k := 6) (n := 4800) (Nat.le_of_ble_eq_true rfl) (Nat.le_of_ble_eq_true rfl) ?_
  refine va_putF (D := D) (ty := (.array .int)) (ci := 5) (v := .ref q6) (C := R_Setter) (T := T_Setter) (N := 11) hx hb hts in_Setter ty_Setter tyok_Setter nm_Setter hown hK hP hD hS 0 rfl rfl 9 (by decide) (hts _ wq_90) (fun _ h9 => h9) rfl hin rfl (by decide +kernel) rfl rfl (Nat.le_of_ble_eq_true rfl) d_Setter_init_55 (fun H locs hP hD hS => ?_)
  have hP : va_P D vwCl [(h0, .inr (5, [.null, .null, .null, .null, .ref q1, .ref q2, .ref q3, .ref q4, .ref q5, .ref q6, .int 0])), (q1, .inl (cA 0, 800, .inl (fun _ => 0))), (q2, .inl (cA 0, 800, .inl (fun _ => 0))), (q3, .inl (cA 0, 800, .inl (fun _ => 0))), (q4, .inl (cA 2, 800, .inl (fun _ => 0))), (q5, .inl (cA 0, 800, .inl (fun _ => 0))), (q6, .inl (cA 0, 800, .inl (fun _ => 0)))] H := hP
  have hD : va_D A [(h0, .inr (5, [.null, .null, .null, .null, .ref q1, .ref q2, .ref q3, .ref q4, .ref q5, .ref q6, .int 0])), (q1, .inl (cA 0, 800, .inl (fun _ => 0))), (q2, .inl (cA 0, 800, .inl (fun _ => 0))), (q3, .inl (cA 0, 800, .inl (fun _ => 0))), (q4, .inl (cA 2, 800, .inl (fun _ => 0))), (q5, .inl (cA 0, 800, .inl (fun _ => 0))), (q6, .inl (cA 0, 800, .inl (fun _ => 0)))] := hD
  refine lv_aload_n hx hb d_Setter_init_58 rfl (lv_at hl 0 rfl) ?_
  refine lv_aload_n hx hb d_Setter_init_59 rfl (lv_at hl 1 rfl) ?_
  refine va_putF (D := D) (ty := (.object "GlyphPositions$Table")) (ci := 5) (v := .ref p1) (C := R_Setter) (T := T_Setter) (N := 11) hx hb hts in_Setter ty_Setter tyok_Setter nm_Setter hown hK hP hD hS 0 rfl rfl 0 (by decide) (hts _ wq_96) (fun _ h9 => h9) rfl hin rfl (by decide +kernel) rfl rfl (Nat.le_of_ble_eq_true rfl) d_Setter_init_60 (fun H locs hP hD hS => ?_)
  have hP : va_P D vwCl [(h0, .inr (5, [.ref p1, .null, .null, .null, .ref q1, .ref q2, .ref q3, .ref q4, .ref q5, .ref q6, .int 0])), (q1, .inl (cA 0, 800, .inl (fun _ => 0))), (q2, .inl (cA 0, 800, .inl (fun _ => 0))), (q3, .inl (cA 0, 800, .inl (fun _ => 0))), (q4, .inl (cA 2, 800, .inl (fun _ => 0))), (q5, .inl (cA 0, 800, .inl (fun _ => 0))), (q6, .inl (cA 0, 800, .inl (fun _ => 0)))] H := hP
  have hD : va_D A [(h0, .inr (5, [.ref p1, .null, .null, .null, .ref q1, .ref q2, .ref q3, .ref q4, .ref q5, .ref q6, .int 0])), (q1, .inl (cA 0, 800, .inl (fun _ => 0))), (q2, .inl (cA 0, 800, .inl (fun _ => 0))), (q3, .inl (cA 0, 800, .inl (fun _ => 0))), (q4, .inl (cA 2, 800, .inl (fun _ => 0))), (q5, .inl (cA 0, 800, .inl (fun _ => 0))), (q6, .inl (cA 0, 800, .inl (fun _ => 0)))] := hD
  refine lv_aload_n hx hb d_Setter_init_63 rfl (lv_at hl 0 rfl) ?_
  refine lv_aload_n hx hb d_Setter_init_64 rfl (lv_at hl 2 rfl) ?_
  refine va_putF (D := D) (ty := (.object "GlyphPositions$Told")) (ci := 5) (v := .ref p2) (C := R_Setter) (T := T_Setter) (N := 11) hx hb hts in_Setter ty_Setter tyok_Setter nm_Setter hown hK hP hD hS 0 rfl rfl 1 (by decide) (hts _ wq_85) (fun _ h9 => h9) rfl hin rfl (by decide +kernel) rfl rfl (Nat.le_of_ble_eq_true rfl) d_Setter_init_65 (fun H locs hP hD hS => ?_)
  have hP : va_P D vwCl [(h0, .inr (5, [.ref p1, .ref p2, .null, .null, .ref q1, .ref q2, .ref q3, .ref q4, .ref q5, .ref q6, .int 0])), (q1, .inl (cA 0, 800, .inl (fun _ => 0))), (q2, .inl (cA 0, 800, .inl (fun _ => 0))), (q3, .inl (cA 0, 800, .inl (fun _ => 0))), (q4, .inl (cA 2, 800, .inl (fun _ => 0))), (q5, .inl (cA 0, 800, .inl (fun _ => 0))), (q6, .inl (cA 0, 800, .inl (fun _ => 0)))] H := hP
  have hD : va_D A [(h0, .inr (5, [.ref p1, .ref p2, .null, .null, .ref q1, .ref q2, .ref q3, .ref q4, .ref q5, .ref q6, .int 0])), (q1, .inl (cA 0, 800, .inl (fun _ => 0))), (q2, .inl (cA 0, 800, .inl (fun _ => 0))), (q3, .inl (cA 0, 800, .inl (fun _ => 0))), (q4, .inl (cA 2, 800, .inl (fun _ => 0))), (q5, .inl (cA 0, 800, .inl (fun _ => 0))), (q6, .inl (cA 0, 800, .inl (fun _ => 0)))] := hD
  refine lv_aload_n hx hb d_Setter_init_68 rfl (lv_at hl 0 rfl) ?_
  refine lv_aload_n hx hb d_Setter_init_69 rfl (lv_at hl 3 rfl) ?_
  refine va_putF (D := D) (ty := (.object "GlyphPositions$Kinds")) (ci := 5) (v := .ref p3) (C := R_Setter) (T := T_Setter) (N := 11) hx hb hts in_Setter ty_Setter tyok_Setter nm_Setter hown hK hP hD hS 0 rfl rfl 2 (by decide) (hts _ wq_81) (fun _ h9 => h9) rfl hin rfl (by decide +kernel) rfl rfl (Nat.le_of_ble_eq_true rfl) d_Setter_init_70 (fun H locs hP hD hS => ?_)
  have hP : va_P D vwCl [(h0, .inr (5, [.ref p1, .ref p2, .ref p3, .null, .ref q1, .ref q2, .ref q3, .ref q4, .ref q5, .ref q6, .int 0])), (q1, .inl (cA 0, 800, .inl (fun _ => 0))), (q2, .inl (cA 0, 800, .inl (fun _ => 0))), (q3, .inl (cA 0, 800, .inl (fun _ => 0))), (q4, .inl (cA 2, 800, .inl (fun _ => 0))), (q5, .inl (cA 0, 800, .inl (fun _ => 0))), (q6, .inl (cA 0, 800, .inl (fun _ => 0)))] H := hP
  have hD : va_D A [(h0, .inr (5, [.ref p1, .ref p2, .ref p3, .null, .ref q1, .ref q2, .ref q3, .ref q4, .ref q5, .ref q6, .int 0])), (q1, .inl (cA 0, 800, .inl (fun _ => 0))), (q2, .inl (cA 0, 800, .inl (fun _ => 0))), (q3, .inl (cA 0, 800, .inl (fun _ => 0))), (q4, .inl (cA 2, 800, .inl (fun _ => 0))), (q5, .inl (cA 0, 800, .inl (fun _ => 0))), (q6, .inl (cA 0, 800, .inl (fun _ => 0)))] := hD
  refine lv_aload_n hx hb d_Setter_init_73 rfl (lv_at hl 0 rfl) ?_
  refine lv_aload hx hb d_Setter_init_74 (lv_at hl 4 rfl) ?_
  refine va_putF (D := D) (ty := (.object "GlyphPositions$Run")) (ci := 5) (v := .ref p4) (C := R_Setter) (T := T_Setter) (N := 11) hx hb hts in_Setter ty_Setter tyok_Setter nm_Setter hown hK hP hD hS 0 rfl rfl 3 (by decide) (hts _ wq_83) (fun _ h9 => h9) rfl hin rfl (by decide +kernel) rfl rfl (Nat.le_of_ble_eq_true rfl) d_Setter_init_76 (fun H locs hP hD hS => ?_)
  have hP : va_P D vwCl [(h0, .inr (5, [.ref p1, .ref p2, .ref p3, .ref p4, .ref q1, .ref q2, .ref q3, .ref q4, .ref q5, .ref q6, .int 0])), (q1, .inl (cA 0, 800, .inl (fun _ => 0))), (q2, .inl (cA 0, 800, .inl (fun _ => 0))), (q3, .inl (cA 0, 800, .inl (fun _ => 0))), (q4, .inl (cA 2, 800, .inl (fun _ => 0))), (q5, .inl (cA 0, 800, .inl (fun _ => 0))), (q6, .inl (cA 0, 800, .inl (fun _ => 0)))] H := hP
  have hD : va_D A [(h0, .inr (5, [.ref p1, .ref p2, .ref p3, .ref p4, .ref q1, .ref q2, .ref q3, .ref q4, .ref q5, .ref q6, .int 0])), (q1, .inl (cA 0, 800, .inl (fun _ => 0))), (q2, .inl (cA 0, 800, .inl (fun _ => 0))), (q3, .inl (cA 0, 800, .inl (fun _ => 0))), (q4, .inl (cA 2, 800, .inl (fun _ => 0))), (q5, .inl (cA 0, 800, .inl (fun _ => 0))), (q6, .inl (cA 0, 800, .inl (fun _ => 0)))] := hD
  exact W.vret hx hb hr (fun t ht hW => ⟨⟨fun k => match k with | 1 => q1 | 2 => q2 | 3 => q3 | 4 => q4 | 5 => q5 | 6 => q6 | _ => 0, rfl, trivial, by rw [ht]; exact hP, hD⟩, hS.F ht⟩) hS.2.2 d_Setter_init_79
