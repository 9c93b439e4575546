section QB3
def q_T (cA : Nat → ClassId) : List (ClassId × FieldType) := [(cA 0, .int), (cA 1, .byte), (cA 2, .boolean), (cA 3, .long)]
def q_PreK (D : va_G) (cA : Nat → ClassId) (ws : va_W) (sz : Nat) (U : State) : Prop :=
  U.heap.size = sz ∧ va_P D vwCl ws U.heap ∧ va_K D vwCl (q_T cA) U ∧ va_D (fun _ => True) ws ∧ q_Nt U
theorem q_blindK {D : va_G} {cA : Nat → ClassId} {ws : va_W} {As : List Value} {sz : Nat} : FrameBlind (va_Pc As (q_PreK D cA ws sz)) := fun a U g mk q => by
  obtain ⟨q0, q1, qP, qK, qD, qN⟩ := q
  exact ⟨q0, q1, qP, va_K.moved (u := U) (U := U.calling g mk a) (Vm.Alike.refl U.vm) qK, qD, q_Nt.same (s := U) (U := U.calling g mk a) rfl qN⟩
theorem q_newa {p : Program} {l : Launch} {e : Env} {R : Room} {s : State} {m : MethodId} {args : Array Value} {below : List Frame} {meth : Method} {c : Code} {H H0 : Heap} {locs : List Loc} {cells slots : Nat} {Q : State → Prop} {cc : ByteArray} {pc : Nat} {ls : Array Slot} {rest : List Value} {D : va_G} {cl : List vw_C} {tys : List (ClassId × FieldType)} {ws : va_W} {A : Nat → Prop} {atype : ArrayType} {ty : FieldType} {n : Int32} {N' : Nat} {a0 : vp_A} {cK : ClassId} (t0 : Nat) (ht : tys[t0]? = some (cK, ty)) (hprim : ∀ C, ty ≠ .object C)
    (hexec : p.tables.exec = Jvm.exec) (hb : c.code = cc) (harr : (Cond.arrayClass (newarray.typeOf atype)).before args s = true) (hty : newarray.typeOf atype = ty) (hK : va_K D cl tys s) (hP : va_P D cl ws H) (hD : va_D A ws) (hS : va_S A H0 H locs) (hA : ∀ q, H0.size ≤ q → A q)
    (ha : ∀ cA : ClassId, vp_cell cA a0 = arrV cA N' (fun _ => defaultValue ty)) (hn : ¬ n < 0) (hN : n.toNatClampNeg = N') (hbytes : N' * componentBytes ty ≤ 536870912) (hcells : cells + 1 ≤ R.cells) (hslots : slots + N' ≤ R.slots) (hdg : decode cc pc = .ok (.newarray atype, 2))
    (kk : ∀ (q : Nat) (H1 : Heap), va_P D cl (ws ++ [(q, .inl (cK, a0))]) H1 → va_D A (ws ++ [(q, .inl (cK, a0))]) → va_S A H0 H1 locs →
      W p l e R s m args below meth c H1 locs (cells + 1) (slots + N') Q (F0 m (pc + 2) ls (.ref q :: rest))) : W p l e R s m args below meth c H locs cells slots Q (F0 m pc ls (.int n :: rest)) := by
  refine va_newa hexec hb harr hty hK hP hD hS hA ha hn hN hbytes hcells hslots hdg (fun q cA H1 hK1 hP1 hD1 hS1 => ?_)
  have h1 := (hK1.2 tys.length (cA, ty) (by simp)).2
  have h2 := (hK.2 t0 (cK, ty) ht).2
  have e1 : cA = cK := by
    unfold va_RA at h1 h2
    cases ty with
    | object C => exact absurd rfl (hprim C)
    | _ => exact Option.some.inj (h1.symm.trans h2)
  subst e1
  exact kk q H1 hP1 hD1 hS1
end QB3
abbrev b_Table_init : ByteArray := prog_8_method_1_code
def y_Table_init : MethodName := ⟨R_Table, "<init>", "()V"⟩
theorem d_Table_init_0 : decode b_Table_init 0 = .ok (.aload_n 0, 1) := by decide +kernel
theorem d_Table_init_1 : decode b_Table_init 1 = .ok (.invokespecial 3, 3) := by decide +kernel
theorem d_Table_init_4 : decode b_Table_init 4 = .ok (.aload_n 0, 1) := by decide +kernel
theorem d_Table_init_5 : decode b_Table_init 5 = .ok (.sipush 8192, 3) := by decide +kernel
theorem d_Table_init_8 : decode b_Table_init 8 = .ok (.newarray .byte, 2) := by decide +kernel
theorem d_Table_init_10 : decode b_Table_init 10 = .ok (.putfield 9, 3) := by decide +kernel
theorem d_Table_init_13 : decode b_Table_init 13 = .ok (.return_, 1) := by decide +kernel
abbrev b_Loader_init : ByteArray := prog_5_method_1_code
def y_Loader_init : MethodName := ⟨R_Loader, "<init>", "(LGlyphPositions$Table;)V"⟩
theorem d_Loader_init_0 : decode b_Loader_init 0 = .ok (.aload_n 0, 1) := by decide +kernel
theorem d_Loader_init_1 : decode b_Loader_init 1 = .ok (.invokespecial 3, 3) := by decide +kernel
theorem d_Loader_init_4 : decode b_Loader_init 4 = .ok (.aload_n 0, 1) := by decide +kernel
theorem d_Loader_init_5 : decode b_Loader_init 5 = .ok (.aload_n 1, 1) := by decide +kernel
theorem d_Loader_init_6 : decode b_Loader_init 6 = .ok (.putfield 9, 3) := by decide +kernel
theorem d_Loader_init_9 : decode b_Loader_init 9 = .ok (.return_, 1) := by decide +kernel
abbrev b_Kinds_init : ByteArray := prog_4_method_1_code
def y_Kinds_init : MethodName := ⟨R_Kinds, "<init>", "()V"⟩
theorem d_Kinds_init_0 : decode b_Kinds_init 0 = .ok (.aload_n 0, 1) := by decide +kernel
theorem d_Kinds_init_1 : decode b_Kinds_init 1 = .ok (.invokespecial 3, 3) := by decide +kernel
theorem d_Kinds_init_4 : decode b_Kinds_init 4 = .ok (.aload_n 0, 1) := by decide +kernel
theorem d_Kinds_init_5 : decode b_Kinds_init 5 = .ok (.sipush 256, 3) := by decide +kernel
theorem d_Kinds_init_8 : decode b_Kinds_init 8 = .ok (.newarray .int, 2) := by decide +kernel
theorem d_Kinds_init_10 : decode b_Kinds_init 10 = .ok (.putfield 9, 3) := by decide +kernel
theorem d_Kinds_init_13 : decode b_Kinds_init 13 = .ok (.aload_n 0, 1) := by decide +kernel
theorem d_Kinds_init_14 : decode b_Kinds_init 14 = .ok (.sipush 256, 3) := by decide +kernel
theorem d_Kinds_init_17 : decode b_Kinds_init 17 = .ok (.newarray .int, 2) := by decide +kernel
theorem d_Kinds_init_19 : decode b_Kinds_init 19 = .ok (.putfield 15, 3) := by decide +kernel
theorem d_Kinds_init_22 : decode b_Kinds_init 22 = .ok (.aload_n 0, 1) := by decide +kernel
theorem d_Kinds_init_23 : decode b_Kinds_init 23 = .ok (.sipush 256, 3) := by decide +kernel
theorem d_Kinds_init_26 : decode b_Kinds_init 26 = .ok (.newarray .int, 2) := by decide +kernel
theorem d_Kinds_init_28 : decode b_Kinds_init 28 = .ok (.putfield 18, 3) := by decide +kernel
theorem d_Kinds_init_31 : decode b_Kinds_init 31 = .ok (.aload_n 0, 1) := by decide +kernel
theorem d_Kinds_init_32 : decode b_Kinds_init 32 = .ok (.sipush 256, 3) := by decide +kernel
theorem d_Kinds_init_35 : decode b_Kinds_init 35 = .ok (.newarray .int, 2) := by decide +kernel
theorem d_Kinds_init_37 : decode b_Kinds_init 37 = .ok (.putfield 21, 3) := by decide +kernel
theorem d_Kinds_init_40 : decode b_Kinds_init 40 = .ok (.return_, 1) := by decide +kernel
abbrev b_Tags_init : ByteArray := prog_9_method_1_code
def y_Tags_init : MethodName := ⟨R_Tags, "<init>", "()V"⟩
theorem d_Tags_init_0 : decode b_Tags_init 0 = .ok (.aload_n 0, 1) := by decide +kernel
theorem d_Tags_init_1 : decode b_Tags_init 1 = .ok (.invokespecial 3, 3) := by decide +kernel
theorem d_Tags_init_4 : decode b_Tags_init 4 = .ok (.aload_n 0, 1) := by decide +kernel
theorem d_Tags_init_5 : decode b_Tags_init 5 = .ok (.bipush 20, 2) := by decide +kernel
theorem d_Tags_init_7 : decode b_Tags_init 7 = .ok (.newarray .int, 2) := by decide +kernel
theorem d_Tags_init_9 : decode b_Tags_init 9 = .ok (.putfield 9, 3) := by decide +kernel
theorem d_Tags_init_12 : decode b_Tags_init 12 = .ok (.aload_n 0, 1) := by decide +kernel
theorem d_Tags_init_13 : decode b_Tags_init 13 = .ok (.bipush 20, 2) := by decide +kernel
theorem d_Tags_init_15 : decode b_Tags_init 15 = .ok (.newarray .boolean, 2) := by decide +kernel
theorem d_Tags_init_17 : decode b_Tags_init 17 = .ok (.putfield 15, 3) := by decide +kernel
theorem d_Tags_init_20 : decode b_Tags_init 20 = .ok (.return_, 1) := by decide +kernel
abbrev b_Told_init : ByteArray := prog_10_method_1_code
def y_Told_init : MethodName := ⟨R_Told, "<init>", "()V"⟩
theorem d_Told_init_0 : decode b_Told_init 0 = .ok (.aload_n 0, 1) := by decide +kernel
theorem d_Told_init_1 : decode b_Told_init 1 = .ok (.invokespecial 3, 3) := by decide +kernel
theorem d_Told_init_4 : decode b_Told_init 4 = .ok (.aload_n 0, 1) := by decide +kernel
theorem d_Told_init_5 : decode b_Told_init 5 = .ok (.sipush 800, 3) := by decide +kernel
theorem d_Told_init_8 : decode b_Told_init 8 = .ok (.newarray .int, 2) := by decide +kernel
theorem d_Told_init_10 : decode b_Told_init 10 = .ok (.putfield 9, 3) := by decide +kernel
theorem d_Told_init_13 : decode b_Told_init 13 = .ok (.aload_n 0, 1) := by decide +kernel
theorem d_Told_init_14 : decode b_Told_init 14 = .ok (.sipush 800, 3) := by decide +kernel
theorem d_Told_init_17 : decode b_Told_init 17 = .ok (.newarray .int, 2) := by decide +kernel
theorem d_Told_init_19 : decode b_Told_init 19 = .ok (.putfield 15, 3) := by decide +kernel
theorem d_Told_init_22 : decode b_Told_init 22 = .ok (.aload_n 0, 1) := by decide +kernel
theorem d_Told_init_23 : decode b_Told_init 23 = .ok (.sipush 800, 3) := by decide +kernel
theorem d_Told_init_26 : decode b_Told_init 26 = .ok (.newarray .int, 2) := by decide +kernel
theorem d_Told_init_28 : decode b_Told_init 28 = .ok (.putfield 18, 3) := by decide +kernel
theorem d_Told_init_31 : decode b_Told_init 31 = .ok (.return_, 1) := by decide +kernel
abbrev b_Choice_init : ByteArray := prog_2_method_1_code
def y_Choice_init : MethodName := ⟨R_Choice, "<init>", "(LGlyphPositions$Table;LGlyphPositions$Tags;)V"⟩
theorem d_Choice_init_0 : decode b_Choice_init 0 = .ok (.aload_n 0, 1) := by decide +kernel
theorem d_Choice_init_1 : decode b_Choice_init 1 = .ok (.invokespecial 3, 3) := by decide +kernel
theorem d_Choice_init_4 : decode b_Choice_init 4 = .ok (.aload_n 0, 1) := by decide +kernel
theorem d_Choice_init_5 : decode b_Choice_init 5 = .ok (.bipush 64, 2) := by decide +kernel
theorem d_Choice_init_7 : decode b_Choice_init 7 = .ok (.newarray .boolean, 2) := by decide +kernel
theorem d_Choice_init_9 : decode b_Choice_init 9 = .ok (.putfield 9, 3) := by decide +kernel
theorem d_Choice_init_12 : decode b_Choice_init 12 = .ok (.aload_n 0, 1) := by decide +kernel
theorem d_Choice_init_13 : decode b_Choice_init 13 = .ok (.aload_n 1, 1) := by decide +kernel
theorem d_Choice_init_14 : decode b_Choice_init 14 = .ok (.putfield 15, 3) := by decide +kernel
theorem d_Choice_init_17 : decode b_Choice_init 17 = .ok (.aload_n 0, 1) := by decide +kernel
theorem d_Choice_init_18 : decode b_Choice_init 18 = .ok (.aload_n 2, 1) := by decide +kernel
theorem d_Choice_init_19 : decode b_Choice_init 19 = .ok (.putfield 19, 3) := by decide +kernel
theorem d_Choice_init_22 : decode b_Choice_init 22 = .ok (.return_, 1) := by decide +kernel
abbrev b_Run_init : ByteArray := prog_6_method_1_code
def y_Run_init : MethodName := ⟨R_Run, "<init>", "()V"⟩
theorem d_Run_init_0 : decode b_Run_init 0 = .ok (.aload_n 0, 1) := by decide +kernel
theorem d_Run_init_1 : decode b_Run_init 1 = .ok (.invokespecial 3, 3) := by decide +kernel
theorem d_Run_init_4 : decode b_Run_init 4 = .ok (.aload_n 0, 1) := by decide +kernel
theorem d_Run_init_5 : decode b_Run_init 5 = .ok (.sipush 800, 3) := by decide +kernel
theorem d_Run_init_8 : decode b_Run_init 8 = .ok (.newarray .int, 2) := by decide +kernel
theorem d_Run_init_10 : decode b_Run_init 10 = .ok (.putfield 9, 3) := by decide +kernel
theorem d_Run_init_13 : decode b_Run_init 13 = .ok (.aload_n 0, 1) := by decide +kernel
theorem d_Run_init_14 : decode b_Run_init 14 = .ok (.sipush 800, 3) := by decide +kernel
theorem d_Run_init_17 : decode b_Run_init 17 = .ok (.newarray .int, 2) := by decide +kernel
theorem d_Run_init_19 : decode b_Run_init 19 = .ok (.putfield 15, 3) := by decide +kernel
theorem d_Run_init_22 : decode b_Run_init 22 = .ok (.aload_n 0, 1) := by decide +kernel
theorem d_Run_init_23 : decode b_Run_init 23 = .ok (.sipush 800, 3) := by decide +kernel
theorem d_Run_init_26 : decode b_Run_init 26 = .ok (.newarray .int, 2) := by decide +kernel
theorem d_Run_init_28 : decode b_Run_init 28 = .ok (.putfield 18, 3) := by decide +kernel
theorem d_Run_init_31 : decode b_Run_init 31 = .ok (.aload_n 0, 1) := by decide +kernel
theorem d_Run_init_32 : decode b_Run_init 32 = .ok (.sipush 800, 3) := by decide +kernel
theorem d_Run_init_35 : decode b_Run_init 35 = .ok (.newarray .int, 2) := by decide +kernel
theorem d_Run_init_37 : decode b_Run_init 37 = .ok (.putfield 21, 3) := by decide +kernel
theorem d_Run_init_40 : decode b_Run_init 40 = .ok (.aload_n 0, 1) := by decide +kernel
theorem d_Run_init_41 : decode b_Run_init 41 = .ok (.sipush 800, 3) := by decide +kernel
theorem d_Run_init_44 : decode b_Run_init 44 = .ok (.newarray .int, 2) := by decide +kernel
theorem d_Run_init_46 : decode b_Run_init 46 = .ok (.putfield 24, 3) := by decide +kernel
theorem d_Run_init_49 : decode b_Run_init 49 = .ok (.aload_n 0, 1) := by decide +kernel
theorem d_Run_init_50 : decode b_Run_init 50 = .ok (.sipush 800, 3) := by decide +kernel
theorem d_Run_init_53 : decode b_Run_init 53 = .ok (.newarray .boolean, 2) := by decide +kernel
theorem d_Run_init_55 : decode b_Run_init 55 = .ok (.putfield 27, 3) := by decide +kernel
theorem d_Run_init_58 : decode b_Run_init 58 = .ok (.aload_n 0, 1) := by decide +kernel
theorem d_Run_init_59 : decode b_Run_init 59 = .ok (.sipush 800, 3) := by decide +kernel
theorem d_Run_init_62 : decode b_Run_init 62 = .ok (.newarray .int, 2) := by decide +kernel
theorem d_Run_init_64 : decode b_Run_init 64 = .ok (.putfield 31, 3) := by decide +kernel
theorem d_Run_init_67 : decode b_Run_init 67 = .ok (.aload_n 0, 1) := by decide +kernel
theorem d_Run_init_68 : decode b_Run_init 68 = .ok (.sipush 800, 3) := by decide +kernel
theorem d_Run_init_71 : decode b_Run_init 71 = .ok (.newarray .int, 2) := by decide +kernel
theorem d_Run_init_73 : decode b_Run_init 73 = .ok (.putfield 34, 3) := by decide +kernel
theorem d_Run_init_76 : decode b_Run_init 76 = .ok (.return_, 1) := by decide +kernel
abbrev b_Setter_init : ByteArray := prog_7_method_1_code
def y_Setter_init : MethodName := ⟨R_Setter, "<init>", "(LGlyphPositions$Table;LGlyphPositions$Told;LGlyphPositions$Kinds;LGlyphPositions$Run;)V"⟩
theorem d_Setter_init_0 : decode b_Setter_init 0 = .ok (.aload_n 0, 1) := by decide +kernel
theorem d_Setter_init_1 : decode b_Setter_init 1 = .ok (.invokespecial 3, 3) := by decide +kernel
theorem d_Setter_init_4 : decode b_Setter_init 4 = .ok (.aload_n 0, 1) := by decide +kernel
theorem d_Setter_init_5 : decode b_Setter_init 5 = .ok (.sipush 800, 3) := by decide +kernel
theorem d_Setter_init_8 : decode b_Setter_init 8 = .ok (.newarray .int, 2) := by decide +kernel
theorem d_Setter_init_10 : decode b_Setter_init 10 = .ok (.putfield 9, 3) := by decide +kernel
theorem d_Setter_init_13 : decode b_Setter_init 13 = .ok (.aload_n 0, 1) := by decide +kernel
theorem d_Setter_init_14 : decode b_Setter_init 14 = .ok (.sipush 800, 3) := by decide +kernel
theorem d_Setter_init_17 : decode b_Setter_init 17 = .ok (.newarray .int, 2) := by decide +kernel
theorem d_Setter_init_19 : decode b_Setter_init 19 = .ok (.putfield 15, 3) := by decide +kernel
theorem d_Setter_init_22 : decode b_Setter_init 22 = .ok (.aload_n 0, 1) := by decide +kernel
theorem d_Setter_init_23 : decode b_Setter_init 23 = .ok (.sipush 800, 3) := by decide +kernel
theorem d_Setter_init_26 : decode b_Setter_init 26 = .ok (.newarray .int, 2) := by decide +kernel
theorem d_Setter_init_28 : decode b_Setter_init 28 = .ok (.putfield 18, 3) := by decide +kernel
theorem d_Setter_init_31 : decode b_Setter_init 31 = .ok (.aload_n 0, 1) := by decide +kernel
theorem d_Setter_init_32 : decode b_Setter_init 32 = .ok (.sipush 800, 3) := by decide +kernel
theorem d_Setter_init_35 : decode b_Setter_init 35 = .ok (.newarray .boolean, 2) := by decide +kernel
theorem d_Setter_init_37 : decode b_Setter_init 37 = .ok (.putfield 21, 3) := by decide +kernel
theorem d_Setter_init_40 : decode b_Setter_init 40 = .ok (.aload_n 0, 1) := by decide +kernel
theorem d_Setter_init_41 : decode b_Setter_init 41 = .ok (.sipush 800, 3) := by decide +kernel
theorem d_Setter_init_44 : decode b_Setter_init 44 = .ok (.newarray .int, 2) := by decide +kernel
theorem d_Setter_init_46 : decode b_Setter_init 46 = .ok (.putfield 25, 3) := by decide +kernel
theorem d_Setter_init_49 : decode b_Setter_init 49 = .ok (.aload_n 0, 1) := by decide +kernel
theorem d_Setter_init_50 : decode b_Setter_init 50 = .ok (.sipush 800, 3) := by decide +kernel
theorem d_Setter_init_53 : decode b_Setter_init 53 = .ok (.newarray .int, 2) := by decide +kernel
theorem d_Setter_init_55 : decode b_Setter_init 55 = .ok (.putfield 28, 3) := by decide +kernel
theorem d_Setter_init_58 : decode b_Setter_init 58 = .ok (.aload_n 0, 1) := by decide +kernel
theorem d_Setter_init_59 : decode b_Setter_init 59 = .ok (.aload_n 1, 1) := by decide +kernel
theorem d_Setter_init_60 : decode b_Setter_init 60 = .ok (.putfield 31, 3) := by decide +kernel
theorem d_Setter_init_63 : decode b_Setter_init 63 = .ok (.aload_n 0, 1) := by decide +kernel
theorem d_Setter_init_64 : decode b_Setter_init 64 = .ok (.aload_n 2, 1) := by decide +kernel
theorem d_Setter_init_65 : decode b_Setter_init 65 = .ok (.putfield 35, 3) := by decide +kernel
theorem d_Setter_init_68 : decode b_Setter_init 68 = .ok (.aload_n 0, 1) := by decide +kernel
theorem d_Setter_init_69 : decode b_Setter_init 69 = .ok (.aload_n 3, 1) := by decide +kernel
theorem d_Setter_init_70 : decode b_Setter_init 70 = .ok (.putfield 39, 3) := by decide +kernel
theorem d_Setter_init_73 : decode b_Setter_init 73 = .ok (.aload_n 0, 1) := by decide +kernel
theorem d_Setter_init_74 : decode b_Setter_init 74 = .ok (.aload 4, 2) := by decide +kernel
theorem d_Setter_init_76 : decode b_Setter_init 76 = .ok (.putfield 43, 3) := by decide +kernel
theorem d_Setter_init_79 : decode b_Setter_init 79 = .ok (.return_, 1) := by decide +kernel
abbrev b_GP_init : ByteArray := prog_1_method_1_code
def y_GP_init : MethodName := ⟨R_GP, "<init>", "()V"⟩
theorem d_GP_init_0 : decode b_GP_init 0 = .ok (.aload_n 0, 1) := by decide +kernel
theorem d_GP_init_1 : decode b_GP_init 1 = .ok (.invokespecial 1, 3) := by decide +kernel
theorem d_GP_init_4 : decode b_GP_init 4 = .ok (.aload_n 0, 1) := by decide +kernel
theorem d_GP_init_5 : decode b_GP_init 5 = .ok (.new 7, 3) := by decide +kernel
theorem d_GP_init_8 : decode b_GP_init 8 = .ok (.dup, 1) := by decide +kernel
theorem d_GP_init_9 : decode b_GP_init 9 = .ok (.invokespecial 9, 3) := by decide +kernel
theorem d_GP_init_12 : decode b_GP_init 12 = .ok (.putfield 10, 3) := by decide +kernel
theorem d_GP_init_15 : decode b_GP_init 15 = .ok (.aload_n 0, 1) := by decide +kernel
theorem d_GP_init_16 : decode b_GP_init 16 = .ok (.new 7, 3) := by decide +kernel
theorem d_GP_init_19 : decode b_GP_init 19 = .ok (.dup, 1) := by decide +kernel
theorem d_GP_init_20 : decode b_GP_init 20 = .ok (.invokespecial 9, 3) := by decide +kernel
theorem d_GP_init_23 : decode b_GP_init 23 = .ok (.putfield 16, 3) := by decide +kernel
theorem d_GP_init_26 : decode b_GP_init 26 = .ok (.aload_n 0, 1) := by decide +kernel
theorem d_GP_init_27 : decode b_GP_init 27 = .ok (.new 19, 3) := by decide +kernel
theorem d_GP_init_30 : decode b_GP_init 30 = .ok (.dup, 1) := by decide +kernel
theorem d_GP_init_31 : decode b_GP_init 31 = .ok (.aload_n 0, 1) := by decide +kernel
theorem d_GP_init_32 : decode b_GP_init 32 = .ok (.getfield 10, 3) := by decide +kernel
theorem d_GP_init_35 : decode b_GP_init 35 = .ok (.invokespecial 21, 3) := by decide +kernel
theorem d_GP_init_38 : decode b_GP_init 38 = .ok (.putfield 24, 3) := by decide +kernel
theorem d_GP_init_41 : decode b_GP_init 41 = .ok (.aload_n 0, 1) := by decide +kernel
theorem d_GP_init_42 : decode b_GP_init 42 = .ok (.new 28, 3) := by decide +kernel
theorem d_GP_init_45 : decode b_GP_init 45 = .ok (.dup, 1) := by decide +kernel
theorem d_GP_init_46 : decode b_GP_init 46 = .ok (.invokespecial 30, 3) := by decide +kernel
theorem d_GP_init_49 : decode b_GP_init 49 = .ok (.putfield 31, 3) := by decide +kernel
theorem d_GP_init_52 : decode b_GP_init 52 = .ok (.aload_n 0, 1) := by decide +kernel
theorem d_GP_init_53 : decode b_GP_init 53 = .ok (.new 35, 3) := by decide +kernel
theorem d_GP_init_56 : decode b_GP_init 56 = .ok (.dup, 1) := by decide +kernel
theorem d_GP_init_57 : decode b_GP_init 57 = .ok (.invokespecial 37, 3) := by decide +kernel
theorem d_GP_init_60 : decode b_GP_init 60 = .ok (.putfield 38, 3) := by decide +kernel
theorem d_GP_init_63 : decode b_GP_init 63 = .ok (.aload_n 0, 1) := by decide +kernel
theorem d_GP_init_64 : decode b_GP_init 64 = .ok (.new 42, 3) := by decide +kernel
theorem d_GP_init_67 : decode b_GP_init 67 = .ok (.dup, 1) := by decide +kernel
theorem d_GP_init_68 : decode b_GP_init 68 = .ok (.invokespecial 44, 3) := by decide +kernel
theorem d_GP_init_71 : decode b_GP_init 71 = .ok (.putfield 45, 3) := by decide +kernel
theorem d_GP_init_74 : decode b_GP_init 74 = .ok (.aload_n 0, 1) := by decide +kernel
theorem d_GP_init_75 : decode b_GP_init 75 = .ok (.new 49, 3) := by decide +kernel
theorem d_GP_init_78 : decode b_GP_init 78 = .ok (.dup, 1) := by decide +kernel
theorem d_GP_init_79 : decode b_GP_init 79 = .ok (.aload_n 0, 1) := by decide +kernel
theorem d_GP_init_80 : decode b_GP_init 80 = .ok (.getfield 16, 3) := by decide +kernel
theorem d_GP_init_83 : decode b_GP_init 83 = .ok (.aload_n 0, 1) := by decide +kernel
theorem d_GP_init_84 : decode b_GP_init 84 = .ok (.getfield 38, 3) := by decide +kernel
theorem d_GP_init_87 : decode b_GP_init 87 = .ok (.invokespecial 51, 3) := by decide +kernel
theorem d_GP_init_90 : decode b_GP_init 90 = .ok (.putfield 54, 3) := by decide +kernel
theorem d_GP_init_93 : decode b_GP_init 93 = .ok (.aload_n 0, 1) := by decide +kernel
theorem d_GP_init_94 : decode b_GP_init 94 = .ok (.new 58, 3) := by decide +kernel
theorem d_GP_init_97 : decode b_GP_init 97 = .ok (.dup, 1) := by decide +kernel
theorem d_GP_init_98 : decode b_GP_init 98 = .ok (.invokespecial 60, 3) := by decide +kernel
theorem d_GP_init_101 : decode b_GP_init 101 = .ok (.putfield 61, 3) := by decide +kernel
theorem d_GP_init_104 : decode b_GP_init 104 = .ok (.aload_n 0, 1) := by decide +kernel
theorem d_GP_init_105 : decode b_GP_init 105 = .ok (.new 65, 3) := by decide +kernel
theorem d_GP_init_108 : decode b_GP_init 108 = .ok (.dup, 1) := by decide +kernel
theorem d_GP_init_109 : decode b_GP_init 109 = .ok (.aload_n 0, 1) := by decide +kernel
theorem d_GP_init_110 : decode b_GP_init 110 = .ok (.getfield 16, 3) := by decide +kernel
theorem d_GP_init_113 : decode b_GP_init 113 = .ok (.aload_n 0, 1) := by decide +kernel
theorem d_GP_init_114 : decode b_GP_init 114 = .ok (.getfield 45, 3) := by decide +kernel
theorem d_GP_init_117 : decode b_GP_init 117 = .ok (.aload_n 0, 1) := by decide +kernel
theorem d_GP_init_118 : decode b_GP_init 118 = .ok (.getfield 31, 3) := by decide +kernel
theorem d_GP_init_121 : decode b_GP_init 121 = .ok (.aload_n 0, 1) := by decide +kernel
theorem d_GP_init_122 : decode b_GP_init 122 = .ok (.getfield 61, 3) := by decide +kernel
theorem d_GP_init_125 : decode b_GP_init 125 = .ok (.invokespecial 67, 3) := by decide +kernel
theorem d_GP_init_128 : decode b_GP_init 128 = .ok (.putfield 70, 3) := by decide +kernel
theorem d_GP_init_131 : decode b_GP_init 131 = .ok (.return_, 1) := by decide +kernel
abbrev b_GlyphPositionsModel_init : ByteArray := prog_12_method_1_code
def y_GlyphPositionsModel_init : MethodName := ⟨R_GlyphPositionsModel, "<init>", "()V"⟩
theorem d_GlyphPositionsModel_init_0 : decode b_GlyphPositionsModel_init 0 = .ok (.aload_n 0, 1) := by decide +kernel
theorem d_GlyphPositionsModel_init_1 : decode b_GlyphPositionsModel_init 1 = .ok (.invokespecial 1, 3) := by decide +kernel
theorem d_GlyphPositionsModel_init_4 : decode b_GlyphPositionsModel_init 4 = .ok (.aload_n 0, 1) := by decide +kernel
theorem d_GlyphPositionsModel_init_5 : decode b_GlyphPositionsModel_init 5 = .ok (.sipush 8192, 3) := by decide +kernel
theorem d_GlyphPositionsModel_init_8 : decode b_GlyphPositionsModel_init 8 = .ok (.newarray .int, 2) := by decide +kernel
theorem d_GlyphPositionsModel_init_10 : decode b_GlyphPositionsModel_init 10 = .ok (.putfield 7, 3) := by decide +kernel
theorem d_GlyphPositionsModel_init_13 : decode b_GlyphPositionsModel_init 13 = .ok (.aload_n 0, 1) := by decide +kernel
theorem d_GlyphPositionsModel_init_14 : decode b_GlyphPositionsModel_init 14 = .ok (.sipush 8192, 3) := by decide +kernel
theorem d_GlyphPositionsModel_init_17 : decode b_GlyphPositionsModel_init 17 = .ok (.newarray .int, 2) := by decide +kernel
theorem d_GlyphPositionsModel_init_19 : decode b_GlyphPositionsModel_init 19 = .ok (.putfield 13, 3) := by decide +kernel
theorem d_GlyphPositionsModel_init_22 : decode b_GlyphPositionsModel_init 22 = .ok (.aload_n 0, 1) := by decide +kernel
theorem d_GlyphPositionsModel_init_23 : decode b_GlyphPositionsModel_init 23 = .ok (.sipush 256, 3) := by decide +kernel
theorem d_GlyphPositionsModel_init_26 : decode b_GlyphPositionsModel_init 26 = .ok (.newarray .int, 2) := by decide +kernel
theorem d_GlyphPositionsModel_init_28 : decode b_GlyphPositionsModel_init 28 = .ok (.putfield 16, 3) := by decide +kernel
theorem d_GlyphPositionsModel_init_31 : decode b_GlyphPositionsModel_init 31 = .ok (.aload_n 0, 1) := by decide +kernel
theorem d_GlyphPositionsModel_init_32 : decode b_GlyphPositionsModel_init 32 = .ok (.sipush 256, 3) := by decide +kernel
theorem d_GlyphPositionsModel_init_35 : decode b_GlyphPositionsModel_init 35 = .ok (.newarray .int, 2) := by decide +kernel
theorem d_GlyphPositionsModel_init_37 : decode b_GlyphPositionsModel_init 37 = .ok (.putfield 19, 3) := by decide +kernel
theorem d_GlyphPositionsModel_init_40 : decode b_GlyphPositionsModel_init 40 = .ok (.aload_n 0, 1) := by decide +kernel
theorem d_GlyphPositionsModel_init_41 : decode b_GlyphPositionsModel_init 41 = .ok (.sipush 256, 3) := by decide +kernel
theorem d_GlyphPositionsModel_init_44 : decode b_GlyphPositionsModel_init 44 = .ok (.newarray .int, 2) := by decide +kernel
theorem d_GlyphPositionsModel_init_46 : decode b_GlyphPositionsModel_init 46 = .ok (.putfield 22, 3) := by decide +kernel
theorem d_GlyphPositionsModel_init_49 : decode b_GlyphPositionsModel_init 49 = .ok (.aload_n 0, 1) := by decide +kernel
theorem d_GlyphPositionsModel_init_50 : decode b_GlyphPositionsModel_init 50 = .ok (.sipush 256, 3) := by decide +kernel
theorem d_GlyphPositionsModel_init_53 : decode b_GlyphPositionsModel_init 53 = .ok (.newarray .int, 2) := by decide +kernel
theorem d_GlyphPositionsModel_init_55 : decode b_GlyphPositionsModel_init 55 = .ok (.putfield 25, 3) := by decide +kernel
theorem d_GlyphPositionsModel_init_58 : decode b_GlyphPositionsModel_init 58 = .ok (.aload_n 0, 1) := by decide +kernel
theorem d_GlyphPositionsModel_init_59 : decode b_GlyphPositionsModel_init 59 = .ok (.bipush 20, 2) := by decide +kernel
theorem d_GlyphPositionsModel_init_61 : decode b_GlyphPositionsModel_init 61 = .ok (.newarray .int, 2) := by decide +kernel
theorem d_GlyphPositionsModel_init_63 : decode b_GlyphPositionsModel_init 63 = .ok (.putfield 28, 3) := by decide +kernel
theorem d_GlyphPositionsModel_init_66 : decode b_GlyphPositionsModel_init 66 = .ok (.aload_n 0, 1) := by decide +kernel
theorem d_GlyphPositionsModel_init_67 : decode b_GlyphPositionsModel_init 67 = .ok (.bipush 20, 2) := by decide +kernel
theorem d_GlyphPositionsModel_init_69 : decode b_GlyphPositionsModel_init 69 = .ok (.newarray .boolean, 2) := by decide +kernel
theorem d_GlyphPositionsModel_init_71 : decode b_GlyphPositionsModel_init 71 = .ok (.putfield 31, 3) := by decide +kernel
theorem d_GlyphPositionsModel_init_74 : decode b_GlyphPositionsModel_init 74 = .ok (.aload_n 0, 1) := by decide +kernel
theorem d_GlyphPositionsModel_init_75 : decode b_GlyphPositionsModel_init 75 = .ok (.sipush 800, 3) := by decide +kernel
theorem d_GlyphPositionsModel_init_78 : decode b_GlyphPositionsModel_init 78 = .ok (.newarray .int, 2) := by decide +kernel
theorem d_GlyphPositionsModel_init_80 : decode b_GlyphPositionsModel_init 80 = .ok (.putfield 35, 3) := by decide +kernel
theorem d_GlyphPositionsModel_init_83 : decode b_GlyphPositionsModel_init 83 = .ok (.aload_n 0, 1) := by decide +kernel
theorem d_GlyphPositionsModel_init_84 : decode b_GlyphPositionsModel_init 84 = .ok (.sipush 800, 3) := by decide +kernel
theorem d_GlyphPositionsModel_init_87 : decode b_GlyphPositionsModel_init 87 = .ok (.newarray .int, 2) := by decide +kernel
theorem d_GlyphPositionsModel_init_89 : decode b_GlyphPositionsModel_init 89 = .ok (.putfield 38, 3) := by decide +kernel
theorem d_GlyphPositionsModel_init_92 : decode b_GlyphPositionsModel_init 92 = .ok (.aload_n 0, 1) := by decide +kernel
theorem d_GlyphPositionsModel_init_93 : decode b_GlyphPositionsModel_init 93 = .ok (.sipush 800, 3) := by decide +kernel
theorem d_GlyphPositionsModel_init_96 : decode b_GlyphPositionsModel_init 96 = .ok (.newarray .int, 2) := by decide +kernel
theorem d_GlyphPositionsModel_init_98 : decode b_GlyphPositionsModel_init 98 = .ok (.putfield 41, 3) := by decide +kernel
theorem d_GlyphPositionsModel_init_101 : decode b_GlyphPositionsModel_init 101 = .ok (.aload_n 0, 1) := by decide +kernel
theorem d_GlyphPositionsModel_init_102 : decode b_GlyphPositionsModel_init 102 = .ok (.bipush 64, 2) := by decide +kernel
theorem d_GlyphPositionsModel_init_104 : decode b_GlyphPositionsModel_init 104 = .ok (.newarray .boolean, 2) := by decide +kernel
theorem d_GlyphPositionsModel_init_106 : decode b_GlyphPositionsModel_init 106 = .ok (.putfield 44, 3) := by decide +kernel
theorem d_GlyphPositionsModel_init_109 : decode b_GlyphPositionsModel_init 109 = .ok (.aload_n 0, 1) := by decide +kernel
theorem d_GlyphPositionsModel_init_110 : decode b_GlyphPositionsModel_init 110 = .ok (.sipush 800, 3) := by decide +kernel
theorem d_GlyphPositionsModel_init_113 : decode b_GlyphPositionsModel_init 113 = .ok (.newarray .int, 2) := by decide +kernel
theorem d_GlyphPositionsModel_init_115 : decode b_GlyphPositionsModel_init 115 = .ok (.putfield 47, 3) := by decide +kernel
theorem d_GlyphPositionsModel_init_118 : decode b_GlyphPositionsModel_init 118 = .ok (.aload_n 0, 1) := by decide +kernel
theorem d_GlyphPositionsModel_init_119 : decode b_GlyphPositionsModel_init 119 = .ok (.sipush 800, 3) := by decide +kernel
theorem d_GlyphPositionsModel_init_122 : decode b_GlyphPositionsModel_init 122 = .ok (.newarray .int, 2) := by decide +kernel
theorem d_GlyphPositionsModel_init_124 : decode b_GlyphPositionsModel_init 124 = .ok (.putfield 50, 3) := by decide +kernel
theorem d_GlyphPositionsModel_init_127 : decode b_GlyphPositionsModel_init 127 = .ok (.aload_n 0, 1) := by decide +kernel
theorem d_GlyphPositionsModel_init_128 : decode b_GlyphPositionsModel_init 128 = .ok (.sipush 800, 3) := by decide +kernel
theorem d_GlyphPositionsModel_init_131 : decode b_GlyphPositionsModel_init 131 = .ok (.newarray .int, 2) := by decide +kernel
theorem d_GlyphPositionsModel_init_133 : decode b_GlyphPositionsModel_init 133 = .ok (.putfield 53, 3) := by decide +kernel
theorem d_GlyphPositionsModel_init_136 : decode b_GlyphPositionsModel_init 136 = .ok (.aload_n 0, 1) := by decide +kernel
theorem d_GlyphPositionsModel_init_137 : decode b_GlyphPositionsModel_init 137 = .ok (.sipush 800, 3) := by decide +kernel
theorem d_GlyphPositionsModel_init_140 : decode b_GlyphPositionsModel_init 140 = .ok (.newarray .int, 2) := by decide +kernel
theorem d_GlyphPositionsModel_init_142 : decode b_GlyphPositionsModel_init 142 = .ok (.putfield 56, 3) := by decide +kernel
theorem d_GlyphPositionsModel_init_145 : decode b_GlyphPositionsModel_init 145 = .ok (.aload_n 0, 1) := by decide +kernel
theorem d_GlyphPositionsModel_init_146 : decode b_GlyphPositionsModel_init 146 = .ok (.sipush 800, 3) := by decide +kernel
theorem d_GlyphPositionsModel_init_149 : decode b_GlyphPositionsModel_init 149 = .ok (.newarray .int, 2) := by decide +kernel
theorem d_GlyphPositionsModel_init_151 : decode b_GlyphPositionsModel_init 151 = .ok (.putfield 59, 3) := by decide +kernel
theorem d_GlyphPositionsModel_init_154 : decode b_GlyphPositionsModel_init 154 = .ok (.aload_n 0, 1) := by decide +kernel
theorem d_GlyphPositionsModel_init_155 : decode b_GlyphPositionsModel_init 155 = .ok (.sipush 800, 3) := by decide +kernel
theorem d_GlyphPositionsModel_init_158 : decode b_GlyphPositionsModel_init 158 = .ok (.newarray .int, 2) := by decide +kernel
theorem d_GlyphPositionsModel_init_160 : decode b_GlyphPositionsModel_init 160 = .ok (.putfield 62, 3) := by decide +kernel
theorem d_GlyphPositionsModel_init_163 : decode b_GlyphPositionsModel_init 163 = .ok (.aload_n 0, 1) := by decide +kernel
theorem d_GlyphPositionsModel_init_164 : decode b_GlyphPositionsModel_init 164 = .ok (.sipush 800, 3) := by decide +kernel
theorem d_GlyphPositionsModel_init_167 : decode b_GlyphPositionsModel_init 167 = .ok (.newarray .int, 2) := by decide +kernel
theorem d_GlyphPositionsModel_init_169 : decode b_GlyphPositionsModel_init 169 = .ok (.putfield 65, 3) := by decide +kernel
theorem d_GlyphPositionsModel_init_172 : decode b_GlyphPositionsModel_init 172 = .ok (.aload_n 0, 1) := by decide +kernel
theorem d_GlyphPositionsModel_init_173 : decode b_GlyphPositionsModel_init 173 = .ok (.sipush 800, 3) := by decide +kernel
theorem d_GlyphPositionsModel_init_176 : decode b_GlyphPositionsModel_init 176 = .ok (.newarray .boolean, 2) := by decide +kernel
theorem d_GlyphPositionsModel_init_178 : decode b_GlyphPositionsModel_init 178 = .ok (.putfield 68, 3) := by decide +kernel
theorem d_GlyphPositionsModel_init_181 : decode b_GlyphPositionsModel_init 181 = .ok (.aload_n 0, 1) := by decide +kernel
theorem d_GlyphPositionsModel_init_182 : decode b_GlyphPositionsModel_init 182 = .ok (.sipush 800, 3) := by decide +kernel
theorem d_GlyphPositionsModel_init_185 : decode b_GlyphPositionsModel_init 185 = .ok (.newarray .int, 2) := by decide +kernel
theorem d_GlyphPositionsModel_init_187 : decode b_GlyphPositionsModel_init 187 = .ok (.putfield 71, 3) := by decide +kernel
theorem d_GlyphPositionsModel_init_190 : decode b_GlyphPositionsModel_init 190 = .ok (.aload_n 0, 1) := by decide +kernel
theorem d_GlyphPositionsModel_init_191 : decode b_GlyphPositionsModel_init 191 = .ok (.sipush 800, 3) := by decide +kernel
theorem d_GlyphPositionsModel_init_194 : decode b_GlyphPositionsModel_init 194 = .ok (.newarray .int, 2) := by decide +kernel
theorem d_GlyphPositionsModel_init_196 : decode b_GlyphPositionsModel_init 196 = .ok (.putfield 74, 3) := by decide +kernel
theorem d_GlyphPositionsModel_init_199 : decode b_GlyphPositionsModel_init 199 = .ok (.return_, 1) := by decide +kernel
theorem wq_604 : (Cond.methodLink "GlyphPositions$Table" (3 : Nat) ({ cls := "java/lang/Object", name := "<init>", desc := "()V" } : MethodName)) ∈ q_tbl := q_tab1 (List.mem_of_getElem? (i := 33) rfl) rfl
theorem wq_605 : (Cond.instanceMethod ({ cls := "java/lang/Object", name := "<init>", desc := "()V" } : MethodName)) ∈ q_tbl := q_tab1 (List.mem_of_getElem? (i := 26) rfl) rfl
theorem wq_606 : (Cond.code ({ cls := "java/lang/Object", name := "<init>", desc := "()V" } : MethodName) object_method_1_code (1 : Nat) (none : Option Jvm.ClassFile.FieldType)) ∈ q_tbl := q_tab1 (List.mem_of_getElem? (i := 27) rfl) rfl
theorem wq_607 : (Cond.arrayClass .byte) ∈ q_tbl := q_tab1 (List.mem_of_getElem? (i := 42) rfl) rfl
theorem wq_608 : (Cond.methodLink "GlyphPositions$Loader" (3 : Nat) ({ cls := "java/lang/Object", name := "<init>", desc := "()V" } : MethodName)) ∈ q_tbl := q_tab1 (List.mem_of_getElem? (i := 48) rfl) rfl
theorem wq_609 : (Cond.methodLink "GlyphPositions$Kinds" (3 : Nat) ({ cls := "java/lang/Object", name := "<init>", desc := "()V" } : MethodName)) ∈ q_tbl := q_tab1 (List.mem_of_getElem? (i := 61) rfl) rfl
theorem wq_610 : (Cond.arrayClass .int) ∈ q_tbl := q_tab1 (List.mem_of_getElem? (i := 80) rfl) rfl
theorem wq_611 : (Cond.methodLink "GlyphPositions$Tags" (3 : Nat) ({ cls := "java/lang/Object", name := "<init>", desc := "()V" } : MethodName)) ∈ q_tbl := q_tab1 (List.mem_of_getElem? (i := 86) rfl) rfl
theorem wq_612 : (Cond.arrayClass .boolean) ∈ q_tbl := q_tab1 (List.mem_of_getElem? (i := 97) rfl) rfl
theorem wq_613 : (Cond.methodLink "GlyphPositions$Told" (3 : Nat) ({ cls := "java/lang/Object", name := "<init>", desc := "()V" } : MethodName)) ∈ q_tbl := q_tab1 (List.mem_of_getElem? (i := 103) rfl) rfl
theorem wq_614 : (Cond.methodLink "GlyphPositions$Choice" (3 : Nat) ({ cls := "java/lang/Object", name := "<init>", desc := "()V" } : MethodName)) ∈ q_tbl := q_tab1 (List.mem_of_getElem? (i := 127) rfl) rfl
theorem wq_615 : (Cond.methodLink "GlyphPositions$Run" (3 : Nat) ({ cls := "java/lang/Object", name := "<init>", desc := "()V" } : MethodName)) ∈ q_tbl := q_tab1 (List.mem_of_getElem? (i := 144) rfl) rfl
theorem wq_616 : (Cond.methodLink "GlyphPositions$Setter" (3 : Nat) ({ cls := "java/lang/Object", name := "<init>", desc := "()V" } : MethodName)) ∈ q_tbl := q_tab1 (List.mem_of_getElem? (i := 185) rfl) rfl
theorem wq_617 : (Cond.methodLink "GlyphPositions" (1 : Nat) ({ cls := "java/lang/Object", name := "<init>", desc := "()V" } : MethodName)) ∈ q_tbl := q_tab1 (List.mem_of_getElem? (i := 25) rfl) rfl
theorem wq_618 : (Cond.classLink "GlyphPositions" (7 : Nat) "GlyphPositions$Table") ∈ q_tbl := q_tab1 (List.mem_of_getElem? (i := 28) rfl) rfl
theorem wq_619 : (Cond.instantiable "GlyphPositions$Table" (2 : Nat)) ∈ q_tbl := q_tab1 (List.mem_of_getElem? (i := 29) rfl) rfl
theorem wq_620 : (Cond.methodLinkNest "GlyphPositions" (9 : Nat) ({ cls := "GlyphPositions$Table", name := "<init>", desc := "()V" } : MethodName) "GlyphPositions") ∈ q_ntbl := q_ntab1 (List.mem_of_getElem? (i := 30) rfl) rfl
theorem wq_621 : (Cond.code ({ cls := "GlyphPositions$Table", name := "<init>", desc := "()V" } : MethodName) prog_8_method_1_code (1 : Nat) (none : Option Jvm.ClassFile.FieldType)) ∈ q_tbl := q_tab1 (List.mem_of_getElem? (i := 32) rfl) rfl
theorem wq_622 : (Cond.instanceMethod ({ cls := "GlyphPositions$Table", name := "<init>", desc := "()V" } : MethodName)) ∈ q_tbl := q_tab1 (List.mem_of_getElem? (i := 31) rfl) rfl
theorem wq_623 : (Cond.classLink "GlyphPositions" (19 : Nat) "GlyphPositions$Loader") ∈ q_tbl := q_tab1 (List.mem_of_getElem? (i := 43) rfl) rfl
theorem wq_624 : (Cond.instantiable "GlyphPositions$Loader" (2 : Nat)) ∈ q_tbl := q_tab1 (List.mem_of_getElem? (i := 44) rfl) rfl
theorem wq_625 : (Cond.methodLink "GlyphPositions" (21 : Nat) ({ cls := "GlyphPositions$Loader", name := "<init>", desc := "(LGlyphPositions$Table;)V" } : MethodName)) ∈ q_tbl := q_tab1 (List.mem_of_getElem? (i := 45) rfl) rfl
theorem wq_626 : (Cond.code ({ cls := "GlyphPositions$Loader", name := "<init>", desc := "(LGlyphPositions$Table;)V" } : MethodName) prog_5_method_1_code (2 : Nat) (none : Option Jvm.ClassFile.FieldType)) ∈ q_tbl := q_tab1 (List.mem_of_getElem? (i := 47) rfl) rfl
theorem wq_627 : (Cond.instanceMethod ({ cls := "GlyphPositions$Loader", name := "<init>", desc := "(LGlyphPositions$Table;)V" } : MethodName)) ∈ q_tbl := q_tab1 (List.mem_of_getElem? (i := 46) rfl) rfl
theorem wq_628 : (Cond.classLink "GlyphPositions" (28 : Nat) "GlyphPositions$Kinds") ∈ q_tbl := q_tab1 (List.mem_of_getElem? (i := 56) rfl) rfl
theorem wq_629 : (Cond.instantiable "GlyphPositions$Kinds" (5 : Nat)) ∈ q_tbl := q_tab1 (List.mem_of_getElem? (i := 57) rfl) rfl
theorem wq_630 : (Cond.methodLinkNest "GlyphPositions" (30 : Nat) ({ cls := "GlyphPositions$Kinds", name := "<init>", desc := "()V" } : MethodName) "GlyphPositions") ∈ q_ntbl := q_ntab1 (List.mem_of_getElem? (i := 58) rfl) rfl
theorem wq_631 : (Cond.code ({ cls := "GlyphPositions$Kinds", name := "<init>", desc := "()V" } : MethodName) prog_4_method_1_code (1 : Nat) (none : Option Jvm.ClassFile.FieldType)) ∈ q_tbl := q_tab1 (List.mem_of_getElem? (i := 60) rfl) rfl
theorem wq_632 : (Cond.instanceMethod ({ cls := "GlyphPositions$Kinds", name := "<init>", desc := "()V" } : MethodName)) ∈ q_tbl := q_tab1 (List.mem_of_getElem? (i := 59) rfl) rfl
theorem wq_633 : (Cond.classLink "GlyphPositions" (35 : Nat) "GlyphPositions$Tags") ∈ q_tbl := q_tab1 (List.mem_of_getElem? (i := 81) rfl) rfl
theorem wq_634 : (Cond.instantiable "GlyphPositions$Tags" (3 : Nat)) ∈ q_tbl := q_tab1 (List.mem_of_getElem? (i := 82) rfl) rfl
theorem wq_635 : (Cond.methodLinkNest "GlyphPositions" (37 : Nat) ({ cls := "GlyphPositions$Tags", name := "<init>", desc := "()V" } : MethodName) "GlyphPositions") ∈ q_ntbl := q_ntab1 (List.mem_of_getElem? (i := 83) rfl) rfl
theorem wq_636 : (Cond.code ({ cls := "GlyphPositions$Tags", name := "<init>", desc := "()V" } : MethodName) prog_9_method_1_code (1 : Nat) (none : Option Jvm.ClassFile.FieldType)) ∈ q_tbl := q_tab1 (List.mem_of_getElem? (i := 85) rfl) rfl
theorem wq_637 : (Cond.instanceMethod ({ cls := "GlyphPositions$Tags", name := "<init>", desc := "()V" } : MethodName)) ∈ q_tbl := q_tab1 (List.mem_of_getElem? (i := 84) rfl) rfl
theorem wq_638 : (Cond.classLink "GlyphPositions" (42 : Nat) "GlyphPositions$Told") ∈ q_tbl := q_tab1 (List.mem_of_getElem? (i := 98) rfl) rfl
theorem wq_639 : (Cond.instantiable "GlyphPositions$Told" (4 : Nat)) ∈ q_tbl := q_tab1 (List.mem_of_getElem? (i := 99) rfl) rfl
theorem wq_640 : (Cond.methodLinkNest "GlyphPositions" (44 : Nat) ({ cls := "GlyphPositions$Told", name := "<init>", desc := "()V" } : MethodName) "GlyphPositions") ∈ q_ntbl := q_ntab1 (List.mem_of_getElem? (i := 100) rfl) rfl
theorem wq_641 : (Cond.code ({ cls := "GlyphPositions$Told", name := "<init>", desc := "()V" } : MethodName) prog_10_method_1_code (1 : Nat) (none : Option Jvm.ClassFile.FieldType)) ∈ q_tbl := q_tab1 (List.mem_of_getElem? (i := 102) rfl) rfl
theorem wq_642 : (Cond.instanceMethod ({ cls := "GlyphPositions$Told", name := "<init>", desc := "()V" } : MethodName)) ∈ q_tbl := q_tab1 (List.mem_of_getElem? (i := 101) rfl) rfl
theorem wq_643 : (Cond.classLink "GlyphPositions" (49 : Nat) "GlyphPositions$Choice") ∈ q_tbl := q_tab1 (List.mem_of_getElem? (i := 122) rfl) rfl
theorem wq_644 : (Cond.instantiable "GlyphPositions$Choice" (3 : Nat)) ∈ q_tbl := q_tab1 (List.mem_of_getElem? (i := 123) rfl) rfl
theorem wq_645 : (Cond.methodLink "GlyphPositions" (51 : Nat) ({ cls := "GlyphPositions$Choice", name := "<init>", desc := "(LGlyphPositions$Table;LGlyphPositions$Tags;)V" } : MethodName)) ∈ q_tbl := q_tab1 (List.mem_of_getElem? (i := 124) rfl) rfl
theorem wq_646 : (Cond.code ({ cls := "GlyphPositions$Choice", name := "<init>", desc := "(LGlyphPositions$Table;LGlyphPositions$Tags;)V" } : MethodName) prog_2_method_1_code (3 : Nat) (none : Option Jvm.ClassFile.FieldType)) ∈ q_tbl := q_tab1 (List.mem_of_getElem? (i := 126) rfl) rfl
theorem wq_647 : (Cond.instanceMethod ({ cls := "GlyphPositions$Choice", name := "<init>", desc := "(LGlyphPositions$Table;LGlyphPositions$Tags;)V" } : MethodName)) ∈ q_tbl := q_tab1 (List.mem_of_getElem? (i := 125) rfl) rfl
theorem wq_648 : (Cond.classLink "GlyphPositions" (58 : Nat) "GlyphPositions$Run") ∈ q_tbl := q_tab1 (List.mem_of_getElem? (i := 139) rfl) rfl
theorem wq_649 : (Cond.instantiable "GlyphPositions$Run" (9 : Nat)) ∈ q_tbl := q_tab1 (List.mem_of_getElem? (i := 140) rfl) rfl
theorem wq_650 : (Cond.methodLinkNest "GlyphPositions" (60 : Nat) ({ cls := "GlyphPositions$Run", name := "<init>", desc := "()V" } : MethodName) "GlyphPositions") ∈ q_ntbl := q_ntab1 (List.mem_of_getElem? (i := 141) rfl) rfl
theorem wq_651 : (Cond.code ({ cls := "GlyphPositions$Run", name := "<init>", desc := "()V" } : MethodName) prog_6_method_1_code (1 : Nat) (none : Option Jvm.ClassFile.FieldType)) ∈ q_tbl := q_tab1 (List.mem_of_getElem? (i := 143) rfl) rfl
theorem wq_652 : (Cond.instanceMethod ({ cls := "GlyphPositions$Run", name := "<init>", desc := "()V" } : MethodName)) ∈ q_tbl := q_tab1 (List.mem_of_getElem? (i := 142) rfl) rfl
theorem wq_653 : (Cond.classLink "GlyphPositions" (65 : Nat) "GlyphPositions$Setter") ∈ q_tbl := q_tab1 (List.mem_of_getElem? (i := 180) rfl) rfl
theorem wq_654 : (Cond.instantiable "GlyphPositions$Setter" (11 : Nat)) ∈ q_tbl := q_tab1 (List.mem_of_getElem? (i := 181) rfl) rfl
theorem wq_655 : (Cond.methodLink "GlyphPositions" (67 : Nat) ({ cls := "GlyphPositions$Setter", name := "<init>", desc := "(LGlyphPositions$Table;LGlyphPositions$Told;LGlyphPositions$Kinds;LGlyphPositions$Run;)V" } : MethodName)) ∈ q_tbl := q_tab1 (List.mem_of_getElem? (i := 182) rfl) rfl
theorem wq_656 : (Cond.code ({ cls := "GlyphPositions$Setter", name := "<init>", desc := "(LGlyphPositions$Table;LGlyphPositions$Told;LGlyphPositions$Kinds;LGlyphPositions$Run;)V" } : MethodName) prog_7_method_1_code (5 : Nat) (none : Option Jvm.ClassFile.FieldType)) ∈ q_tbl := q_tab1 (List.mem_of_getElem? (i := 184) rfl) rfl
theorem wq_657 : (Cond.instanceMethod ({ cls := "GlyphPositions$Setter", name := "<init>", desc := "(LGlyphPositions$Table;LGlyphPositions$Told;LGlyphPositions$Kinds;LGlyphPositions$Run;)V" } : MethodName)) ∈ q_tbl := q_tab1 (List.mem_of_getElem? (i := 183) rfl) rfl
theorem wq_658 : (Cond.methodLink "GlyphPositionsModel" (1 : Nat) ({ cls := "java/lang/Object", name := "<init>", desc := "()V" } : MethodName)) ∈ q_tbl := q_tab4 (List.mem_of_getElem? (i := 51) rfl) rfl
