section QB4
/-- a static that holds a reference or null, with its cell -/
def q_sta (C n d : String) (U : State) : Prop := ∃ (c : ClassId) (k : Class) (i : Nat) (f : Field) (a : Addr) (cell : Cell), U.vm.findClass C = some c ∧ U.fieldFound? C n d = some (c, k, i, f) ∧ f.isStatic = true ∧ k.statics = some a ∧ U.heap[a]? = some cell ∧ cell.vm.isStatics = true ∧ cell.cls = c ∧
  f.slot < cell.slots.size ∧ k.staticTypes[f.slot]? = some f.type ∧ ∃ u : RefV, cell.slots[f.slot]? = some u.v
theorem q_sta.of {C n d : String} {U : State} {args : Array Value} (h1 : (Cond.laysStatic C n d).before args U = true) (h2 : (Cond.isRef (.static C n d)).before args U = true) : q_sta C n d U := by
  obtain ⟨c, k, i, f, a, cell, g1, g2, g3, g4, g5, g6, g7, g8, g9⟩ := Cond.laysStatic_spec h1
  obtain ⟨u, hu⟩ := Cond.staticRefV g2 g3 g4 g5 g6 h2
  exact ⟨c, k, i, f, a, cell, g1, g2, g3, g4, g5, g6, g7, g8, g9, u, hu⟩
theorem q_sta.word1 {C n d : String} {U : State} {args : Array Value} (h : q_sta C n d U) : (Cond.laysStatic C n d).before args U = true := by
  obtain ⟨c, k, i, f, a, cell, g1, g2, g3, g4, g5, g6, g7, g8, g9, u, hu⟩ := h
  simp [Cond.before, Cond.holds, Cond.value, g1, g2, g3, g4, g5, g6, g7, g8, g9]
theorem q_sta.word2 {C n d : String} {U : State} {args : Array Value} (h : q_sta C n d U) : (Cond.isRef (.static C n d)).before args U = true := by
  obtain ⟨c, k, i, f, a, cell, g1, g2, g3, g4, g5, g6, g7, g8, g9, u, hu⟩ := h
  have he : (Term.static C n d).eval args U none [] U = cell.slots[f.slot]? := by
    simp [Term.eval, State.fieldNamed?, g2, g3, g4, g5, g6]
  simp only [Cond.before, Cond.holds, Cond.value, he, hu]
  obtain ⟨v, hv⟩ := u
  cases v <;> simp [Value.isRef] at hv ⊢
theorem q_sta.move {C n d : String} {U V : State} (hvm : U.vm.Alike V.vm) (hh : ∀ (q : Addr) (cell : Cell), U.heap[q]? = some cell → cell.vm.isStatics = true → V.heap[q]? = some cell) (h : q_sta C n d U) : q_sta C n d V := by
  obtain ⟨c, k, i, f, a, cell, g1, g2, g3, g4, g5, g6, g7, g8, g9, u, hu⟩ := h
  obtain ⟨k2, hk2, he⟩ := State.fieldFound?_setVm hvm g2
  exact ⟨c, k2, i, f, a, cell, by rw [hvm.findClass]; exact g1, hk2, g3, by rw [he]; exact g4, hh a cell g5 g6, g6, g7, g8, by rw [he]; exact g9, u, hu⟩
def q_exn : Nat → String
  | 1 => "java/lang/IndexOutOfBoundsException"
  | 2 => "java/lang/IllegalArgumentException"
  | _ => "java/lang/IllegalStateException"
abbrev q_up : List String := ["java/lang/RuntimeException", "java/lang/Exception"]
/-- the twelve messages -/
def q_strs : List (Nat × String) := [(88, "the table has no such byte"), (95, "a byte is 0 .. 255"), (102, "less than no bytes cannot be left"), (134, "no range of glyphs"), (136, "no kind, or no class of marks"), (144, "there are 256 ranges already"), (160, "20 tags were told already"), (162, "no glyph, no width, or no part"), (167, "there are 800 glyphs already"), (173, "no table is loaded"), (198, "the run set last has no such glyph"), (219, "what is asked is 0 .. 5")]
def q_Ss (U : State) : Prop := ∀ t ∈ q_strs, ∃ a : Nat, vk_R "GlyphPositions" t.1 t.2 a U
theorem q_Ss.warm {s U : State} (hW : s.WarmedH U.vm) (h : q_Ss s) : q_Ss U := fun t ht => let ⟨a, ha⟩ := h t ht; ⟨a, ha.warm hW⟩
theorem q_Ss.same {s U : State} (hv : U.vm = s.vm) (h : q_Ss s) : q_Ss U := fun t ht => let ⟨a, ha⟩ := h t ht; ⟨a, ha.same hv⟩
def q_dtbl : List Cond := [.castable "java/lang/IndexOutOfBoundsException" "java/lang/IndexOutOfBoundsException", .castable "java/lang/IllegalArgumentException" "java/lang/IllegalArgumentException", .castable "java/lang/IllegalStateException" "java/lang/IllegalStateException", .declares (Bundle.initS "java/lang/RuntimeException"), .declares (Bundle.initS "java/lang/Exception"), .declares (Bundle.initS "java/lang/Throwable")]
def q_isD : Cond → Bool
  | .castable .. => true
  | .declares .. => true
  | _ => false
theorem q_dtbl_all : ∀ w ∈ q_dtbl, q_isD w = true := by decide +kernel
def q_Ds (U : State) : Prop := ∀ w ∈ q_dtbl, va_Nw w U
theorem q_castw {a b : String} {s U : State} (hW : s.WarmedH U.vm) (h : va_Nw (.castable a b) s) : va_Nw (.castable a b) U := by
  obtain ⟨c3, c4, h3, h4, h5⟩ := Cond.castable_spec (show (Cond.castable a b).holds #[] s none s [] = true from h)
  have e3 : U.vm.findClass a = some c3 := by rw [hW.alike.findClass]; exact h3
  have e4 : U.vm.findClass b = some c4 := by rw [hW.alike.findClass]; exact h4
  have e5 : U.vm.assignable c3 c4 = true := by rw [hW.alike.assignable]; exact h5
  simp [va_Nw, Cond.before, Cond.holds, Cond.value, e3, e4, e5]
theorem q_Ds.warm {s U : State} (hW : s.WarmedH U.vm) (h : q_Ds s) : q_Ds U := fun w hw => by
  have h1 := h w hw
  have hg := q_dtbl_all w hw
  clear h hw
  revert h1 hg
  cases w <;> intro h1 hg <;> first | exact q_castw hW h1 | exact va_Nw.warmD hW h1 | cases hg
theorem q_Ds.word {s : State} {args : Array Value} (h : q_Ds s) : ∀ w ∈ q_dtbl, w.before args s = true := fun w hw => by
  have h1 := h w hw
  have hg := q_dtbl_all w hw
  clear h hw
  revert h1 hg
  cases w <;> intro h1 hg <;> first | exact va_Nw.use rfl h1 | cases hg
def q_Nc (U : State) : Prop := va_Nc "java/lang/IllegalArgumentException" "java/lang/IndexOutOfBoundsException" U ∧ va_Nc "java/lang/IllegalStateException" "java/lang/IllegalArgumentException" U
def q_Zt (U : State) : Prop := (q_Ds U ∧ q_Nc U) ∧ q_sta "java/lang/Throwable" "UNASSIGNED_STACK" "[Ljava/lang/StackTraceElement;" U ∧ q_sta "java/lang/Throwable" "SUPPRESSED_SENTINEL" "Ljava/util/List;" U ∧ q_Ss U
theorem q_Zt.move {U V : State} (hW : U.WarmedH V.vm) (hh : ∀ (q : Addr) (cell : Cell), U.heap[q]? = some cell → cell.vm.isStatics = true → V.heap[q]? = some cell) (h : q_Zt U) : q_Zt V :=
  ⟨⟨h.1.1.warm hW, h.1.2.1.moved hW.alike, h.1.2.2.moved hW.alike⟩, h.2.1.move hW.alike hh, h.2.2.1.move hW.alike hh, h.2.2.2.warm hW⟩
def q_st4 : List Cond := [.laysStatic "java/lang/Throwable" "UNASSIGNED_STACK" "[Ljava/lang/StackTraceElement;", .laysStatic "java/lang/Throwable" "SUPPRESSED_SENTINEL" "Ljava/util/List;", .isRef (.static "java/lang/Throwable" "UNASSIGNED_STACK" "[Ljava/lang/StackTraceElement;"), .isRef (.static "java/lang/Throwable" "SUPPRESSED_SENTINEL" "Ljava/util/List;")]
theorem q_Zt.words {U : State} {args : Array Value} (h : q_Zt U) : ∀ w ∈ q_st4, w.before args U = true := by
  intro w hw
  simp only [q_st4, List.mem_cons, List.mem_nil_iff, or_false] at hw
  rcases hw with rfl | rfl | rfl | rfl
  · exact h.2.1.word1
  · exact h.2.2.1.word1
  · exact h.2.1.word2
  · exact h.2.2.1.word2
/-- what a class of exceptions needs at a place of GlyphPositions: its index of the class, its constructor's -/
def q_ex (E : String) (ik ic : Nat) : Prop := Cond.classLink "GlyphPositions" ik E ∈ q_tbl ∧ Cond.initialized E ∈ q_tbl ∧ Cond.instantiable E 6 ∈ q_tbl ∧ Bundle.fit E = true ∧ ∀ w ∈ Bundle.ownAtoms "GlyphPositions" ic E q_up, w ∈ q_tbl ∨ w ∈ q_st4 ∨ w ∈ q_dtbl
theorem q_exall {E : String} {ic : Nat} (h : (Bundle.ownAtoms "GlyphPositions" ic E q_up).all (fun w => decide (w ∈ q_tbl) || (decide (w ∈ q_st4) || decide (w ∈ q_dtbl))) = true) : ∀ w ∈ Bundle.ownAtoms "GlyphPositions" ic E q_up, w ∈ q_tbl ∨ w ∈ q_st4 ∨ w ∈ q_dtbl := fun w hw => by
  have h1 := List.all_eq_true.mp h w hw
  simpa using h1
end QB4
section QT
variable {p : Program} {l : Launch} {e : Env} {R : Room} {s : State} {m : MethodId} {args : Array Value} {below : List Frame} {meth : Method} {c : Code} {H : Heap} {locs : List Loc} {cc : ByteArray} {pc : Nat} {ls : Array Slot} {rest : List Value} {nL : Nat} {D : va_G} {tys : List (ClassId × FieldType)} {w : QSt → va_W} {st : QSt}
/-- what stands when a method has thrown: nothing old was written -/
def q_Qt (E : String) : Array Value → State → Outcome → State → Prop := fun _ s o t => ∃ (q : Addr) (ce : Cell), o = .threw q ∧ t.heap[q]? = some ce ∧ ce.vm = .none ∧ s.vm.findClass E = some ce.cls ∧ s.WarmedH t.vm ∧ s.sameButNew ({ t with vm := s.vm } : State) [] 1 6
def q_Zx (below : List Frame) (args : Array Value) (s : State) (E : String) : State → Prop := fun t => ∃ o, t.status = .running ∧ Ended t below o ∧ q_Qt E args s o t
def q_PreT (D : va_G) (tys : List (ClassId × FieldType)) (w : QSt → va_W) (st : QSt) (sz : Nat) (U : State) : Prop := q_Pre D tys w st sz U ∧ q_Zt U
/-- a method that throws -/
def q_Mx (l : Launch) (y : MethodName) (cc : ByteArray) (maxL : Nat) (ret : Option FieldType) (rm : Room) (D : va_G) (tys : List (ClassId × FieldType)) (w : QSt → va_W) (As : List Value) (st : QSt) (E : String) : Prop :=
  ∀ sz : Nat, MetFree l y (headSpec (Cond.code y cc maxL ret :: q_tbl) rm) (va_Pc As (q_PreT D tys w st sz)) (fun _ _ _ _ _ => True) (q_Qt E)
theorem q_Mx_of {y : MethodName} {maxL : Nat} {ret : Option FieldType} {rm : Room} {As : List Value} {E : String} (hy : plainName y.cls = true) (hlen : (lg_sl As).length ≤ maxL) (hw : ∀ a b : QSt, (w a).map Prod.fst = (w b).map Prod.fst)
    (body : ∀ (p : Program) (e : Env) (s : State) (m : MethodId) (args : Array Value) (below : List Frame) (meth : Method) (c : Code) (ls : Array Slot), q_Cx p s m args c cc maxL y.cls D tys → meth.locks = false → c.exceptionTable.isEmpty = true → q_Zt s → (∀ z, va_D (fun _ => True) (w z)) →
      va_P D vwCl (w st) s.heap → va_S (fun _ => False) s.heap s.heap [] → lv_has ls maxL (lv_args 0 As) → W p l e rm s m args below meth c s.heap [] 0 0 (q_Zx below args s E) (F0 m 0 ls [])) : q_Mx l y cc maxL ret rm D tys w As st E := by
  intro sz
  refine MetFree.of_bodyS (code := cc) (maxLocals := maxL) (ret := ret) hy ?_ ?_
  · intro args s m h hn
    obtain ⟨meth, c, h1, h2, h3, h4, h5, h6, -, -⟩ := Cond.code_spec hn (atoms_spec (ws := Cond.code y cc maxL ret :: q_tbl) h _ List.mem_cons_self)
    exact ⟨meth, c, h1, h2, h3, h4, h5, h6⟩
  · intro p e s m args below meth c s₁ B hml hv _
    obtain ⟨rfl, ⟨hsz, hP, hK, hD0, hNt⟩, hZ⟩ := hv
    have hts := atoms_spec (ws := Cond.code y cc maxL ret :: q_tbl) B.pre
    have hown : s.vm.findClass y.cls = some m.cls := findClass_of_methodNamed B.named
    have hh0 : s₁.heap = s.heap := by rw [B.state]; rfl
    subst hsz
    have K := body p e s m As.toArray below meth c _ ⟨⟨B.exec, B.bytes, hml, hown, fun w h => hts w (List.mem_cons_of_mem _ h)⟩, hK, hNt⟩ B.notSynchronized (B.noHandlers (hts _ List.mem_cons_self)) hZ (fun z => q_Dmove (hw st z) hD0) hP va_S.rf (lv_entry As hlen)
    rw [← lg_entry_eq] at K
    obtain ⟨t, a1, o, b1, b2, b3⟩ := K s₁ hh0 (Stand.of_body B)
    exact ⟨t, o, a1, b1, b2, b3⟩
theorem q_throw {E : String} {k ko ik is ic : Nat} {tx : String} (hC : q_Cx p s m args c cc nL "GlyphPositions" D tys) (hlk : meth.locks = false) (hl0 : l.stackTraces = false) (hex : c.exceptionTable.isEmpty = true) (hZ : q_Zt s) (hf : some k = some ko) (hE : q_exn k = E) (hX : q_ex E ik ic) (ht : (is, tx) ∈ q_strs)
    (hS : va_S (fun _ => False) s.heap H locs) (hsz : ls.size = nL) (hRf : 5 < R.frames) (hRl : 100 ≤ R.locals) (hRc : 1 ≤ R.cells) (hRs : 6 ≤ R.slots) (d0 : decode cc pc = .ok (.new ik, 3)) (d3 : decode cc (pc + 3) = .ok (.dup, 1)) (d4 : decode cc (pc + 4) = .ok (.ldc is, 2)) (d6 : decode cc (pc + 6) = .ok (.invokespecial ic, 3)) (d9 : decode cc (pc + 9) = .ok (.athrow, 1)) :
    W p l e R s m args below meth c H locs 0 0 (q_Zx below args s (q_exn ko)) (F0 m pc ls []) := by
  cases hf
  subst hE
  obtain ⟨sa, hsa⟩ := hZ.2.2.2 _ ht
  have hx := hC.1.1
  have hb := hC.1.2.1
  have hown := hC.1.2.2.2.1
  have hts := hC.1.2.2.2.2
  have hlocs : locs = [] := by
    cases locs with
    | nil => rfl
    | cons a r => exact (hS.2.2 a List.mem_cons_self).elim
  subst hlocs
  refine W.newc (g := F0 m pc ls []) hx hb hown (hts _ hX.1) (hts _ hX.2.2.1) (hts _ hX.2.1) rfl d0 (by simpa using hRc) (by simpa using hRs) (fun cC kC h1 h2 h3 h4 => ?_)
  refine W.eq (g2 := F0 m (pc + 3) ls [.ref H.size]) rfl ?_
  refine lv_dup hx hb d3 rfl ?_
  refine va_ldcS hx hb hown hsa d4 ?_
  intro T hT X
  have htr : e.platform.stackTraces = false := (show e.platform.stackTraces = l.stackTraces by rw [X.admits.platform]).trans hl0
  have hcell : T.heap[H.size]? = some (freshCell cC kC) := by rw [hT]; simp [freshCell]
  have hout : ∀ x ∈ c.exceptionTable.toList, covers x (pc + 6 + 3) = false := covers_of_empty hex _
  have hd : ∀ {q : Nat} {i : Instr × Nat}, decode cc q = .ok i → decode c.code q = .ok i := fun h => by rw [hb]; exact h
  obtain ⟨U, hsteps, hrun, hend, hW, hsame, ce, hce, hK⟩ := X.ctorThrowS hx htr (own := "GlyphPositions") (cls := q_exn k) (names := q_up) (ic := ic) hown hX.2.2.2.1 (by decide +kernel)
    (fun w hw => (hX.2.2.2.2 w hw).elim (fun h => hts _ h) (fun h => h.elim (fun h => hZ.words w h) (fun h => hZ.1.1.word w h))) (fun x hx => by cases hx) h1 h2 hcell hS.1 (msg := .ref sa) rfl
    (g := F0 m (pc + 6) ls [.ref sa, .ref H.size, .ref H.size]) rfl (hsz.trans hC.1.2.2.1.symm) rfl rfl (rest := []) rfl (hd d6) (hd d9) hout hRf (by have h9 := hRl; simp [JFrame.monitorRoom, Value.category]; omega) hlk
  exact ⟨U, hsteps, .threw H.size, hrun, hend, H.size, ce, rfl, hce, hK.vm, hK.cls, hW, hsame⟩
end QT
theorem wq_659 : (Cond.classLink "GlyphPositions" (93 : Nat) "java/lang/IllegalArgumentException") ∈ q_tbl := q_tab3 (List.mem_of_getElem? (i := 37) rfl) rfl
theorem wq_660 : (Cond.initialized "java/lang/IllegalArgumentException") ∈ q_tbl := q_tab1 (List.mem_of_getElem? (i := 15) rfl) rfl
theorem wq_661 : (Cond.instantiable "java/lang/IllegalArgumentException" (6 : Nat)) ∈ q_tbl := q_tab3 (List.mem_of_getElem? (i := 38) rfl) rfl
theorem wq_662 : (Cond.classLink "GlyphPositions" (86 : Nat) "java/lang/IndexOutOfBoundsException") ∈ q_tbl := q_tab2 (List.mem_of_getElem? (i := 210) rfl) rfl
theorem wq_663 : (Cond.initialized "java/lang/IndexOutOfBoundsException") ∈ q_tbl := q_tab1 (List.mem_of_getElem? (i := 14) rfl) rfl
theorem wq_664 : (Cond.instantiable "java/lang/IndexOutOfBoundsException" (6 : Nat)) ∈ q_tbl := q_tab2 (List.mem_of_getElem? (i := 211) rfl) rfl
theorem wq_665 : (Cond.classLink "GlyphPositions" (142 : Nat) "java/lang/IllegalStateException") ∈ q_tbl := q_tab3 (List.mem_of_getElem? (i := 87) rfl) rfl
theorem wq_666 : (Cond.initialized "java/lang/IllegalStateException") ∈ q_tbl := q_tab1 (List.mem_of_getElem? (i := 18) rfl) rfl
theorem wq_667 : (Cond.instantiable "java/lang/IllegalStateException" (6 : Nat)) ∈ q_tbl := q_tab3 (List.mem_of_getElem? (i := 88) rfl) rfl
theorem ex_IllegalArgumentException_93_97 : q_ex "java/lang/IllegalArgumentException" 93 97 := ⟨wq_659, wq_660, wq_661, by decide +kernel, q_exall (by decide +kernel)⟩
theorem ex_IndexOutOfBoundsException_86_90 : q_ex "java/lang/IndexOutOfBoundsException" 86 90 := ⟨wq_662, wq_663, wq_664, by decide +kernel, q_exall (by decide +kernel)⟩
theorem ex_IllegalStateException_142_146 : q_ex "java/lang/IllegalStateException" 142 146 := ⟨wq_665, wq_666, wq_667, by decide +kernel, q_exall (by decide +kernel)⟩

section QX
variable {p : Program} {l : Launch} {e : Env} {R : Room} {s : State} {m : MethodId} {args : Array Value} {below : List Frame} {meth : Method} {c : Code} {H : Heap} {locs : List Loc} {cells slots : Nat} {Q : State → Prop} {cc : ByteArray} {pc : Nat} {ls : Array Slot} {rest : List Value} {nL : Nat} {own host : String} {st st1 : QSt} {A : Nat → Prop} {G : XG} {idx : Nat}

end QX
