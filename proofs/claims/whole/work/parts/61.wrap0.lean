section QWr
variable {p : Program} {l : Launch} {e : Env} {R : Room} {s : State} {m : MethodId} {args : Array Value} {below : List Frame} {meth : Method} {c : Code} {H : Heap} {locs : List Loc} {cells slots : Nat} {Q : State → Prop} {cc : ByteArray} {pc : Nat} {ls : Array Slot} {rest : List Value} {nL : Nat} {own : String} {D : va_G} {tys : List (ClassId × FieldType)} {w : QSt → va_W} {st st' : QSt} {A : Nat → Prop}
  {y : MethodName} {bytes : ByteArray} {maxL n idx ci q0 b : Nat} {ret : Option FieldType} {rm : Room} {As stk fs : List Value} {r : Int32} {q : u_T × Nat} {hh : List (Nat × Nat × Nat × Nat)} {E : String}
/-- the statics' cells stay -/
theorem q_keep (hP0 : va_P D vwCl (w st) s.heap) (hS : va_S (va_A (w st) s.heap.size) s.heap H locs) : ∀ (a : Addr) (cell : Cell), s.heap[a]? = some cell → cell.vm.isStatics = true → H[a]? = some cell := by
  intro a cell h1 h2
  have hlt : a < s.heap.size := (Array.getElem?_eq_some_iff.mp h1).1
  rw [hS.2.1 a hlt ?_]
  · exact h1
  · rintro (⟨k, x, hk⟩ | hge)
    · have hv := hP0 k (a, x) hk
      cases x with
      | inl z =>
        have hv : s.heap[a]? = some (vp_cell z.1 z.2) := hv
        rw [h1] at hv
        cases hv
        obtain ⟨z1, z2, z3⟩ := z
        rcases z3 with f | f | f | f | f <;> simp [vp_cell, arrV, VmData.isStatics] at h2
      | inr z =>
        obtain ⟨r, -, c2, g1, -, g3, -⟩ := hv
        have g1 : s.heap[a]? = some c2 := g1
        rw [h1] at g1
        cases g1
        rw [g3] at h2
        cases h2
    · exact absurd hlt (Nat.not_lt.mpr hge)
/-- one row of a handler table by its words -/
def q_rowW (E : String) (bb : Bool) (own : String) (pc : Nat) (s : State) (args : Array Value) (z : ExceptionTableEntry) : Prop := covers z pc = true ∧ z.catchType ≠ 0 ∧ ∃ nm : String, (Cond.classLink own z.catchType nm).before args s = true ∧ (if bb = true then (Cond.castable E nm).before args s = true else va_Nc E nm s)
theorem q_rowOf {bb : Bool} {th : ClassId} {z : ExceptionTableEntry} (hown : s.vm.findClass own = some m.cls) {pl : Platform} (hpl : pl.magicAccessors = ({} : Platform).magicAccessors) (hE : s.vm.findClass E = some th) (h : q_rowW E bb own pc s args z) : q_row pl s m.cls pc th bb z := by
  obtain ⟨h1, h2, nm, hl, hc⟩ := h
  obtain ⟨c5, hc5, hl5⟩ := Cond.classLink_spec hown hl pl hpl
  refine ⟨h1, h2, c5, hl5, ?_⟩
  cases bb with
  | true =>
    obtain ⟨a1, a2, g1, g2, g3⟩ := Cond.castable_spec (show (Cond.castable E nm).before args s = true from hc)
    cases Option.some.inj (g1.symm.trans hE)
    cases Option.some.inj (g2.symm.trans hc5)
    exact g3
  | false =>
    obtain ⟨a1, a2, g1, g2, g3⟩ := (show va_Nc E nm s from hc)
    cases Option.some.inj (g1.symm.trans hE)
    cases Option.some.inj (g2.symm.trans hc5)
    exact g3
theorem q_callX (hC : q_Cx p s m args c cc nL own D tys) (hM : q_Mx l y bytes maxL ret rm D tys w (.ref b :: As) st E) (hq : q_calV y bytes maxL ret n) (hl : Cond.methodLink own idx y ∈ q_tbl) (hR : rm.cells = 1 ∧ rm.slots = 6 ∧ rm.frames + 1 ≤ R.frames ∧ 8 + (maxL + 11) + rm.locals ≤ R.locals) (hRc : cells + 1 ≤ R.cells ∧ slots + 6 ≤ R.slots)
    (hcl : vwCl[ci]? = some (y.cls, q)) (he : (w st)[q0]? = some (b, .inr (ci, fs))) (hP : va_P D vwCl (w st) H) (hT : ∀ z, va_D (fun _ => True) (w z)) (hZ : ∀ U : State, U.heap = H → s.WarmedH U.vm → q_Zt U) (hS : va_S A s.heap H locs) (hn : As.length = n) (hsz : ls.size = nL) (hstk : stk = As.reverse ++ .ref b :: rest) (hW : (rest.map fun v => v.category).sum ≤ 8)
    (hdg : decode cc pc = .ok (.invokevirtual idx, 3)) (pre : List ExceptionTableEntry) (x : ExceptionTableEntry) (suf : List ExceptionTableEntry) (hsplit : c.exceptionTable.toList = pre ++ x :: suf) (hpass : ∀ z ∈ pre, q_rowW E false own pc s args z) (hx : q_rowW E true own pc s args x)
    (kk : ∀ (H1 : Heap) (qq : Addr), va_P D vwCl (w st) H1 → va_S A s.heap H1 locs → W p l e R s m args below meth c H1 locs (cells + 1) (slots + 6) Q (F0 m x.handlerPc ls [.ref qq])) : W p l e R s m args below meth c H locs cells slots Q (F0 m pc ls stk) := by
  obtain ⟨⟨k1, k2, k3, k4, k5⟩, k6, k7⟩ := hq
  obtain ⟨hexec, hb, hml, hown, hts⟩ := hC.1
  intro T hTh X
  have hpl : e.platform.magicAccessors = ({} : Platform).magicAccessors := by rw [X.admits.platform]
  have hcode := hts _ k1
  obtain ⟨mk, methM, hnamed, hmethM, hstM, habM⟩ := Cond.instanceMethod_spec (hts _ k6)
  obtain ⟨methM', cM, hmethM', hcM, -, hlocM, -, -, -, hsigM⟩ := Cond.code_spec hnamed hcode
  cases hmethM.symm.trans hmethM'
  obtain ⟨c2, r2, m2, q1, q2, q3, q4, kP, hkP, hkPi⟩ := Cond.selects_spec (hts _ k7)
  obtain ⟨cellB, hcellB, hobjB, hclsB⟩ := va_recv hC.2.1 hP hcl he
  cases hclsB.symm.trans q1
  cases (State.methodFound?_of_named hnamed ⟨k3, k4⟩).symm.trans q2
  cases hnamed.symm.trans q3
  have hselP : selectMethod e.platform s.vm cellB.cls mk = .method mk := by rw [Launch.admits_selectMethod X.admits]; exact q4
  have hdc : decode c.code (F0 m pc ls stk).pc = .ok (.invokevirtual idx, 3) := by rw [hb]; exact hdg
  have hlen : As.length = methM.sig.parameters.length := by
    rw [hsigM] at k5
    rw [hn]; exact (Option.some.inj k5).symm
  obtain ⟨vm₁, X₁, hstep₁⟩ := X.invokevirtual hexec hown (hts _ hl) hnamed hmethM hstM hkP hkPi ⟨k3, k4⟩ (a := b) (cell := cellB) (by rw [hTh]; exact hcellB)
    (fun z h => by rw [h] at hobjB; cases hobjB) hselP hmethM habM hkP hkPi (g := F0 m pc ls stk) rfl (argsL := As) (rest := rest) hlen hstk hdc
  obtain ⟨kY, hkY, -⟩ := className_of_methodNamed hnamed
  have hn1 : (T.setVm vm₁).methodNamed? y = some mk := X₁.named hnamed
  have hW1 : s.WarmedH (T.setVm vm₁).vm := X₁.warmed
  have hwd : ∀ w ∈ (Cond.code y bytes maxL ret :: q_tbl), w.before (Value.ref b :: As).toArray (T.setVm vm₁) = true := fun w hw => word_at hW1 (q_goodc k1 w hw).2 (hts w (q_goodc k1 w hw).1)
  have hpre1 : (headSpec (Cond.code y bytes maxL ret :: q_tbl) rm).pre.before (Value.ref b :: As).toArray (T.setVm vm₁) = true := atoms_intro hwd
  obtain ⟨methY, cY, hmY, hcY, -, hlY, -, -, -, -⟩ := Cond.code_spec hn1 (hwd _ List.mem_cons_self)
  obtain ⟨kY1, hkY1, -⟩ := className_of_methodNamed hn1
  have hinitY : kY1.init = .initialized := Cond.initialized_spec (findClass_of_methodNamed hn1) hkY1 (word_at (a' := #[]) hW1 (q_good _ k2).2 (hts _ k2))
  have h : At (T.setVm vm₁) m c below := X₁.here
  have hdc2 : decode c.code (F0 m pc ls rest).pc = .ok (.invokevirtual idx, 3) := hdc
  have happ : (headSpec (Cond.code y bytes maxL ret :: q_tbl) rm).appliesLoose y e.platform ((T.setVm vm₁).calling (F0 m pc ls rest) mk (Value.ref b :: As).toArray) = true :=
    Spec.appliesLoose_calling (g := F0 m pc ls rest) h hdc2 hn1 hkY1 hinitY (X₁.room_calling (g := F0 m pc ls rest) (R' := rm) (hsz.trans hml.symm) hmY hcY hR.2.2.1 (by rw [hlY]; simp [JFrame.monitorRoom]; omega) (by rw [hR.1]; exact hRc.1) (by rw [hR.2.1]; exact hRc.2)) hpre1
  obtain ⟨mid, hmid⟩ := h.above
  have hfr : ((T.setVm vm₁).setTop (F0 m pc ls rest)).frames = (.java (F0 m pc ls rest) :: mid) ++ below := by rw [State.frames_setTop' (F0 m pc ls rest) h.top, hmid]; rfl
  have hZ1 : q_Zt (T.setVm vm₁) := hZ _ hTh hW1
  have hPc : va_Pc (Value.ref b :: As) (q_PreT D tys w st H.size) (Value.ref b :: As).toArray ((T.setVm vm₁).calling (F0 m pc ls rest) mk (Value.ref b :: As).toArray) :=
    ⟨rfl, ⟨by show T.heap.size = H.size; rw [hTh], by show va_P D vwCl (w st) T.heap; rw [hTh]; exact hP, va_K.moved (u := T.setVm vm₁) (Vm.Alike.refl _) (va_K.moved hW1.alike hC.2.1), hT st, q_Nt.same (s := T.setVm vm₁) rfl (hC.2.2.warm hW1)⟩, hZ1.move (U := T.setVm vm₁) (State.WarmedH.refl _) (fun _ _ h _ => h)⟩
  obtain ⟨o, s₂, hsteps, -, hend, hqq⟩ := Steps.callFree (hM H.size) p X₁.admits X₁.cas X₁.clock (acts := []) hfr happ hPc trivial
  obtain ⟨qq, ce, rfl, hce, hcv, hcE, hW₂, hsm⟩ := hqq
  rw [State.frames_setTop' (F0 m pc ls rest) h.top, X₁.tail] at hend
  obtain ⟨T', X', hW3, hsm3, ht⟩ := X₁.outOfThrown (g := F0 m pc ls rest) rfl hend hW₂ hsm
  have hT' : T'.heap = s₂.heap := by rw [ht]; exact (Stand.throwing_heap T' (F0 m pc ls rest) qq).symm
  obtain ⟨hz1, hz2⟩ := q_same0 hsm3
  have hz1 : H.size ≤ T'.heap.size := by rw [← hTh]; exact hz1
  have hz2 : ∀ q : Nat, q < H.size → T'.heap[q]? = H[q]? := fun q hq => by rw [← hTh]; exact hz2 q (by show q < T.heap.size; rw [hTh]; exact hq)
  have hcE : s.vm.findClass E = some ce.cls := by rw [← hW1.alike.findClass]; exact hcE
  rw [List.append_nil] at X'
  obtain ⟨vm', X4, st4⟩ := q_caught X' (a := qq) (g := F0 m pc ls rest) rfl (cell := ce) (by rw [hT']; exact hce) hcv (by obtain ⟨k9, h9, -⟩ := Vm.findClass_spec hcE; exact ⟨k9, h9⟩) pre x suf hsplit
    (fun z hz => q_rowOf hown hpl hcE (hpass z hz)) (q_rowOf hown hpl hcE hx)
  obtain ⟨t, a1, b1⟩ := kk T'.heap qq (hP.kept (fun k q hk => hz2 q.1 (hP k q hk).lt)) ⟨Nat.le_trans hS.1 hz1, fun q h1 h2 => by rw [hz2 q (Nat.lt_of_lt_of_le h1 hS.1)]; exact hS.2.1 q h1 h2, hS.2.2⟩ (T'.setVm vm') rfl X4
  refine ⟨t, hstep₁ _ fun acts => ?_, b1⟩
  rw [doInvoke_state]
  refine hsteps.trans ?_
  rw [ht]
  exact st4 _ a1
/-- the law's own methods with handlers -/
def q_Mw (l : Launch) (y : MethodName) (cc : ByteArray) (maxL : Nat) (hh : List (Nat × Nat × Nat × Nat)) (rm : Room) (D : va_G) (tys : List (ClassId × FieldType)) (w : QSt → va_W) (As : List Value) (st : QSt) (r : Int32) (st' : QSt) : Prop :=
  ∀ sz : Nat, Met l y (Cond.codeWith y cc maxL (some .int) hh :: q_tbl) rm (va_Pc As (q_PreT D tys w st sz)) (va_Qi (fun r' (_ : Unit) => r' = r) (fun _ t => va_P D vwCl (w st') t.heap) (va_A (w st) sz)) 1 6 (va_A (w st) sz)
def q_Zw (below : List Frame) (args : Array Value) (s : State) (D : va_G) (w : QSt → va_W) (r : Int32) (st' : QSt) (A : Nat → Prop) : State → Prop :=
  MQ below (va_Qi (fun r' (_ : Unit) => r' = r) (fun _ t => va_P D vwCl (w st') t.heap) A) args s 1 6 A
theorem q_Mw_of (hy : plainName y.cls = true) (hlen : (lg_sl As).length ≤ maxL) (hw : ∀ a b : QSt, (w a).map Prod.fst = (w b).map Prod.fst)
    (body : ∀ (p : Program) (e : Env) (s : State) (m : MethodId) (args : Array Value) (below : List Frame) (meth : Method) (c : Code) (ls : Array Slot), q_Cx p s m args c cc maxL y.cls D tys → meth.sig.returnType = some .int → meth.locks = false → c.exceptionTable.toList = tableOf hh → q_Zt s → (∀ z, va_D (fun _ => True) (w z)) → (∀ z, va_D (va_A (w st) s.heap.size) (w z)) → (∀ q : Nat, s.heap.size ≤ q → va_A (w st) s.heap.size q) →
      va_P D vwCl (w st) s.heap → va_S (va_A (w st) s.heap.size) s.heap s.heap [] → lv_has ls maxL (lv_args 0 As) → W p l e rm s m args below meth c s.heap [] 0 0 (q_Zw below args s D w r st' (va_A (w st) s.heap.size)) (F0 m 0 ls [])) : q_Mw l y cc maxL hh rm D tys w As st r st' := by
  intro sz
  refine va_MetW (cc := cc) (maxL := maxL) (ret := some .int) (hh := hh) hy rfl ?_
  intro p e s m args below meth c s₁ B hml hv
  obtain ⟨rfl, ⟨hsz, hP, hK, hD0, hNt⟩, hZ⟩ := hv
  have hts := atoms_spec (ws := Cond.codeWith y cc maxL (some .int) hh :: q_tbl) B.pre
  have hown : s.vm.findClass y.cls = some m.cls := findClass_of_methodNamed B.named
  have htab : c.exceptionTable.toList = tableOf hh := by
    obtain ⟨m9, meth9, c9, hn9, h1, h2, -, -, h6, -⟩ := Cond.codeWith_spec (hts _ List.mem_cons_self)
    cases Option.some.inj (hn9.symm.trans B.named)
    cases Option.some.inj (h1.symm.trans B.method)
    cases Option.some.inj (h2.symm.trans (Stand.of_body B).code)
    rw [← h6, table_eq]
  subst hsz
  have hD : va_D (va_A (w st) s.heap.size) (w st) := hD0.self
  rw [lg_entry_eq]
  exact body p e s m _ below meth c _ ⟨⟨B.exec, B.bytes, hml, hown, fun w h => hts w (List.mem_cons_of_mem _ h)⟩, hK, hNt⟩ B.returns B.notSynchronized htab hZ (fun z => q_Dmove (hw st z) hD0) (fun z => q_Dmove (hw st z) hD) (fun q h => Or.inr h) hP va_S.rf (lv_entry As hlen)
theorem q_wret {st1 : QSt} (hC : q_Cx p s m args c cc nL own D tys) (hr : meth.sig.returnType = some .int) (hlk : meth.locks = false) (hc : cells ≤ 1) (hs : slots ≤ 6) (hP : va_P D vwCl (w st1) H) (hS : va_S A s.heap H locs) (hd : decode cc pc = .ok (.ireturn, 1)) :
    W p l e R s m args below meth c H locs cells slots (q_Zw below args s D w r st1 A) (F0 m pc ls [.int r]) := by
  refine W.widen (k := 1) (n := 6) hc hs ?_
  exact W.zret hC.1.1 hC.1.2.1 hr rfl (fun t ht hW => ⟨⟨r, (), rfl, rfl, by show va_P D vwCl (w _) t.heap; rw [ht]; exact hP⟩, hS.F ht⟩) hS.2.2 hd hlk
end QWr
