/-! Words of this proof: states as two functions (numbers, arrays), functions that may fail, and the rows that the printed walks use. -/
section QBase
abbrev QSt : Type := (Nat → Int32) × (Nat → Nat → Int32)
def q_ps (st : QSt) (k : Nat) (v : Int32) : QSt := (va_up st.1 k v, st.2)
def q_pa (st : QSt) (k i : Nat) (v : Int32) : QSt := (st.1, va_up st.2 k (upd (st.2 k) i v))
def q_vpb (i : Int32) (n : Nat) : Bool := decide (¬ (i < 0 ∨ n ≤ i.toNatClampNeg))
theorem q_vpb_in {i : Int32} {n : Nat} (h : q_vpb i n = true) : vp_in i n := show ¬ (i < 0 ∨ n ≤ i.toNatClampNeg) from of_decide_eq_true h
def q_isb (v : Int32) : Bool := decide (v = 0 ∨ v = 1)
theorem q_isb_fit {v : Int32} (h : q_isb v = true) : fits .boolean (.int v) = true := by
  rcases of_decide_eq_true h with rfl | rfl <;> decide
theorem q_isb_nar {v : Int32} (h : q_isb v = true) : narrow .boolean (.int v) = .int v := by
  rcases of_decide_eq_true h with rfl | rfl <;> decide
def q_grd {α : Type} (b : Bool) (x : Option α) : Option α := if b = true then x else none
theorem q_grd_some {α : Type} {b : Bool} {x : Option α} {y : α} (h : q_grd b x = some y) : b = true ∧ x = some y := by
  unfold q_grd at h
  split at h
  · exact ⟨by assumption, h⟩
  · cases h
def q_bn {ρ α : Type} (o : Option ρ) (k : ρ → Option α) : Option α := match o with
  | none => none
  | some r => k r
theorem q_bn_some {ρ α : Type} {o : Option ρ} {k : ρ → Option α} {y : α} (h : q_bn o k = some y) : ∃ r, o = some r ∧ k r = some y := by
  cases o with
  | none => cases h
  | some r => exact ⟨r, rfl, h⟩
def q_bm {ρ α : Type} (o : Option (ρ × QSt)) (k : ρ → QSt → Option α) : Option α := match o with
  | none => none
  | some q => k q.1 q.2
theorem q_bm_some {ρ α : Type} {o : Option (ρ × QSt)} {k : ρ → QSt → Option α} {y : α} (h : q_bm o k = some y) : ∃ r s, o = some (r, s) ∧ k r s = some y := by
  cases o with
  | none => cases h
  | some q => exact ⟨q.1, q.2, rfl, h⟩
def q_bv {α : Type} (o : Option QSt) (k : QSt → Option α) : Option α := match o with
  | none => none
  | some s => k s
theorem q_bv_some {α : Type} {o : Option QSt} {k : QSt → Option α} {y : α} (h : q_bv o k = some y) : ∃ s, o = some s ∧ k s = some y := by
  cases o with
  | none => cases h
  | some s => exact ⟨s, rfl, h⟩
def q_lt {α β : Type} (x : α) (k : α → Option β) : Option β := k x
theorem q_lt_some {α β : Type} {x : α} {k : α → Option β} {y : β} (h : q_lt x k = some y) : ∃ z, z = x ∧ k z = some y := ⟨x, rfl, h⟩
def q_ush (x y : Int32) : Int32 := (x.toUInt32 >>> (y.toUInt32 &&& Int32.toUInt32 31)).toInt32
theorem q_ine {x k : Int32} (h : ¬ x = k) : x.toInt ≠ k.toInt := fun h2 => h (Int32.toInt_inj.mp h2)
theorem q_at {a b : va_W} (h : a.map Prod.fst = b.map Prod.fst) {i : Nat} {p : Nat × va_E} (hp : b[i]? = some p) : ∃ p', a[i]? = some p' ∧ p'.1 = p.1 := by
  have h1 : (b.map Prod.fst)[i]? = some p.1 := by rw [List.getElem?_map, hp]; rfl
  rw [← h, List.getElem?_map] at h1
  cases ha : a[i]? with
  | none => rw [ha] at h1; cases h1
  | some p' => rw [ha] at h1; exact ⟨p', rfl, Option.some.inj h1⟩
theorem q_Dmove {A : Nat → Prop} {a b : va_W} (h : a.map Prod.fst = b.map Prod.fst) (hD : va_D A a) : va_D A b := by
  refine ⟨fun i j p q hp hq he => ?_, fun k q hk => ?_⟩
  · obtain ⟨p', h1, h2⟩ := q_at h hp
    obtain ⟨q', h3, h4⟩ := q_at h hq
    exact hD.1 i j p' q' h1 h3 (by rw [h2, h4, he])
  · obtain ⟨q', h3, h4⟩ := q_at h hk
    rw [← h4]
    exact hD.2 k q' h3
end QBase
section QNt
def q_Nt (U : State) : Prop := ∀ w ∈ q_ntbl, va_Nw w U
theorem q_Nt.warm {s U : State} (hW : s.WarmedH U.vm) (h : q_Nt s) : q_Nt U := fun w hw => by
  have h1 := h w hw
  have hg := (List.mem_filter.mp hw).2
  clear h hw
  revert h1 hg
  cases w <;> intro h1 hg <;> first | exact va_Nw.warmF hW h1 | exact va_Nw.warmM hW h1 | cases hg
theorem q_Nt.same {s U : State} (hvm : s.vm = U.vm) (h : q_Nt s) : q_Nt U := fun w hw => by
  have h1 := h w hw
  have hg := (List.mem_filter.mp hw).2
  clear h hw
  revert h1 hg
  cases w <;> intro h1 hg <;> first | exact va_Nw.same rfl hvm h1 | cases hg
end QNt
section QW
variable {p : Program} {l : Launch} {e : Env} {R : Room} {s : State} {m : MethodId} {args : Array Value} {below : List Frame} {meth : Method} {c : Code} {H : Heap} {locs : List Loc} {cells slots : Nat} {Q : State → Prop} {cc : ByteArray} {pc : Nat} {ls : Array Slot} {rest : List Value} {nL : Nat} {own : String} {D : va_G} {tys : List (ClassId × FieldType)} {w : QSt → va_W} {st st' : QSt} {A : Nat → Prop}
theorem q_topi {x y : Int32} (h : y = x) (k : W p l e R s m args below meth c H locs cells slots Q (F0 m pc ls (.int y :: rest))) : W p l e R s m args below meth c H locs cells slots Q (F0 m pc ls (.int x :: rest)) := h ▸ k
theorem q_topl {x y : Int64} (h : y = x) (k : W p l e R s m args below meth c H locs cells slots Q (F0 m pc ls (.long y :: rest))) : W p l e R s m args below meth c H locs cells slots Q (F0 m pc ls (.long x :: rest)) := h ▸ k
def q_Cx (p : Program) (s : State) (m : MethodId) (args : Array Value) (c : Code) (cc : ByteArray) (nL : Nat) (own : String) (D : va_G) (tys : List (ClassId × FieldType)) : Prop :=
  CallFix p m c cc nL s args q_tbl own ∧ va_K D vwCl tys s ∧ q_Nt s
def q_Pre (D : va_G) (tys : List (ClassId × FieldType)) (w : QSt → va_W) (st : QSt) (sz : Nat) (U : State) : Prop :=
  U.heap.size = sz ∧ va_P D vwCl (w st) U.heap ∧ va_K D vwCl tys U ∧ va_D (fun _ => True) (w st) ∧ q_Nt U
/-- a method that answers an int and leaves the state st' -/
def q_Mi (l : Launch) (y : MethodName) (cc : ByteArray) (maxL : Nat) (ty : FieldType) (rm : Room) (D : va_G) (tys : List (ClassId × FieldType)) (w : QSt → va_W) (As : List Value) (st : QSt) (r : Int32) (st' : QSt) : Prop :=
  ∀ sz : Nat, Met l y (Cond.code y cc maxL (some ty) :: q_tbl) rm (va_Pc As (q_Pre D tys w st sz)) (va_Qi (fun r' (_ : Unit) => r' = r) (fun _ t => va_P D vwCl (w st') t.heap) (va_A (w st) sz)) 0 0 (va_A (w st) sz)
/-- a method that answers an int and writes nothing -/
def q_Mp (l : Launch) (y : MethodName) (cc : ByteArray) (maxL : Nat) (ty : FieldType) (rm : Room) (D : va_G) (tys : List (ClassId × FieldType)) (w : QSt → va_W) (As : List Value) (st : QSt) (r : Int32) : Prop :=
  ∀ sz : Nat, Met l y (Cond.code y cc maxL (some ty) :: q_tbl) rm (va_Pc As (q_Pre D tys w st sz)) (va_Qi (fun r' (_ : Unit) => r' = r) (fun _ _ => True) (fun _ => False)) 0 0 (fun _ => False)
/-- a method that answers a long and leaves the state st' -/
def q_Ml (l : Launch) (y : MethodName) (cc : ByteArray) (maxL : Nat) (rm : Room) (D : va_G) (tys : List (ClassId × FieldType)) (w : QSt → va_W) (As : List Value) (st : QSt) (r : Int64) (st' : QSt) : Prop :=
  ∀ sz : Nat, Met l y (Cond.code y cc maxL (some .long) :: q_tbl) rm (va_Pc As (q_Pre D tys w st sz)) (va_Ql (fun r' (_ : Unit) => r' = r) (fun _ t => va_P D vwCl (w st') t.heap) (va_A (w st) sz)) 0 0 (va_A (w st) sz)
/-- a method that answers nothing -/
def q_Mv (l : Launch) (y : MethodName) (cc : ByteArray) (maxL : Nat) (rm : Room) (D : va_G) (tys : List (ClassId × FieldType)) (w : QSt → va_W) (As : List Value) (st : QSt) (st' : QSt) : Prop :=
  ∀ sz : Nat, Met l y (Cond.code y cc maxL none :: q_tbl) rm (va_Pc As (q_Pre D tys w st sz)) (va_Qv (fun (_ : Unit) => True) (fun _ t => va_P D vwCl (w st') t.heap) (va_A (w st) sz)) 0 0 (va_A (w st) sz)
def q_Zi (below : List Frame) (args : Array Value) (s : State) (D : va_G) (w : QSt → va_W) (r : Int32) (st' : QSt) (A : Nat → Prop) : State → Prop :=
  MQ below (va_Qi (fun r' (_ : Unit) => r' = r) (fun _ t => va_P D vwCl (w st') t.heap) A) args s 0 0 A
def q_Zp (below : List Frame) (args : Array Value) (s : State) (r : Int32) : State → Prop :=
  MQ below (va_Qi (fun r' (_ : Unit) => r' = r) (fun _ _ => True) (fun _ => False)) args s 0 0 (fun _ => False)
def q_Zl (below : List Frame) (args : Array Value) (s : State) (D : va_G) (w : QSt → va_W) (r : Int64) (st' : QSt) (A : Nat → Prop) : State → Prop :=
  MQ below (va_Ql (fun r' (_ : Unit) => r' = r) (fun _ t => va_P D vwCl (w st') t.heap) A) args s 0 0 A
def q_Zv (below : List Frame) (args : Array Value) (s : State) (D : va_G) (w : QSt → va_W) (st' : QSt) (A : Nat → Prop) : State → Prop :=
  MQ below (va_Qv (fun (_ : Unit) => True) (fun _ t => va_P D vwCl (w st') t.heap) A) args s 0 0 A
theorem q_Mi_of {y : MethodName} {maxL : Nat} {ty : FieldType} {rm : Room} {As : List Value} {r : Int32} (hy : plainName y.cls = true) (hlen : (lg_sl As).length ≤ maxL) (hw : ∀ a b : QSt, (w a).map Prod.fst = (w b).map Prod.fst)
    (body : ∀ (p : Program) (e : Env) (s : State) (m : MethodId) (args : Array Value) (below : List Frame) (meth : Method) (c : Code) (A : Nat → Prop) (ls : Array Slot), q_Cx p s m args c cc maxL y.cls D tys → meth.sig.returnType = some ty → meth.locks = false → (∀ z, va_D (fun _ => True) (w z)) → (∀ z, va_D A (w z)) → (∀ q : Nat, s.heap.size ≤ q → A q) →
      va_P D vwCl (w st) s.heap → va_S A s.heap s.heap [] → lv_has ls maxL (lv_args 0 As) → W p l e rm s m args below meth c s.heap [] 0 0 (q_Zi below args s D w r st' A) (F0 m 0 ls [])) : q_Mi l y cc maxL ty rm D tys w As st r st' := by
  intro sz
  refine Met.ofW (cc := cc) (maxL := maxL) (ret := some ty) hy rfl ?_
  intro p e s m args below meth c s₁ B hml hv
  obtain ⟨rfl, hsz, hP, hK, hD0, hNt⟩ := hv
  have hts := atoms_spec (ws := Cond.code y cc maxL (some ty) :: q_tbl) B.pre
  have hown : s.vm.findClass y.cls = some m.cls := findClass_of_methodNamed B.named
  subst hsz
  have hD : va_D (va_A (w st) s.heap.size) (w st) := hD0.self
  rw [lg_entry_eq]
  exact body p e s m _ below meth c (va_A (w st) s.heap.size) _ ⟨⟨B.exec, B.bytes, hml, hown, fun w h => hts w (List.mem_cons_of_mem _ h)⟩, hK, hNt⟩ B.returns B.notSynchronized (fun z => q_Dmove (hw st z) hD0) (fun z => q_Dmove (hw st z) hD) (fun q h => Or.inr h) hP va_S.rf (lv_entry As hlen)
theorem q_Mp_of {y : MethodName} {maxL : Nat} {ty : FieldType} {rm : Room} {As : List Value} {r : Int32} (hy : plainName y.cls = true) (hlen : (lg_sl As).length ≤ maxL) (hw : ∀ a b : QSt, (w a).map Prod.fst = (w b).map Prod.fst)
    (body : ∀ (p : Program) (e : Env) (s : State) (m : MethodId) (args : Array Value) (below : List Frame) (meth : Method) (c : Code) (ls : Array Slot), q_Cx p s m args c cc maxL y.cls D tys → meth.sig.returnType = some ty → meth.locks = false → (∀ z, va_D (fun _ => True) (w z)) →
      va_P D vwCl (w st) s.heap → va_S (fun _ => False) s.heap s.heap [] → lv_has ls maxL (lv_args 0 As) → W p l e rm s m args below meth c s.heap [] 0 0 (q_Zp below args s r) (F0 m 0 ls [])) : q_Mp l y cc maxL ty rm D tys w As st r := by
  intro sz
  refine Met.ofW (cc := cc) (maxL := maxL) (ret := some ty) hy rfl ?_
  intro p e s m args below meth c s₁ B hml hv
  obtain ⟨rfl, hsz, hP, hK, hD0, hNt⟩ := hv
  have hts := atoms_spec (ws := Cond.code y cc maxL (some ty) :: q_tbl) B.pre
  have hown : s.vm.findClass y.cls = some m.cls := findClass_of_methodNamed B.named
  subst hsz
  rw [lg_entry_eq]
  exact body p e s m _ below meth c _ ⟨⟨B.exec, B.bytes, hml, hown, fun w h => hts w (List.mem_cons_of_mem _ h)⟩, hK, hNt⟩ B.returns B.notSynchronized (fun z => q_Dmove (hw st z) hD0) hP va_S.rf (lv_entry As hlen)
theorem q_Ml_of {y : MethodName} {maxL : Nat} {rm : Room} {As : List Value} {r : Int64} (hy : plainName y.cls = true) (hlen : (lg_sl As).length ≤ maxL) (hw : ∀ a b : QSt, (w a).map Prod.fst = (w b).map Prod.fst)
    (body : ∀ (p : Program) (e : Env) (s : State) (m : MethodId) (args : Array Value) (below : List Frame) (meth : Method) (c : Code) (A : Nat → Prop) (ls : Array Slot), q_Cx p s m args c cc maxL y.cls D tys → meth.sig.returnType = some .long → meth.locks = false → (∀ z, va_D (fun _ => True) (w z)) → (∀ z, va_D A (w z)) → (∀ q : Nat, s.heap.size ≤ q → A q) →
      va_P D vwCl (w st) s.heap → va_S A s.heap s.heap [] → lv_has ls maxL (lv_args 0 As) → W p l e rm s m args below meth c s.heap [] 0 0 (q_Zl below args s D w r st' A) (F0 m 0 ls [])) : q_Ml l y cc maxL rm D tys w As st r st' := by
  intro sz
  refine Met.ofW (cc := cc) (maxL := maxL) (ret := some .long) hy rfl ?_
  intro p e s m args below meth c s₁ B hml hv
  obtain ⟨rfl, hsz, hP, hK, hD0, hNt⟩ := hv
  have hts := atoms_spec (ws := Cond.code y cc maxL (some .long) :: q_tbl) B.pre
  have hown : s.vm.findClass y.cls = some m.cls := findClass_of_methodNamed B.named
  subst hsz
  have hD : va_D (va_A (w st) s.heap.size) (w st) := hD0.self
  rw [lg_entry_eq]
  exact body p e s m _ below meth c (va_A (w st) s.heap.size) _ ⟨⟨B.exec, B.bytes, hml, hown, fun w h => hts w (List.mem_cons_of_mem _ h)⟩, hK, hNt⟩ B.returns B.notSynchronized (fun z => q_Dmove (hw st z) hD0) (fun z => q_Dmove (hw st z) hD) (fun q h => Or.inr h) hP va_S.rf (lv_entry As hlen)
theorem q_Mv_of {y : MethodName} {maxL : Nat} {rm : Room} {As : List Value} (hy : plainName y.cls = true) (hlen : (lg_sl As).length ≤ maxL) (hw : ∀ a b : QSt, (w a).map Prod.fst = (w b).map Prod.fst)
    (body : ∀ (p : Program) (e : Env) (s : State) (m : MethodId) (args : Array Value) (below : List Frame) (meth : Method) (c : Code) (A : Nat → Prop) (ls : Array Slot), q_Cx p s m args c cc maxL y.cls D tys → meth.sig.returnType = none → meth.locks = false → (∀ z, va_D (fun _ => True) (w z)) → (∀ z, va_D A (w z)) → (∀ q : Nat, s.heap.size ≤ q → A q) →
      va_P D vwCl (w st) s.heap → va_S A s.heap s.heap [] → lv_has ls maxL (lv_args 0 As) → W p l e rm s m args below meth c s.heap [] 0 0 (q_Zv below args s D w st' A) (F0 m 0 ls [])) : q_Mv l y cc maxL rm D tys w As st st' := by
  intro sz
  refine Met.ofW (cc := cc) (maxL := maxL) (ret := none) hy rfl ?_
  intro p e s m args below meth c s₁ B hml hv
  obtain ⟨rfl, hsz, hP, hK, hD0, hNt⟩ := hv
  have hts := atoms_spec (ws := Cond.code y cc maxL none :: q_tbl) B.pre
  have hown : s.vm.findClass y.cls = some m.cls := findClass_of_methodNamed B.named
  subst hsz
  have hD : va_D (va_A (w st) s.heap.size) (w st) := hD0.self
  rw [lg_entry_eq]
  exact body p e s m _ below meth c (va_A (w st) s.heap.size) _ ⟨⟨B.exec, B.bytes, hml, hown, fun w h => hts w (List.mem_cons_of_mem _ h)⟩, hK, hNt⟩ B.returns B.notSynchronized (fun z => q_Dmove (hw st z) hD0) (fun z => q_Dmove (hw st z) hD) (fun q h => Or.inr h) hP va_S.rf (lv_entry As hlen)
theorem q_iret {v r : Int32} {st1 : QSt} {ty : FieldType} (hC : q_Cx p s m args c cc nL own D tys) (hr : meth.sig.returnType = some ty) (hlk : meth.locks = false) (hf : some (v, st1) = some (r, st')) (hn : narrow ty (.int v) = .int v) (hP : va_P D vwCl (w st1) H) (hS : va_S A s.heap H locs) (hd : decode cc pc = .ok (.ireturn, 1)) :
    W p l e R s m args below meth c H locs 0 0 (q_Zi below args s D w r st' A) (F0 m pc ls [.int v]) := by
  cases hf
  exact W.zret hC.1.1 hC.1.2.1 hr hn (fun t ht hW => ⟨⟨v, (), rfl, rfl, by show va_P D vwCl (w _) t.heap; rw [ht]; exact hP⟩, hS.F ht⟩) hS.2.2 hd hlk
theorem q_lret {v r : Int64} {st1 : QSt} (hC : q_Cx p s m args c cc nL own D tys) (hr : meth.sig.returnType = some .long) (hlk : meth.locks = false) (hf : some (v, st1) = some (r, st')) (hP : va_P D vwCl (w st1) H) (hS : va_S A s.heap H locs) (hd : decode cc pc = .ok (.lreturn, 1)) :
    W p l e R s m args below meth c H locs 0 0 (q_Zl below args s D w r st' A) (F0 m pc ls [.long v]) := by
  cases hf
  exact W.lret hC.1.1 hC.1.2.1 hr (fun t ht hW => ⟨⟨v, (), rfl, rfl, by show va_P D vwCl (w _) t.heap; rw [ht]; exact hP⟩, hS.F ht⟩) hS.2.2 hd hlk
theorem q_iretP {v r : Int32} {ty : FieldType} (hC : q_Cx p s m args c cc nL own D tys) (hr : meth.sig.returnType = some ty) (hlk : meth.locks = false) (hf : some v = some r) (hn : narrow ty (.int v) = .int v) (hS : va_S (fun _ => False) s.heap H locs) (hd : decode cc pc = .ok (.ireturn, 1)) :
    W p l e R s m args below meth c H locs 0 0 (q_Zp below args s r) (F0 m pc ls [.int v]) := by
  cases hf
  exact W.zret hC.1.1 hC.1.2.1 hr hn (fun t ht hW => ⟨⟨v, (), rfl, rfl, trivial⟩, hS.F ht⟩) hS.2.2 hd hlk
theorem q_vret {st1 : QSt} (hC : q_Cx p s m args c cc nL own D tys) (hr : meth.sig.returnType = none) (hlk : meth.locks = false) (hf : some st1 = some st') (hP : va_P D vwCl (w st1) H) (hS : va_S A s.heap H locs) (hd : decode cc pc = .ok (.return_, 1)) :
    W p l e R s m args below meth c H locs 0 0 (q_Zv below args s D w st' A) (F0 m pc ls []) := by
  cases hf
  exact W.vret hC.1.1 hC.1.2.1 hr (fun t ht hW => ⟨⟨(), rfl, trivial, by show va_P D vwCl (w _) t.heap; rw [ht]; exact hP⟩, hS.F ht⟩) hS.2.2 hd hlk
/-- what is known of a callee: its words are in the tables -/
def q_cal (y : MethodName) (bytes : ByteArray) (maxL : Nat) (ret : Option FieldType) (n : Nat) : Prop :=
  Cond.code y bytes maxL ret ∈ q_tbl ∧ Cond.initialized y.cls ∈ q_tbl ∧ y.cls ≠ "java/lang/invoke/MethodHandle" ∧ y.cls ≠ "java/lang/invoke/VarHandle" ∧ (parseMethodDescriptor y.desc).map (fun d => d.parameters.length) = some n
def q_calV (y : MethodName) (bytes : ByteArray) (maxL : Nat) (ret : Option FieldType) (n : Nat) : Prop :=
  q_cal y bytes maxL ret n ∧ Cond.instanceMethod y ∈ q_tbl ∧ Cond.selects y.cls y y ∈ q_tbl
def q_calS (y : MethodName) (bytes : ByteArray) (maxL : Nat) (ret : Option FieldType) (n : Nat) : Prop :=
  q_cal y bytes maxL ret n ∧ Cond.static y ∈ q_tbl
theorem q_goodc {y : MethodName} {bytes : ByteArray} {maxL : Nat} {ret : Option FieldType} (h : Cond.code y bytes maxL ret ∈ q_tbl) : GoodIn q_tbl (Cond.code y bytes maxL ret :: q_tbl) := fun w hw => by
  rcases List.mem_cons.mp hw with rfl | hw
  · exact q_good _ h
  · exact q_good _ hw
theorem q_blind {As : List Value} {sz : Nat} : FrameBlind (va_Pc As (q_Pre D tys w st sz)) := fun a U g mk q => by
  obtain ⟨q0, q1, qP, qK, qD, qN⟩ := q
  exact ⟨q0, q1, qP, va_K.moved (u := U) (U := U.calling g mk a) (Vm.Alike.refl U.vm) qK, qD, q_Nt.same (s := U) (U := U.calling g mk a) rfl qN⟩
theorem q_freeA (hD : ∀ z, va_D A (w z)) (hA : ∀ q : Nat, s.heap.size ≤ q → A q) (hS : va_S A s.heap H locs) (st : QSt) : ∀ q : Nat, va_A (w st) H.size q → A q := fun q h => by
  rcases h with ⟨k, e, hk⟩ | h
  · exact (hD st).2 k (q, e) hk
  · exact hA q (Nat.le_trans hS.1 h)
section QC
variable {y : MethodName} {bytes : ByteArray} {maxL n idx ci q0 b : Nat} {ty : FieldType} {rm : Room} {As stk fs : List Value} {r : Int32} {q : u_T × Nat} {host : String}
def q_rm (rm R : Room) (maxL : Nat) : Prop := rm.cells = 0 ∧ rm.slots = 0 ∧ rm.frames + 1 ≤ R.frames ∧ 8 + (maxL + 11) + rm.locals ≤ R.locals
theorem q_callVi (hC : q_Cx p s m args c cc nL own D tys) (hM : q_Mi l y bytes maxL ty rm D tys w (.ref b :: As) st r st') (hq : q_calV y bytes maxL (some ty) n) (hl : Cond.methodLink own idx y ∈ q_tbl) (hR : q_rm rm R maxL)
    (hcl : vwCl[ci]? = some (y.cls, q)) (he : (w st)[q0]? = some (b, .inr (ci, fs))) (hP : va_P D vwCl (w st) H) (hD : ∀ z, va_D A (w z)) (hA : ∀ q : Nat, s.heap.size ≤ q → A q) (hS : va_S A s.heap H locs) (hn : As.length = n) (hsz : ls.size = nL) (hstk : stk = As.reverse ++ .ref b :: rest) (hW : (rest.map fun v => v.category).sum ≤ 8)
    (hdg : decode cc pc = .ok (.invokevirtual idx, 3)) (kk : ∀ (H1 : Heap) (locs1 : List Loc), va_P D vwCl (w st') H1 → va_S A s.heap H1 locs1 → W p l e R s m args below meth c H1 locs1 0 0 Q (F0 m (pc + 3) ls (.int r :: rest))) : W p l e R s m args below meth c H locs 0 0 Q (F0 m pc ls stk) := by
  obtain ⟨⟨k1, k2, k3, k4, k5⟩, k6, k7⟩ := hq
  have hts := hC.1.2.2.2.2
  have hF := q_freeA hD hA hS st
  refine va_calli (va_runV (As := As) (rest := rest) hC.1 (hM H.size) ⟨callB_of n hts (q_goodc k1) rfl hR.1 hR.2.1 (hts _ k2) (hts _ hl) ⟨k3, k4, k5⟩ hR.2.2, hts _ k6, hts _ k7⟩ ⟨q_blind, va_recv hC.2.1 hP hcl he, fun U hU hW => ⟨rfl, by rw [hU], by rw [hU]; exact hP, va_K.moved hW.alike hC.2.1, (hD st).weaken (fun _ _ _ _ => trivial), hC.2.2.warm hW⟩⟩ rfl hn hsz hstk (lv_room hW) hdg ⟨Nat.zero_le _, Nat.zero_le _⟩) hS (fun q _ h => hF q h) hF (fun r_2 u t H1 locs ht hvm hw hB hz1 hk1 hS => ?_)
  subst hw
  exact kk H1 locs (by rw [← ht]; exact hB) hS
theorem q_callVp (hC : q_Cx p s m args c cc nL own D tys) (hM : q_Mp l y bytes maxL ty rm D tys w (.ref b :: As) st r) (hq : q_calV y bytes maxL (some ty) n) (hl : Cond.methodLink own idx y ∈ q_tbl) (hR : q_rm rm R maxL)
    (hcl : vwCl[ci]? = some (y.cls, q)) (he : (w st)[q0]? = some (b, .inr (ci, fs))) (hP : va_P D vwCl (w st) H) (hT : ∀ z, va_D (fun _ => True) (w z)) (hS : va_S A s.heap H locs) (hn : As.length = n) (hsz : ls.size = nL) (hstk : stk = As.reverse ++ .ref b :: rest) (hW : (rest.map fun v => v.category).sum ≤ 8)
    (hdg : decode cc pc = .ok (.invokevirtual idx, 3)) (kk : ∀ (H1 : Heap) (locs1 : List Loc), va_P D vwCl (w st) H1 → va_S A s.heap H1 locs1 → W p l e R s m args below meth c H1 locs1 0 0 Q (F0 m (pc + 3) ls (.int r :: rest))) : W p l e R s m args below meth c H locs 0 0 Q (F0 m pc ls stk) := by
  obtain ⟨⟨k1, k2, k3, k4, k5⟩, k6, k7⟩ := hq
  have hts := hC.1.2.2.2.2
  refine va_calli (va_runV (As := As) (rest := rest) hC.1 (hM H.size) ⟨callB_of n hts (q_goodc k1) rfl hR.1 hR.2.1 (hts _ k2) (hts _ hl) ⟨k3, k4, k5⟩ hR.2.2, hts _ k6, hts _ k7⟩ ⟨q_blind, va_recv hC.2.1 hP hcl he, fun U hU hW => ⟨rfl, by rw [hU], by rw [hU]; exact hP, va_K.moved hW.alike hC.2.1, hT st, hC.2.2.warm hW⟩⟩ rfl hn hsz hstk (lv_room hW) hdg ⟨Nat.zero_le _, Nat.zero_le _⟩) hS (fun q _ h => h.elim) (fun q h => h.elim) (fun r_2 u t H1 locs ht hvm hw hB hz1 hk1 hS => ?_)
  subst hw
  exact kk H1 locs (hP.kept (fun k q hk => hk1 q.1 (hP k q hk).lt (fun h => h))) hS
theorem q_callVl {r : Int64} (hC : q_Cx p s m args c cc nL own D tys) (hM : q_Ml l y bytes maxL rm D tys w (.ref b :: As) st r st') (hq : q_calV y bytes maxL (some .long) n) (hl : Cond.methodLink own idx y ∈ q_tbl) (hR : q_rm rm R maxL)
    (hcl : vwCl[ci]? = some (y.cls, q)) (he : (w st)[q0]? = some (b, .inr (ci, fs))) (hP : va_P D vwCl (w st) H) (hD : ∀ z, va_D A (w z)) (hA : ∀ q : Nat, s.heap.size ≤ q → A q) (hS : va_S A s.heap H locs) (hn : As.length = n) (hsz : ls.size = nL) (hstk : stk = As.reverse ++ .ref b :: rest) (hW : (rest.map fun v => v.category).sum ≤ 8)
    (hdg : decode cc pc = .ok (.invokevirtual idx, 3)) (kk : ∀ (H1 : Heap) (locs1 : List Loc), va_P D vwCl (w st') H1 → va_S A s.heap H1 locs1 → W p l e R s m args below meth c H1 locs1 0 0 Q (F0 m (pc + 3) ls (.long r :: rest))) : W p l e R s m args below meth c H locs 0 0 Q (F0 m pc ls stk) := by
  obtain ⟨⟨k1, k2, k3, k4, k5⟩, k6, k7⟩ := hq
  have hts := hC.1.2.2.2.2
  have hF := q_freeA hD hA hS st
  refine va_calll (va_runV (As := As) (rest := rest) hC.1 (hM H.size) ⟨callB_of n hts (q_goodc k1) rfl hR.1 hR.2.1 (hts _ k2) (hts _ hl) ⟨k3, k4, k5⟩ hR.2.2, hts _ k6, hts _ k7⟩ ⟨q_blind, va_recv hC.2.1 hP hcl he, fun U hU hW => ⟨rfl, by rw [hU], by rw [hU]; exact hP, va_K.moved hW.alike hC.2.1, (hD st).weaken (fun _ _ _ _ => trivial), hC.2.2.warm hW⟩⟩ rfl hn hsz hstk (lv_room hW) hdg ⟨Nat.zero_le _, Nat.zero_le _⟩) hS (fun q _ h => hF q h) hF (fun r_2 u t H1 locs ht hvm hw hB hz1 hk1 hS => ?_)
  subst hw
  exact kk H1 locs (by rw [← ht]; exact hB) hS
theorem q_callVv (hC : q_Cx p s m args c cc nL own D tys) (hM : q_Mv l y bytes maxL rm D tys w (.ref b :: As) st st') (hq : q_calV y bytes maxL none n) (hl : Cond.methodLink own idx y ∈ q_tbl) (hR : q_rm rm R maxL)
    (hcl : vwCl[ci]? = some (y.cls, q)) (he : (w st)[q0]? = some (b, .inr (ci, fs))) (hP : va_P D vwCl (w st) H) (hD : ∀ z, va_D A (w z)) (hA : ∀ q : Nat, s.heap.size ≤ q → A q) (hS : va_S A s.heap H locs) (hn : As.length = n) (hsz : ls.size = nL) (hstk : stk = As.reverse ++ .ref b :: rest) (hW : (rest.map fun v => v.category).sum ≤ 8)
    (hdg : decode cc pc = .ok (.invokevirtual idx, 3)) (kk : ∀ (H1 : Heap) (locs1 : List Loc), va_P D vwCl (w st') H1 → va_S A s.heap H1 locs1 → W p l e R s m args below meth c H1 locs1 0 0 Q (F0 m (pc + 3) ls rest)) : W p l e R s m args below meth c H locs 0 0 Q (F0 m pc ls stk) := by
  obtain ⟨⟨k1, k2, k3, k4, k5⟩, k6, k7⟩ := hq
  have hts := hC.1.2.2.2.2
  have hF := q_freeA hD hA hS st
  refine va_callv (va_runV (As := As) (rest := rest) hC.1 (hM H.size) ⟨callB_of n hts (q_goodc k1) rfl hR.1 hR.2.1 (hts _ k2) (hts _ hl) ⟨k3, k4, k5⟩ hR.2.2, hts _ k6, hts _ k7⟩ ⟨q_blind, va_recv hC.2.1 hP hcl he, fun U hU hW => ⟨rfl, by rw [hU], by rw [hU]; exact hP, va_K.moved hW.alike hC.2.1, (hD st).weaken (fun _ _ _ _ => trivial), hC.2.2.warm hW⟩⟩ rfl hn hsz hstk (lv_room hW) hdg ⟨Nat.zero_le _, Nat.zero_le _⟩) hS (fun q _ h => hF q h) hF (fun u t H1 locs ht hvm hw hB hz1 hk1 hS => ?_)
  exact kk H1 locs (by rw [← ht]; exact hB) hS
theorem q_callVNv (hC : q_Cx p s m args c cc nL own D tys) (hM : q_Mv l y bytes maxL rm D tys w (.ref b :: As) st st') (hq : q_calV y bytes maxL none n) (hl : Cond.methodLinkNest own idx y host ∈ q_ntbl) (hR : q_rm rm R maxL)
    (hcl : vwCl[ci]? = some (y.cls, q)) (he : (w st)[q0]? = some (b, .inr (ci, fs))) (hP : va_P D vwCl (w st) H) (hD : ∀ z, va_D A (w z)) (hA : ∀ q : Nat, s.heap.size ≤ q → A q) (hS : va_S A s.heap H locs) (hn : As.length = n) (hsz : ls.size = nL) (hstk : stk = As.reverse ++ .ref b :: rest) (hW : (rest.map fun v => v.category).sum ≤ 8)
    (hdg : decode cc pc = .ok (.invokevirtual idx, 3)) (kk : ∀ (H1 : Heap) (locs1 : List Loc), va_P D vwCl (w st') H1 → va_S A s.heap H1 locs1 → W p l e R s m args below meth c H1 locs1 0 0 Q (F0 m (pc + 3) ls rest)) : W p l e R s m args below meth c H locs 0 0 Q (F0 m pc ls stk) := by
  obtain ⟨⟨k1, k2, k3, k4, k5⟩, k6, k7⟩ := hq
  have hts := hC.1.2.2.2.2
  have hF := q_freeA hD hA hS st
  refine va_callv (va_runVN (As := As) (rest := rest) hC.1 (hM H.size) ⟨va_cnB n hts (q_goodc k1) rfl hR.1 hR.2.1 (hC.2.2 _ hl) (hts _ k2) ⟨k3, k4, k5⟩ hR.2.2, hts _ k6, hts _ k7⟩ ⟨q_blind, va_recv hC.2.1 hP hcl he, fun U hU hW => ⟨rfl, by rw [hU], by rw [hU]; exact hP, va_K.moved hW.alike hC.2.1, (hD st).weaken (fun _ _ _ _ => trivial), hC.2.2.warm hW⟩⟩ rfl hn hsz hstk (lv_room hW) hdg ⟨Nat.zero_le _, Nat.zero_le _⟩) hS (fun q _ h => hF q h) hF (fun u t H1 locs ht hvm hw hB hz1 hk1 hS => ?_)
  exact kk H1 locs (by rw [← ht]; exact hB) hS
theorem q_callVNi (hC : q_Cx p s m args c cc nL own D tys) (hM : q_Mi l y bytes maxL ty rm D tys w (.ref b :: As) st r st') (hq : q_calV y bytes maxL (some ty) n) (hl : Cond.methodLinkNest own idx y host ∈ q_ntbl) (hR : q_rm rm R maxL)
    (hcl : vwCl[ci]? = some (y.cls, q)) (he : (w st)[q0]? = some (b, .inr (ci, fs))) (hP : va_P D vwCl (w st) H) (hD : ∀ z, va_D A (w z)) (hA : ∀ q : Nat, s.heap.size ≤ q → A q) (hS : va_S A s.heap H locs) (hn : As.length = n) (hsz : ls.size = nL) (hstk : stk = As.reverse ++ .ref b :: rest) (hW : (rest.map fun v => v.category).sum ≤ 8)
    (hdg : decode cc pc = .ok (.invokevirtual idx, 3)) (kk : ∀ (H1 : Heap) (locs1 : List Loc), va_P D vwCl (w st') H1 → va_S A s.heap H1 locs1 → W p l e R s m args below meth c H1 locs1 0 0 Q (F0 m (pc + 3) ls (.int r :: rest))) : W p l e R s m args below meth c H locs 0 0 Q (F0 m pc ls stk) := by
  obtain ⟨⟨k1, k2, k3, k4, k5⟩, k6, k7⟩ := hq
  have hts := hC.1.2.2.2.2
  have hF := q_freeA hD hA hS st
  refine va_calli (va_runVN (As := As) (rest := rest) hC.1 (hM H.size) ⟨va_cnB n hts (q_goodc k1) rfl hR.1 hR.2.1 (hC.2.2 _ hl) (hts _ k2) ⟨k3, k4, k5⟩ hR.2.2, hts _ k6, hts _ k7⟩ ⟨q_blind, va_recv hC.2.1 hP hcl he, fun U hU hW => ⟨rfl, by rw [hU], by rw [hU]; exact hP, va_K.moved hW.alike hC.2.1, (hD st).weaken (fun _ _ _ _ => trivial), hC.2.2.warm hW⟩⟩ rfl hn hsz hstk (lv_room hW) hdg ⟨Nat.zero_le _, Nat.zero_le _⟩) hS (fun q _ h => hF q h) hF (fun r_2 u t H1 locs ht hvm hw hB hz1 hk1 hS => ?_)
  subst hw
  exact kk H1 locs (by rw [← ht]; exact hB) hS
theorem q_callVNp (hC : q_Cx p s m args c cc nL own D tys) (hM : q_Mp l y bytes maxL ty rm D tys w (.ref b :: As) st r) (hq : q_calV y bytes maxL (some ty) n) (hl : Cond.methodLinkNest own idx y host ∈ q_ntbl) (hR : q_rm rm R maxL)
    (hcl : vwCl[ci]? = some (y.cls, q)) (he : (w st)[q0]? = some (b, .inr (ci, fs))) (hP : va_P D vwCl (w st) H) (hT : ∀ z, va_D (fun _ => True) (w z)) (hS : va_S A s.heap H locs) (hn : As.length = n) (hsz : ls.size = nL) (hstk : stk = As.reverse ++ .ref b :: rest) (hW : (rest.map fun v => v.category).sum ≤ 8)
    (hdg : decode cc pc = .ok (.invokevirtual idx, 3)) (kk : ∀ (H1 : Heap) (locs1 : List Loc), va_P D vwCl (w st) H1 → va_S A s.heap H1 locs1 → W p l e R s m args below meth c H1 locs1 0 0 Q (F0 m (pc + 3) ls (.int r :: rest))) : W p l e R s m args below meth c H locs 0 0 Q (F0 m pc ls stk) := by
  obtain ⟨⟨k1, k2, k3, k4, k5⟩, k6, k7⟩ := hq
  have hts := hC.1.2.2.2.2
  refine va_calli (va_runVN (As := As) (rest := rest) hC.1 (hM H.size) ⟨va_cnB n hts (q_goodc k1) rfl hR.1 hR.2.1 (hC.2.2 _ hl) (hts _ k2) ⟨k3, k4, k5⟩ hR.2.2, hts _ k6, hts _ k7⟩ ⟨q_blind, va_recv hC.2.1 hP hcl he, fun U hU hW => ⟨rfl, by rw [hU], by rw [hU]; exact hP, va_K.moved hW.alike hC.2.1, hT st, hC.2.2.warm hW⟩⟩ rfl hn hsz hstk (lv_room hW) hdg ⟨Nat.zero_le _, Nat.zero_le _⟩) hS (fun q _ h => h.elim) (fun q h => h.elim) (fun r_2 u t H1 locs ht hvm hw hB hz1 hk1 hS => ?_)
  subst hw
  exact kk H1 locs (hP.kept (fun k q hk => hk1 q.1 (hP k q hk).lt (fun h => h))) hS
theorem q_callSi (hC : q_Cx p s m args c cc nL own D tys) (hM : q_Mi l y bytes maxL ty rm D tys w As st r st') (hq : q_calS y bytes maxL (some ty) n) (hl : Cond.methodLink own idx y ∈ q_tbl) (hR : q_rm rm R maxL)
    (hP : va_P D vwCl (w st) H) (hD : ∀ z, va_D A (w z)) (hA : ∀ q : Nat, s.heap.size ≤ q → A q) (hS : va_S A s.heap H locs) (hn : As.length = n) (hsz : ls.size = nL) (hstk : stk = As.reverse ++ rest) (hW : (rest.map fun v => v.category).sum ≤ 8)
    (hdg : decode cc pc = .ok (.invokestatic idx, 3)) (kk : ∀ (H1 : Heap) (locs1 : List Loc), va_P D vwCl (w st') H1 → va_S A s.heap H1 locs1 → W p l e R s m args below meth c H1 locs1 0 0 Q (F0 m (pc + 3) ls (.int r :: rest))) : W p l e R s m args below meth c H locs 0 0 Q (F0 m pc ls stk) := by
  obtain ⟨⟨k1, k2, k3, k4, k5⟩, k6⟩ := hq
  have hts := hC.1.2.2.2.2
  have hF := q_freeA hD hA hS st
  refine va_calli (va_runS (As := As) (rest := rest) hC.1 (hM H.size) ⟨callB_of n hts (q_goodc k1) rfl hR.1 hR.2.1 (hts _ k2) (hts _ hl) ⟨k3, k4, k5⟩ hR.2.2, hts _ k6⟩ ⟨q_blind, fun U hU hW => ⟨rfl, by rw [hU], by rw [hU]; exact hP, va_K.moved hW.alike hC.2.1, (hD st).weaken (fun _ _ _ _ => trivial), hC.2.2.warm hW⟩⟩ rfl hn hsz hstk (lv_room hW) hdg ⟨Nat.zero_le _, Nat.zero_le _⟩) hS (fun q _ h => hF q h) hF (fun r_2 u t H1 locs ht hvm hw hB hz1 hk1 hS => ?_)
  subst hw
  exact kk H1 locs (by rw [← ht]; exact hB) hS
theorem q_callSp (hC : q_Cx p s m args c cc nL own D tys) (hM : q_Mp l y bytes maxL ty rm D tys w As st r) (hq : q_calS y bytes maxL (some ty) n) (hl : Cond.methodLink own idx y ∈ q_tbl) (hR : q_rm rm R maxL)
    (hP : va_P D vwCl (w st) H) (hT : ∀ z, va_D (fun _ => True) (w z)) (hS : va_S A s.heap H locs) (hn : As.length = n) (hsz : ls.size = nL) (hstk : stk = As.reverse ++ rest) (hW : (rest.map fun v => v.category).sum ≤ 8)
    (hdg : decode cc pc = .ok (.invokestatic idx, 3)) (kk : ∀ (H1 : Heap) (locs1 : List Loc), va_P D vwCl (w st) H1 → va_S A s.heap H1 locs1 → W p l e R s m args below meth c H1 locs1 0 0 Q (F0 m (pc + 3) ls (.int r :: rest))) : W p l e R s m args below meth c H locs 0 0 Q (F0 m pc ls stk) := by
  obtain ⟨⟨k1, k2, k3, k4, k5⟩, k6⟩ := hq
  have hts := hC.1.2.2.2.2
  refine va_calli (va_runS (As := As) (rest := rest) hC.1 (hM H.size) ⟨callB_of n hts (q_goodc k1) rfl hR.1 hR.2.1 (hts _ k2) (hts _ hl) ⟨k3, k4, k5⟩ hR.2.2, hts _ k6⟩ ⟨q_blind, fun U hU hW => ⟨rfl, by rw [hU], by rw [hU]; exact hP, va_K.moved hW.alike hC.2.1, hT st, hC.2.2.warm hW⟩⟩ rfl hn hsz hstk (lv_room hW) hdg ⟨Nat.zero_le _, Nat.zero_le _⟩) hS (fun q _ h => h.elim) (fun q h => h.elim) (fun r_2 u t H1 locs ht hvm hw hB hz1 hk1 hS => ?_)
  subst hw
  exact kk H1 locs (hP.kept (fun k q hk => hk1 q.1 (hP k q hk).lt (fun h => h))) hS
theorem q_callSNi (hC : q_Cx p s m args c cc nL own D tys) (hM : q_Mi l y bytes maxL ty rm D tys w As st r st') (hq : q_calS y bytes maxL (some ty) n) (hl : Cond.methodLinkNest own idx y host ∈ q_ntbl) (hR : q_rm rm R maxL)
    (hP : va_P D vwCl (w st) H) (hD : ∀ z, va_D A (w z)) (hA : ∀ q : Nat, s.heap.size ≤ q → A q) (hS : va_S A s.heap H locs) (hn : As.length = n) (hsz : ls.size = nL) (hstk : stk = As.reverse ++ rest) (hW : (rest.map fun v => v.category).sum ≤ 8)
    (hdg : decode cc pc = .ok (.invokestatic idx, 3)) (kk : ∀ (H1 : Heap) (locs1 : List Loc), va_P D vwCl (w st') H1 → va_S A s.heap H1 locs1 → W p l e R s m args below meth c H1 locs1 0 0 Q (F0 m (pc + 3) ls (.int r :: rest))) : W p l e R s m args below meth c H locs 0 0 Q (F0 m pc ls stk) := by
  obtain ⟨⟨k1, k2, k3, k4, k5⟩, k6⟩ := hq
  have hts := hC.1.2.2.2.2
  have hF := q_freeA hD hA hS st
  refine va_calli (va_runSN (As := As) (rest := rest) hC.1 (hM H.size) ⟨va_cnB n hts (q_goodc k1) rfl hR.1 hR.2.1 (hC.2.2 _ hl) (hts _ k2) ⟨k3, k4, k5⟩ hR.2.2, hts _ k6, trivial⟩ ⟨q_blind, fun U hU hW => ⟨rfl, by rw [hU], by rw [hU]; exact hP, va_K.moved hW.alike hC.2.1, (hD st).weaken (fun _ _ _ _ => trivial), hC.2.2.warm hW⟩⟩ rfl hn hsz hstk (lv_room hW) hdg ⟨Nat.zero_le _, Nat.zero_le _⟩) hS (fun q _ h => hF q h) hF (fun r_2 u t H1 locs ht hvm hw hB hz1 hk1 hS => ?_)
  subst hw
  exact kk H1 locs (by rw [← ht]; exact hB) hS
theorem q_callSNp (hC : q_Cx p s m args c cc nL own D tys) (hM : q_Mp l y bytes maxL ty rm D tys w As st r) (hq : q_calS y bytes maxL (some ty) n) (hl : Cond.methodLinkNest own idx y host ∈ q_ntbl) (hR : q_rm rm R maxL)
    (hP : va_P D vwCl (w st) H) (hT : ∀ z, va_D (fun _ => True) (w z)) (hS : va_S A s.heap H locs) (hn : As.length = n) (hsz : ls.size = nL) (hstk : stk = As.reverse ++ rest) (hW : (rest.map fun v => v.category).sum ≤ 8)
    (hdg : decode cc pc = .ok (.invokestatic idx, 3)) (kk : ∀ (H1 : Heap) (locs1 : List Loc), va_P D vwCl (w st) H1 → va_S A s.heap H1 locs1 → W p l e R s m args below meth c H1 locs1 0 0 Q (F0 m (pc + 3) ls (.int r :: rest))) : W p l e R s m args below meth c H locs 0 0 Q (F0 m pc ls stk) := by
  obtain ⟨⟨k1, k2, k3, k4, k5⟩, k6⟩ := hq
  have hts := hC.1.2.2.2.2
  refine va_calli (va_runSN (As := As) (rest := rest) hC.1 (hM H.size) ⟨va_cnB n hts (q_goodc k1) rfl hR.1 hR.2.1 (hC.2.2 _ hl) (hts _ k2) ⟨k3, k4, k5⟩ hR.2.2, hts _ k6, trivial⟩ ⟨q_blind, fun U hU hW => ⟨rfl, by rw [hU], by rw [hU]; exact hP, va_K.moved hW.alike hC.2.1, hT st, hC.2.2.warm hW⟩⟩ rfl hn hsz hstk (lv_room hW) hdg ⟨Nat.zero_le _, Nat.zero_le _⟩) hS (fun q _ h => h.elim) (fun q h => h.elim) (fun r_2 u t H1 locs ht hvm hw hB hz1 hk1 hS => ?_)
  subst hw
  exact kk H1 locs (hP.kept (fun k q hk => hk1 q.1 (hP k q hk).lt (fun h => h))) hS
end QC
end QW
