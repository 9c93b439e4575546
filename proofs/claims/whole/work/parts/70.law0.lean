section QLaw
variable {p : Program} {l : Launch} {e : Env} {R : Room} {s : State} {m : MethodId} {args : Array Value} {below : List Frame} {meth : Method} {c : Code} {H : Heap} {locs : List Loc} {cells slots : Nat} {Q : State → Prop} {cc : ByteArray} {pc : Nat} {ls : Array Slot} {rest : List Value} {nL : Nat} {own : String} {D : va_G} {tys : List (ClassId × FieldType)} {w : QSt → va_W} {st st' : QSt} {A : Nat → Prop}
  {y : MethodName} {bytes : ByteArray} {maxL n idx ci q0 b k : Nat} {ty : FieldType} {rm : Room} {As stk fs : List Value} {r : Int32} {q : u_T × Nat} {hh : List (Nat × Nat × Nat × Nat)}
def q_cs (cells slots n : Nat) : Prop := (cells ≤ 1096 ∧ slots ≤ 67376) ∧ cells + n ≤ 1096 ∧ slots + 6 * n ≤ 67376
theorem q_cs_next {cells slots n : Nat} (h : q_cs cells slots (n + 1)) : q_cs (cells + 1) (slots + 6) n := by
  obtain ⟨⟨h1, h2⟩, h3, h4⟩ := h
  exact ⟨⟨by omega, by omega⟩, by omega, by omega⟩
theorem q_cs_fall {cells slots n : Nat} (h : q_cs cells slots (n + 1)) : q_cs cells slots n := by
  obtain ⟨⟨h1, h2⟩, h3, h4⟩ := h
  exact ⟨⟨by omega, by omega⟩, by omega, by omega⟩
theorem q_callViC (hC : q_Cx p s m args c cc nL own D tys) (hM : q_Mi l y bytes maxL ty rm D tys w (.ref b :: As) st r st') (hq : q_calV y bytes maxL (some ty) n) (hl : Cond.methodLink own idx y ∈ q_tbl) (hR : q_rm rm R maxL) (hcs : cells ≤ R.cells ∧ slots ≤ R.slots)
    (hcl : vwCl[ci]? = some (y.cls, q)) (he : (w st)[q0]? = some (b, .inr (ci, fs))) (hP : va_P D vwCl (w st) H) (hD : ∀ z, va_D A (w z)) (hA : ∀ q : Nat, s.heap.size ≤ q → A q) (hS : va_S A s.heap H locs) (hn : As.length = n) (hsz : ls.size = nL) (hstk : stk = As.reverse ++ .ref b :: rest) (hW : (rest.map fun v => v.category).sum ≤ 8)
    (hdg : decode cc pc = .ok (.invokevirtual idx, 3)) (kk : ∀ (H1 : Heap) (locs1 : List Loc), va_P D vwCl (w st') H1 → va_S A s.heap H1 locs1 → W p l e R s m args below meth c H1 locs1 cells slots Q (F0 m (pc + 3) ls (.int r :: rest))) : W p l e R s m args below meth c H locs cells slots Q (F0 m pc ls stk) := by
  obtain ⟨⟨k1, k2, k3, k4, k5⟩, k6, k7⟩ := hq
  have hts := hC.1.2.2.2.2
  have hF := q_freeA hD hA hS st
  refine va_calli (va_runV (As := As) (rest := rest) hC.1 (hM H.size) ⟨callB_of n hts (q_goodc k1) rfl hR.1 hR.2.1 (hts _ k2) (hts _ hl) ⟨k3, k4, k5⟩ hR.2.2, hts _ k6, hts _ k7⟩ ⟨q_blind, va_recv hC.2.1 hP hcl he, fun U hU hW => ⟨rfl, by rw [hU], by rw [hU]; exact hP, va_K.moved hW.alike hC.2.1, (hD st).weaken (fun _ _ _ _ => trivial), hC.2.2.warm hW⟩⟩ rfl hn hsz hstk (lv_room hW) hdg hcs) hS (fun q _ h => hF q h) hF (fun r_2 u t H1 locs ht hvm hw hB hz1 hk1 hS => ?_)
  subst hw
  exact kk H1 locs (by rw [← ht]; exact hB) hS
theorem q_callVvC (hC : q_Cx p s m args c cc nL own D tys) (hM : q_Mv l y bytes maxL rm D tys w (.ref b :: As) st st') (hq : q_calV y bytes maxL none n) (hl : Cond.methodLink own idx y ∈ q_tbl) (hR : q_rm rm R maxL) (hcs : cells ≤ R.cells ∧ slots ≤ R.slots)
    (hcl : vwCl[ci]? = some (y.cls, q)) (he : (w st)[q0]? = some (b, .inr (ci, fs))) (hP : va_P D vwCl (w st) H) (hD : ∀ z, va_D A (w z)) (hA : ∀ q : Nat, s.heap.size ≤ q → A q) (hS : va_S A s.heap H locs) (hn : As.length = n) (hsz : ls.size = nL) (hstk : stk = As.reverse ++ .ref b :: rest) (hW : (rest.map fun v => v.category).sum ≤ 8)
    (hdg : decode cc pc = .ok (.invokevirtual idx, 3)) (kk : ∀ (H1 : Heap) (locs1 : List Loc), va_P D vwCl (w st') H1 → va_S A s.heap H1 locs1 → W p l e R s m args below meth c H1 locs1 cells slots Q (F0 m (pc + 3) ls rest)) : W p l e R s m args below meth c H locs cells slots Q (F0 m pc ls stk) := by
  obtain ⟨⟨k1, k2, k3, k4, k5⟩, k6, k7⟩ := hq
  have hts := hC.1.2.2.2.2
  have hF := q_freeA hD hA hS st
  refine va_callv (va_runV (As := As) (rest := rest) hC.1 (hM H.size) ⟨callB_of n hts (q_goodc k1) rfl hR.1 hR.2.1 (hts _ k2) (hts _ hl) ⟨k3, k4, k5⟩ hR.2.2, hts _ k6, hts _ k7⟩ ⟨q_blind, va_recv hC.2.1 hP hcl he, fun U hU hW => ⟨rfl, by rw [hU], by rw [hU]; exact hP, va_K.moved hW.alike hC.2.1, (hD st).weaken (fun _ _ _ _ => trivial), hC.2.2.warm hW⟩⟩ rfl hn hsz hstk (lv_room hW) hdg hcs) hS (fun q _ h => hF q h) hF (fun u t H1 locs ht hvm hw hB hz1 hk1 hS => ?_)
  exact kk H1 locs (by rw [← ht]; exact hB) hS
theorem q_callVpC (hC : q_Cx p s m args c cc nL own D tys) (hM : q_Mp l y bytes maxL ty rm D tys w (.ref b :: As) st r) (hq : q_calV y bytes maxL (some ty) n) (hl : Cond.methodLink own idx y ∈ q_tbl) (hR : q_rm rm R maxL) (hcs : cells ≤ R.cells ∧ slots ≤ R.slots)
    (hcl : vwCl[ci]? = some (y.cls, q)) (he : (w st)[q0]? = some (b, .inr (ci, fs))) (hP : va_P D vwCl (w st) H) (hT : ∀ z, va_D (fun _ => True) (w z)) (hS : va_S A s.heap H locs) (hn : As.length = n) (hsz : ls.size = nL) (hstk : stk = As.reverse ++ .ref b :: rest) (hW : (rest.map fun v => v.category).sum ≤ 8)
    (hdg : decode cc pc = .ok (.invokevirtual idx, 3)) (kk : ∀ (H1 : Heap) (locs1 : List Loc), va_P D vwCl (w st) H1 → va_S A s.heap H1 locs1 → W p l e R s m args below meth c H1 locs1 cells slots Q (F0 m (pc + 3) ls (.int r :: rest))) : W p l e R s m args below meth c H locs cells slots Q (F0 m pc ls stk) := by
  obtain ⟨⟨k1, k2, k3, k4, k5⟩, k6, k7⟩ := hq
  have hts := hC.1.2.2.2.2
  refine va_calli (va_runV (As := As) (rest := rest) hC.1 (hM H.size) ⟨callB_of n hts (q_goodc k1) rfl hR.1 hR.2.1 (hts _ k2) (hts _ hl) ⟨k3, k4, k5⟩ hR.2.2, hts _ k6, hts _ k7⟩ ⟨q_blind, va_recv hC.2.1 hP hcl he, fun U hU hW => ⟨rfl, by rw [hU], by rw [hU]; exact hP, va_K.moved hW.alike hC.2.1, hT st, hC.2.2.warm hW⟩⟩ rfl hn hsz hstk (lv_room hW) hdg hcs) hS (fun q _ h => h.elim) (fun q h => h.elim) (fun r_2 u t H1 locs ht hvm hw hB hz1 hk1 hS => ?_)
  subst hw
  exact kk H1 locs (hP.kept (fun k q hk => hk1 q.1 (hP k q hk).lt (fun h => h))) hS
def q_calW (y : MethodName) (bytes : ByteArray) (maxL : Nat) (hh : List (Nat × Nat × Nat × Nat)) (n : Nat) : Prop :=
  Cond.codeWith y bytes maxL (some .int) hh ∈ q_tbl ∧ Cond.initialized y.cls ∈ q_tbl ∧ y.cls ≠ "java/lang/invoke/MethodHandle" ∧ y.cls ≠ "java/lang/invoke/VarHandle" ∧ (parseMethodDescriptor y.desc).map (fun d => d.parameters.length) = some n ∧ Cond.static y ∈ q_tbl
theorem q_blindT {As : List Value} {sz : Nat} : FrameBlind (va_Pc As (q_PreT D tys w st sz)) := fun a U g mk q => by
  obtain ⟨q0, q1, q2⟩ := q
  obtain ⟨r0, r1⟩ := q_blind (D := D) (tys := tys) (w := w) (st := st) (As := As) (sz := sz) a U g mk ⟨q0, q1⟩
  exact ⟨r0, r1, q2.move (U := U) (V := U.calling g mk a) (State.WarmedH.refl _) (fun _ _ h _ => h)⟩
theorem q_callW (hC : q_Cx p s m args c cc nL own D tys) (hM : q_Mw l y bytes maxL hh rm D tys w As st r st') (hq : q_calW y bytes maxL hh n) (hl : Cond.methodLink own idx y ∈ q_tbl) (hR : rm.cells = 1 ∧ rm.slots = 6 ∧ rm.frames + 1 ≤ room_1.frames ∧ 8 + (maxL + 11) + rm.locals ≤ room_1.locals) (hcs : q_cs cells slots (k + 1))
    (hP : va_P D vwCl (w st) H) (hT : ∀ z, va_D (fun _ => True) (w z)) (hD : ∀ z, va_D (fun q : Nat => s.heap.size ≤ q) (w z)) (hA : ∀ q : Nat, s.heap.size ≤ q → (fun q : Nat => s.heap.size ≤ q) q) (hZ : q_Zt s) (hS : va_S (fun q : Nat => s.heap.size ≤ q) s.heap H locs) (hn : As.length = n) (hsz : ls.size = nL) (hstk : stk = As.reverse ++ rest) (hW : (rest.map fun v => v.category).sum ≤ 8)
    (hdg : decode cc pc = .ok (.invokestatic idx, 3)) (kk : ∀ (H1 : Heap) (locs1 : List Loc), va_P D vwCl (w st') H1 → va_S (fun q : Nat => s.heap.size ≤ q) s.heap H1 locs1 → W p l e room_1 s m args below meth c H1 locs1 (cells + 1) (slots + 6) Q (F0 m (pc + 3) ls (.int r :: rest))) : W p l e room_1 s m args below meth c H locs cells slots Q (F0 m pc ls stk) := by
  obtain ⟨k1, k2, k3, k4, k5, k6⟩ := hq
  obtain ⟨hexec, hb, hml, hown, hts⟩ := hC.1
  have hF := q_freeA hD hA hS st
  have hws : ∀ w ∈ (Cond.codeWith y bytes maxL (some .int) hh :: q_tbl), ∀ (a' : Array Value) (U : State), s.WarmedH U.vm → w.before a' U = true := fun w hw a' U hW => by
    rcases List.mem_cons.mp hw with rfl | hw
    · exact word_at hW (q_good _ k1).2 (hts _ k1)
    · exact word_at hW (q_good _ hw).2 (hts _ hw)
  have hK : Back l room_1 p e below s args y 3 8 (PreOf room_1 1 6 (va_Pc As (q_PreT D tys w st H.size))) (PostOf (va_Qi (fun r' (_ : Unit) => r' = r) (fun _ t => va_P D vwCl (w st') t.heap) (va_A (w st) H.size)) 1 6 (va_A (w st) H.size)) :=
    va_backW (bytes := bytes) (maxL := maxL) (ret := some .int) (hh := hh) (hM H.size) q_blindT hR.1 hR.2.1 hR.2.2.1 hR.2.2.2 hws List.mem_cons_self (fun a' U hW => word_at hW (q_good _ k2).2 (hts _ k2))
  have run : va_Run p l e room_1 s m args below meth c H locs cells slots 1 6 (F0 m pc ls stk) rest (va_Qi (fun r' (_ : Unit) => r' = r) (fun _ t => va_P D vwCl (w st') t.heap) (va_A (w st) H.size) As.toArray) (va_A (w st) H.size) := by
    intro T hTh X
    obtain ⟨mk, methM, cM, hnamed, hmethM, hcM, -, hlM, -, -, -, hsigM⟩ := Cond.codeWith_spec (hts _ k1)
    have hstatic : methM.isStatic = true := Cond.static_spec hnamed hmethM (hts _ k6)
    obtain ⟨kP, hkP, -⟩ := className_of_methodNamed hnamed
    have hinitP : kP.init = .initialized := Cond.initialized_spec (findClass_of_methodNamed hnamed) hkP (hts _ k2)
    have hdc : decode c.code (F0 m pc ls stk).pc = .ok (.invokestatic idx, 3) := by rw [hb]; exact hdg
    have hlen : As.length = methM.sig.parameters.length := by
      rw [hsigM] at k5
      rw [hn]; exact (Option.some.inj k5).symm
    obtain ⟨vm₁, X₁, hstep₁⟩ := X.invokestatic hexec hown (hts _ hl) hnamed hmethM hstatic hkP hinitP ⟨k3, k4⟩ (g := F0 m pc ls stk) rfl (argsL := As) (rest := rest) hlen hstk hdc
    have hc1 : cells + 1 ≤ room_1.cells := by show cells + 1 ≤ 1096; have := hcs.2.1; omega
    have hs1 : slots + 6 ≤ room_1.slots := by show slots + 6 ≤ 67376; have := hcs.2.2; omega
    have hPc : va_Pc As (q_PreT D tys w st H.size) As.toArray (T.setVm vm₁) :=
      ⟨rfl, ⟨by show T.heap.size = H.size; rw [hTh], by show va_P D vwCl (w st) T.heap; rw [hTh]; exact hP, va_K.moved X₁.warmed.alike hC.2.1, hT st, hC.2.2.warm X₁.warmed⟩,
        hZ.move X₁.warmed (fun q cell h1 h2 => by
          show T.heap[q]? = some cell
          rw [hTh, hS.2.1 q (Array.getElem?_eq_some_iff.mp h1).1 (Nat.not_le.mpr (Array.getElem?_eq_some_iff.mp h1).1)]
          exact h1)⟩
    obtain ⟨v, ⟨U', l2, c2, s2⟩, X', ⟨g', mk', t, L, e1, e2, hq, h1, hL, h2, h3⟩, hsteps⟩ := hK m meth c ⟨T.setVm vm₁, locs, cells, slots⟩ (F0 m pc ls rest) (.invokestatic idx) mk As.toArray X₁ rfl (hsz.trans hml.symm) hdc (lv_room hW) (X₁.named hnamed) ⟨hc1, hs1, hPc⟩
    dsimp only [Pt.U, Pt.locs, Pt.cells, Pt.slots] at X' e1 e2 h1 h2 h3 hsteps
    subst h1; subst h2; subst h3
    exact ⟨v, (T.setVm vm₁).calling g' mk' As.toArray, t, U', L, hTh, X', hL, e1, e2, hq, fun target ht => hstep₁ _ fun acts => by rw [doInvoke_state]; exact hsteps.trans ht⟩
  refine va_calli run hS (fun q _ h => hF q h) hF (fun r_2 u t H1 locs ht hvm hw hB hz1 hk1 hS => ?_)
  subst hw
  exact kk H1 locs (by rw [← ht]; exact hB) hS
end QLaw
