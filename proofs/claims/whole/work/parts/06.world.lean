abbrev XG : Type := va_G × (Nat → ClassId) × (Nat → Nat)
def wX (G : XG) (st : QSt) : va_W :=
  [(G.2.2 0, .inr (0, [.ref (G.2.2 1), .ref (G.2.2 3), .ref (G.2.2 5), .ref (G.2.2 6), .ref (G.2.2 11), .ref (G.2.2 14), .ref (G.2.2 18), .ref (G.2.2 20), .ref (G.2.2 29), .int (st.1 0), .int (st.1 1), .int (st.1 2)])),
   (G.2.2 1, .inr (6, [.ref (G.2.2 2), .int (st.1 3)])),
   (G.2.2 2, .inl (G.2.1 1, 8192, .inl (st.2 0))),
   (G.2.2 3, .inr (6, [.ref (G.2.2 4), .int (st.1 4)])),
   (G.2.2 4, .inl (G.2.1 1, 8192, .inl (st.2 1))),
   (G.2.2 5, .inr (3, [.ref (G.2.2 1), .int (st.1 5)])),
   (G.2.2 6, .inr (2, [.ref (G.2.2 7), .ref (G.2.2 8), .ref (G.2.2 9), .ref (G.2.2 10), .int (st.1 6)])),
   (G.2.2 7, .inl (G.2.1 0, 256, .inl (st.2 2))),
   (G.2.2 8, .inl (G.2.1 0, 256, .inl (st.2 3))),
   (G.2.2 9, .inl (G.2.1 0, 256, .inl (st.2 4))),
   (G.2.2 10, .inl (G.2.1 0, 256, .inl (st.2 5))),
   (G.2.2 11, .inr (7, [.ref (G.2.2 12), .ref (G.2.2 13), .int (st.1 7)])),
   (G.2.2 12, .inl (G.2.1 0, 20, .inl (st.2 6))),
   (G.2.2 13, .inl (G.2.1 2, 20, .inl (st.2 7))),
   (G.2.2 14, .inr (8, [.ref (G.2.2 15), .ref (G.2.2 16), .ref (G.2.2 17), .int (st.1 8)])),
   (G.2.2 15, .inl (G.2.1 0, 800, .inl (st.2 8))),
   (G.2.2 16, .inl (G.2.1 0, 800, .inl (st.2 9))),
   (G.2.2 17, .inl (G.2.1 0, 800, .inl (st.2 10))),
   (G.2.2 18, .inr (1, [.ref (G.2.2 3), .ref (G.2.2 11), .ref (G.2.2 19)])),
   (G.2.2 19, .inl (G.2.1 2, 64, .inl (st.2 11))),
   (G.2.2 20, .inr (4, [.ref (G.2.2 21), .ref (G.2.2 22), .ref (G.2.2 23), .ref (G.2.2 24), .ref (G.2.2 25), .ref (G.2.2 26), .ref (G.2.2 27), .ref (G.2.2 28), .int (st.1 9)])),
   (G.2.2 21, .inl (G.2.1 0, 800, .inl (st.2 12))),
   (G.2.2 22, .inl (G.2.1 0, 800, .inl (st.2 13))),
   (G.2.2 23, .inl (G.2.1 0, 800, .inl (st.2 14))),
   (G.2.2 24, .inl (G.2.1 0, 800, .inl (st.2 15))),
   (G.2.2 25, .inl (G.2.1 0, 800, .inl (st.2 16))),
   (G.2.2 26, .inl (G.2.1 2, 800, .inl (st.2 17))),
   (G.2.2 27, .inl (G.2.1 0, 800, .inl (st.2 18))),
   (G.2.2 28, .inl (G.2.1 0, 800, .inl (st.2 19))),
   (G.2.2 29, .inr (5, [.ref (G.2.2 3), .ref (G.2.2 14), .ref (G.2.2 6), .ref (G.2.2 20), .ref (G.2.2 30), .ref (G.2.2 31), .ref (G.2.2 32), .ref (G.2.2 33), .ref (G.2.2 34), .ref (G.2.2 35), .int (st.1 10)])),
   (G.2.2 30, .inl (G.2.1 0, 800, .inl (st.2 20))),
   (G.2.2 31, .inl (G.2.1 0, 800, .inl (st.2 21))),
   (G.2.2 32, .inl (G.2.1 0, 800, .inl (st.2 22))),
   (G.2.2 33, .inl (G.2.1 2, 800, .inl (st.2 23))),
   (G.2.2 34, .inl (G.2.1 0, 800, .inl (st.2 24))),
   (G.2.2 35, .inl (G.2.1 0, 800, .inl (st.2 25))),
   (G.2.2 36, .inr (9, [.int (st.1 11), .int (st.1 12), .ref (G.2.2 37), .int (st.1 13), .ref (G.2.2 38), .int (st.1 14), .int (st.1 15), .int (st.1 16), .ref (G.2.2 39), .ref (G.2.2 40), .ref (G.2.2 41), .ref (G.2.2 42), .int (st.1 17), .int (st.1 18), .int (st.1 19), .ref (G.2.2 43), .ref (G.2.2 44), .int (st.1 20), .ref (G.2.2 45), .ref (G.2.2 46), .ref (G.2.2 47), .ref (G.2.2 48), .int (st.1 21), .int (st.1 22), .ref (G.2.2 49), .ref (G.2.2 50), .ref (G.2.2 51), .ref (G.2.2 52), .ref (G.2.2 53), .ref (G.2.2 54), .ref (G.2.2 55), .ref (G.2.2 56), .ref (G.2.2 57), .ref (G.2.2 58)])),
   (G.2.2 37, .inl (G.2.1 0, 8192, .inl (st.2 26))),
   (G.2.2 38, .inl (G.2.1 0, 8192, .inl (st.2 27))),
   (G.2.2 39, .inl (G.2.1 0, 256, .inl (st.2 28))),
   (G.2.2 40, .inl (G.2.1 0, 256, .inl (st.2 29))),
   (G.2.2 41, .inl (G.2.1 0, 256, .inl (st.2 30))),
   (G.2.2 42, .inl (G.2.1 0, 256, .inl (st.2 31))),
   (G.2.2 43, .inl (G.2.1 0, 20, .inl (st.2 32))),
   (G.2.2 44, .inl (G.2.1 2, 20, .inl (st.2 33))),
   (G.2.2 45, .inl (G.2.1 0, 800, .inl (st.2 34))),
   (G.2.2 46, .inl (G.2.1 0, 800, .inl (st.2 35))),
   (G.2.2 47, .inl (G.2.1 0, 800, .inl (st.2 36))),
   (G.2.2 48, .inl (G.2.1 2, 64, .inl (st.2 37))),
   (G.2.2 49, .inl (G.2.1 0, 800, .inl (st.2 38))),
   (G.2.2 50, .inl (G.2.1 0, 800, .inl (st.2 39))),
   (G.2.2 51, .inl (G.2.1 0, 800, .inl (st.2 40))),
   (G.2.2 52, .inl (G.2.1 0, 800, .inl (st.2 41))),
   (G.2.2 53, .inl (G.2.1 0, 800, .inl (st.2 42))),
   (G.2.2 54, .inl (G.2.1 0, 800, .inl (st.2 43))),
   (G.2.2 55, .inl (G.2.1 0, 800, .inl (st.2 44))),
   (G.2.2 56, .inl (G.2.1 2, 800, .inl (st.2 45))),
   (G.2.2 57, .inl (G.2.1 0, 800, .inl (st.2 46))),
   (G.2.2 58, .inl (G.2.1 0, 800, .inl (st.2 47))),
   (G.2.2 59, .inl (G.2.1 3, 1, .inr (.inl (fun j => (st.2 48 j).toInt64))))]
def xT (G : XG) : List (ClassId × FieldType) := [(G.2.1 0, .int), (G.2.1 1, .byte), (G.2.1 2, .boolean), (G.2.1 3, .long)]
theorem wX_fst (G : XG) : ∀ a b : QSt, (wX G a).map Prod.fst = (wX G b).map Prod.fst := fun _ _ => rfl
section QX
variable {p : Program} {l : Launch} {e : Env} {R : Room} {s : State} {m : MethodId} {args : Array Value} {below : List Frame} {meth : Method} {c : Code} {H : Heap} {locs : List Loc} {cells slots : Nat} {Q : State → Prop} {cc : ByteArray} {pc : Nat} {ls : Array Slot} {rest : List Value} {nL : Nat} {own host : String} {st st1 : QSt} {A : Nat → Prop} {G : XG} {idx : Nat}
theorem xg_1_size (hC : q_Cx p s m args c cc nL own G.1 (xT G)) (hP : va_P G.1 vwCl (wX G st) H) (hl : Cond.fieldLink own idx R_Table "size" "I" ∈ q_tbl) (hd : decode cc pc = .ok (.getfield idx, 3)) (kk : W p l e R s m args below meth c H locs cells slots Q (F0 m (pc + 3) ls (.int (st.1 3) :: rest))) : W p l e R s m args below meth c H locs cells slots Q (F0 m pc ls (.ref (G.2.2 1) :: rest)) :=
  va_get hC.1.1 hC.1.2.1 hC.1.2.2.2.2 in_Table hC.1.2.2.2.1 hC.2 hP 1 rfl rfl 1 (by decide) (hC.1.2.2.2.2 _ hl) (fun _ h9 => h9) rfl hd kk
theorem xg_1_bytes (hC : q_Cx p s m args c cc nL own G.1 (xT G)) (hP : va_P G.1 vwCl (wX G st) H) (hl : Cond.fieldLink own idx R_Table "bytes" "[B" ∈ q_tbl) (hd : decode cc pc = .ok (.getfield idx, 3)) (kk : W p l e R s m args below meth c H locs cells slots Q (F0 m (pc + 3) ls (.ref (G.2.2 2) :: rest))) : W p l e R s m args below meth c H locs cells slots Q (F0 m pc ls (.ref (G.2.2 1) :: rest)) :=
  va_get hC.1.1 hC.1.2.1 hC.1.2.2.2.2 in_Table hC.1.2.2.2.1 hC.2 hP 1 rfl rfl 0 (by decide) (hC.1.2.2.2.2 _ hl) (fun _ h9 => h9) rfl hd kk
theorem xl_2 {i v : Int32} (hC : q_Cx p s m args c cc nL own G.1 (xT G)) (hP : va_P G.1 vwCl (wX G st) H) (e1 : v = st.2 0 i.toNatClampNeg) (hi : q_vpb i 8192 = true) (hd : decode cc pc = .ok (.baload, 1)) (kk : W p l e R s m args below meth c H locs cells slots Q (F0 m (pc + 1) ls (.int v :: rest))) : W p l e R s m args below meth c H locs cells slots Q (F0 m pc ls (.int i :: .ref (G.2.2 2) :: rest)) := by
  subst e1
  exact va_bald hC.1.1 hC.1.2.1 hC.2 hP 2 1 rfl rfl (q_vpb_in hi) hd kk
theorem xs_2 {i x : Int32} (hC : q_Cx p s m args c cc nL own G.1 (xT G)) (hP : va_P G.1 vwCl (wX G st) H) (hD : ∀ z, va_D A (wX G z)) (hS : va_S A s.heap H locs) (e1 : st1 = q_pa st 0 i.toNatClampNeg (vp_nar .byte x)) (hi : q_vpb i 8192 = true) (hd : decode cc pc = .ok (.bastore, 1)) (kk : ∀ (H1 : Heap) (locs1 : List Loc), va_P G.1 vwCl (wX G st1) H1 → va_S A s.heap H1 locs1 → W p l e R s m args below meth c H1 locs1 cells slots Q (F0 m (pc + 1) ls rest)) : W p l e R s m args below meth c H locs cells slots Q (F0 m pc ls (.int x :: .int i :: .ref (G.2.2 2) :: rest)) :=
  va_bast hC.1.1 hC.1.2.1 hC.2 hP (hD st) hS 2 1 rfl rfl (q_vpb_in hi) hd (fun H1 l1 hP1 _ hS1 => kk H1 l1 (by rw [e1]; exact hP1) hS1)
theorem xp_1_size {v : Int32} (hC : q_Cx p s m args c cc nL own G.1 (xT G)) (hP : va_P G.1 vwCl (wX G st) H) (hD : ∀ z, va_D A (wX G z)) (hS : va_S A s.heap H locs) (e1 : st1 = q_ps st 3 v) (hl : Cond.fieldLink own idx R_Table "size" "I" ∈ q_tbl) (hd : decode cc pc = .ok (.putfield idx, 3)) (kk : ∀ (H1 : Heap) (locs1 : List Loc), va_P G.1 vwCl (wX G st1) H1 → va_S A s.heap H1 locs1 → W p l e R s m args below meth c H1 locs1 cells slots Q (F0 m (pc + 3) ls rest)) : W p l e R s m args below meth c H locs cells slots Q (F0 m pc ls (.int v :: .ref (G.2.2 1) :: rest)) :=
  va_put (ty := .int) hC.1.1 hC.1.2.1 hC.1.2.2.2.2 in_Table ty_Table tyok_Table nm_Table hC.1.2.2.2.1 hC.2 hP (hD st) hS 1 rfl rfl 1 (by decide) (hC.1.2.2.2.2 _ hl) (fun _ h9 => h9) rfl (by decide +kernel) rfl rfl (Nat.le_of_ble_eq_true rfl) hd (fun H1 l1 hP1 _ hS1 => kk H1 l1 (by rw [e1]; exact hP1) hS1)
theorem xg_3_size (hC : q_Cx p s m args c cc nL own G.1 (xT G)) (hP : va_P G.1 vwCl (wX G st) H) (hl : Cond.fieldLink own idx R_Table "size" "I" ∈ q_tbl) (hd : decode cc pc = .ok (.getfield idx, 3)) (kk : W p l e R s m args below meth c H locs cells slots Q (F0 m (pc + 3) ls (.int (st.1 4) :: rest))) : W p l e R s m args below meth c H locs cells slots Q (F0 m pc ls (.ref (G.2.2 3) :: rest)) :=
  va_get hC.1.1 hC.1.2.1 hC.1.2.2.2.2 in_Table hC.1.2.2.2.1 hC.2 hP 3 rfl rfl 1 (by decide) (hC.1.2.2.2.2 _ hl) (fun _ h9 => h9) rfl hd kk
theorem xg_3_bytes (hC : q_Cx p s m args c cc nL own G.1 (xT G)) (hP : va_P G.1 vwCl (wX G st) H) (hl : Cond.fieldLink own idx R_Table "bytes" "[B" ∈ q_tbl) (hd : decode cc pc = .ok (.getfield idx, 3)) (kk : W p l e R s m args below meth c H locs cells slots Q (F0 m (pc + 3) ls (.ref (G.2.2 4) :: rest))) : W p l e R s m args below meth c H locs cells slots Q (F0 m pc ls (.ref (G.2.2 3) :: rest)) :=
  va_get hC.1.1 hC.1.2.1 hC.1.2.2.2.2 in_Table hC.1.2.2.2.1 hC.2 hP 3 rfl rfl 0 (by decide) (hC.1.2.2.2.2 _ hl) (fun _ h9 => h9) rfl hd kk
theorem xl_4 {i v : Int32} (hC : q_Cx p s m args c cc nL own G.1 (xT G)) (hP : va_P G.1 vwCl (wX G st) H) (e1 : v = st.2 1 i.toNatClampNeg) (hi : q_vpb i 8192 = true) (hd : decode cc pc = .ok (.baload, 1)) (kk : W p l e R s m args below meth c H locs cells slots Q (F0 m (pc + 1) ls (.int v :: rest))) : W p l e R s m args below meth c H locs cells slots Q (F0 m pc ls (.int i :: .ref (G.2.2 4) :: rest)) := by
  subst e1
  exact va_bald hC.1.1 hC.1.2.1 hC.2 hP 4 1 rfl rfl (q_vpb_in hi) hd kk
end QX
