section PCl4
variable {n N : Nat} {u : Nat → Fin 65536} {st : QSt}
theorem s_pop_le (b : Nat) : s_pop b ≤ 16 := by
  unfold s_pop
  simp only [s_sum]
  omega
theorem c_size : ∀ b, b < 256 → xGlyphPositions_sizeOfValue (nI b) = some (nI (s_pop b)) := by decide +kernel
theorem c_marks (h : cH n u st) {a m c L : Nat} (hL : L ≤ 20000) (ha : a < 2 ^ 24) (hm : m < 2 ^ 31) (hc : c < 65536) (hN : 70000 < N) : cT 0 st L (s_marks n u a m c) (u a).val (xLoader_marksAsSaid N (nI a) (nI m) (nI c) (q_ps st 5 (nI L))) (some (1, q_ps st 5 (nI (L + (u a).val)))) := by
  unfold xLoader_marksAsSaid
  rw [il4, c_idx (h.p5 _) (by omega) hm (by omega), q_bnb]
  refine cT.to (V := s_idx n u a m 4 ∧ ∀ k, k < (u a).val → (u (a + 2 + 4 * k)).val < c ∧ s_anc n u (a + (u (a + 4 + 4 * k)).val)) (K := (u a).val) (cT.iff fun hi => ?_) Iff.rfl (fun _ => rfl) (fun _ => rfl)
  have hm2 : m = (u a).val := hi.2.symm
  subst hm2
  have hs : s_sum (fun _ => 1) (u a).val = (u a).val := by
    generalize (u a).val = m
    induction m with
    | zero => rfl
    | succ m ih => show s_sum (fun _ => 1) m + 1 = m + 1; rw [ih]
  have := c_loopS (st := st) (fun f (_ : Unit) k s => xLoader_marksAsSaid_15 N (nI a) (nI (u a).val) (nI c) f (nI k) s) (fun s => some (1, s)) (fun _ => ()) (u a).val (fun k => (u (a + 2 + 4 * k)).val < c ∧ s_anc n u (a + (u (a + 4 + 4 * k)).val)) (fun k => 1) (fun f _ s => by
      show xLoader_marksAsSaid_15 N _ _ _ (f + 1) _ _ = _
      rw [xLoader_marksAsSaid_15, if_pos (nI_le (by omega) (by omega))]) (fun f k L hk hL => by
      show cT _ _ _ _ _ (xLoader_marksAsSaid_15 N _ _ _ (f + 1) _ _) (xLoader_marksAsSaid_15 N _ _ _ f _ _)
      rw [xLoader_marksAsSaid_15, if_neg (nI_ge (by omega) (by omega)), q_lt, il2, il4, pk_mul, nI_add, nI_add, c_u16 (h.p5 _) (by omega), q_bn_s, nI_add, c_u16 (h.p5 _) (by omega), q_bn_s, nI_1, nI_add]
      simp (disch := omega) only [nI_leI]
      rw [show a + 2 + 4 * k + 2 = a + 4 + 4 * k by omega]
      exact (cT.ifn (fun _ => cT.bm (c_anc h hL (by omega)) (fun _ hL1 => cT.z hL1 _))).to (by simp only [and_true, Nat.not_le]) (fun _ => rfl) (fun _ => rfl)) N L (by omega) hL
  rw [hs] at this
  exact this
theorem c_ligs (h : cH n u st) {a m c L : Nat} (hL : L ≤ 20000) (ha : a < 2 ^ 23) (hm : m < 2 ^ 31) (hc : c ≤ 16) (hN : 70000 < N) : cT 0 st L (s_ligs n u a m c) (s_ligK u a c) (xLoader_ligaturesAsSaid N (nI a) (nI m) (nI c) (q_ps st 5 (nI L))) (some (1, q_ps st 5 (nI (L + s_ligK u a c)))) := by
  unfold xLoader_ligaturesAsSaid
  rw [il2, c_idx (h.p5 _) (by omega) hm (by omega), q_bnb]
  refine cT.to (V := s_idx n u a m 2 ∧ ∀ k, k < (u a).val → s_lig n u (a + (u (a + 2 + 2 * k)).val) c) (K := s_ligK u a c) (cT.iff fun hi => ?_) Iff.rfl (fun _ => rfl) (fun _ => rfl)
  have hm2 : m = (u a).val := hi.2.symm
  subst hm2
  exact c_loopS (st := st) (fun f (_ : Unit) k s => xLoader_ligaturesAsSaid_15 N (nI a) (nI (u a).val) (nI c) f (nI k) s) (fun s => some (1, s)) (fun _ => ()) (u a).val (fun k => s_lig n u (a + (u (a + 2 + 2 * k)).val) c) (fun k => 1 + s_ancK u (a + (u (a + 2 + 2 * k)).val + 2) ((u (a + (u (a + 2 + 2 * k)).val)).val * c)) (fun f _ s => by
      show xLoader_ligaturesAsSaid_15 N _ _ _ (f + 1) _ _ = _
      rw [xLoader_ligaturesAsSaid_15, if_pos (nI_le (by omega) (by omega))]) (fun f k L hk hL => by
      show cT _ _ _ _ _ (xLoader_ligaturesAsSaid_15 N _ _ _ (f + 1) _ _) (xLoader_ligaturesAsSaid_15 N _ _ _ f _ _)
      rw [xLoader_ligaturesAsSaid_15, if_neg (nI_ge (by omega) (by omega)), il2, pk_mul, nI_add, nI_add, c_u16 (h.p5 _) (by omega), q_bn_s, q_lt, nI_add, nI_1]
      generalize hl : a + (u (a + 2 + 2 * k)).val = l
      have hl2 : l < 2 ^ 24 := by omega
      refine cT.to (V := True ∧ (s_list n u l 16 (2 * c) ∧ (¬ (u l).val = 0 ∧ (s_ancs n u l (l + 2) ((u l).val * c) ∧ True)))) (K := 1 + (s_ancK u (l + 2) ((u l).val * c) + 0)) (cT.bm (c_looks st hL) (fun _ hL1 => ?_)) (by unfold s_lig; simp only [true_and, and_true]) (fun _ => rfl) (fun _ => rfl)
      rw [pk_mul, il16, c_list (h.p5 _) (by omega) (by omega) (by omega), q_bnb, c_u16 (h.p5 _) (by omega), q_bn_s, pk_mul, nI_add, il0]
      simp (disch := omega) only [nI_eq]
      rw [← il0]
      refine cT.iff (fun hi2 => cT.ifn (fun h0 => cT.to (cT.bm (c_ancs h hL1 (by omega) (by omega) ?_ hN) (fun _ hL2 => cT.z hL2 _)) Iff.rfl (fun _ => rfl) (fun _ => by rw [Nat.add_assoc])))
      have := hi2.2.1
      exact Nat.lt_of_le_of_lt (Nat.mul_le_mul this hc) (by decide)) N L (by omega) hL
theorem c_cls (h : cH n u st) {a L : Nat} (hL : L ≤ 20000) (ha : a < 2 ^ 24) (hN : 70000 < N) : cT 0 st L (s_cls n u a) 1 (xLoader_classesAsSaid N (nI a) (q_ps st 5 (nI L))) (some (1, q_ps st 5 (nI (L + 1)))) := by
  unfold xLoader_classesAsSaid
  refine cT.to (V := True ∧ s_cls n u a) (K := 1 + 0) (cT.bm (c_looks st hL) (fun _ hL1 => ?_)) (by simp only [true_and]) (fun _ => rfl) (fun _ => rfl)
  have h5 := h.p5 (nI (L + 1))
  rw [il4, il2, il6, il65536, c_lies h5 (by omega) (by omega), q_bnb, c_u16 h5 (by omega), q_bn_s, nI_add, c_u16 h5 (by omega), q_bn_s, c_lies h5 (by omega) (by omega), q_bnb, nI_add, pk_mul, c_lies h5 (by omega) (by omega), q_bnb, nI_add, c_u16 h5 (by omega), q_bn_s, nI_add, q_bn_s, pk_mul]
  refine cT.to (V := a + 4 ≤ n ∧ (((u a).val = 1 ∧ a + 6 + 2 * (u (a + 4)).val ≤ n ∧ (u (a + 2)).val + (u (a + 4)).val ≤ 65536) ∨ ((u a).val = 2 ∧ a + 4 + 6 * (u (a + 2)).val ≤ n ∧ s_rr u (a + 4) (u (a + 2)).val))) (K := 0) (cT.iff fun hi => ?_) Iff.rfl (fun _ => rfl) (fun _ => rfl)
  by_cases f1 : (u a).val = 1
  · rw [if_pos (show nI (u a).val = 1 from congrArg nI f1)]
    simp (disch := omega) only [nI_ltI]
    refine cT.to (cT.iff fun _ => cT.iff fun _ => cT.ifn fun _ => cT.z hL1 _) ?_ (fun _ => rfl) (fun _ => rfl)
    simp only [f1, and_true, true_and]
    omega
  · rw [if_neg (show ¬ nI (u a).val = 1 from fun g => f1 ((nI_eq (b := 1) (by omega) (by omega)).mp g))]
    by_cases f2 : (u a).val = 2
    · rw [if_pos (congrArg nI f2), c_lies h5 (by omega) (by omega), q_bnb, c_rr h5 (by omega) (by omega) hN, q_bnb]
      refine cT.to (cT.iff fun _ => cT.iff fun _ => cT.z hL1 _) ?_ (fun _ => rfl) (fun _ => rfl)
      simp only [f2, and_true, true_and]
      simp
    · rw [if_neg (fun g => f2 ((nI_eq (by omega) (by omega)).mp g))]
      exact ⟨fun g => by omega, fun _ => ⟨_, rfl⟩⟩
theorem c_pc (h : cH n u st) {a sz L : Nat} (hL : L ≤ 20000) (ha : a < 2 ^ 23) (hsz : sz ≤ 32) (hN : 70000 < N) : cT 0 st L (s_pc n u a sz) 2 (xLoader_pairClassesAsSaid N (nI a) (nI sz) (q_ps st 5 (nI L))) (some (1, q_ps st 5 (nI (L + 2)))) := by
  have h5 := h.p5 (nI L)
  unfold xLoader_pairClassesAsSaid
  rw [il16, il12, il14, il256, il8, c_lies h5 (by omega) (by omega), q_bnb, nI_add, c_u16 h5 (by omega), q_bn_s, nI_add, c_u16 h5 (by omega), q_bn_s, nI_add, pk_mul, pk_mul]
  simp (disch := omega) only [nI_ltI]
  refine cT.to (V := a + 16 ≤ n ∧ (¬ 256 < (u (a + 12)).val ∧ (¬ 256 < (u (a + 14)).val ∧ (a + 16 + (u (a + 12)).val * (u (a + 14)).val * sz ≤ n ∧ (s_cls n u (a + (u (a + 8)).val) ∧ s_cls n u (a + (u (a + 10)).val)))))) (K := 1 + 1) (cT.iff fun _ => cT.ifn fun g1 => cT.ifn fun g2 => ?_) (by unfold s_pc; simp only [Nat.not_lt]) (fun _ => rfl) (fun _ => rfl)
  have hb : (u (a + 12)).val * (u (a + 14)).val * sz < 2 ^ 29 := by
    have e1 : (u (a + 12)).val * (u (a + 14)).val ≤ 256 * 256 := Nat.mul_le_mul (by omega) (by omega)
    exact Nat.lt_of_le_of_lt (Nat.mul_le_mul e1 hsz) (by decide)
  rw [c_lies h5 (by omega) hb, q_bnb, nI_add, c_u16 h5 (by omega), q_bn_s, nI_add]
  refine cT.iff fun _ => cT.bm (c_cls h hL (by omega) hN) (fun _ hL1 => ?_)
  rw [il10, nI_add, c_u16 (h.p5 _) (by omega), q_bn_s, nI_add]
  exact cT.last (c_cls h hL1 (by omega) hN)
theorem c_pr (h : cH n u st) {a m step L : Nat} (hL : L ≤ 20000) (ha : a < 2 ^ 23) (hm : m < 2 ^ 31) (hs : step ≤ 64) (hN : 70000 < N) : cT 0 st L (s_idx n u (a + 8) m 2 ∧ ∀ k, k < (u (a + 8)).val → s_row n u (a + (u (a + 10 + 2 * k)).val) step) (u (a + 8)).val (xLoader_pairRowsAsSaid N (nI a) (nI m) (nI step) (q_ps st 5 (nI L))) (some (1, q_ps st 5 (nI (L + (u (a + 8)).val)))) := by
  unfold xLoader_pairRowsAsSaid
  rw [il8, il2, nI_add, c_idx (h.p5 _) (by omega) hm (by omega), q_bnb]
  refine cT.iff fun hi => ?_
  have hm2 : m = (u (a + 8)).val := hi.2.symm
  subst hm2
  have hsum : s_sum (fun _ => 1) (u (a + 8)).val = (u (a + 8)).val := by
    generalize (u (a + 8)).val = m
    induction m with
    | zero => rfl
    | succ m ih => show s_sum (fun _ => 1) m + 1 = m + 1; rw [ih]
  have := c_loopS (st := st) (fun f (_ : Unit) k s => xLoader_pairRowsAsSaid_18 N (nI a) (nI (u (a + 8)).val) (nI step) f (nI k) s) (fun s => some (1, s)) (fun _ => ()) (u (a + 8)).val (fun k => s_row n u (a + (u (a + 10 + 2 * k)).val) step) (fun k => 1) (fun f _ s => by
      show xLoader_pairRowsAsSaid_18 N _ _ _ (f + 1) _ _ = _
      rw [xLoader_pairRowsAsSaid_18, if_pos (nI_le (by omega) (by omega))]) (fun f k L hk hL => by
      show cT _ _ _ _ _ (xLoader_pairRowsAsSaid_18 N _ _ _ (f + 1) _ _) (xLoader_pairRowsAsSaid_18 N _ _ _ f _ _)
      rw [xLoader_pairRowsAsSaid_18, if_neg (nI_ge (by omega) (by omega)), il2, il10, pk_mul, nI_add, nI_add, c_u16 (h.p5 _) (by omega), q_bn_s, q_lt, nI_add, nI_1]
      generalize hl : a + (u (a + 10 + 2 * k)).val = l
      have hl2 : l < 2 ^ 24 := by omega
      refine cT.to (V := True ∧ (s_list n u l 256 step ∧ (s_rise u (l + 2) (u l).val step ∧ True))) (K := 1 + 0) (cT.bm (c_looks st hL) (fun _ hL1 => ?_)) (by unfold s_row; simp only [true_and, and_true]) (fun _ => rfl) (fun _ => rfl)
      rw [il256, c_list (h.p5 _) (by omega) (by omega) (by omega), q_bnb, c_u16 (h.p5 _) (by omega), q_bn_s, nI_add, c_gr (h.p5 _) (by omega) (by omega) hs hN, q_bnb]
      exact cT.iff fun _ => cT.iff fun _ => cT.z hL1 _) N L (by omega) hL
  rw [hsum] at this
  exact this
end PCl4
