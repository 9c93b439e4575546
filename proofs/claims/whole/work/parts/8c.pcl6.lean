section PCl6
variable {n N : Nat} {u : Nat → Fin 65536} {st : QSt}
theorem c_big {x : Nat} (h : x < 2 ^ 32) : (nI x < 0 ↔ 2 ^ 31 ≤ x) ∧ (x < 2 ^ 31 → (nI 8192 < nI x ↔ 8192 < x)) := by
  refine ⟨?_, fun h2 => nI_ltI (by omega) h2⟩
  rw [Int32.lt_iff_toInt_lt]
  have e1 : (nI x).toInt = Int.bmod x (2 ^ 32) := Int32.toInt_ofNat' ..
  have e2 : (0 : Int32).toInt = 0 := by decide
  rw [e1, e2]
  simp only [Int.bmod_def]
  omega
theorem c_ext (h : cH n u st) {e w : Nat} (he : e < 2 ^ 24) (hw : w < 2 ^ 24) : xLoader_extensionAsSaid (nI e) (nI w) st = some (bI (e + 8 ≤ n ∧ (u e).val = 1 ∧ 1 ≤ (u (e + 2)).val ∧ (u (e + 2)).val ≤ 6 ∧ (u (e + 2)).val = (u (w + 2)).val ∧ s_4 u (e + 4) ≤ 8192)) := by
  unfold xLoader_extensionAsSaid
  have h4 := @s_4lt u (e + 4)
  obtain ⟨b1, b2⟩ := c_big h4
  rw [il8192, il8, il6, il4, il2, c_lies h (by omega) (by omega), q_bnb, c_u16 h (by omega), q_bn_s, nI_add, c_u16 h (by omega), q_bn_s, nI_add, c_u32 h (by omega), q_bn_s, nI_add, c_u16 h (by omega), q_bn_s]
  simp only [b1]
  rw [il1]
  simp (disch := omega) only [nI_eq, nI_ltI]
  rw [← il1]
  by_cases g : 2 ^ 31 ≤ s_4 u (e + 4)
  · simp only [if_pos g]
    simp only [bI_F, bI_if]
    congr 1
    apply bI_c
    have g3 : ¬ s_4 u (e + 4) ≤ 8192 := by omega
    simp [g3]
  · simp only [if_neg g, b2 (by omega)]
    simp only [bI_F, bI_T, bI_if]
    congr 1
    apply bI_c
    simp only [and_true, and_false, or_false, false_or, Nat.not_lt]
theorem c_sub (h : cH n u st) {t a L : Nat} (hL : L ≤ 20000) (ht : 1 ≤ t ∧ t ≤ 6) (ha : a < 2 ^ 22) (hN : 70000 < N) : cT 0 st L (s_sub n u t a) (s_subK u t a) (xLoader_subtableAsSaid_86 N (nI t) (nI a) (q_ps st 5 (nI L))) (some (1, q_ps st 5 (nI (L + s_subK u t a)))) := by
  unfold xLoader_subtableAsSaid_86
  rw [show (1 : Int32) = nI 1 from rfl, il2, il3]
  simp (disch := omega) only [nI_eq]
  rw [← il1]
  unfold s_sub s_subK
  by_cases t1 : t = 1
  · simp only [if_pos t1]
    exact cT.to (cT.lastb (c_single h hL (by omega) hN)) (by simp [t1]) (fun _ => rfl) (fun _ => rfl)
  simp only [if_neg t1]
  by_cases t2 : t = 2
  · simp only [if_pos t2]
    exact cT.to (cT.lastb (c_pair h hL (by omega) hN)) (by simp [t2]) (fun _ => rfl) (fun _ => rfl)
  simp only [if_neg t2]
  by_cases t3 : t = 3
  · simp only [if_pos t3]
    exact cT.to (cT.lastb (c_cur h hL (by omega) hN)) (by simp [t3]) (fun _ => rfl) (fun _ => rfl)
  simp only [if_neg t3]
  refine cT.to (cT.lastb (c_mon h hL (by omega) (by omega) hN)) ?_ (fun _ => rfl) (fun _ => rfl)
  have : t = 4 ∨ t = 5 ∨ t = 6 := by omega
  simp [t1, t2, t3, this]
theorem c_st (h : cH n u st) {l k L : Nat} (hL : L ≤ 20000) (hl : l < 2 ^ 20) (hk : k < 65536) (ht : (1 ≤ (u l).val ∧ (u l).val ≤ 6) ∨ (u l).val = 9) (hN : 70000 < N) : cT 0 st L (s_st n u l k) (s_stK u l k) (xLoader_subtableAsSaid N (nI l) (nI k) (q_ps st 5 (nI L))) (some (1, q_ps st 5 (nI (L + s_stK u l k)))) := by
  have h5 := h.p5 (nI L)
  unfold xLoader_subtableAsSaid
  rw [il6, il2, il4, il9, c_u16 h5 (by omega), q_bn_s, nI_add, pk_mul, nI_add, c_u16 h5 (by omega), q_bn_s, q_lt, nI_add, c_u16 h5 (by omega), q_bn_s, nI_add]
  unfold s_st s_stK
  generalize he : l + (u (l + 6 + 2 * k)).val = e
  generalize hw : l + (u (l + 6)).val = w
  by_cases t9 : (u l).val = 9
  · rw [if_pos (congrArg nI t9), if_pos t9, c_ext h5 (by omega) (by omega), q_bnb]
    refine cT.to (V := (e + 8 ≤ n ∧ (u e).val = 1 ∧ 1 ≤ (u (e + 2)).val ∧ (u (e + 2)).val ≤ 6 ∧ (u (e + 2)).val = (u (w + 2)).val ∧ s_4 u (e + 4) ≤ 8192) ∧ s_sub n u (u (w + 2)).val (e + s_4 u (e + 4))) (K := s_subK u (u (w + 2)).val (e + s_4 u (e + 4))) (cT.iff fun hi => ?_) ?_ (fun _ => rfl) (fun _ => rfl)
    · obtain ⟨i1, i2, i3, i4, i5, i6⟩ := hi
      rw [nI_add, c_u16 h5 (by omega), q_bn_s, nI_add, c_u32 h5 (by omega), q_bn_s, q_lt, nI_add, ← i5]
      exact c_sub h hL ⟨i3, i4⟩ (by omega) hN
    · unfold s_ext
      constructor
      · rintro ⟨⟨i1, i2, i3, i4, i5, i6⟩, i7⟩
        exact Or.inr ⟨t9, i1, i2, i5, i6, i7⟩
      · rintro (⟨g, -⟩ | ⟨-, i1, i2, i5, i6, i7⟩)
        · exact absurd t9 g
        · have : 1 ≤ (u (w + 2)).val ∧ (u (w + 2)).val ≤ 6 := by
            unfold s_sub at i7
            omega
          exact ⟨⟨i1, i2, by omega, by omega, i5, i6⟩, i7⟩
  · rw [if_neg (fun g => t9 ((nI_eq (by omega) (by omega)).mp g)), if_neg t9]
    exact cT.to (c_sub h hL (by omega) (by omega) hN) (by simp [t9]) (fun _ => rfl) (fun _ => rfl)
theorem c_and16 : ∀ x, x < 65536 → (nI x &&& 16 = 0 ↔ x / 16 % 2 = 0) := by
  intro x hx
  have e : (nI x &&& 16).toBitVec.toNat = x &&& 16 := by
    rw [Int32.toBitVec_and, BitVec.toNat_and, pk_tn (by omega)]
    rfl
  have e2 : nI x &&& 16 = 0 ↔ x &&& 16 = 0 := by
    constructor
    · intro g
      rw [g] at e
      exact e.symm
    · intro g
      apply Int32.toBitVec_inj.mp
      apply BitVec.eq_of_toNat_eq
      rw [e, g]
      rfl
  rw [e2]
  have e3 : x &&& 16 = 0 ↔ x.testBit 4 = false := by
    constructor
    · intro g
      have := congrArg (fun y => y.testBit 4) g
      have h16 : Nat.testBit 16 4 = true := by decide
      simpa [Nat.testBit_and, h16] using this
    · intro g
      apply Nat.eq_of_testBit_eq
      intro i
      rw [Nat.testBit_and, show (16 : Nat) = 2 ^ 4 from rfl, Nat.testBit_two_pow]
      by_cases h4 : 4 = i
      · subst h4; simp [g]
      · simp [h4]
  rw [e3, Nat.testBit_eq_decide_div_mod_eq]
  simp only [decide_eq_false_iff_not]
  omega
theorem c_lo (h : cH n u st) {l : Nat} (hl : l < 2 ^ 20) : xLoader_lookupHeadAsSaid (nI l) st = some (bI (s_lo n u l)) := by
  unfold xLoader_lookupHeadAsSaid xLoader_lookupHeadAsSaid_45 xLoader_lookupHeadAsSaid_51
  rw [il4, c_lies h (by omega) (by omega), q_bnb, c_u16 h (by omega), q_bn_s, il2, nI_add, c_u16 h (by omega), q_bn_s]
  simp only [c_and16 _ (u (l + 2)).isLt]
  rw [nI_add, il16, c_list h (by omega) (by omega) (by omega), q_bnb, il9, il6, show (1 : Int32) = nI 1 from rfl]
  simp (disch := omega) only [nI_eq, nI_ltI, nI_leI]
  rw [← il1]
  simp only [bI_F, bI_T, bI_if]
  congr 1
  apply bI_c
  unfold s_lo
  simp only [and_true, and_false, or_false, false_or]
  refine and_congr Iff.rfl ?_
  generalize s_list n u (l + 4) 16 2 = P
  generalize (u (l + 2)).val / 16 % 2 = q
  by_cases hP : P
  · simp only [hP, and_true]
    omega
  · simp [hP]
theorem c_lks (h : cH n u st) (hN : 70000 < N) : cT 0 st 0 (s_lks n u) (s_lksK u) (xLoader_lookupsAsSaid N st) (some (1, q_ps st 5 (nI (s_lksK u)))) := by
  have h5 := h.p5 (nI 0)
  unfold xLoader_lookupsAsSaid
  rw [q_lt, show q_ps st 5 0 = q_ps st 5 (nI 0) from rfl, il8, il2, il64, c_u16 h5 (by omega), q_bn_s, c_list h5 (by omega) (by omega) (by omega), q_bnb, c_u16 h5 (by omega), q_bn_s]
  unfold s_lks
  refine cT.iff fun hi => ?_
  generalize hA : (u 8).val = A
  have hA2 : A < 65536 := by omega
  have := c_loopS (st := st) (fun f (_ : Unit) k s => xLoader_lookupsAsSaid_39 N (nI A) (nI (u A).val) f (nI k) s) (fun s => some (1, s)) (fun _ => ()) (u A).val (fun k => s_lk n u (A + (u (A + 2 + 2 * k)).val)) (fun k => s_lkK u (A + (u (A + 2 + 2 * k)).val)) (fun f _ s => by
      show xLoader_lookupsAsSaid_39 N _ _ (f + 1) _ _ = _
      rw [xLoader_lookupsAsSaid_39, if_pos (nI_le (by omega) (by omega))]) (fun f k L hk hL => by
      show cT _ _ _ _ _ (xLoader_lookupsAsSaid_39 N _ _ (f + 1) _ _) (xLoader_lookupsAsSaid_39 N _ _ f _ _)
      have h6 := h.p5 (nI L)
      rw [xLoader_lookupsAsSaid_39, if_neg (nI_ge (by omega) (by omega)), il2, pk_mul, nI_add, nI_add, c_u16 h6 (by omega), q_bn_s, q_lt, nI_add]
      generalize hl : A + (u (A + 2 + 2 * k)).val = l
      have hl2 : l < 2 ^ 18 := by omega
      rw [c_lo h6 (by omega), q_bnb, il4, nI_add, c_u16 h6 (by omega), q_bn_s]
      unfold s_lk
      refine cT.iff fun hlo => ?_
      have := c_loopS (st := st) (fun f2 (_ : Unit) j s => xLoader_lookupsAsSaid_89 N (xLoader_lookupsAsSaid_39 N (nI A) (nI (u A).val) f) (nI A) (nI (u A).val) (nI k) (nI l) (nI (u (l + 4)).val) f2 (nI j) s) (fun s => xLoader_lookupsAsSaid_39 N (nI A) (nI (u A).val) f (nI k + 1) s) (fun _ => ()) (u (l + 4)).val (fun j => s_st n u l j) (fun j => s_stK u l j) (fun f2 _ s => by
          show xLoader_lookupsAsSaid_89 N _ _ _ _ _ _ (f2 + 1) _ _ = _
          rw [xLoader_lookupsAsSaid_89, if_pos (nI_le (by omega) (by omega))]) (fun f2 j L hj hL => by
          show cT _ _ _ _ _ (xLoader_lookupsAsSaid_89 N _ _ _ _ _ _ (f2 + 1) _ _) (xLoader_lookupsAsSaid_89 N _ _ _ _ _ _ f2 _ _)
          rw [xLoader_lookupsAsSaid_89, if_neg (nI_ge (by omega) (by omega)), nI_1]
          exact cT.to (cT.bm (c_st h hL (by omega) (by omega) hlo.2.1 hN) (fun _ hL1 => cT.z hL1 _)) (by simp) (fun _ => rfl) (fun _ => rfl)) N L (by omega) hL
      rw [nI_1] at this
      exact this) N 0 (by omega) (by omega)
  refine cT.to this (by rw [← hA]) (fun _ => by rw [← hA]; rfl) (fun _ => by
    rw [Nat.zero_add, ← hA]; rfl)
end PCl6
