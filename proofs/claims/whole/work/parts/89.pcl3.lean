section PCl3
variable {n N : Nat} {u : Nat → Fin 65536} {st : QSt}
theorem c_m1 {x : Nat} (h : x < 2 ^ 31) : ¬ nI x ≤ -1 := by
  rw [Int32.le_iff_toInt_le, nI_toInt h, show (-1 : Int32).toInt = -1 from by decide]
  omega
theorem c_m1l {x : Nat} (h : x < 2 ^ 31) : (-1 : Int32) < nI x := by
  rw [Int32.lt_iff_toInt_lt, nI_toInt h, show (-1 : Int32).toInt = -1 from by decide]
  omega
theorem c_m1e {x : Nat} (h : x < 2 ^ 31) : ¬ nI x = -1 := by
  intro e
  have := congrArg Int32.toInt e
  rw [nI_toInt h, show (-1 : Int32).toInt = -1 from by decide] at this
  omega
theorem c_rr (h : cH n u st) {a m : Nat} (ha : a < 2 ^ 26) (hm : m < 65536) (hN : 70000 < N) : xLoader_rangesRise N (nI a) (nI m) st = some (bI (s_rr u a m)) := by
  unfold xLoader_rangesRise
  have hl := c_loop (fun f (c : Int32) k => xLoader_rangesRise_5 N st (nI a) (nI m) f c (nI k)) (fun k => if k = 0 then -1 else nI (u (a + 6 * (k - 1) + 2)).val) m (fun k => (u (a + 6 * k)).val ≤ (u (a + 6 * k + 2)).val ∧ (0 < k → (u (a + 6 * (k - 1) + 2)).val < (u (a + 6 * k)).val)) (fun f c => by
      show xLoader_rangesRise_5 N st _ _ (f + 1) _ _ = _
      rw [xLoader_rangesRise_5, if_pos (nI_le (by omega) (by omega))]) (fun f k hk => by
      show (_ → xLoader_rangesRise_5 N st _ _ (f + 1) _ _ = xLoader_rangesRise_5 N st _ _ f _ _) ∧ (_ → xLoader_rangesRise_5 N st _ _ (f + 1) _ _ = _)
      rw [xLoader_rangesRise_5, if_neg (nI_ge (by omega) (by omega)), il6, il2, pk_mul, nI_add, c_u16 h (by omega), q_bn_s, nI_add, c_u16 h (by omega), q_bn_s, nI_1, if_neg (show ¬ k + 1 = 0 by omega), show k + 1 - 1 = k by omega]
      by_cases k0 : k = 0
      · subst k0
        rw [if_pos rfl, if_neg (c_m1 (by omega))]
        simp (disch := omega) only [nI_leI]
        exact ⟨fun g => by rw [if_pos g.1], fun g => by rw [if_neg (fun g2 => g ⟨g2, fun g3 => by omega⟩)]⟩
      · rw [if_neg k0]
        simp (disch := omega) only [nI_leI]
        refine ⟨fun g => ?_, fun g => ?_⟩
        · have := g.2 (by omega)
          rw [if_neg (by omega), if_pos g.1]
        · by_cases c1 : (u (a + 6 * k)).val ≤ (u (a + 6 * (k - 1) + 2)).val
          · rw [if_pos c1]
          · rw [if_neg c1, if_neg (fun g2 => g ⟨g2, fun _ => by omega⟩)])
  have hl2 := hl N (by omega)
  rw [if_pos rfl] at hl2
  rw [il0]
  exact hl2
theorem c_gr (h : cH n u st) {a m step : Nat} (ha : a < 2 ^ 26) (hm : m < 65536) (hs : step ≤ 64) (hN : 70000 < N) : xLoader_glyphsRise N (nI a) (nI m) (nI step) st = some (bI (s_rise u a m step)) := by
  unfold xLoader_glyphsRise
  have hl := c_loop (fun f (c : Int32) k => xLoader_glyphsRise_6 N st (nI a) (nI m) (nI step) f c (nI k)) (fun k => if k = 0 then -1 else nI (u (a + step * (k - 1))).val) m (fun k => 0 < k → (u (a + step * (k - 1))).val < (u (a + step * k)).val) (fun f c => by
      show xLoader_glyphsRise_6 N st _ _ _ (f + 1) _ _ = _
      rw [xLoader_glyphsRise_6, if_pos (nI_le (by omega) (by omega))]) (fun f k hk => by
      have hsk : step * k ≤ 64 * 65536 := Nat.mul_le_mul hs (by omega)
      show (_ → xLoader_glyphsRise_6 N st _ _ _ (f + 1) _ _ = xLoader_glyphsRise_6 N st _ _ _ f _ _) ∧ (_ → xLoader_glyphsRise_6 N st _ _ _ (f + 1) _ _ = _)
      rw [xLoader_glyphsRise_6, if_neg (nI_ge (by omega) (by omega)), pk_mul, nI_add, c_u16 h (by omega), q_bn_s, nI_1, if_neg (show ¬ k + 1 = 0 by omega), show k + 1 - 1 = k by omega]
      by_cases k0 : k = 0
      · subst k0
        rw [if_pos rfl, if_pos (c_m1l (by omega))]
        exact ⟨fun g => rfl, fun g => absurd (fun g2 => absurd g2 (by omega)) g⟩
      · rw [if_neg k0]
        simp (disch := omega) only [nI_ltI]
        exact ⟨fun g => by rw [if_pos (g (by omega))], fun g => by rw [if_neg (fun g2 => g (fun _ => g2))]⟩)
  have hl2 := hl N (by omega)
  rw [if_pos rfl] at hl2
  rw [il0]
  refine hl2.trans (congrArg some (bI_c ?_))
  unfold s_rise
  refine ⟨fun g k hk => ?_, fun g k hk h0 => ?_⟩
  · have := g (k + 1) hk (by omega)
    rwa [show k + 1 - 1 = k by omega] at this
  · have := g (k - 1) (by omega)
    rwa [show k - 1 + 1 = k by omega] at this
theorem s_cnt_le (a k : Nat) : s_cnt u a k ≤ 65536 * k := by
  unfold s_cnt
  induction k with
  | zero => exact Nat.le_refl _
  | succ k ih =>
    show s_sum _ k + ((u (a + 6 * k + 2)).val - (u (a + 6 * k)).val + 1) ≤ _
    omega
theorem c_cov123 (h : cH n u st) {a m : Nat} (ha : a < 2 ^ 26) (hm : m < 4096) (hr : s_rr u (a + 4) m) : ∀ d k f, k + d = m → d < f → xLoader_covered_123 N (nI a) (nI m) f (nI (s_cnt u (a + 4) k)) (nI (a + 4 + 6 * k)) st = some (@ite _ (∀ j, k ≤ j → j < m → (u (a + 4 + 6 * j + 4)).val = s_cnt u (a + 4) j) (Classical.propDecidable _) (nI (s_cnt u (a + 4) m)) (-1), st) := by
  intro d
  induction d with
  | zero =>
    intro k f hk hf
    obtain ⟨f, rfl⟩ : ∃ g, f = g + 1 := ⟨f - 1, by omega⟩
    have e : k = m := by omega
    subst e
    rw [xLoader_covered_123, il4, il6, pk_mul, nI_add, nI_add, if_pos (nI_le (by omega) (by omega)), if_pos (fun j h1 h2 => by omega)]
  | succ d ih =>
    intro k f hk hf
    obtain ⟨f, rfl⟩ : ∃ g, f = g + 1 := ⟨f - 1, by omega⟩
    have hc := @s_cnt_le u (a + 4) k
    rw [xLoader_covered_123, il4, il6, il2, pk_mul, nI_add, nI_add, if_neg (nI_ge (by omega) (by omega)), nI_add, c_u16 h (by omega), q_bn_s]
    by_cases c1 : (u (a + 4 + 6 * k + 4)).val = s_cnt u (a + 4) k
    · have h1 := (hr k (by omega)).1
      rw [if_pos ((nI_eq (by omega) (by omega)).mpr c1), nI_add, c_u16 h (by omega), q_bn_s, c_u16 h (by omega), q_bn_s, q_lt, pk_sub h1, nI_1, nI_add, nI_add]
      have := ih (k + 1) f (by omega) (by omega)
      rw [show a + 4 + 6 * (k + 1) = a + 4 + 6 * k + 6 by omega, show s_cnt u (a + 4) (k + 1) = s_cnt u (a + 4) k + ((u (a + 4 + 6 * k + 2)).val - (u (a + 4 + 6 * k)).val + 1) from rfl] at this
      rw [this]
      congr 2
      by_cases c2 : ∀ j, k ≤ j → j < m → (u (a + 4 + 6 * j + 4)).val = s_cnt u (a + 4) j
      · rw [if_pos c2, if_pos (fun j g1 g2 => c2 j (by omega) g2)]
      · rw [if_neg c2, if_neg (fun g => c2 (fun j g1 g2 => by
          by_cases e : j = k
          · subst e; exact c1
          · exact g j (by omega) g2))]
    · rw [if_neg (fun g => c1 ((nI_eq (by omega) (by omega)).mp g)), if_neg (fun g => c1 (g k (by omega) (by omega)))]
noncomputable def cvI (n : Nat) (u : Nat → Fin 65536) (a : Nat) : Int32 := @ite _ (s_cov n u a) (Classical.propDecidable _) (nI (s_cv u a)) (-1)
theorem c_cov (h : cH n u st) {a : Nat} (v : Int32) (ha : a < 2 ^ 25) (hN : 70000 < N) : xLoader_covered N (nI a) (q_ps st 5 v) = some (if 20000 < v + 1 then -1 else cvI n u a, q_ps st 5 (v + 1)) := by
  unfold xLoader_covered xLoader_looksAtOneMore
  simp only [q_lt, c_p55, p_s1, if_true]
  generalize v + 1 = w
  have h5 := h.p5 w
  by_cases c0 : 20000 < w
  · rw [if_pos c0, if_pos c0]; rfl
  rw [if_neg c0, if_neg c0, q_bm_s, if_neg (by decide), il4, il2, c_lies h5 (by omega) (by omega), q_bnb, c_u16 h5 (by omega), q_bn_s, nI_add, nI_add, c_u16 h5 (by omega), q_bn_s]
  unfold cvI
  by_cases c1 : a + 4 ≤ n
  · rw [if_pos c1]
    have hn := h.1
    by_cases f1 : (u a).val = 1
    · rw [if_pos (show nI (u a).val = 1 from congrArg nI f1), pk_mul, c_lies h5 (by omega) (by omega), q_bnb]
      by_cases c2 : a + 4 + 2 * (u (a + 2)).val ≤ n
      · rw [if_pos c2, c_gr h5 (by omega) (by omega) (by omega) hN, q_bnb]
        by_cases c3 : s_rise u (a + 4) (u (a + 2)).val 2
        · rw [if_pos c3, if_pos ⟨c1, Or.inl ⟨f1, c2, c3⟩⟩]
          unfold s_cv
          rw [if_pos f1]
        · rw [if_neg c3, if_neg (by unfold s_cov; rintro ⟨-, ⟨-, -, g⟩ | ⟨g, -⟩⟩ <;> first | exact c3 g | omega)]
      · rw [if_neg c2, if_neg (by unfold s_cov; rintro ⟨-, ⟨-, g, -⟩ | ⟨g, -⟩⟩ <;> omega)]
    · rw [if_neg (show ¬ nI (u a).val = 1 from fun g => f1 ((nI_eq (b := 1) (by omega) (by omega)).mp g))]
      by_cases f2 : (u a).val = 2
      · rw [if_pos ((nI_eq (by omega) (by omega)).mpr f2), il6, pk_mul, c_lies h5 (by omega) (by omega), q_bnb]
        by_cases c2 : a + 4 + 6 * (u (a + 2)).val ≤ n
        · rw [if_pos c2, c_rr h5 (by omega) (by omega) hN, q_bnb]
          by_cases c3 : s_rr u (a + 4) (u (a + 2)).val
          · rw [if_pos c3]
            have := c_cov123 (N := N) h5 (by omega : a < 2 ^ 26) (by omega : (u (a + 2)).val < 4096) c3 (u (a + 2)).val 0 N (by omega) (by omega)
            rw [show s_cnt u (a + 4) 0 = 0 from rfl, show a + 4 + 6 * 0 = a + 4 from rfl] at this
            rw [il0, this]
            congr 2
            by_cases c4 : ∀ k, k < (u (a + 2)).val → (u (a + 4 + 6 * k + 4)).val = s_cnt u (a + 4) k
            · rw [if_pos (fun j _ g => c4 j g), if_pos ⟨c1, Or.inr ⟨f2, c2, c3, c4⟩⟩]
              unfold s_cv
              rw [if_neg f1]
            · rw [if_neg (fun g => c4 (fun j g2 => g j (by omega) g2)), if_neg (by unfold s_cov; rintro ⟨-, ⟨g, -⟩ | ⟨-, -, -, g⟩⟩ <;> first | exact c4 g | omega)]
          · rw [if_neg c3, if_neg (by unfold s_cov; rintro ⟨-, ⟨g, -⟩ | ⟨-, -, g, -⟩⟩ <;> first | exact c3 g | omega)]
        · rw [if_neg c2, if_neg (by unfold s_cov; rintro ⟨-, ⟨g, -⟩ | ⟨-, g, -⟩⟩ <;> omega)]
      · rw [if_neg (fun g => f2 ((nI_eq (by omega) (by omega)).mp g)), if_neg (by unfold s_cov; rintro ⟨-, ⟨g, -⟩ | ⟨g, -⟩⟩ <;> omega)]
  · rw [if_neg c1, if_neg (by unfold s_cov; rintro ⟨g, -⟩; omega)]
theorem s_cv_lt {a : Nat} (hn : n ≤ 2048) (h : s_cov n u a) : s_cv u a < 2 ^ 29 := by
  unfold s_cov at h
  unfold s_cv
  obtain ⟨h1, ⟨h2, h3, -⟩ | ⟨h2, h3, -⟩⟩ := h
  · rw [if_pos h2]; omega
  · rw [if_neg (by omega)]
    have := @s_cnt_le u (a + 4) (u (a + 2)).val
    omega
theorem c_covT (h : cH n u st) {a L : Nat} (hL : L ≤ 20000) (ha : a < 2 ^ 25) (hN : 70000 < N) : cT (-1) st L (s_cov n u a) 1 (xLoader_covered N (nI a) (q_ps st 5 (nI L))) (some (nI (s_cv u a), q_ps st 5 (nI (L + 1)))) := by
  rw [c_cov h _ ha hN, nI_1, il20000]
  unfold cvI
  by_cases c0 : L + 1 ≤ 20000
  · rw [if_neg (nI_nlt c0 (by omega))]
    by_cases c1 : s_cov n u a
    · rw [if_pos c1]
      exact ⟨fun _ => rfl, fun g => absurd ⟨c1, c0⟩ g⟩
    · rw [if_neg c1]
      exact ⟨fun g => absurd g.1 c1, fun _ => ⟨_, rfl⟩⟩
  · rw [if_pos (nI_lt (by omega) (by omega))]
    exact ⟨fun g => absurd g.2 c0, fun _ => ⟨_, rfl⟩⟩
theorem c_anc (h : cH n u st) {a L : Nat} (hL : L ≤ 20000) (ha : a < 2 ^ 25) : cT 0 st L (s_anc n u a) 1 (xLoader_anchorAsSaid (nI a) (q_ps st 5 (nI L))) (some (1, q_ps st 5 (nI (L + 1)))) := by
  unfold xLoader_anchorAsSaid
  refine cT.to (cT.bm (c_looks st hL) (fun _ hL1 => ?_)) ?_ (fun _ => rfl) (fun _ => rfl) (K := 1 + 0) (V := True ∧ (a + 6 ≤ n ∧ (¬ (u a).val < 1 ∧ (¬ 3 < (u a).val ∧ True))))
  · have h5 := h.p5 (nI (L + 1))
    rw [il6, il3, c_lies h5 (by omega) (by omega), q_bnb, c_u16 h5 (by omega), q_bn_s]
    rw [show ((1 : Int32)) = nI 1 from rfl]
    simp (disch := omega) only [nI_ltI]
    exact cT.iff fun _ => cT.ifn fun _ => cT.ifn fun _ => cT.z hL1 _
  · unfold s_anc
    simp only [true_and, and_true]
    omega
theorem c_ancs (h : cH n u st) {p a m L : Nat} (hL : L ≤ 20000) (hp : p < 2 ^ 24) (ha : a < 2 ^ 24) (hm : m < 65536) (hN : 70000 < N) : cT 0 st L (s_ancs n u p a m) (s_ancK u a m) (xLoader_anchorsAsSaid N (nI p) (nI a) (nI m) (q_ps st 5 (nI L))) (some (1, q_ps st 5 (nI (L + s_ancK u a m)))) := by
  unfold xLoader_anchorsAsSaid
  exact c_loopS (st := st) (fun f (_ : Unit) k s => xLoader_anchorsAsSaid_3 N (nI p) (nI a) (nI m) f (nI k) s) (fun s => some (1, s)) (fun _ => ()) m (fun k => (u (a + 2 * k)).val ≠ 0 → s_anc n u (p + (u (a + 2 * k)).val)) (fun k => if (u (a + 2 * k)).val = 0 then 0 else 1) (fun f _ s => by
      show xLoader_anchorsAsSaid_3 N _ _ _ (f + 1) _ _ = _
      rw [xLoader_anchorsAsSaid_3, if_pos (nI_le (by omega) (by omega))]) (fun f k L hk hL => by
      show cT _ _ _ _ _ (xLoader_anchorsAsSaid_3 N _ _ _ (f + 1) _ _) (xLoader_anchorsAsSaid_3 N _ _ _ f _ _)
      rw [xLoader_anchorsAsSaid_3, if_neg (nI_ge (by omega) (by omega)), il2, pk_mul, nI_add, c_u16 (h.p5 _) (by omega), q_bn_s, nI_1]
      by_cases c1 : (u (a + 2 * k)).val = 0
      · rw [if_pos c1, if_pos (show nI (u (a + 2 * k)).val = 0 from congrArg nI c1)]
        exact (cT.z hL _).to (by simp [c1]) (fun _ => rfl) (fun _ => rfl)
      · rw [if_neg c1, if_neg (nI_ne0 (by omega) (by omega)), nI_add]
        exact (cT.bm (c_anc h hL (by omega)) (fun _ hL1 => cT.z hL1 _)).to (by simp [c1]) (fun _ => rfl) (fun _ => rfl)) N L (by omega) hL
end PCl3
