section PS1
variable {n N : Nat} {u : Nat → Fin 65536} {s t : QSt}
/-- the reference's font -/
def gH (n : Nat) (u : Nat → Fin 65536) (t : QSt) : Prop := n ≤ 2048 ∧ ∀ a, a + 2 ≤ n → 256 * t.2 27 a + t.2 27 (a + 1) = nI (u a).val
theorem g_f16 (h : gH n u t) {a : Nat} (ha : a + 2 ≤ n) : xGlyphPositionsModel_f16 (nI a) t = some (nI (u a).val) := by
  obtain ⟨h1, h2⟩ := h
  unfold xGlyphPositionsModel_f16
  rw [nI_1, nI_clamp (by omega), nI_clamp (by omega), show q_vpb (nI a) 8192 = true from decide_eq_true (nI_in (by omega) (by omega)), show q_vpb (nI (a + 1)) 8192 = true from decide_eq_true (nI_in (by omega) (by omega))]
  simp only [q_grd_tt, q_lt]
  rw [h2 a ha]
theorem p_or16 {x y : Nat} (hx : x < 65536) (hy : y < 65536) : (nI x <<< ((16 : Int32) &&& 31)) ||| nI y = nI (65536 * x + y) := by
  apply Int32.toBitVec_inj.mp
  apply BitVec.eq_of_toNat_eq
  rw [Int32.toBitVec_or, BitVec.toNat_or, pk_shl _ _ 16 (by decide), pk_tn (by omega), pk_tn (by omega), pk_tn (by omega)]
  rw [Nat.mod_eq_of_lt (by omega), Nat.mul_comm, ← Nat.two_pow_add_eq_or_of_lt (by omega)]
theorem f_u32 (h : fH n u s) {a : Nat} (ha : a < 2 ^ 28) : xTable_u32_3 (nI a) s = some (nI (s_4 u a)) := by
  unfold xTable_u32_3
  rw [f_u16 h (by omega), q_bn_s, il2, nI_add, f_u16 h (by omega), q_bn_s, p_or16 (by omega) (by omega)]
  rfl
theorem g_f32 (h : gH n u t) {a : Nat} (ha : a + 4 ≤ n) : xGlyphPositionsModel_f32 (nI a) t = some (nI (s_4 u a)) := by
  unfold xGlyphPositionsModel_f32
  rw [g_f16 h (by omega), q_bn_s, il2, nI_add, g_f16 h (by omega), q_bn_s, p_or16 (by omega) (by omega)]
  rfl
def sv (u : Nat → Fin 65536) (a : Nat) : Int32 := (nI (u a).val).toInt16.toInt32
theorem f_s16 (h : fH n u s) {a : Nat} (ha : a < 2 ^ 29) : xTable_s16 (nI a) s = some (sv u a) := by
  unfold xTable_s16
  rw [f_u16 h ha, q_bn_s]
  rfl
theorem g_s16 (h : gH n u t) {a : Nat} (ha : a + 2 ≤ n) : xGlyphPositionsModel_s16 (nI a) t = some (sv u a) := by
  unfold xGlyphPositionsModel_s16
  rw [g_f16 h ha, q_bn_s]
  rfl
theorem l_scan {α : Type} (F : Nat → α → Nat → Option α) (m : Nat) (M : Nat → Prop) (v : Nat → α) (hx : ∀ f x, F (f + 1) x m = some x)
    (h1 : ∀ f x j, j < m → M j → F (f + 1) x j = F f (v j) (j + 1)) (h0 : ∀ f x j, j < m → ¬ M j → F (f + 1) x j = F f x (j + 1)) :
    ∀ d j f x, j + d = m → d < f → ((∀ i, j ≤ i → i < m → ¬ M i) → F f x j = some x) ∧ ∀ q, j ≤ q → q < m → M q → (∀ i, q < i → i < m → ¬ M i) → F f x j = some (v q) := by
  intro d
  induction d with
  | zero =>
    intro j f x hj hf
    obtain ⟨f, rfl⟩ : ∃ g, f = g + 1 := ⟨f - 1, by omega⟩
    have e : j = m := by omega
    subst e
    exact ⟨fun _ => hx f x, fun q h1 h2 => by omega⟩
  | succ d ih =>
    intro j f x hj hf
    obtain ⟨f, rfl⟩ : ∃ g, f = g + 1 := ⟨f - 1, by omega⟩
    constructor
    · intro h
      rw [h0 f x j (by omega) (h j (by omega) (by omega))]
      exact (ih (j + 1) f x (by omega) (by omega)).1 (fun i h1 h2 => h i (by omega) h2)
    · intro q g1 g2 g3 g4
      by_cases e : q = j
      · subst e
        rw [h1 f x q g2 g3]
        exact (ih (q + 1) f (v q) (by omega) (by omega)).1 (fun i h1 h2 => g4 i (by omega) h2)
      · by_cases hM : M j
        · rw [h1 f x j (by omega) hM]
          exact (ih (j + 1) f (v j) (by omega) (by omega)).2 q (by omega) g2 g3 g4
        · rw [h0 f x j (by omega) hM]
          exact (ih (j + 1) f x (by omega) (by omega)).2 q (by omega) g2 g3 g4
theorem s_rise_lt {a m step : Nat} (h : s_rise u a m step) : ∀ d i, i + d + 1 < m → (u (a + step * i)).val < (u (a + step * (i + d + 1))).val := by
  intro d
  induction d with
  | zero => intro i hi; exact h i hi
  | succ d ih =>
    intro i hi
    have h1 := ih i (by omega)
    have h2 := h (i + d + 1) hi
    rw [show i + (d + 1) + 1 = i + d + 1 + 1 by omega]
    omega
theorem s_rr_lt {a m : Nat} (h : s_rr u a m) : ∀ d i, i + d + 1 < m → (u (a + 6 * i + 2)).val < (u (a + 6 * (i + d + 1))).val := by
  intro d
  induction d with
  | zero =>
    intro i hi
    have := (h (i + 1) (by omega)).2 (by omega)
    rw [Nat.add_sub_cancel] at this
    exact this
  | succ d ih =>
    intro i hi
    have h1 := ih i (by omega)
    have h2 := (h (i + d + 1) (by omega)).1
    have h3 := (h (i + (d + 1) + 1) hi).2 (by omega)
    rw [show i + (d + 1) + 1 - 1 = i + d + 1 by omega] at h3
    omega
theorem b_last (h : fH n u s) {b m step g : Nat} (hb : b < 2 ^ 26) (hm : m < 65536) (hs : step ≤ 64) (hg : g < 65536) (hsort : ∀ i j, i < j → j < m → (u (b + step * i)).val ≤ (u (b + step * j)).val) (hN : 70000 < N) :
    ∃ c, c ≤ m ∧ (∀ j, j < c → (u (b + step * j)).val ≤ g) ∧ (∀ j, c ≤ j → j < m → g < (u (b + step * j)).val) ∧ xGlyphSets_lastUpTo N (nI b) (nI m) (nI step) (nI g) s = some (nI c - 1) := by
  have key : ∀ d lo hi f, hi ≤ lo + d → lo ≤ hi → hi ≤ m → d < f → (∀ j, j < lo → (u (b + step * j)).val ≤ g) → (∀ j, hi ≤ j → j < m → g < (u (b + step * j)).val) → ∃ c, c ≤ m ∧ (∀ j, j < c → (u (b + step * j)).val ≤ g) ∧ (∀ j, c ≤ j → j < m → g < (u (b + step * j)).val) ∧ xGlyphSets_lastUpTo_6 N s (nI b) (nI step) (nI g) f (nI lo) (nI hi) = some (nI c - 1) := by
    intro d
    induction d with
    | zero =>
      intro lo hi f h1 h2 h3 h4 h5 h6
      obtain ⟨f, rfl⟩ : ∃ g, f = g + 1 := ⟨f - 1, by omega⟩
      refine ⟨lo, by omega, h5, fun j g1 g2 => h6 j (by omega) g2, ?_⟩
      rw [xGlyphSets_lastUpTo_6, if_pos (nI_le (by omega) (by omega))]
    | succ d ih =>
      intro lo hi f h1 h2 h3 h4 h5 h6
      obtain ⟨f, rfl⟩ : ∃ g, f = g + 1 := ⟨f - 1, by omega⟩
      by_cases e : lo = hi
      · subst e
        refine ⟨lo, by omega, h5, fun j g1 g2 => h6 j (by omega) g2, ?_⟩
        rw [xGlyphSets_lastUpTo_6, if_pos (nI_le (by omega) (by omega))]
      · have hmid : (lo + hi) / 2 < hi := by omega
        have hsm : step * ((lo + hi) / 2) ≤ 64 * 65536 := Nat.mul_le_mul hs (by omega)
        have e1 : q_ush (nI lo + nI hi) 1 = nI ((lo + hi) / 2) := by
          rw [nI_add]
          exact pk_ushrN (by omega) 1 1 (by decide)
        rw [xGlyphSets_lastUpTo_6, if_neg (nI_ge (by omega) (by omega)), q_lt, e1, pk_mul, nI_add, f_u16 h (by omega), q_bn_s]
        simp (disch := omega) only [nI_ltI]
        by_cases c : g < (u (b + step * ((lo + hi) / 2))).val
        · rw [if_pos c]
          refine ih lo _ f (by omega) (by omega) (by omega) (by omega) h5 (fun j g1 g2 => ?_)
          by_cases ej : j = (lo + hi) / 2
          · rw [ej]; exact c
          · have := hsort ((lo + hi) / 2) j (by omega) g2
            omega
        · rw [if_neg c, q_lt, nI_1]
          refine ih _ hi f (by omega) (by omega) (by omega) (by omega) (fun j g1 => ?_) h6
          by_cases ej : j = (lo + hi) / 2
          · rw [ej]; omega
          · have := hsort j ((lo + hi) / 2) (by omega) (by omega)
            omega
  unfold xGlyphSets_lastUpTo
  obtain ⟨c, h1, h2, h3, h4⟩ := key m 0 m N (by omega) (by omega) (by omega) (by omega) (fun j hj => by omega) (fun j g1 g2 => by omega)
  exact ⟨c, h1, h2, h3, h4⟩
theorem nI_m1 : nI 0 - 1 = -1 := by decide
theorem s_sum_mono (f : Nat → Nat) {i j : Nat} (h : i ≤ j) : s_sum f i ≤ s_sum f j := by
  induction j with
  | zero => rw [show i = 0 by omega]; exact Nat.le_refl _
  | succ j ih =>
    by_cases e : i = j + 1
    · rw [e]; exact Nat.le_refl _
    · have := ih (by omega)
      show _ ≤ s_sum f j + f j
      omega
theorem i_cov {a g : Nat} (hf : fH n u s) (hgm : gH n u t) (hc : s_cov n u a) (hg : g < 65536) (hN : 70000 < N) :
    ∃ r, xGlyphSets_indexOf N (nI a) (nI g) s = some r ∧ xGlyphPositionsModel_indexIn N (nI a) (nI g) t = some r ∧ (r = -1 ∨ ∃ k, k < s_cv u a ∧ r = nI k) := by
  have hn := hf.1
  unfold xGlyphSets_indexOf xGlyphPositionsModel_indexIn
  obtain ⟨h0, hc⟩ := hc
  rw [f_u16 hf (by omega), q_bn_s, g_f16 hgm (by omega), q_bn_s]
  simp (disch := omega) only [m_eq2]
  unfold xGlyphSets_indexOf_14 xGlyphSets_indexOf_25 s_cv
  rcases hc with ⟨c1, c2, c3⟩ | ⟨c1, c2, c3, c4⟩
  · rw [if_neg (by omega), if_pos rfl, if_pos c1, c1, il2, il4, nI_add, nI_add, f_u16 hf (by omega), q_bn_s]
    generalize hm : (u (a + 2)).val = m at *
    have hml : m ≤ 2048 := by omega
    obtain ⟨c, k1, k2, k3, k4⟩ := b_last (N := N) hf (b := a + 4) (m := m) (step := 2) (g := g) (by omega) (by omega) (by omega) hg (fun i j h1 h2 => by
      have := s_rise_lt c3 (j - i - 1) i (by omega)
      rw [show i + (j - i - 1) + 1 = j by omega] at this
      omega) hN
    rw [k4, q_bn_s]
    have hsc := l_scan (fun f x j => xGlyphPositionsModel_indexIn_12 N t (nI a) (nI g) (nI 1) f x (nI j)) m (fun j => (u (a + 4 + 2 * j)).val = g) (fun j => nI j) (fun f x => by
        show xGlyphPositionsModel_indexIn_12 N t _ _ _ (f + 1) _ _ = _
        rw [xGlyphPositionsModel_indexIn_12, il2, nI_add, g_f16 hgm (by omega), q_bn_s, hm, if_pos (nI_le (by omega) (by omega))]) (fun f x j hj hM => by
        show xGlyphPositionsModel_indexIn_12 N t _ _ _ (f + 1) _ _ = xGlyphPositionsModel_indexIn_12 N t _ _ _ f _ _
        rw [xGlyphPositionsModel_indexIn_12, il2, nI_add, g_f16 hgm (by omega), q_bn_s, hm, if_neg (nI_ge (by omega) (by omega)), if_pos (show nI 1 = 1 from rfl)]
        unfold xGlyphPositionsModel_indexIn_38 xGlyphPositionsModel_indexIn_70 xGlyphPositionsModel_indexIn_90
        rw [il4, nI_add, pk_mul, nI_add, q_lt, g_f16 hgm (by omega), q_bn_s, if_pos (show nI 1 = 1 from rfl), if_pos (show nI 1 = 1 from rfl), hM, if_neg (nI_nlt (by omega) (by omega)), if_neg (nI_nlt (by omega) (by omega)), q_lt, nI_add, pk_sub (by omega), Nat.add_sub_cancel, nI_1]) (fun f x j hj hM => by
        show xGlyphPositionsModel_indexIn_12 N t _ _ _ (f + 1) _ _ = xGlyphPositionsModel_indexIn_12 N t _ _ _ f _ _
        rw [xGlyphPositionsModel_indexIn_12, il2, nI_add, g_f16 hgm (by omega), q_bn_s, hm, if_neg (nI_ge (by omega) (by omega)), if_pos (show nI 1 = 1 from rfl)]
        unfold xGlyphPositionsModel_indexIn_38 xGlyphPositionsModel_indexIn_70 xGlyphPositionsModel_indexIn_90
        rw [il4, nI_add, pk_mul, nI_add, q_lt, g_f16 hgm (by omega), q_bn_s, if_pos (show nI 1 = 1 from rfl), if_pos (show nI 1 = 1 from rfl), nI_1]
        by_cases d1 : g < (u (a + 4 + 2 * j)).val
        · rw [if_pos (nI_lt d1 (by omega))]
        · rw [if_neg (nI_nlt (by omega) (by omega)), if_pos (nI_lt (by omega) (by omega))]) m 0 N (-1) (by omega) (by omega)
    have hnoc : ∀ i, c ≤ i + 1 → i < m → (u (a + 4 + 2 * i)).val = g → i + 1 = c := by
      intro i g1 g2 g3
      by_cases e : i + 1 = c
      · exact e
      · have := k3 i (by omega) g2
        omega
    by_cases c0 : c = 0
    · subst c0
      rw [nI_m1, if_pos rfl]
      exact ⟨-1, rfl, hsc.1 (fun i _ g2 g3 => by have := k3 i (by omega) g2; omega), Or.inl rfl⟩
    · obtain ⟨q, rfl⟩ : ∃ q, c = q + 1 := ⟨c - 1, by omega⟩
      have hup : ∀ i, i < q → (u (a + 4 + 2 * i)).val < g := by
        intro i hi
        have h1 := s_rise_lt c3 (q - i - 1) i (by omega)
        rw [show i + (q - i - 1) + 1 = q by omega] at h1
        have h2 := k2 q (by omega)
        omega
      rw [nI_pred, if_neg (c_m1e (by omega)), pk_mul, nI_add, q_lt, if_pos rfl, f_u16 hf (by omega), q_bn_s]
      simp (disch := omega) only [nI_eq]
      by_cases d : g = (u (a + 4 + 2 * q)).val
      · rw [if_pos d]
        exact ⟨nI q, rfl, hsc.2 q (by omega) (by omega) d.symm (fun i g1 g2 g3 => by have := k3 i (by omega) g2; omega), Or.inr ⟨q, by omega, rfl⟩⟩
      · rw [if_neg d]
        refine ⟨-1, rfl, hsc.1 (fun i _ g2 g3 => ?_), Or.inl rfl⟩
        by_cases e1 : i < q
        · have := hup i e1; omega
        · by_cases e2 : i = q
          · subst e2; omega
          · have := k3 i (by omega) g2; omega
  · rw [if_pos c1, if_neg m_1ne, if_neg (by omega), c1, il2, il4, il6, nI_add, nI_add, f_u16 hf (by omega), q_bn_s]
    generalize hm : (u (a + 2)).val = m at *
    have hml : m ≤ 2048 := by omega
    obtain ⟨c, k1, k2, k3, k4⟩ := b_last (N := N) hf (b := a + 4) (m := m) (step := 6) (g := g) (by omega) (by omega) (by omega) hg (fun i j h1 h2 => by
      have := s_rr_lt c3 (j - i - 1) i (by omega)
      rw [show i + (j - i - 1) + 1 = j by omega] at this
      have := (c3 i (by omega)).1
      omega) hN
    rw [k4, q_bn_s]
    have hcl : ∀ j, j < m → s_cnt u (a + 4) j < 2 ^ 28 := fun j hj => by
      have := s_cnt_le (u := u) (a + 4) j
      omega
    have h1ne : ¬ nI 2 = 1 := by decide
    have hsc := l_scan (fun f x j => xGlyphPositionsModel_indexIn_12 N t (nI a) (nI g) (nI 2) f x (nI j)) m (fun j => (u (a + 4 + 6 * j)).val ≤ g ∧ g ≤ (u (a + 4 + 6 * j + 2)).val) (fun j => nI ((u (a + 4 + 6 * j + 4)).val + (g - (u (a + 4 + 6 * j)).val))) (fun f x => by
        show xGlyphPositionsModel_indexIn_12 N t _ _ _ (f + 1) _ _ = _
        rw [xGlyphPositionsModel_indexIn_12, il2, nI_add, g_f16 hgm (by omega), q_bn_s, hm, if_pos (nI_le (by omega) (by omega))]) (fun f x j hj hM => by
        show xGlyphPositionsModel_indexIn_12 N t _ _ _ (f + 1) _ _ = xGlyphPositionsModel_indexIn_12 N t _ _ _ f _ _
        rw [xGlyphPositionsModel_indexIn_12, if_neg h1ne, il2, nI_add, g_f16 hgm (by omega), q_bn_s, hm, if_neg (nI_ge (by omega) (by omega))]
        unfold xGlyphPositionsModel_indexIn_38 xGlyphPositionsModel_indexIn_70 xGlyphPositionsModel_indexIn_90
        rw [il4, il6, nI_add, pk_mul, nI_add, q_lt, g_f16 hgm (by omega), q_bn_s, if_neg h1ne, il2, nI_add, g_f16 hgm (by omega), q_bn_s, if_neg h1ne, nI_add, g_f16 hgm (by omega), q_bn_s, if_neg (nI_nlt (by omega) (by omega)), if_neg (nI_nlt (by omega) (by omega)), q_lt, nI_add, pk_sub (by omega), nI_1, show (u (a + 4 + 6 * j + 4)).val + g - (u (a + 4 + 6 * j)).val = (u (a + 4 + 6 * j + 4)).val + (g - (u (a + 4 + 6 * j)).val) by omega]) (fun f x j hj hM => by
        show xGlyphPositionsModel_indexIn_12 N t _ _ _ (f + 1) _ _ = xGlyphPositionsModel_indexIn_12 N t _ _ _ f _ _
        rw [xGlyphPositionsModel_indexIn_12, if_neg h1ne, il2, nI_add, g_f16 hgm (by omega), q_bn_s, hm, if_neg (nI_ge (by omega) (by omega))]
        unfold xGlyphPositionsModel_indexIn_38 xGlyphPositionsModel_indexIn_70 xGlyphPositionsModel_indexIn_90
        rw [il4, il6, nI_add, pk_mul, nI_add, q_lt, g_f16 hgm (by omega), q_bn_s, if_neg h1ne, il2, nI_add, g_f16 hgm (by omega), q_bn_s, if_neg h1ne, nI_add, g_f16 hgm (by omega), q_bn_s, nI_1]
        by_cases d1 : g < (u (a + 4 + 6 * j)).val
        · rw [if_pos (nI_lt d1 (by omega))]
        · rw [if_neg (nI_nlt (by omega) (by omega)), if_pos (nI_lt (by omega) (by omega))]) m 0 N (-1) (by omega) (by omega)
    by_cases c0 : c = 0
    · subst c0
      rw [nI_m1, if_pos rfl]
      exact ⟨-1, rfl, hsc.1 (fun i _ g2 g3 => by have := k3 i (by omega) g2; omega), Or.inl rfl⟩
    · obtain ⟨q, rfl⟩ : ∃ q, c = q + 1 := ⟨c - 1, by omega⟩
      have hup : ∀ i, i < q → (u (a + 4 + 6 * i + 2)).val < g := by
        intro i hi
        have h1 := s_rr_lt c3 (q - i - 1) i (by omega)
        rw [show i + (q - i - 1) + 1 = q by omega] at h1
        have h2 := k2 q (by omega)
        omega
      have hq := k2 q (by omega)
      rw [nI_pred, if_neg (c_m1e (by omega)), pk_mul, nI_add, q_lt, if_neg m_1ne, f_u16 hf (by omega), q_bn_s, pk_sub hq, q_lt, nI_add, f_u16 hf (by omega), q_bn_s, nI_add, f_u16 hf (by omega), q_bn_s, nI_add]
      simp (disch := omega) only [nI_ltI]
      by_cases d : (u (a + 4 + 6 * q + 2)).val < g
      · rw [if_pos d]
        refine ⟨-1, rfl, hsc.1 (fun i _ g2 g3 => ?_), Or.inl rfl⟩
        by_cases e1 : i < q
        · have := hup i e1; omega
        · by_cases e2 : i = q
          · subst e2; omega
          · have := k3 i (by omega) g2; omega
      · rw [if_neg d]
        refine ⟨_, rfl, hsc.2 q (by omega) (by omega) ⟨hq, by omega⟩ (fun i g1 g2 g3 => by have := k3 i (by omega) g2; omega), Or.inr ⟨_, ?_, rfl⟩⟩
        have e1 := c4 q (by omega)
        have e2 : s_cnt u (a + 4) (q + 1) ≤ s_cnt u (a + 4) m := s_sum_mono _ (by omega)
        have e3 : s_cnt u (a + 4) (q + 1) = s_cnt u (a + 4) q + ((u (a + 4 + 6 * q + 2)).val - (u (a + 4 + 6 * q)).val + 1) := rfl
        omega
end PS1
