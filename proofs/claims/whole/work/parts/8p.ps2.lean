section PS2
variable {n N : Nat} {u : Nat → Fin 65536} {s t : QSt}
theorem i_cls {a g : Nat} (hf : fH n u s) (hgm : gH n u t) (hc : s_cls n u a) (hg : g < 65536) (hN : 70000 < N) :
    ∃ r : Nat, r < 65536 ∧ xGlyphSets_classOf N (nI a) (nI g) s = some (nI r) ∧ xGlyphPositionsModel_classIn N (nI a) (nI g) t = some (nI r) := by
  have hn := hf.1
  unfold xGlyphSets_classOf xGlyphPositionsModel_classIn
  obtain ⟨h0, hc⟩ := hc
  rw [f_u16 hf (by omega), q_bn_s, g_f16 hgm (by omega), q_bn_s]
  simp (disch := omega) only [m_eq1]
  rcases hc with ⟨c1, c2, c3⟩ | ⟨c1, c2, c3⟩
  · rw [if_pos c1, if_pos c1, il2, nI_add, f_u16 hf (by omega), q_bn_s, q_lt, g_f16 hgm (by omega), q_bn_s, q_lt]
    by_cases d : g < (u (a + 2)).val
    · rw [if_pos (pk_sneg (by omega) d), if_pos (pk_sneg (by omega) d)]
      exact ⟨0, by omega, rfl, rfl⟩
    · rw [pk_sub (by omega), if_neg (nI_pos (by omega)), if_neg (nI_pos (by omega)), il4, nI_add, f_u16 hf (by omega), q_bn_s, g_f16 hgm (by omega), q_bn_s]
      by_cases d2 : (u (a + 4)).val ≤ g - (u (a + 2)).val
      · rw [if_pos (nI_le d2 (by omega)), if_pos (nI_le d2 (by omega))]
        exact ⟨0, by omega, rfl, rfl⟩
      · rw [if_neg (nI_ge (by omega) (by omega)), if_neg (nI_ge (by omega) (by omega)), il6, nI_add, pk_mul, nI_add, f_u16 hf (by omega), q_bn_s, g_f16 hgm (by omega), q_bn_s]
        exact ⟨_, (u (a + 6 + 2 * (g - (u (a + 2)).val))).isLt, rfl, rfl⟩
  · rw [if_neg (by omega), if_neg (by omega), il2, il4, il6, nI_add, nI_add, f_u16 hf (by omega), q_bn_s]
    generalize hm : (u (a + 2)).val = m at *
    have hml : m ≤ 2048 := by omega
    obtain ⟨c, k1, k2, k3, k4⟩ := b_last (N := N) hf (b := a + 4) (m := m) (step := 6) (g := g) (by omega) (by omega) (by omega) hg (fun i j h1 h2 => by
      have := s_rr_lt c3 (j - i - 1) i (by omega)
      rw [show i + (j - i - 1) + 1 = j by omega] at this
      have := (c3 i (by omega)).1
      omega) hN
    rw [k4, q_bn_s, q_lt]
    have hsc := l_scan (fun f x j => xGlyphPositionsModel_classIn_56 N t (nI a) (nI g) f x (nI j)) m (fun j => (u (a + 4 + 6 * j)).val ≤ g ∧ g ≤ (u (a + 4 + 6 * j + 2)).val) (fun j => nI (u (a + 4 + 6 * j + 4)).val) (fun f x => by
        show xGlyphPositionsModel_classIn_56 N t _ _ (f + 1) _ _ = _
        rw [xGlyphPositionsModel_classIn_56, il2, nI_add, g_f16 hgm (by omega), q_bn_s, hm, if_pos (nI_le (by omega) (by omega))]) (fun f x j hj hM => by
        show xGlyphPositionsModel_classIn_56 N t _ _ (f + 1) _ _ = xGlyphPositionsModel_classIn_56 N t _ _ f _ _
        rw [xGlyphPositionsModel_classIn_56, il2, nI_add, g_f16 hgm (by omega), q_bn_s, hm, if_neg (nI_ge (by omega) (by omega)), il4, il6, nI_add, pk_mul, nI_add, q_lt, g_f16 hgm (by omega), q_bn_s, if_neg (nI_nlt (by omega) (by omega)), nI_add, g_f16 hgm (by omega), q_bn_s, if_neg (nI_nlt (by omega) (by omega)), nI_add, g_f16 hgm (by omega), q_bn_s, nI_1]) (fun f x j hj hM => by
        show xGlyphPositionsModel_classIn_56 N t _ _ (f + 1) _ _ = xGlyphPositionsModel_classIn_56 N t _ _ f _ _
        rw [xGlyphPositionsModel_classIn_56, il2, nI_add, g_f16 hgm (by omega), q_bn_s, hm, if_neg (nI_ge (by omega) (by omega)), il4, il6, nI_add, pk_mul, nI_add, q_lt, g_f16 hgm (by omega), q_bn_s, nI_add, g_f16 hgm (by omega), q_bn_s, nI_1]
        by_cases d1 : g < (u (a + 4 + 6 * j)).val
        · rw [if_pos (nI_lt d1 (by omega))]
        · rw [if_neg (nI_nlt (by omega) (by omega)), if_pos (nI_lt (by omega) (by omega))]) m 0 N 0 (by omega) (by omega)
    by_cases c0 : c = 0
    · subst c0
      rw [nI_m1, if_pos rfl]
      exact ⟨0, by omega, rfl, hsc.1 (fun i _ g2 g3 => by have := k3 i (by omega) g2; omega)⟩
    · obtain ⟨q, rfl⟩ : ∃ q, c = q + 1 := ⟨c - 1, by omega⟩
      have hup : ∀ i, i < q → (u (a + 4 + 6 * i + 2)).val < g := by
        intro i hi
        have h1 := s_rr_lt c3 (q - i - 1) i (by omega)
        rw [show i + (q - i - 1) + 1 = q by omega] at h1
        have h2 := k2 q (by omega)
        omega
      have hq := k2 q (by omega)
      rw [nI_pred, if_neg (c_m1e (by omega)), pk_mul, nI_add, nI_add, f_u16 hf (by omega), q_bn_s, nI_add, f_u16 hf (by omega), q_bn_s]
      simp (disch := omega) only [nI_ltI]
      by_cases d : (u (a + 4 + 6 * q + 2)).val < g
      · rw [if_pos d]
        refine ⟨0, by omega, rfl, hsc.1 (fun i _ g2 g3 => ?_)⟩
        by_cases e1 : i < q
        · have := hup i e1; omega
        · by_cases e2 : i = q
          · subst e2; omega
          · have := k3 i (by omega) g2; omega
      · rw [if_neg d]
        exact ⟨_, (u (a + 4 + 6 * q + 4)).isLt, rfl, hsc.2 q (by omega) (by omega) ⟨hq, by omega⟩ (fun i g1 g2 g3 => by have := k3 i (by omega) g2; omega)⟩
theorem i_row {r sz j g : Nat} (hf : fH n u s) (hgm : gH n u t) (hr : s_row n u r (2 + sz)) (hsz : sz ≤ 32) (hj : j < 800) (hs8 : s.2 8 j = nI g) (hg : g < 65536) (hN : 70000 < N) :
    (xSetter_valuesInRow N (nI r) (nI sz) (nI j) s = some (-1) ∧ xGlyphPositionsModel_valuesOf_117 N t (nI g) (nI sz) (nI r) N 0 0 = some 0) ∨
    ∃ q, q < (u r).val ∧ xSetter_valuesInRow N (nI r) (nI sz) (nI j) s = some (nI (r + 2 + (2 + sz) * q + 2)) ∧ xGlyphPositionsModel_valuesOf_117 N t (nI g) (nI sz) (nI r) N 0 0 = some (nI (r + 2 + (2 + sz) * q + 2)) := by
  have hn := hf.1
  obtain ⟨⟨h1, h2, h3⟩, h4⟩ := hr
  have hin : ∀ i, i < (u r).val → r + 2 + (2 + sz) * i + (2 + sz) ≤ n := by
    intro i hi
    have : (2 + sz) * i + (2 + sz) ≤ (u r).val * (2 + sz) := by
      rw [← Nat.mul_succ, Nat.mul_comm]
      exact Nat.mul_le_mul_right _ hi
    omega
  unfold xSetter_valuesInRow
  rw [q_lt, il2, nI_add, show q_vpb (nI j) 800 = true from decide_eq_true (nI_in (by omega) (by omega)), q_grd_tt, q_lt, nI_clamp (by omega), hs8, f_u16 hf (by omega), q_bn_s, nI_add]
  generalize hm : (u r).val = m at *
  obtain ⟨c, k1, k2, k3, k4⟩ := b_last (N := N) hf (b := r + 2) (m := m) (step := 2 + sz) (g := g) (by omega) (by omega) (by omega) hg (fun i j h1 h2 => by
      have := s_rise_lt h4 (j - i - 1) i (by omega)
      rw [show i + (j - i - 1) + 1 = j by omega] at this
      omega) hN
  rw [k4, q_bn_s, q_lt]
  have hsc := l_scan (fun f x j => xGlyphPositionsModel_valuesOf_117 N t (nI g) (nI sz) (nI r) f x (nI j)) m (fun j => (u (r + 2 + (2 + sz) * j)).val = g) (fun j => nI (r + 2 + (2 + sz) * j + 2)) (fun f x => by
      show xGlyphPositionsModel_valuesOf_117 N t _ _ _ (f + 1) _ _ = _
      rw [xGlyphPositionsModel_valuesOf_117, g_f16 hgm (by omega), q_bn_s, hm, if_pos (nI_le (by omega) (by omega))]) (fun f x j hj hM => by
      have := hin j hj
      show xGlyphPositionsModel_valuesOf_117 N t _ _ _ (f + 1) _ _ = xGlyphPositionsModel_valuesOf_117 N t _ _ _ f _ _
      rw [xGlyphPositionsModel_valuesOf_117, g_f16 hgm (by omega), q_bn_s, hm, if_neg (nI_ge (by omega) (by omega)), il2, nI_add, nI_add, pk_mul, nI_add, q_lt, g_f16 hgm (by omega), q_bn_s, if_pos (by rw [hM]), q_lt, nI_add, nI_1]) (fun f x j hj hM => by
      have := hin j hj
      show xGlyphPositionsModel_valuesOf_117 N t _ _ _ (f + 1) _ _ = xGlyphPositionsModel_valuesOf_117 N t _ _ _ f _ _
      rw [xGlyphPositionsModel_valuesOf_117, g_f16 hgm (by omega), q_bn_s, hm, if_neg (nI_ge (by omega) (by omega)), il2, nI_add, nI_add, pk_mul, nI_add, q_lt, g_f16 hgm (by omega), q_bn_s, if_neg (by rw [nI_eq (by omega) (by omega)]; exact hM), nI_1]) m 0 N 0 (by omega) (by omega)
  by_cases c0 : c = 0
  · subst c0
    rw [nI_m1, if_pos rfl]
    exact Or.inl ⟨rfl, hsc.1 (fun i _ g2 g3 => by have := k3 i (by omega) g2; omega)⟩
  · obtain ⟨q, rfl⟩ : ∃ q, c = q + 1 := ⟨c - 1, by omega⟩
    have hup : ∀ i, i < q → (u (r + 2 + (2 + sz) * i)).val < g := by
      intro i hi
      have h1 := s_rise_lt h4 (q - i - 1) i (by omega)
      rw [show i + (q - i - 1) + 1 = q by omega] at h1
      have h2 := k2 q (by omega)
      omega
    have := hin q (by omega)
    rw [nI_pred, if_neg (c_m1e (by omega)), pk_mul, nI_add, f_u16 hf (by omega), q_bn_s, nI_add]
    simp (disch := omega) only [nI_eq]
    by_cases d : (u (r + 2 + (2 + sz) * q)).val = g
    · rw [if_pos d]
      exact Or.inr ⟨q, by omega, rfl, hsc.2 q (by omega) (by omega) d (fun i g1 g2 g3 => by have := k3 i (by omega) g2; omega)⟩
    · rw [if_neg d]
      refine Or.inl ⟨rfl, hsc.1 (fun i _ g2 g3 => ?_)⟩
      by_cases e1 : i < q
      · have := hup i e1; omega
      · by_cases e2 : i = q
        · subst e2; omega
        · have := k3 i (by omega) g2; omega
theorem max_ex (M : Nat → Prop) (c : Nat) : (∀ i, i < c → ¬ M i) ∨ ∃ q, q < c ∧ M q ∧ ∀ i, q < i → i < c → ¬ M i := by
  induction c with
  | zero => exact Or.inl (fun i hi => by omega)
  | succ c ih =>
    by_cases h : M c
    · exact Or.inr ⟨c, by omega, h, fun i h1 h2 => by omega⟩
    · rcases ih with h1 | ⟨q, h1, h2, h3⟩
      · exact Or.inl (fun i hi => by
          by_cases e : i = c
          · subst e; exact h
          · exact h1 i (by omega))
      · exact Or.inr ⟨q, by omega, h2, fun i g1 g2 => by
          by_cases e : i = c
          · subst e; exact h
          · exact h3 i g1 (by omega)⟩
theorem nI_dn (c : Nat) : nI c + (-1) = nI c - 1 := by
  cases c with
  | zero => decide
  | succ c => rw [pk_m1, nI_pred]
theorem d_scan (F : Nat → Nat → Option Int32) (m : Nat) (M : Nat → Prop) (h0 : ∀ f, F (f + 1) 0 = some (-1)) (h1 : ∀ f c, c < m → M c → F (f + 1) (c + 1) = some (nI c)) (h2 : ∀ f c, c < m → ¬ M c → F (f + 1) (c + 1) = F f c) :
    ∀ c f, c ≤ m → c < f → ((∀ i, i < c → ¬ M i) → F f c = some (-1)) ∧ ∀ q, q < c → M q → (∀ i, q < i → i < c → ¬ M i) → F f c = some (nI q) := by
  intro c
  induction c with
  | zero =>
    intro f _ hf
    obtain ⟨f, rfl⟩ : ∃ g, f = g + 1 := ⟨f - 1, by omega⟩
    exact ⟨fun _ => h0 f, fun q hq => by omega⟩
  | succ c ih =>
    intro f hc hf
    obtain ⟨f, rfl⟩ : ∃ g, f = g + 1 := ⟨f - 1, by omega⟩
    constructor
    · intro h
      rw [h2 f c (by omega) (h c (by omega))]
      exact (ih f (by omega) (by omega)).1 (fun i hi => h i (by omega))
    · intro q g1 g2 g3
      by_cases e : q = c
      · subst e
        exact h1 f q (by omega) g2
      · rw [h2 f c (by omega) (g3 c (by omega) (by omega))]
        exact (ih f (by omega) (by omega)).2 q (by omega) g2 (fun i x1 x2 => g3 i x1 (by omega))
theorem k_range {c : Nat} (hc : c ≤ 256) (f1 f2 : Nat → Int32) (g : Int32) (hN : 70000 < N) : ∃ r : Int32, (r = -1 ∨ ∃ q, q < c ∧ r = nI q) ∧ (∀ s : QSt, s.1 6 = nI c → (∀ j, j < c → s.2 2 j = f1 j ∧ s.2 3 j = f2 j) → xKinds_rangeOf N g s = some r) ∧ (∀ t : QSt, t.1 16 = nI c → (∀ j, j < c → t.2 28 j = f1 j ∧ t.2 29 j = f2 j) → xGlyphPositionsModel_rangeOf N g t = some r) := by
  have hcl : ∀ (s : QSt), s.1 6 = nI c → (∀ j, j < c → s.2 2 j = f1 j ∧ s.2 3 j = f2 j) → ((∀ i, i < c → ¬ (¬ g < f1 i ∧ ¬ f2 i < g)) → xKinds_rangeOf N g s = some (-1)) ∧ ∀ q, q < c → (¬ g < f1 q ∧ ¬ f2 q < g) → (∀ i, q < i → i < c → ¬ (¬ g < f1 i ∧ ¬ f2 i < g)) → xKinds_rangeOf N g s = some (nI q) := by
    intro s hs1 hs2
    have h := d_scan (fun f c => xKinds_rangeOf_7 N s g f (nI c - 1)) c (fun i => ¬ g < f1 i ∧ ¬ f2 i < g) (fun f => by
      show xKinds_rangeOf_7 N s g (f + 1) _ = _
      rw [xKinds_rangeOf_7, nI_m1, if_pos (by decide)]) (fun f q hq hM => by
      show xKinds_rangeOf_7 N s g (f + 1) _ = _
      rw [xKinds_rangeOf_7, nI_pred, if_neg (nI_pos (by omega)), show q_vpb (nI q) 256 = true from decide_eq_true (nI_in (by omega) (by omega)), q_grd_tt, q_lt, nI_clamp (by omega), (hs2 q hq).1, if_neg hM.1, q_grd_tt, q_lt, (hs2 q hq).2, if_neg hM.2]) (fun f q hq hM => by
      show xKinds_rangeOf_7 N s g (f + 1) _ = xKinds_rangeOf_7 N s g f _
      rw [xKinds_rangeOf_7, nI_pred, if_neg (nI_pos (by omega)), show q_vpb (nI q) 256 = true from decide_eq_true (nI_in (by omega) (by omega)), q_grd_tt, q_lt, nI_clamp (by omega), (hs2 q hq).1]
      by_cases d : g < f1 q
      · rw [if_pos d, nI_dn]
      · rw [if_neg d, q_grd_tt, q_lt, (hs2 q hq).2, if_pos (Decidable.not_not.mp (fun e => hM ⟨d, e⟩)), nI_dn]) c N (by omega) (by omega)
    unfold xKinds_rangeOf
    rw [q_lt, hs1]
    exact h
  have hml : ∀ (t : QSt), t.1 16 = nI c → (∀ j, j < c → t.2 28 j = f1 j ∧ t.2 29 j = f2 j) → ((∀ i, i < c → ¬ (¬ g < f1 i ∧ ¬ f2 i < g)) → xGlyphPositionsModel_rangeOf N g t = some (-1)) ∧ ∀ q, q < c → (¬ g < f1 q ∧ ¬ f2 q < g) → (∀ i, q < i → i < c → ¬ (¬ g < f1 i ∧ ¬ f2 i < g)) → xGlyphPositionsModel_rangeOf N g t = some (nI q) := by
    intro t ht1 ht2
    have h := l_scan (fun f x j => xGlyphPositionsModel_rangeOf_4 N t g f x (nI j)) c (fun i => ¬ g < f1 i ∧ ¬ f2 i < g) (fun j => nI j) (fun f x => by
      show xGlyphPositionsModel_rangeOf_4 N t g (f + 1) _ _ = _
      rw [xGlyphPositionsModel_rangeOf_4, ht1, if_pos (nI_le (by omega) (by omega))]) (fun f x q hq hM => by
      show xGlyphPositionsModel_rangeOf_4 N t g (f + 1) _ _ = xGlyphPositionsModel_rangeOf_4 N t g f _ _
      rw [xGlyphPositionsModel_rangeOf_4, ht1, if_neg (nI_ge (by omega) (by omega)), show q_vpb (nI q) 256 = true from decide_eq_true (nI_in (by omega) (by omega)), q_grd_tt, q_lt, nI_clamp (by omega), (ht2 q hq).1, if_neg hM.1, q_grd_tt, q_lt, (ht2 q hq).2, if_neg hM.2, nI_1]) (fun f x q hq hM => by
      show xGlyphPositionsModel_rangeOf_4 N t g (f + 1) _ _ = xGlyphPositionsModel_rangeOf_4 N t g f _ _
      rw [xGlyphPositionsModel_rangeOf_4, ht1, if_neg (nI_ge (by omega) (by omega)), show q_vpb (nI q) 256 = true from decide_eq_true (nI_in (by omega) (by omega)), q_grd_tt, q_lt, nI_clamp (by omega), (ht2 q hq).1, nI_1]
      by_cases d : g < f1 q
      · rw [if_pos d]
      · rw [if_neg d, q_grd_tt, q_lt, (ht2 q hq).2, if_pos (Decidable.not_not.mp (fun e => hM ⟨d, e⟩))]) c 0 N (-1) (by omega) (by omega)
    exact ⟨fun hn => h.1 (fun i _ hi => hn i hi), fun q hq hM hl => h.2 q (by omega) hq hM hl⟩
  rcases max_ex (fun i => ¬ g < f1 i ∧ ¬ f2 i < g) c with h | ⟨q, h1, h2, h3⟩
  · exact ⟨-1, Or.inl rfl, fun s a b => (hcl s a b).1 h, fun t a b => (hml t a b).1 h⟩
  · exact ⟨nI q, Or.inr ⟨q, h1, rfl⟩, fun s a b => (hcl s a b).2 q h1 h2 h3, fun t a b => (hml t a b).2 q h1 h2 h3⟩
def k_ps (flag kd mk : Nat) : Prop := (kd = 1 ∧ flag / 2 % 2 = 1) ∨ (kd = 2 ∧ flag / 4 % 2 = 1) ∨ (kd = 3 ∧ (flag / 8 % 2 = 1 ∨ (flag / 256 ≠ 0 ∧ flag / 256 ≠ mk)))
theorem c_andp (k : Nat) (hk : k < 16) (x : Nat) (hx : x < 65536) : (nI x &&& nI (2 ^ k) = 0 ↔ x / 2 ^ k % 2 = 0) := by
  have hp : 2 ^ k < 2 ^ 16 := Nat.pow_lt_pow_right (by omega) hk
  have e : (nI x &&& nI (2 ^ k)).toBitVec.toNat = x &&& 2 ^ k := by
    rw [Int32.toBitVec_and, BitVec.toNat_and, pk_tn (by omega), pk_tn (by omega)]
  have e2 : nI x &&& nI (2 ^ k) = 0 ↔ x &&& 2 ^ k = 0 := by
    constructor
    · intro g
      rw [g] at e
      exact e.symm
    · intro g
      apply Int32.toBitVec_inj.mp
      apply BitVec.eq_of_toNat_eq
      rw [e, g]
      rfl
  rw [e2]
  have e3 : x &&& 2 ^ k = 0 ↔ x.testBit k = false := by
    constructor
    · intro g
      have := congrArg (fun y => y.testBit k) g
      have h16 : Nat.testBit (2 ^ k) k = true := by simp [Nat.testBit_two_pow]
      simpa [Nat.testBit_and, h16] using this
    · intro g
      apply Nat.eq_of_testBit_eq
      intro i
      rw [Nat.testBit_and, Nat.testBit_two_pow]
      by_cases h4 : k = i
      · subst h4; simp [g]
      · simp [h4]
  rw [e3, Nat.testBit_eq_decide_div_mod_eq]
  simp only [decide_eq_false_iff_not]
  omega
theorem c_pass {flag kd mk : Nat} (h1 : flag < 65536) (h2 : kd ≤ 3) (h3 : mk ≤ 255) : xSetter_passesOver (nI flag) (nI kd) (nI mk) = some (bI (k_ps flag kd mk)) := by
  have a2 : (nI flag &&& 2 = 0) ↔ flag / 2 % 2 = 0 := c_andp 1 (by omega) flag h1
  have a4 : (nI flag &&& 4 = 0) ↔ flag / 4 % 2 = 0 := c_andp 2 (by omega) flag h1
  have a8 : (nI flag &&& 8 = 0) ↔ flag / 8 % 2 = 0 := c_andp 3 (by omega) flag h1
  unfold xSetter_passesOver
  rw [q_lt, pk_shrN (by omega) _ 8 (by decide)]
  simp (disch := omega) only [a2, a4, a8, m_eq0, nI_eq, m_eq1, m_eq2]
  rw [show (3 : Int32) = nI 3 from rfl]
  simp (disch := omega) only [nI_eq]
  unfold k_ps
  have hk : kd = 0 ∨ kd = 1 ∨ kd = 2 ∨ kd = 3 := by omega
  rcases hk with rfl | rfl | rfl | rfl
  · rw [if_neg (by omega), if_neg (by omega), if_neg (by omega), bI_f (by omega)]
  · rw [if_pos rfl]
    by_cases d : flag / 2 % 2 = 0
    · rw [if_pos d, bI_f (by omega)]
    · rw [if_neg d, bI_t (by omega)]
  · rw [if_neg (by omega), if_pos rfl]
    by_cases d : flag / 4 % 2 = 0
    · rw [if_pos d, bI_f (by omega)]
    · rw [if_neg d, bI_t (by omega)]
  · rw [if_neg (by omega), if_neg (by omega), if_pos rfl]
    by_cases d : flag / 8 % 2 = 0
    · rw [if_pos d]
      by_cases d2 : flag / 2 ^ 8 = 0
      · rw [if_pos d2, bI_f (by omega)]
      · rw [if_neg d2]
        by_cases d3 : flag / 2 ^ 8 = mk
        · rw [if_pos d3, bI_f (by omega)]
        · rw [if_neg d3, bI_t (by omega)]
    · rw [if_neg d, bI_t (by omega)]
theorem m_pass36 {flag kd mk : Nat} (h1 : flag < 65536) (h2 : kd ≤ 3) (h3 : mk ≤ 255) : xGlyphPositionsModel_isPassed_36 N t (nI flag) (nI kd) (nI mk) = some (bI (k_ps flag kd mk)) := by
  have hd : nI flag / 256 = nI (flag / 256) := by rw [il256]; exact pk_div (by omega) (by omega) (by omega)
  unfold xGlyphPositionsModel_isPassed_36 xGlyphPositionsModel_isPassed_57 xGlyphPositionsModel_isPassed_58
  rw [hd, if_pos rfl, if_neg m_1ne, show (3 : Int32) = nI 3 from rfl]
  simp (disch := omega) only [m_le0, m_eq0, nI_eq]
  have hk : kd = 0 ∨ kd = 1 ∨ kd = 2 ∨ kd = 3 := by omega
  rcases hk with rfl | rfl | rfl | rfl
  · rw [if_pos rfl, if_neg (by omega), bI_f (by unfold k_ps; omega)]
  · rw [if_neg (by omega), pk_shrN (by omega) (nI 1 &&& 31) 1 (by decide), pk_andN (by omega) 1 (by decide)]
    simp (disch := omega) only [m_eq1]
    by_cases d : flag / 2 ^ 1 % 2 ^ 1 = 1
    · rw [if_pos d, bI_t (by unfold k_ps; omega)]
    · rw [if_neg d, if_neg (by omega), bI_f (by unfold k_ps; omega)]
  · rw [if_neg (by omega), pk_shrN (by omega) (nI 2 &&& 31) 2 (by decide), pk_andN (by omega) 1 (by decide)]
    simp (disch := omega) only [m_eq1]
    by_cases d : flag / 2 ^ 2 % 2 ^ 1 = 1
    · rw [if_pos d, bI_t (by unfold k_ps; omega)]
    · rw [if_neg d, if_neg (by omega), bI_f (by unfold k_ps; omega)]
  · rw [if_neg (by omega), pk_shrN (by omega) (nI 3 &&& 31) 3 (by decide), pk_andN (by omega) 1 (by decide)]
    simp (disch := omega) only [m_eq1]
    by_cases d : flag / 2 ^ 3 % 2 ^ 1 = 1
    · rw [if_pos d, bI_t (by unfold k_ps; omega)]
    · rw [if_neg d, if_pos (by trivial)]
      by_cases d2 : flag / 256 = 0
      · rw [if_pos d2, bI_f (by unfold k_ps; omega)]
      · rw [if_neg d2]
        by_cases d3 : mk = flag / 256
        · rw [if_pos d3, bI_f (by unfold k_ps; omega)]
        · rw [if_neg d3, bI_t (by unfold k_ps; omega)]
/-- a glyph's kind and marks, found by both -/
theorem k_glyph {c : Nat} (hc : c ≤ 256) (f1 f2 f3 f4 : Nat → Int32) (h3 : ∀ q, q < c → ∃ d : Nat, d ≤ 3 ∧ f3 q = nI d) (h4 : ∀ q, q < c → ∃ d : Nat, d ≤ 255 ∧ f4 q = nI d) (g : Int32) (hN : 70000 < N) :
    ∃ kd mk : Nat, kd ≤ 3 ∧ mk ≤ 255 ∧ (∀ s : QSt, s.1 6 = nI c → (∀ j, j < c → s.2 2 j = f1 j ∧ s.2 3 j = f2 j) → ∃ r, xKinds_rangeOf N g s = some r ∧ ((r = -1 ∧ kd = 0 ∧ mk = 0) ∨ ∃ q, q < c ∧ r = nI q ∧ f3 q = nI kd ∧ f4 q = nI mk)) ∧
    ∀ t : QSt, t.1 16 = nI c → (∀ j, j < c → t.2 28 j = f1 j ∧ t.2 29 j = f2 j ∧ t.2 30 j = f3 j ∧ t.2 31 j = f4 j) → xGlyphPositionsModel_kindOfGlyph N g t = some (nI kd) ∧ ∀ flag, flag < 65536 → xGlyphPositionsModel_isPassed N (nI flag) g t = some (bI (k_ps flag kd mk)) := by
  obtain ⟨r, hr, hr1, hr2⟩ := k_range (N := N) hc f1 f2 g hN
  rcases hr with rfl | ⟨q, hq, rfl⟩
  · refine ⟨0, 0, by omega, by omega, fun s a b => ⟨-1, hr1 s a b, Or.inl ⟨rfl, rfl, rfl⟩⟩, fun t a b => ?_⟩
    have e := hr2 t a (fun j hj => ⟨(b j hj).1, (b j hj).2.1⟩)
    constructor
    · unfold xGlyphPositionsModel_kindOfGlyph
      rw [e, q_bn_s, if_neg (by decide)]
      rfl
    · intro flag hfl
      unfold xGlyphPositionsModel_isPassed xGlyphPositionsModel_isPassed_20
      rw [e, q_bn_s, if_neg (by decide), if_neg (by decide)]
      exact m_pass36 (kd := 0) (mk := 0) hfl (by omega) (by omega)
  · obtain ⟨kd, hkd, e3⟩ := h3 q hq
    obtain ⟨mk, hmk, e4⟩ := h4 q hq
    refine ⟨kd, mk, hkd, hmk, fun s a b => ⟨nI q, hr1 s a b, Or.inr ⟨q, hq, rfl, e3, e4⟩⟩, fun t a b => ?_⟩
    have e := hr2 t a (fun j hj => ⟨(b j hj).1, (b j hj).2.1⟩)
    have hv : q_vpb (nI q) 256 = true := decide_eq_true (nI_in (by omega) (by omega))
    have b3 : t.2 30 q = nI kd := by rw [(b q hq).2.2.1, e3]
    have b4 : t.2 31 q = nI mk := by rw [(b q hq).2.2.2, e4]
    constructor
    · unfold xGlyphPositionsModel_kindOfGlyph
      rw [e, q_bn_s, if_pos (nI_pos' (by omega)), hv, q_grd_tt, q_lt, nI_clamp (by omega), b3]
    · intro flag hfl
      unfold xGlyphPositionsModel_isPassed xGlyphPositionsModel_isPassed_20
      rw [e, q_bn_s, if_pos (nI_pos' (by omega)), hv, q_grd_tt, q_lt, nI_clamp (by omega), if_pos (nI_pos' (by omega)), q_grd_tt, q_lt, b3, b4]
      exact m_pass36 hfl hkd hmk
end PS2
