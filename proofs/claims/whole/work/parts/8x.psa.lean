section PSA
variable {n N : Nat} {u : Nat → Fin 65536} {s s' t t' : QSt}
theorem nI_inj {a b : Nat} (ha : a < 2 ^ 32) (hb : b < 2 ^ 32) (h : nI a = nI b) : a = b := by
  have := congrArg (fun x : Int32 => x.toBitVec.toNat) h
  simp only [pk_tn ha, pk_tn hb] at this
  exact this
theorem tag_ex {b : Nat} (h : s_tags n u b False) (tag : Int32) : (∀ k, k < (u b).val → ¬ nI (s_4 u (b + 2 + 6 * k)) = tag) ∨ ∃ q, q < (u b).val ∧ nI (s_4 u (b + 2 + 6 * q)) = tag ∧ ∀ k, k < (u b).val → k ≠ q → ¬ nI (s_4 u (b + 2 + 6 * k)) = tag := by
  have hr : ∀ d i, i + d + 1 < (u b).val → s_4 u (b + 2 + 6 * i) < s_4 u (b + 2 + 6 * (i + d + 1)) := by
    intro d
    induction d with
    | zero =>
      intro i hi
      rcases h.2 i hi with h1 | h1
      · exact h1
      · exact h1.1.elim
    | succ d ih =>
      intro i hi
      have h1 := ih i (by omega)
      rcases h.2 (i + d + 1) hi with h2 | h2
      · rw [show i + (d + 1) + 1 = i + d + 1 + 1 by omega]
        omega
      · exact h2.1.elim
  rcases max_ex (fun k => nI (s_4 u (b + 2 + 6 * k)) = tag) (u b).val with h1 | ⟨q, h1, h2, h3⟩
  · exact Or.inl h1
  · refine Or.inr ⟨q, h1, h2, fun k hk hne e => ?_⟩
    have e2 := nI_inj (@s_4lt u _) (@s_4lt u _) (e.trans h2.symm)
    rcases Nat.lt_or_gt_of_ne hne with h4 | h4
    · have := hr (q - k - 1) k (by omega)
      rw [show k + (q - k - 1) + 1 = q by omega] at this
      omega
    · have := hr (k - q - 1) q (by omega)
      rw [show q + (k - q - 1) + 1 = k by omega] at this
      omega
theorem c_byTag (hf : fH n u s) {b : Nat} (h : s_tags n u b False) (tag : Int32) (hN : 70000 < N) :
    ((∀ k, k < (u b).val → ¬ nI (s_4 u (b + 2 + 6 * k)) = tag) → xChoice_placeByTag N (nI b) tag s = some (-1)) ∧
    ∀ q, q < (u b).val → nI (s_4 u (b + 2 + 6 * q)) = tag → (∀ k, k < (u b).val → k ≠ q → ¬ nI (s_4 u (b + 2 + 6 * k)) = tag) → xChoice_placeByTag N (nI b) tag s = some (nI (u (b + 6 + 6 * q)).val) := by
  have hn := hf.1
  obtain ⟨⟨h1, h2, h3⟩, -⟩ := h
  have key : ∀ (d k f : Nat), k + d = (u b).val → d < f → ((∀ j, k ≤ j → j < (u b).val → ¬ nI (s_4 u (b + 2 + 6 * j)) = tag) → xChoice_placeByTag_12 N s (nI b) tag (nI (u b).val) f (nI k) = some (-1)) ∧ ∀ q, k ≤ q → q < (u b).val → nI (s_4 u (b + 2 + 6 * q)) = tag → (∀ j, k ≤ j → j < q → ¬ nI (s_4 u (b + 2 + 6 * j)) = tag) → xChoice_placeByTag_12 N s (nI b) tag (nI (u b).val) f (nI k) = some (nI (u (b + 6 + 6 * q)).val) := by
    intro d
    induction d with
    | zero =>
      intro k f hk hf2
      obtain ⟨f, rfl⟩ : ∃ g, f = g + 1 := ⟨f - 1, by omega⟩
      refine ⟨fun _ => ?_, fun q g1 g2 => by omega⟩
      rw [xChoice_placeByTag_12, if_pos (nI_le (by omega) (by omega))]
    | succ d ih =>
      intro k f hk hf2
      obtain ⟨f, rfl⟩ : ∃ g, f = g + 1 := ⟨f - 1, by omega⟩
      have e : xChoice_placeByTag_12 N s (nI b) tag (nI (u b).val) (f + 1) (nI k) = if nI (s_4 u (b + 2 + 6 * k)) = tag then some (nI (u (b + 6 + 6 * k)).val) else xChoice_placeByTag_12 N s (nI b) tag (nI (u b).val) f (nI (k + 1)) := by
        rw [xChoice_placeByTag_12, if_neg (nI_ge (by omega) (by omega)), il2, il6, nI_add b 2, pk_mul, nI_add, f_u32 hf (by omega), q_bn_s, nI_add b 6, nI_add, f_u16 hf (by omega), q_bn_s, nI_1]
      rw [e]
      obtain ⟨i1, i2⟩ := ih (k + 1) f (by omega) (by omega)
      constructor
      · intro g
        rw [if_neg (g k (by omega) (by omega))]
        exact i1 (fun j g1 g2 => g j (by omega) g2)
      · intro q g1 g2 g3 g4
        by_cases eq : q = k
        · subst eq
          rw [if_pos g3]
        · rw [if_neg (g4 k (by omega) (by omega))]
          exact i2 q (by omega) g2 g3 (fun j x1 x2 => g4 j (by omega) x2)
  unfold xChoice_placeByTag
  rw [f_u16 hf (by omega), q_bn_s]
  obtain ⟨k1, k2⟩ := key (u b).val 0 N (by omega) (by omega)
  exact ⟨fun g => k1 (fun j _ hj => g j hj), fun q g1 g2 g3 => k2 q (by omega) g1 g2 (fun j _ x2 => g3 j (by omega) (by omega))⟩
theorem m_script2 (hg : gH n u t) (hh : 10 ≤ n) (h : s_tags n u (u 4).val False) (tag : Int32) (hN : 70000 < N) :
    ((∀ k, k < (u (u 4).val).val → ¬ nI (s_4 u ((u 4).val + 2 + 6 * k)) = tag) → xGlyphPositionsModel_hasScript N tag t = some 0) ∧
    ∀ q, q < (u (u 4).val).val → nI (s_4 u ((u 4).val + 2 + 6 * q)) = tag → (∀ k, k < (u (u 4).val).val → k ≠ q → ¬ nI (s_4 u ((u 4).val + 2 + 6 * k)) = tag) → xGlyphPositionsModel_hasScript N tag t = some 1 ∧ xGlyphPositionsModel_scriptAt N tag t = some (nI ((u 4).val + (u ((u 4).val + 6 + 6 * q)).val)) := by
  have hn := hg.1
  obtain ⟨⟨h1, h2, h3⟩, -⟩ := h
  generalize hb : (u 4).val = b at *
  have one : ∀ (d k f : Nat), k + d = (u b).val → d < f → xGlyphPositionsModel_hasScript_11 N t tag (nI b) f 1 (nI k) = some 1 := by
    intro d
    induction d with
    | zero =>
      intro k f hk hf
      obtain ⟨f, rfl⟩ : ∃ g, f = g + 1 := ⟨f - 1, by omega⟩
      rw [xGlyphPositionsModel_hasScript_11, g_f16 hg h1, q_bn_s, if_pos (nI_le (by omega) (by omega))]
      rfl
    | succ d ih =>
      intro k f hk hf
      obtain ⟨f, rfl⟩ : ∃ g, f = g + 1 := ⟨f - 1, by omega⟩
      rw [xGlyphPositionsModel_hasScript_11, g_f16 hg h1, q_bn_s, if_neg (nI_ge (by omega) (by omega)), if_neg m_1ne, nI_1]
      exact ih (k + 1) f (by omega) (by omega)
  have key : ∀ (d k f : Nat), k + d = (u b).val → d < f → ((∀ j, k ≤ j → j < (u b).val → ¬ nI (s_4 u (b + 2 + 6 * j)) = tag) → xGlyphPositionsModel_hasScript_11 N t tag (nI b) f 0 (nI k) = some 0) ∧ ∀ q, k ≤ q → q < (u b).val → nI (s_4 u (b + 2 + 6 * q)) = tag → xGlyphPositionsModel_hasScript_11 N t tag (nI b) f 0 (nI k) = some 1 := by
    intro d
    induction d with
    | zero =>
      intro k f hk hf
      obtain ⟨f, rfl⟩ : ∃ g, f = g + 1 := ⟨f - 1, by omega⟩
      refine ⟨fun _ => ?_, fun q g1 g2 => by omega⟩
      rw [xGlyphPositionsModel_hasScript_11, g_f16 hg h1, q_bn_s, if_pos (nI_le (by omega) (by omega))]
      rfl
    | succ d ih =>
      intro k f hk hf
      obtain ⟨f, rfl⟩ : ∃ g, f = g + 1 := ⟨f - 1, by omega⟩
      have e : xGlyphPositionsModel_hasScript_11 N t tag (nI b) (f + 1) 0 (nI k) = if nI (s_4 u (b + 2 + 6 * k)) = tag then xGlyphPositionsModel_hasScript_11 N t tag (nI b) f 1 (nI (k + 1)) else xGlyphPositionsModel_hasScript_11 N t tag (nI b) f 0 (nI (k + 1)) := by
        rw [xGlyphPositionsModel_hasScript_11, g_f16 hg h1, q_bn_s, if_neg (nI_ge (by omega) (by omega)), if_pos rfl, il2, il6, nI_add, pk_mul, nI_add, g_f32 hg (by omega), q_bn_s, nI_1]
      rw [e]
      obtain ⟨i1, i2⟩ := ih (k + 1) f (by omega) (by omega)
      constructor
      · intro g
        rw [if_neg (g k (by omega) (by omega))]
        exact i1 (fun j g1 g2 => g j (by omega) g2)
      · intro q g1 g2 g3
        by_cases hk2 : nI (s_4 u (b + 2 + 6 * k)) = tag
        · rw [if_pos hk2]
          exact one d (k + 1) f (by omega) (by omega)
        · rw [if_neg hk2]
          have : q ≠ k := fun e => hk2 (e ▸ g3)
          exact i2 q (by omega) g2 g3
  have hsc := l_scan (fun f x j => xGlyphPositionsModel_scriptAt_11 N t tag (nI b) f x (nI j)) (u b).val (fun j => nI (s_4 u (b + 2 + 6 * j)) = tag) (fun j => nI (b + (u (b + 6 + 6 * j)).val)) (fun f x => by
      show xGlyphPositionsModel_scriptAt_11 N t _ _ (f + 1) _ _ = _
      rw [xGlyphPositionsModel_scriptAt_11, g_f16 hg h1, q_bn_s, if_pos (nI_le (by omega) (by omega))]) (fun f x j hj hM => by
      show xGlyphPositionsModel_scriptAt_11 N t _ _ (f + 1) _ _ = xGlyphPositionsModel_scriptAt_11 N t _ _ f _ _
      rw [xGlyphPositionsModel_scriptAt_11, g_f16 hg h1, q_bn_s, if_neg (nI_ge (by omega) (by omega)), il2, il6, nI_add b 2, pk_mul, nI_add, g_f32 hg (by omega), q_bn_s, if_pos hM, nI_add b 6, nI_add, g_f16 hg (by omega), q_bn_s, q_lt, nI_add, nI_1]) (fun f x j hj hM => by
      show xGlyphPositionsModel_scriptAt_11 N t _ _ (f + 1) _ _ = xGlyphPositionsModel_scriptAt_11 N t _ _ f _ _
      rw [xGlyphPositionsModel_scriptAt_11, g_f16 hg h1, q_bn_s, if_neg (nI_ge (by omega) (by omega)), il2, il6, nI_add b 2, pk_mul, nI_add, g_f32 hg (by omega), q_bn_s, if_neg hM, nI_1]) (u b).val 0 N 0 (by omega) (by omega)
  have e4 : xGlyphPositionsModel_hasScript N tag t = xGlyphPositionsModel_hasScript_11 N t tag (nI b) N 0 (nI 0) := by
    unfold xGlyphPositionsModel_hasScript
    rw [il4, g_f16 hg (by omega), q_bn_s, hb]
    rfl
  have e5 : xGlyphPositionsModel_scriptAt N tag t = xGlyphPositionsModel_scriptAt_11 N t tag (nI b) N 0 (nI 0) := by
    unfold xGlyphPositionsModel_scriptAt
    rw [il4, g_f16 hg (by omega), q_bn_s, hb]
    rfl
  rw [e4, e5]
  obtain ⟨k1, k2⟩ := key (u b).val 0 N (by omega) (by omega)
  exact ⟨fun g => k1 (fun j _ hj => g j hj), fun q g1 g2 g3 => ⟨k2 q (by omega) g1 g2, hsc.2 q (by omega) g1 g2 (fun j x1 x2 => g3 j x2 (by omega))⟩⟩
theorem m_lang60 (hg : gH n u t) {a : Nat} {tag x : Int32} (h18 : t.1 18 = tag) (ha : a + 2 ≤ n) (h : s_tags n u (a + 2) False) (hN : 70000 < N) :
    ((∀ k, k < (u (a + 2)).val → ¬ nI (s_4 u (a + 2 + 2 + 6 * k)) = tag) → xGlyphPositionsModel_languageAt_60 N t (nI a) N x 0 = some x) ∧
    ∀ q, q < (u (a + 2)).val → nI (s_4 u (a + 2 + 2 + 6 * q)) = tag → (∀ k, k < (u (a + 2)).val → k ≠ q → ¬ nI (s_4 u (a + 2 + 2 + 6 * k)) = tag) → xGlyphPositionsModel_languageAt_60 N t (nI a) N x 0 = some (nI (a + (u (a + 2 + 6 + 6 * q)).val)) := by
  have hn := hg.1
  obtain ⟨⟨h1, h2, h3⟩, -⟩ := h
  have hsc := l_scan (fun f x j => xGlyphPositionsModel_languageAt_60 N t (nI a) f x (nI j)) (u (a + 2)).val (fun j => nI (s_4 u (a + 2 + 2 + 6 * j)) = tag) (fun j => nI (a + (u (a + 2 + 6 + 6 * j)).val)) (fun f x => by
      show xGlyphPositionsModel_languageAt_60 N t _ (f + 1) _ _ = _
      rw [xGlyphPositionsModel_languageAt_60, il2, nI_add, g_f16 hg (by omega), q_bn_s, if_pos (nI_le (by omega) (by omega))]) (fun f x j hj hM => by
      show xGlyphPositionsModel_languageAt_60 N t _ (f + 1) _ _ = xGlyphPositionsModel_languageAt_60 N t _ f _ _
      rw [xGlyphPositionsModel_languageAt_60, il2, nI_add a 2, g_f16 hg (by omega), q_bn_s, if_neg (nI_ge (by omega) (by omega)), il4, il6, nI_add a 4, pk_mul, nI_add, g_f32 hg (by omega), q_bn_s, h18, if_pos (by rw [← hM, show a + 4 + 6 * j = a + 2 + 2 + 6 * j by omega]), il8, nI_add a 8, nI_add, g_f16 hg (by omega), q_bn_s, q_lt, nI_add, nI_1, show a + 8 + 6 * j = a + 2 + 6 + 6 * j by omega]) (fun f x j hj hM => by
      show xGlyphPositionsModel_languageAt_60 N t _ (f + 1) _ _ = xGlyphPositionsModel_languageAt_60 N t _ f _ _
      rw [xGlyphPositionsModel_languageAt_60, il2, nI_add a 2, g_f16 hg (by omega), q_bn_s, if_neg (nI_ge (by omega) (by omega)), il4, il6, nI_add a 4, pk_mul, nI_add, g_f32 hg (by omega), q_bn_s, h18, if_neg (by rw [show a + 4 + 6 * j = a + 2 + 2 + 6 * j by omega]; exact hM), nI_1]) (u (a + 2)).val 0 N x (by omega) (by omega)
  exact ⟨fun g => hsc.1 (fun j _ hj => g j hj), fun q g1 g2 g3 => hsc.2 q (by omega) g1 g2 (fun j x1 x2 => g3 j x2 (by omega))⟩
/-- the language's place: both find the same, or none -/
theorem l_lang (hf : fH n u s) (hg : gH n u t) (hh : s_head n u) (hS : s_scripts n u) {x1 x2 : Int32} (h17 : t.1 17 = x1) (h18 : t.1 18 = x2) (hN : 70000 < N) :
    (xChoice_languageAt N x1 x2 s = some (-1) ∧ xGlyphPositionsModel_languageAt N t = some 0) ∨ ∃ a, 0 < a ∧ s_lang n u a ∧ xChoice_languageAt N x1 x2 s = some (nI a) ∧ xGlyphPositionsModel_languageAt N t = some (nI a) := by
  have hn := hf.1
  obtain ⟨h0, -, -, h4, -⟩ := hh
  obtain ⟨hT, hL⟩ := hS
  have hb2 := hT.1.1
  have hm64 := hT.1.2.1
  have h32 : ∀ q, q < (u (u 4).val).val → ∃ r : Int32, xChoice_languageAt_32 N s x2 (nI (u 4).val) (nI (u ((u 4).val + 6 + 6 * q)).val) = some r ∧ ∀ (w0 : Int32), xGlyphPositionsModel_hasScript N w0 t = some 1 → xGlyphPositionsModel_scriptAt N w0 t = some (nI ((u 4).val + (u ((u 4).val + 6 + 6 * q)).val)) → ((r = -1 ∧ xGlyphPositionsModel_languageAt_20 N t w0 = some 0) ∨ ∃ a, 0 < a ∧ s_lang n u a ∧ r = nI a ∧ xGlyphPositionsModel_languageAt_20 N t w0 = some (nI a)) := by
    intro q hq
    have hs := hL q hq
    generalize hA : (u 4).val + (u ((u 4).val + 6 + 6 * q)).val = A at *
    obtain ⟨s1, s2, s3, s4⟩ := hs
    have hct := c_byTag (N := N) hf s2 x2 hN
    unfold xChoice_languageAt_32
    rw [if_neg (c_m1e (by omega)), q_lt, nI_add, hA, il2, nI_add]
    have hlang : ∀ w0, xGlyphPositionsModel_hasScript N w0 t = some 1 → xGlyphPositionsModel_scriptAt N w0 t = some (nI A) → xGlyphPositionsModel_languageAt_20 N t w0 = xGlyphPositionsModel_languageAt_60 N t (nI A) N (if (u A).val = 0 then 0 else nI (A + (u A).val)) 0 := by
      intro w0 e1 e2
      unfold xGlyphPositionsModel_languageAt_20
      rw [e1, q_bn_s, if_neg m_1ne, e2, q_bn_s, g_f16 hg s1, q_bn_s, q_bn_s, q_lt, nI_add]
      simp (disch := omega) only [m_le0]
      by_cases d : (u A).val = 0
      · rw [if_pos d, if_pos d]
      · rw [if_neg d, if_neg d]
    rcases tag_ex s2 x2 with hno | ⟨k, k1, k2, k3⟩
    · rw [hct.1 hno, q_bn_s, if_pos rfl, f_u16 hf (by omega), q_bn_s, nI_add]
      simp (disch := omega) only [m_eq0]
      by_cases d : (u A).val = 0
      · rw [if_pos d]
        refine ⟨-1, rfl, fun w0 e1 e2 => Or.inl ⟨rfl, ?_⟩⟩
        rw [hlang w0 e1 e2, if_pos d]
        exact (m_lang60 (N := N) (x := 0) hg h18 s1 s2 hN).1 hno
      · rw [if_neg d]
        refine ⟨_, rfl, fun w0 e1 e2 => Or.inr ⟨A + (u A).val, by omega, s3 d, rfl, ?_⟩⟩
        rw [hlang w0 e1 e2, if_neg d]
        exact (m_lang60 (N := N) (x := nI (A + (u A).val)) hg h18 s1 s2 hN).1 hno
    · rw [hct.2 k k1 k2 k3, q_bn_s, if_neg (c_m1e (by omega)), nI_add]
      refine ⟨_, rfl, fun w0 e1 e2 => Or.inr ⟨A + (u (A + 2 + 6 + 6 * k)).val, by omega, ?_, rfl, ?_⟩⟩
      · have := s4 k k1
        rw [show A + 8 + 6 * k = A + 2 + 6 + 6 * k by omega] at this
        exact this
      · rw [hlang w0 e1 e2]
        exact (m_lang60 (N := N) hg h18 s1 s2 hN).2 k k1 k2 k3
  have go : ∀ (tag : Int32), (xChoice_placeByTag N (nI (u 4).val) tag s = some (-1) ∧ xGlyphPositionsModel_hasScript N tag t = some 0) ∨ ∃ q, q < (u (u 4).val).val ∧ xChoice_placeByTag N (nI (u 4).val) tag s = some (nI (u ((u 4).val + 6 + 6 * q)).val) ∧ xGlyphPositionsModel_hasScript N tag t = some 1 ∧ xGlyphPositionsModel_scriptAt N tag t = some (nI ((u 4).val + (u ((u 4).val + 6 + 6 * q)).val)) := by
    intro tag
    have c1 := c_byTag (N := N) hf hT tag hN
    have c2 := m_script2 (N := N) hg h0 hT tag hN
    rcases tag_ex hT tag with hno | ⟨k, k1, k2, k3⟩
    · exact Or.inl ⟨c1.1 hno, c2.1 hno⟩
    · exact Or.inr ⟨k, k1, c1.2 k k1 k2 k3, (c2.2 k k1 k2 k3).1, (c2.2 k k1 k2 k3).2⟩
  unfold xChoice_languageAt xGlyphPositionsModel_languageAt
  rw [il4, f_u16 hf (by omega), q_bn_s, h17]
  have fin : ∀ q (w0 : Int32), q < (u (u 4).val).val → xGlyphPositionsModel_hasScript N w0 t = some 1 → xGlyphPositionsModel_scriptAt N w0 t = some (nI ((u 4).val + (u ((u 4).val + 6 + 6 * q)).val)) → (xChoice_languageAt_32 N s x2 (nI (u 4).val) (nI (u ((u 4).val + 6 + 6 * q)).val) = some (-1) ∧ xGlyphPositionsModel_languageAt_20 N t w0 = some 0) ∨ ∃ a, 0 < a ∧ s_lang n u a ∧ xChoice_languageAt_32 N s x2 (nI (u 4).val) (nI (u ((u 4).val + 6 + 6 * q)).val) = some (nI a) ∧ xGlyphPositionsModel_languageAt_20 N t w0 = some (nI a) := by
    intro q w0 hq e1 e2
    obtain ⟨r, f1, f2⟩ := h32 q hq
    rcases f2 w0 e1 e2 with ⟨rfl, f3⟩ | ⟨a, a1, a2, rfl, f3⟩
    · exact Or.inl ⟨f1, f3⟩
    · exact Or.inr ⟨a, a1, a2, f1, f3⟩
  rcases go x1 with ⟨e1, e2⟩ | ⟨q, hq, e1, e2, e3⟩
  · rw [e1, q_bn_s, if_pos rfl, e2, q_bn_s, if_pos rfl]
    rcases go 1145457748 with ⟨e3, e4⟩ | ⟨q, hq, e3, e4, e5⟩
    · rw [e3, q_bn_s]
      unfold xChoice_languageAt_32 xGlyphPositionsModel_languageAt_20
      rw [if_pos rfl, e4, q_bn_s, if_pos rfl]
      exact Or.inl ⟨rfl, rfl⟩
    · rw [e3, q_bn_s]
      exact fin q _ hq e4 e5
  · rw [e1, q_bn_s, if_neg (c_m1e (by omega)), e2, q_bn_s, if_neg m_1ne]
    exact fin q _ hq e2 e3
end PSA
