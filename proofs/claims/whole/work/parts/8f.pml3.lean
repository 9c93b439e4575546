section PMl3
variable {n N : Nat} {u : Nat → Fin 65536} {st : QSt}
theorem mo_le {v w : Nat} {G : Prop} (h2 : G → w = v) (h3 : ¬ G → w = 0) : w ≤ v := by
  by_cases g : G
  · rw [h2 g]; omega
  · rw [h3 g]; omega
theorem m_le0 {x : Nat} (h : x < 2 ^ 31) : nI x ≤ 0 ↔ x = 0 := by
  rw [il0, nI_leI h (by omega)]; omega
theorem m_eq0 {x : Nat} (h : x < 2 ^ 31) : nI x = 0 ↔ x = 0 := by
  rw [il0, nI_eq h (by omega)]
theorem m_eq1 {x : Nat} (h : x < 2 ^ 31) : nI x = 1 ↔ x = 1 := by
  rw [il1, nI_eq h (by omega)]
theorem m_eq2 {x : Nat} (h : x < 2 ^ 31) : nI x = 2 ↔ x = 2 := by
  rw [il2, nI_eq h (by omega)]
theorem m_lt1 {x : Nat} (h : x < 2 ^ 31) : nI x < 1 ↔ x = 0 := by
  rw [il1, nI_ltI h (by omega)]; omega
theorem m_ge {x c : Nat} (h : x < 2 ^ 31) (hc : c < 2 ^ 31) : nI c < nI x ↔ c < x := nI_ltI hc h
theorem m_rise4 (k : Nat) {x y : Nat} (hx : x < 2 ^ 60) (hy : y < 2 ^ 60) : (¬ lg_cmp (lN x) (if k = 0 then -1 else lN y) ≤ 0) ↔ (k = 0 ∨ y < x) := by
  by_cases k0 : k = 0
  · rw [if_pos k0, m_cmpm (by omega)]
    simp [k0]
  · rw [if_neg k0, m_cmp (by omega) (by omega)]
    by_cases x1 : x < y
    · rw [if_pos x1]; simp; omega
    · rw [if_neg x1]
      by_cases x2 : x = y
      · rw [if_pos x2]; simp; omega
      · rw [if_neg x2]; simp; omega
theorem m_rise4e (k : Nat) {x y : Nat} (hx : x < 2 ^ 60) (hy : y < 2 ^ 60) : (¬ lg_cmp (lN x) (if k = 0 then -1 else lN y) < 0) ↔ (k = 0 ∨ y ≤ x) := by
  by_cases k0 : k = 0
  · rw [if_pos k0, m_cmpm (by omega)]
    simp [k0]
  · rw [if_neg k0, m_cmp (by omega) (by omega)]
    by_cases x1 : x < y
    · rw [if_pos x1]; simp; omega
    · rw [if_neg x1]
      by_cases x2 : x = y
      · rw [if_pos x2]; simp; omega
      · rw [if_neg x2]; simp; omega
theorem m_loopE {α σ : Type} (F : Nat → σ → Nat → QSt → Option α) (E : σ → QSt → Option α) (c : Nat → σ) (q : Nat) (V : Nat → Prop)
    (hx : ∀ f x s, F (f + 1) x q s = E x s)
    (hb : ∀ f x k l, k < q → F (f + 1) x k (mS st 1 l) = E x (mS st 1 l))
    (hs : ∀ f k L, k < q → L ≤ 20000 → (∀ j, j < k → V j) → ∃ x' s', F (f + 1) (c k) k (mS st 0 (nI L)) = F f x' (k + 1) s' ∧ mQ st (V k) L s' ∧ (V k → x' = c (k + 1)))
    {f : Nat} {s : QSt} {G : Prop} {L : Nat} (hf : q < f) (hq : mQ st G L s) : ∃ x s', F f (c 0) 0 s = E x s' ∧ mQ st (G ∧ ∀ j, j < q → V j) L s' ∧ (G ∧ (∀ j, j < q → V j) → x = c q) := by
  obtain ⟨x, s', h1, h2, h3⟩ := m_loop F E c q V (fun _ => 0) hx hb (fun f k L hk hL hv => by
    obtain ⟨x', s', h1, h2, h3⟩ := hs f k L hk hL hv
    exact ⟨x', s', h1, h2.to (by simp [hL]) (fun _ => rfl), h3⟩) f s G L hf hq
  rw [s_sum0] at h2 h3
  have hi : (G ∧ (∀ j, j < q → V j) ∧ L + 0 ≤ 20000) ↔ (G ∧ ∀ j, j < q → V j) := ⟨fun h => ⟨h.1, h.2.1⟩, fun h => ⟨h.1, h.2, (hq.1 h.1).1⟩⟩
  exact ⟨x, s', h1, h2.to hi (fun _ => rfl), fun h => h3 (hi.mpr h)⟩
theorem m_scripts (hm : mH n u st) (hh : 10 ≤ n) {G : Prop} {L : Nat} {s : QSt} (q : mQ st G L s) (hN : 70000 < N) : m1 st (xGlyphPositionsModel_checkScripts N s) (G ∧ s_scripts n u) L := by
  unfold xGlyphPositionsModel_checkScripts
  obtain ⟨s1, e1, q1⟩ := m_u16 hm q 4 (by omega)
  rw [ll4, e1, q_bm_s, q_lt, nI_l (by omega), il64]
  generalize ha : (u 4).val = a
  have hal : a < 65536 := by omega
  obtain ⟨w, s2, e2, q2, w1, w2, w3⟩ := m_most hm q1 a (m := 64) (by omega) (by omega)
  rw [e2, q_bm_s]
  have hw : w < 65536 := by
    by_cases g : (G ∧ 4 + 2 ≤ n) ∧ a + 2 ≤ n ∧ (u a).val ≤ 64
    · rw [w2 g]; omega
    · rw [w3 g]; omega
  obtain ⟨s3, e3, q3⟩ := m_loop0 (st := st) (fun f (c : Int64) k s => xGlyphPositionsModel_checkScripts_25 N (lN a) (nI w) f c (nI k) s) (fun k => if k = 0 then -1 else lN (s_4 u (a + 2 + 6 * (k - 1)))) w (fun k => (k = 0 ∨ s_4 u (a + 2 + 6 * (k - 1)) < s_4 u (a + 2 + 6 * k)) ∧ a + 2 + 6 * k + 6 ≤ n ∧ s_script n u (a + (u (a + 6 + 6 * k)).val)) (fun f _ s => by
      show xGlyphPositionsModel_checkScripts_25 N _ _ (f + 1) _ _ _ = _
      rw [xGlyphPositionsModel_checkScripts_25, if_pos (nI_le (by omega) (by omega))]) (fun f _ k l hk => by
      show xGlyphPositionsModel_checkScripts_25 N _ _ (f + 1) _ _ _ = _
      rw [xGlyphPositionsModel_checkScripts_25, if_neg (nI_ge (by omega) (by omega)), mS_b, if_neg m_1ne]) (fun f k L hk hL _ => by
      have h4 := @s_4lt u (a + 2 + 6 * k)
      have h4' := @s_4lt u (a + 2 + 6 * (k - 1))
      refine ⟨lN (s_4 u (a + 2 + 6 * k)), ?_⟩
      show ∃ s', xGlyphPositionsModel_checkScripts_25 N _ _ (f + 1) _ _ _ = xGlyphPositionsModel_checkScripts_25 N _ _ f _ _ _ ∧ _
      rw [xGlyphPositionsModel_checkScripts_25, if_neg (nI_ge (by omega) (by omega)), if_pos (mS_b ..), ll2, ll6, nI_l (by omega), lN_mul, lN_add, lN_add]
      obtain ⟨s4, e4, q4⟩ := m_u32 hm (mQ.good (st := st) hL) (a + 2 + 6 * k) (by omega)
      rw [e4, q_bm_s]
      unfold xGlyphPositionsModel_checkScripts_71
      rw [q_ni]
      obtain ⟨s5, e5, q5⟩ := m_needB q4 (¬ lg_cmp (lN (s_4 u (a + 2 + 6 * k))) (if k = 0 then -1 else lN (s_4 u (a + 2 + 6 * (k - 1)))) ≤ 0)
      rw [e5, q_bv_s, ll6, nI_l (by omega), lN_mul, lN_add, lN_add]
      obtain ⟨s6, e6, q6⟩ := m_u16 hm q5 (a + 6 + 6 * k) (by omega)
      rw [e6, q_bm_s, nI_l (by omega), lN_add]
      obtain ⟨s7, e7, q7⟩ := m_script (N := N) hm hh q6 (a + (u (a + 6 + 6 * k)).val) (by omega) hN
      rw [e7, q_bv_s, nI_1]
      refine ⟨s7, rfl, q7.to ?_ (fun _ => rfl), fun _ => by rw [if_neg (by omega)]; rfl⟩
      rw [m_rise4 k (by omega) (by omega)]
      constructor
      · rintro ⟨⟨⟨⟨g1, g2⟩, g3⟩, g4⟩, g5⟩
        exact ⟨g3, by omega, g5⟩
      · rintro ⟨g3, g4, g5⟩
        exact ⟨⟨⟨⟨trivial, by omega⟩, g3⟩, by omega⟩, g5⟩) (show w < N by omega) q2
  rw [if_pos rfl] at e3
  refine ⟨s3, e3, q3.to ?_ (fun _ => rfl)⟩
  unfold s_scripts s_tags s_list
  rw [ha]
  constructor
  · rintro ⟨g1, g2⟩
    have ew := w2 g1
    obtain ⟨g1, g3, g4⟩ := g1
    rw [ew] at g2
    refine ⟨g1.1, ⟨⟨g3, g4, ?_⟩, fun k hk => ?_⟩, fun k hk => (g2 k hk).2.2⟩
    · exact s_fill (by omega) (fun j hj => by have := (g2 j hj).2.1; omega)
    · have := (g2 (k + 1) hk).1.resolve_left (by omega)
      exact Or.inl this
  · rintro ⟨g1, ⟨⟨g3, g4, g5⟩, g6⟩, g7⟩
    have g0 : (G ∧ 4 + 2 ≤ n) ∧ a + 2 ≤ n ∧ (u a).val ≤ 64 := ⟨⟨g1, by omega⟩, g3, g4⟩
    refine ⟨g0, fun j hj => ?_⟩
    rw [w2 g0] at hj
    refine ⟨?_, by omega, g7 j hj⟩
    by_cases j0 : j = 0
    · exact Or.inl j0
    · have := (g6 (j - 1) (by omega)).resolve_right (fun h => h.1)
      rw [show j - 1 + 1 = j by omega] at this
      exact Or.inr this
theorem m_feat124 (hm : mH n u st) (hh : 10 ≤ n) (R : Int64 → Int32 → QSt → Option QSt) (x1 x4 : Int64) (x3 x6 : Int32) {v b : Nat} (hb : b < 2 ^ 58) (hv : v < 65536) {G : Prop} {L : Nat} {s : QSt} (q : mQ st G L s) (hN : 70000 < N) : ∃ s', xGlyphPositionsModel_checkFeatures_124 N R x1 x3 x4 x6 (lN b) (nI v) N 0 s = R x4 (x6 + 1) s' ∧ mQ st (G ∧ ∀ j, j < v → b + 4 + 2 * j + 2 ≤ n ∧ (u (b + 4 + 2 * j)).val < (u (u 8).val).val) L s' := by
  obtain ⟨-, s', e, q', -⟩ := m_loopE (st := st) (fun f (_ : Unit) j s => xGlyphPositionsModel_checkFeatures_124 N R x1 x3 x4 x6 (lN b) (nI v) f (nI j) s) (fun _ s => R x4 (x6 + 1) s) (fun _ => ()) v (fun j => b + 4 + 2 * j + 2 ≤ n ∧ (u (b + 4 + 2 * j)).val < (u (u 8).val).val) (fun f _ s => by
      show xGlyphPositionsModel_checkFeatures_124 N _ _ _ _ _ _ _ (f + 1) _ _ = _
      rw [xGlyphPositionsModel_checkFeatures_124, if_pos (nI_le (by omega) (by omega))]) (fun f _ k l hk => by
      show xGlyphPositionsModel_checkFeatures_124 N _ _ _ _ _ _ _ (f + 1) _ _ = _
      rw [xGlyphPositionsModel_checkFeatures_124, if_neg (nI_ge (by omega) (by omega)), mS_b, if_neg m_1ne]) (fun f k L hk hL _ => by
      refine ⟨(), ?_⟩
      show ∃ s', xGlyphPositionsModel_checkFeatures_124 N _ _ _ _ _ _ _ (f + 1) _ _ = xGlyphPositionsModel_checkFeatures_124 N _ _ _ _ _ _ _ f _ _ ∧ _
      rw [xGlyphPositionsModel_checkFeatures_124, if_neg (nI_ge (by omega) (by omega)), if_pos (mS_b ..), ll4, ll2, nI_l (by omega), lN_mul, lN_add, lN_add]
      obtain ⟨s4, e4, q4⟩ := m_u16 hm (mQ.good (st := st) hL) (b + 4 + 2 * k) (by omega)
      rw [e4, q_bm_s]
      obtain ⟨s5, e5, q5⟩ := m_lc hm q4
      rw [e5, q_bm_s]
      simp (disch := omega) only [nI_leI]
      unfold xGlyphPositionsModel_checkFeatures_169
      rw [q_ni]
      obtain ⟨s6, e6, q6⟩ := m_needB q5 (¬ (u (u 8).val).val ≤ (u (b + 4 + 2 * k)).val)
      rw [e6, q_bv_s, nI_1]
      refine ⟨s6, rfl, q6.to ⟨fun g => ⟨g.1.1.2, by omega⟩, fun g => ⟨⟨⟨trivial, g.1⟩, by omega, hm.pos (by have := g.2; omega)⟩, by omega⟩⟩ (fun _ => rfl), fun _ => trivial⟩) (show v < N by omega) q
  exact ⟨s', e, q'⟩
theorem m_features (hm : mH n u st) (hh : 10 ≤ n) {G : Prop} {L : Nat} {s : QSt} (q : mQ st G L s) (hN : 70000 < N) : m1 st (xGlyphPositionsModel_checkFeatures N s) (G ∧ s_features n u) L := by
  unfold xGlyphPositionsModel_checkFeatures
  obtain ⟨s1, e1, q1⟩ := m_u16 hm q 6 (by omega)
  rw [ll6, e1, q_bm_s, q_lt, nI_l (by omega), il64]
  generalize ha : (u 6).val = a
  have hal : a < 65536 := by omega
  obtain ⟨w, s2, e2, q2, w1, w2, w3⟩ := m_most hm q1 a (m := 64) (by omega) (by omega)
  rw [e2, q_bm_s]
  have hw : w < 65536 := by
    by_cases g : (G ∧ 6 + 2 ≤ n) ∧ a + 2 ≤ n ∧ (u a).val ≤ 64
    · rw [w2 g]; omega
    · rw [w3 g]; omega
  obtain ⟨s3, e3, q3⟩ := m_loop0 (st := st) (fun f (c : Int64) k s => xGlyphPositionsModel_checkFeatures_25 N (lN a) (nI w) f c (nI k) s) (fun k => if k = 0 then -1 else lN (s_4 u (a + 2 + 6 * (k - 1)))) w (fun k => (k = 0 ∨ s_4 u (a + 2 + 6 * (k - 1)) ≤ s_4 u (a + 2 + 6 * k)) ∧ a + 2 + 6 * k + 6 ≤ n ∧ s_nums n u (a + (u (a + 6 + 6 * k)).val + 2) (u (u 8).val).val) (fun f _ s => by
      show xGlyphPositionsModel_checkFeatures_25 N _ _ (f + 1) _ _ _ = _
      rw [xGlyphPositionsModel_checkFeatures_25, if_pos (nI_le (by omega) (by omega))]) (fun f _ k l hk => by
      show xGlyphPositionsModel_checkFeatures_25 N _ _ (f + 1) _ _ _ = _
      rw [xGlyphPositionsModel_checkFeatures_25, if_neg (nI_ge (by omega) (by omega)), mS_b, if_neg m_1ne]) (fun f k L hk hL _ => by
      have h4 := @s_4lt u (a + 2 + 6 * k)
      have h4' := @s_4lt u (a + 2 + 6 * (k - 1))
      refine ⟨lN (s_4 u (a + 2 + 6 * k)), ?_⟩
      show ∃ s', xGlyphPositionsModel_checkFeatures_25 N _ _ (f + 1) _ _ _ = xGlyphPositionsModel_checkFeatures_25 N _ _ f _ _ _ ∧ _
      rw [xGlyphPositionsModel_checkFeatures_25, if_neg (nI_ge (by omega) (by omega)), if_pos (mS_b ..), ll2, ll6, nI_l (by omega), lN_mul, lN_add, lN_add]
      obtain ⟨s4, e4, q4⟩ := m_u32 hm (mQ.good (st := st) hL) (a + 2 + 6 * k) (by omega)
      rw [e4, q_bm_s]
      unfold xGlyphPositionsModel_checkFeatures_71
      rw [q_ni]
      obtain ⟨s5, e5, q5⟩ := m_needB q4 (¬ lg_cmp (lN (s_4 u (a + 2 + 6 * k))) (if k = 0 then -1 else lN (s_4 u (a + 2 + 6 * (k - 1)))) < 0)
      rw [e5, q_bv_s, ll6, nI_l (by omega), lN_mul, lN_add, lN_add]
      obtain ⟨s6, e6, q6⟩ := m_u16 hm q5 (a + 6 + 6 * k) (by omega)
      rw [e6, q_bm_s, nI_l (by omega), lN_add, q_lt]
      generalize hb : a + (u (a + 6 + 6 * k)).val = b
      have hbl : b < 2 ^ 20 := by omega
      obtain ⟨s7, e7, q7⟩ := m_u16 hm q6 b (by omega)
      rw [e7, q_bm_s, ll2, lN_add, il64]
      obtain ⟨v, s8, e8, q8, v1, v2, v3⟩ := m_most hm q7 (b + 2) (m := 64) (by omega) (by omega)
      rw [e8, q_bm_s]
      have hv : v < 65536 := by
        have := mo_le v2 v3
        omega
      obtain ⟨s9, e9, q9⟩ := m_feat124 hm hh (xGlyphPositionsModel_checkFeatures_25 N (lN a) (nI w) f) (lN a) (lN (s_4 u (a + 2 + 6 * k))) (nI w) (nI k) (v := v) (b := b) (by omega) hv q8 hN
      rw [e9, nI_1]
      refine ⟨s9, rfl, q9.to ?_ (fun _ => rfl), fun _ => by rw [if_neg (by omega)]; rfl⟩
      rw [m_rise4e k (by omega) (by omega)] at v2 ⊢
      unfold s_nums s_list
      constructor
      · rintro ⟨g1, g2⟩
        have ev := v2 g1
        obtain ⟨⟨⟨⟨⟨g3, g4⟩, g5⟩, g6⟩, g7⟩, g8, g9⟩ := g1
        rw [ev] at g2
        exact ⟨g5, by omega, ⟨g8, g9, s_fill (by omega) (fun j hj => by have := (g2 j hj).1; omega)⟩, fun j hj => (g2 j hj).2⟩
      · rintro ⟨g5, g4, ⟨g8, g9, g10⟩, g11⟩
        have g0 : ((((True ∧ a + 2 + 6 * k + 4 ≤ n) ∧ (k = 0 ∨ s_4 u (a + 2 + 6 * (k - 1)) ≤ s_4 u (a + 2 + 6 * k))) ∧ a + 6 + 6 * k + 2 ≤ n) ∧ b + 2 ≤ n) ∧ b + 2 + 2 ≤ n ∧ (u (b + 2)).val ≤ 64 := ⟨⟨⟨⟨⟨trivial, by omega⟩, g5⟩, by omega⟩, by omega⟩, g8, g9⟩
        refine ⟨g0, fun j hj => ?_⟩
        rw [v2 g0] at hj
        exact ⟨by omega, g11 j hj⟩) (show w < N by omega) q2
  rw [if_pos rfl] at e3
  refine ⟨s3, e3, q3.to ?_ (fun _ => rfl)⟩
  unfold s_features s_tags s_list
  rw [ha]
  constructor
  · rintro ⟨g1, g2⟩
    have ew := w2 g1
    obtain ⟨g1, g3, g4⟩ := g1
    rw [ew] at g2
    refine ⟨g1.1, ⟨⟨g3, g4, ?_⟩, fun k hk => ?_⟩, fun k hk => (g2 k hk).2.2⟩
    · exact s_fill (by omega) (fun j hj => by have := (g2 j hj).2.1; omega)
    · have : s_4 u (a + 2 + 6 * k) ≤ s_4 u (a + 2 + 6 * (k + 1)) := (g2 (k + 1) hk).1.resolve_left (by omega)
      by_cases x : s_4 u (a + 2 + 6 * k) = s_4 u (a + 2 + 6 * (k + 1))
      · exact Or.inr ⟨trivial, x⟩
      · exact Or.inl (by omega)
  · rintro ⟨g1, ⟨⟨g3, g4, g5⟩, g6⟩, g7⟩
    have g0 : (G ∧ 6 + 2 ≤ n) ∧ a + 2 ≤ n ∧ (u a).val ≤ 64 := ⟨⟨g1, by omega⟩, g3, g4⟩
    refine ⟨g0, fun j hj => ?_⟩
    rw [w2 g0] at hj
    refine ⟨?_, by omega, g7 j hj⟩
    by_cases j0 : j = 0
    · exact Or.inl j0
    · have := g6 (j - 1) (by omega)
      rw [show j - 1 + 1 = j by omega] at this
      refine Or.inr ?_
      omega
theorem m_head (hm : mH n u st) {G : Prop} {L : Nat} {s : QSt} (q : mQ st G L s) : m1 st (xGlyphPositionsModel_checkHead s) (G ∧ s_head n u) L := by
  have h64 : ∀ {G1 : Prop} {s1 : QSt} (c : Prop), mQ st G1 L s1 → m1 st (xGlyphPositionsModel_checkHead_64 (bI c) s1) (G1 ∧ c) L := by
    intro G1 s1 c q1
    unfold xGlyphPositionsModel_checkHead_64
    obtain ⟨s2, e2, q2⟩ := m_needB q1 c
    rw [e2, q_bv_s]
    exact ⟨s2, rfl, q2⟩
  have h63 : ∀ {G1 : Prop} {s1 : QSt}, mQ st G1 L s1 → m1 st (xGlyphPositionsModel_checkHead_63 s1) False L := by
    intro G1 s1 q1
    obtain ⟨s2, e2, q2⟩ := h64 False q1
    rw [bI_f (fun h => h)] at e2
    exact ⟨s2, e2, q2.to (by simp) (fun _ => rfl)⟩
  have h25 : ∀ {G1 : Prop} {s1 : QSt} (c : Prop), mQ st G1 L s1 → m1 st (xGlyphPositionsModel_checkHead_25 (bI c) s1) (G1 ∧ c ∧ 10 ≤ n ∧ (u 4).val ≠ 0 ∧ (u 6).val ≠ 0 ∧ (u 8).val ≠ 0) L := by
    intro G1 s1 c q1
    unfold xGlyphPositionsModel_checkHead_25
    obtain ⟨s2, e2, q2⟩ := m_needB q1 c
    rw [e2, q_bv_s, ll4]
    obtain ⟨s3, e3, q3⟩ := m_u16 hm q2 4 (by omega)
    rw [e3, q_bm_s]
    simp (disch := omega) only [m_le0]
    by_cases c4 : (u 4).val = 0
    · rw [if_pos c4]
      obtain ⟨s4, e4, q4⟩ := h63 q3
      exact ⟨s4, e4, q4.to ⟨fun h => h.elim, fun h => h.2.2.2.1 c4⟩ (fun _ => rfl)⟩
    rw [if_neg c4, ll6]
    obtain ⟨s4, e4, q4⟩ := m_u16 hm q3 6 (by omega)
    rw [e4, q_bm_s]
    simp (disch := omega) only [m_le0]
    by_cases c6 : (u 6).val = 0
    · rw [if_pos c6]
      obtain ⟨s5, e5, q5⟩ := h63 q4
      exact ⟨s5, e5, q5.to ⟨fun h => h.elim, fun h => h.2.2.2.2.1 c6⟩ (fun _ => rfl)⟩
    rw [if_neg c6, ll8]
    obtain ⟨s5, e5, q5⟩ := m_u16 hm q4 8 (by omega)
    rw [e5, q_bm_s]
    simp (disch := omega) only [m_le0]
    by_cases c8 : (u 8).val = 0
    · rw [if_pos c8]
      obtain ⟨s6, e6, q6⟩ := h63 q5
      exact ⟨s6, e6, q6.to ⟨fun h => h.elim, fun h => h.2.2.2.2.2 c8⟩ (fun _ => rfl)⟩
    rw [if_neg c8]
    obtain ⟨s6, e6, q6⟩ := h64 True q5
    rw [bI_t trivial] at e6
    exact ⟨s6, e6, q6.to ⟨fun h => ⟨h.1.1.1.1.1, h.1.1.1.1.2, h.1.2, c4, c6, c8⟩, fun h => ⟨⟨⟨⟨⟨h.1, h.2.1⟩, by omega⟩, by omega⟩, by omega⟩, trivial⟩⟩ (fun _ => rfl)⟩
  unfold xGlyphPositionsModel_checkHead xGlyphPositionsModel_checkHead_24
  obtain ⟨s1, e1, q1⟩ := m_u16 hm q 0 (by omega)
  rw [ll0, e1, q_bm_s]
  simp (disch := omega) only [m_eq1]
  by_cases c1 : (u 0).val = 1
  · rw [if_pos c1, ll2]
    obtain ⟨s2, e2, q2⟩ := m_u16 hm q1 2 (by omega)
    rw [e2, q_bm_s]
    simp (disch := omega) only [m_eq0]
    by_cases c2 : (u 2).val = 0
    · rw [if_pos c2]
      obtain ⟨s3, e3, q3⟩ := h25 True q2
      rw [bI_t trivial] at e3
      exact ⟨s3, e3, q3.to ⟨fun h => ⟨h.1.1.1, h.2.2.1, c1, c2, h.2.2.2⟩, fun h => ⟨⟨⟨h.1, by have := h.2.1; omega⟩, by have := h.2.1; omega⟩, trivial, h.2.1, h.2.2.2.2⟩⟩ (fun _ => rfl)⟩
    · rw [if_neg c2]
      obtain ⟨s3, e3, q3⟩ := h25 False q2
      rw [bI_f (fun h => h)] at e3
      exact ⟨s3, e3, q3.to ⟨fun h => h.2.1.elim, fun h => absurd h.2.2.2.1 c2⟩ (fun _ => rfl)⟩
  · rw [if_neg c1]
    obtain ⟨s3, e3, q3⟩ := h25 False q1
    rw [bI_f (fun h => h)] at e3
    exact ⟨s3, e3, q3.to ⟨fun h => h.2.1.elim, fun h => absurd h.2.2.1 c1⟩ (fun _ => rfl)⟩
end PMl3
