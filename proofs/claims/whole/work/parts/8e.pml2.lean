section PMl2
variable {n N : Nat} {u : Nat → Fin 65536} {st : QSt}
theorem mH.pos (hm : mH n u st) {a : Nat} (h : (u a).val ≠ 0) : a + 2 ≤ n := by
  refine Decidable.not_not.mp (fun g => h ?_)
  rw [hm.2.2.2 a (by omega)]
  rfl
theorem s_fill {b m sz : Nat} (h0 : b ≤ n) (h : ∀ j, j < m → b + sz * j + sz ≤ n) : b + m * sz ≤ n := by
  cases m with
  | zero => simpa using h0
  | succ m =>
    have := h m (by omega)
    have e : (m + 1) * sz = sz * m + sz := by rw [Nat.mul_comm, Nat.mul_succ]
    rw [e]
    omega
theorem m_loop0 {σ : Type} (F : Nat → σ → Nat → QSt → Option QSt) (c : Nat → σ) (q : Nat) (V : Nat → Prop)
    (hx : ∀ f x s, F (f + 1) x q s = some s)
    (hb : ∀ f x k l, k < q → F (f + 1) x k (mS st 1 l) = some (mS st 1 l))
    (hs : ∀ f k L, k < q → L ≤ 20000 → (∀ j, j < k → V j) → ∃ x' s', F (f + 1) (c k) k (mS st 0 (nI L)) = F f x' (k + 1) s' ∧ mQ st (V k) L s' ∧ (V k → x' = c (k + 1)))
    {f : Nat} {s : QSt} {G : Prop} {L : Nat} (hf : q < f) (hq : mQ st G L s) : m1 st (F f (c 0) 0 s) (G ∧ ∀ j, j < q → V j) L := by
  obtain ⟨s', h1, h2⟩ := m_loop1 F c q V (fun _ => 0) hx hb (fun f k L hk hL hv => by
    obtain ⟨x', s', h1, h2, h3⟩ := hs f k L hk hL hv
    exact ⟨x', s', h1, h2.to (by simp [hL]) (fun _ => rfl), h3⟩) hf hq
  rw [s_sum0] at h2
  exact ⟨s', h1, h2.to ⟨fun h => ⟨h.1, h.2.1⟩, fun h => ⟨h.1, h.2, (hq.1 h.1).1⟩⟩ (fun _ => rfl)⟩
theorem m_fc (hm : mH n u st) {G : Prop} {L : Nat} {s : QSt} (q : mQ st G L s) : mr st (xGlyphPositionsModel_featureCount s) (nI (u (u 6).val).val) (G ∧ 8 ≤ n ∧ (u 6).val + 2 ≤ n) L := by
  unfold xGlyphPositionsModel_featureCount
  obtain ⟨s1, e1, q1⟩ := m_u16 hm q 6 (by omega)
  rw [ll6, e1, q_bm_s, nI_l (by omega)]
  obtain ⟨s2, e2, q2⟩ := m_u16 hm q1 (u 6).val (by omega)
  rw [e2, q_bm_s]
  exact ⟨s2, rfl, q2.to and_assoc (fun _ => rfl)⟩
theorem m_lc (hm : mH n u st) {G : Prop} {L : Nat} {s : QSt} (q : mQ st G L s) : mr st (xGlyphPositionsModel_lookupCount s) (nI (u (u 8).val).val) (G ∧ 10 ≤ n ∧ (u 8).val + 2 ≤ n) L := by
  unfold xGlyphPositionsModel_lookupCount
  obtain ⟨s1, e1, q1⟩ := m_u16 hm q 8 (by omega)
  rw [ll8, e1, q_bm_s, nI_l (by omega)]
  obtain ⟨s2, e2, q2⟩ := m_u16 hm q1 (u 8).val (by omega)
  rw [e2, q_bm_s]
  exact ⟨s2, rfl, q2.to and_assoc (fun _ => rfl)⟩

theorem q_ni {α : Type} {c : Prop} [Decidable c] (s : QSt) (F : QSt → Option α) : (if c then q_bv (xGlyphPositionsModel_need 0 s) F else q_bv (xGlyphPositionsModel_need 1 s) F) = q_bv (xGlyphPositionsModel_need (bI (¬ c)) s) F := by
  by_cases h : c
  · rw [if_pos h, bI_f (fun g => g h)]
  · rw [if_neg h, bI_t h]
theorem q_nj {α : Type} {c : Prop} [Decidable c] (s : QSt) (F : QSt → Option α) : (if c then q_bv (xGlyphPositionsModel_need 1 s) F else q_bv (xGlyphPositionsModel_need 0 s) F) = q_bv (xGlyphPositionsModel_need (bI c) s) F := by
  by_cases h : c
  · rw [if_pos h, bI_t h]
  · rw [if_neg h, bI_f h]
theorem m_needB {G : Prop} {L : Nat} {s : QSt} (q : mQ st G L s) (c : Prop) : m1 st (xGlyphPositionsModel_need (bI c) s) (G ∧ c) L := m_need q (by
  by_cases h : c
  · rw [bI_t h]; simp [h]
  · rw [bI_f h]; simp [h])
theorem m_lang (hm : mH n u st) (hh : 10 ≤ n) {G : Prop} {L : Nat} {s : QSt} (q : mQ st G L s) (a : Nat) (ha : a < 2 ^ 58) (hN : 70000 < N) : m1 st (xGlyphPositionsModel_checkLanguage N (lN a) s) (G ∧ s_lang n u a) L := by
  have h39 : ∀ {G1 : Prop} {s1 : QSt}, mQ st G1 L s1 → m1 st (xGlyphPositionsModel_checkLanguage_39 N (lN a) s1) (G1 ∧ a + 6 ≤ n ∧ s_nums n u (a + 4) (u (u 6).val).val) L := by
    intro G1 s1 q1
    unfold xGlyphPositionsModel_checkLanguage_39
    rw [ll4, lN_add, il64]
    obtain ⟨w, s2, e2, q2, w1, w2, w3⟩ := m_most hm q1 (a + 4) (m := 64) (by omega) (by omega)
    rw [e2, q_bm_s]
    have hw : w < 65536 := by
      by_cases g : G1 ∧ a + 4 + 2 ≤ n ∧ (u (a + 4)).val ≤ 64
      · rw [w2 g]; omega
      · rw [w3 g]; omega
    obtain ⟨s3, e3, q3⟩ := m_loop0 (st := st) (fun f (_ : Unit) k s => xGlyphPositionsModel_checkLanguage_55 N (lN a) (nI w) f (nI k) s) (fun _ => ()) w (fun k => a + 6 + 2 * k + 2 ≤ n ∧ (u (a + 6 + 2 * k)).val < (u (u 6).val).val) (fun f _ s => by
        show xGlyphPositionsModel_checkLanguage_55 N _ _ (f + 1) _ _ = _
        rw [xGlyphPositionsModel_checkLanguage_55, if_pos (nI_le (by omega) (by omega))]) (fun f _ k l hk => by
        show xGlyphPositionsModel_checkLanguage_55 N _ _ (f + 1) _ _ = _
        rw [xGlyphPositionsModel_checkLanguage_55, if_neg (nI_ge (by omega) (by omega)), mS_b, if_neg m_1ne]) (fun f k L hk hL _ => by
        refine ⟨(), ?_⟩
        show ∃ s', xGlyphPositionsModel_checkLanguage_55 N _ _ (f + 1) _ _ = xGlyphPositionsModel_checkLanguage_55 N _ _ f _ _ ∧ _
        rw [xGlyphPositionsModel_checkLanguage_55, if_neg (nI_ge (by omega) (by omega)), if_pos (mS_b ..), ll6, ll2, nI_l (by omega), lN_mul, lN_add, lN_add]
        obtain ⟨s4, e4, q4⟩ := m_u16 hm (mQ.good (st := st) hL) (a + 6 + 2 * k) (by omega)
        rw [e4, q_bm_s]
        obtain ⟨s5, e5, q5⟩ := m_fc hm q4
        rw [e5, q_bm_s]
        simp (disch := omega) only [nI_leI]
        unfold xGlyphPositionsModel_checkLanguage_99
        rw [q_ni]
        obtain ⟨s6, e6, q6⟩ := m_needB q5 (¬ (u (u 6).val).val ≤ (u (a + 6 + 2 * k)).val)
        rw [e6, q_bv_s, nI_1]
        refine ⟨s6, rfl, q6.to ⟨fun g => ⟨g.1.1.2, by omega⟩, fun g => ⟨⟨⟨trivial, g.1⟩, by omega, hm.pos (by have := g.2; omega)⟩, by omega⟩⟩ (fun _ => rfl), fun _ => trivial⟩) (show w < N by omega) q2
    refine ⟨s3, e3, q3.to ?_ (fun _ => rfl)⟩
    unfold s_nums s_list
    constructor
    · rintro ⟨g1, g2⟩
      have ew := w2 g1
      obtain ⟨g1, g3, g4⟩ := g1
      rw [ew] at g2
      refine ⟨g1, by omega, ⟨g3, g4, ?_⟩, fun k hk => (g2 k hk).2⟩
      exact s_fill (by omega) (fun j hj => by have := (g2 j hj).1; omega)
    · rintro ⟨g1, g2, ⟨g3, g4, g5⟩, g6⟩
      refine ⟨⟨g1, g3, g4⟩, fun j hj => ?_⟩
      rw [w2 ⟨g1, g3, g4⟩] at hj
      exact ⟨by omega, g6 j hj⟩
  unfold xGlyphPositionsModel_checkLanguage
  rw [ll2, lN_add]
  obtain ⟨s1, e1, q1⟩ := m_u16 hm q (a + 2) (by omega)
  rw [e1, q_bm_s]
  obtain ⟨s2, e2, q2⟩ := m_u16 hm q1 a (by omega)
  rw [e2, q_bm_s, il65535]
  simp (disch := omega) only [nI_eq]
  unfold s_lang
  by_cases c1 : (u (a + 2)).val = 65535
  · rw [if_pos c1]
    obtain ⟨s3, e3, q3⟩ := h39 q2
    refine ⟨s3, e3, q3.to ?_ (fun _ => rfl)⟩
    constructor
    · rintro ⟨⟨⟨g1, g2⟩, g3⟩, g4, g5⟩
      exact ⟨g1, g2, Or.inl c1, g5⟩
    · rintro ⟨g1, g2, g3, g4⟩
      exact ⟨⟨⟨g1, by omega⟩, by omega⟩, g4.1.1, g4⟩
  · rw [if_neg c1]
    obtain ⟨s3, e3, q3⟩ := m_fc hm q2
    rw [e3, q_bm_s]
    simp (disch := omega) only [nI_leI]
    unfold xGlyphPositionsModel_checkLanguage_36
    rw [q_ni]
    obtain ⟨s4, e4, q4⟩ := m_needB q3 (¬ (u (u 6).val).val ≤ (u (a + 2)).val)
    rw [e4, q_bv_s]
    obtain ⟨s5, e5, q5⟩ := h39 q4
    refine ⟨s5, e5, q5.to ?_ (fun _ => rfl)⟩
    constructor
    · rintro ⟨⟨⟨⟨⟨g1, g2⟩, g3⟩, g4⟩, g7⟩, g5, g6⟩
      exact ⟨g1, g2, Or.inr (by omega), g6⟩
    · rintro ⟨g1, g2, g3, g4⟩
      exact ⟨⟨⟨⟨⟨g1, by omega⟩, by omega⟩, by omega, hm.pos (by omega)⟩, by omega⟩, g4.1.1, g4⟩
theorem m_cmpm {a : Nat} (ha : a < 2 ^ 63) : lg_cmp (lN a) (-1) = 1 := by
  unfold lg_cmp
  have h1 : (-1 : Int64) < lN a := by
    rw [Int64.lt_iff_toInt_lt, pk_lT ha, show (-1 : Int64).toInt = -1 from by decide]
    omega
  rw [if_pos h1]
theorem m_script (hm : mH n u st) (hh : 10 ≤ n) {G : Prop} {L : Nat} {s : QSt} (q : mQ st G L s) (a : Nat) (ha : a < 2 ^ 57) (hN : 70000 < N) : m1 st (xGlyphPositionsModel_checkScript N (lN a) s) (G ∧ s_script n u a) L := by
  have h18 : ∀ {G1 : Prop} {s1 : QSt}, mQ st G1 L s1 → m1 st (xGlyphPositionsModel_checkScript_18 N (lN a) s1) (G1 ∧ s_tags n u (a + 2) False ∧ ∀ k, k < (u (a + 2)).val → s_lang n u (a + (u (a + 8 + 6 * k)).val)) L := by
    intro G1 s1 q1
    unfold xGlyphPositionsModel_checkScript_18
    rw [ll2, lN_add, il64]
    obtain ⟨w, s2, e2, q2, w1, w2, w3⟩ := m_most hm q1 (a + 2) (m := 64) (by omega) (by omega)
    rw [e2, q_bm_s]
    have hw : w < 65536 := by
      by_cases g : G1 ∧ a + 2 + 2 ≤ n ∧ (u (a + 2)).val ≤ 64
      · rw [w2 g]; omega
      · rw [w3 g]; omega
    obtain ⟨s3, e3, q3⟩ := m_loop0 (st := st) (fun f (c : Int64) k s => xGlyphPositionsModel_checkScript_39 N (lN a) (nI w) f c (nI k) s) (fun k => if k = 0 then -1 else lN (s_4 u (a + 4 + 6 * (k - 1)))) w (fun k => (k = 0 ∨ s_4 u (a + 4 + 6 * (k - 1)) < s_4 u (a + 4 + 6 * k)) ∧ a + 4 + 6 * k + 6 ≤ n ∧ s_lang n u (a + (u (a + 8 + 6 * k)).val)) (fun f _ s => by
        show xGlyphPositionsModel_checkScript_39 N _ _ (f + 1) _ _ _ = _
        rw [xGlyphPositionsModel_checkScript_39, if_pos (nI_le (by omega) (by omega))]) (fun f _ k l hk => by
        show xGlyphPositionsModel_checkScript_39 N _ _ (f + 1) _ _ _ = _
        rw [xGlyphPositionsModel_checkScript_39, if_neg (nI_ge (by omega) (by omega)), mS_b, if_neg m_1ne]) (fun f k L hk hL _ => by
        have h4 := @s_4lt u (a + 4 + 6 * k)
        have h4' := @s_4lt u (a + 4 + 6 * (k - 1))
        refine ⟨lN (s_4 u (a + 4 + 6 * k)), ?_⟩
        show ∃ s', xGlyphPositionsModel_checkScript_39 N _ _ (f + 1) _ _ _ = xGlyphPositionsModel_checkScript_39 N _ _ f _ _ _ ∧ _
        rw [xGlyphPositionsModel_checkScript_39, if_neg (nI_ge (by omega) (by omega)), if_pos (mS_b ..), ll4, ll6, nI_l (by omega), lN_mul, lN_add, lN_add]
        obtain ⟨s4, e4, q4⟩ := m_u32 hm (mQ.good (st := st) hL) (a + 4 + 6 * k) (by omega)
        rw [e4, q_bm_s]
        unfold xGlyphPositionsModel_checkScript_86
        rw [q_ni]
        obtain ⟨s5, e5, q5⟩ := m_needB q4 (¬ lg_cmp (lN (s_4 u (a + 4 + 6 * k))) (if k = 0 then -1 else lN (s_4 u (a + 4 + 6 * (k - 1)))) ≤ 0)
        rw [e5, q_bv_s, ll8, ll6, nI_l (by omega), lN_mul, lN_add, lN_add]
        obtain ⟨s6, e6, q6⟩ := m_u16 hm q5 (a + 8 + 6 * k) (by omega)
        rw [e6, q_bm_s, nI_l (by omega), lN_add]
        obtain ⟨s7, e7, q7⟩ := m_lang (N := N) hm hh q6 (a + (u (a + 8 + 6 * k)).val) (by omega) hN
        rw [e7, q_bv_s, nI_1]
        have ec : (¬ lg_cmp (lN (s_4 u (a + 4 + 6 * k))) (if k = 0 then -1 else lN (s_4 u (a + 4 + 6 * (k - 1)))) ≤ 0) ↔ (k = 0 ∨ s_4 u (a + 4 + 6 * (k - 1)) < s_4 u (a + 4 + 6 * k)) := by
          by_cases k0 : k = 0
          · subst k0
            rw [if_pos rfl, m_cmpm (by omega)]
            simp
          · rw [if_neg k0, m_cmp (by omega) (by omega)]
            by_cases x1 : s_4 u (a + 4 + 6 * k) < s_4 u (a + 4 + 6 * (k - 1))
            · rw [if_pos x1]; simp; omega
            · rw [if_neg x1]
              by_cases x2 : s_4 u (a + 4 + 6 * k) = s_4 u (a + 4 + 6 * (k - 1))
              · rw [if_pos x2]; simp; omega
              · rw [if_neg x2]; simp; omega
        refine ⟨s7, rfl, q7.to ?_ (fun _ => rfl), fun _ => by rw [if_neg (by omega)]; rfl⟩
        rw [ec]
        constructor
        · rintro ⟨⟨⟨⟨g1, g2⟩, g3⟩, g4⟩, g5⟩
          exact ⟨g3, by omega, g5⟩
        · rintro ⟨g3, g4, g5⟩
          exact ⟨⟨⟨⟨trivial, by omega⟩, g3⟩, by omega⟩, g5⟩) (show w < N by omega) q2
    rw [if_pos rfl] at e3
    refine ⟨s3, e3, q3.to ?_ (fun _ => rfl)⟩
    unfold s_tags s_list
    constructor
    · rintro ⟨g1, g2⟩
      have ew := w2 g1
      obtain ⟨g1, g3, g4⟩ := g1
      rw [ew] at g2
      refine ⟨g1, ⟨⟨g3, g4, ?_⟩, fun k hk => ?_⟩, fun k hk => (g2 k hk).2.2⟩
      · exact s_fill (by omega) (fun j hj => by have := (g2 j hj).2.1; omega)
      · have := (g2 (k + 1) hk).1.resolve_left (by omega)
        exact Or.inl this
    · rintro ⟨g1, ⟨⟨g3, g4, g5⟩, g6⟩, g7⟩
      refine ⟨⟨g1, g3, g4⟩, fun j hj => ?_⟩
      rw [w2 ⟨g1, g3, g4⟩] at hj
      refine ⟨?_, by omega, g7 j hj⟩
      by_cases j0 : j = 0
      · exact Or.inl j0
      · have := (g6 (j - 1) (by omega)).resolve_right (fun h => h.1)
        rw [show j - 1 + 1 = j by omega] at this
        exact Or.inr this
  unfold xGlyphPositionsModel_checkScript
  obtain ⟨s1, e1, q1⟩ := m_u16 hm q a (by omega)
  rw [e1, q_bm_s, il0]
  simp (disch := omega) only [nI_leI]
  unfold s_script
  by_cases c1 : (u a).val ≤ 0
  · rw [if_pos c1]
    obtain ⟨s3, e3, q3⟩ := h18 q1
    exact ⟨s3, e3, q3.to ⟨fun g => ⟨g.1.1, g.1.2, g.2.1, fun h => by omega, g.2.2⟩, fun g => ⟨⟨g.1, g.2.1⟩, g.2.2.1, g.2.2.2.2⟩⟩ (fun _ => rfl)⟩
  · rw [if_neg c1, nI_l (by omega), lN_add]
    obtain ⟨s2, e2, q2⟩ := m_lang (N := N) hm hh q1 (a + (u a).val) (by omega) hN
    rw [e2, q_bv_s]
    obtain ⟨s3, e3, q3⟩ := h18 q2
    exact ⟨s3, e3, q3.to ⟨fun g => ⟨g.1.1.1, g.1.1.2, g.2.1, fun h => g.1.2, g.2.2⟩, fun g => ⟨⟨⟨g.1, g.2.1⟩, g.2.2.2.1 (by omega)⟩, g.2.2.1, g.2.2.2.2⟩⟩ (fun _ => rfl)⟩
end PMl2
