section PMl6
variable {n N : Nat} {u : Nat → Fin 65536} {st : QSt}
theorem m_cls (hm : mH n u st) {G : Prop} {L : Nat} {s : QSt} (q : mQ st G L s) (a : Nat) (ha : a < 2 ^ 56) (hN : 70000 < N) : m1 st (xGlyphPositionsModel_checkClasses N (lN a) s) (G ∧ s_cls n u a ∧ L + 1 ≤ 20000) (L + 1) := by
  unfold xGlyphPositionsModel_checkClasses xGlyphPositionsModel_checkClasses_21
  obtain ⟨s1, e1, q1⟩ := m_look q
  rw [e1, q_bv_s]
  obtain ⟨s2, e2, q2⟩ := m_u16 hm q1 a (by omega)
  rw [e2, q_bm_s]
  simp (disch := omega) only [m_eq1, m_eq2]
  unfold xGlyphPositionsModel_checkClasses_26 s_cls
  by_cases c1 : (u a).val = 1
  · simp (disch := omega) only [m_eq1]
    rw [if_pos c1]
    obtain ⟨s3, e3, q3⟩ := m_need1 q2
    rw [e3, q_bv_s, if_pos c1, ll4, lN_add]
    obtain ⟨s4, e4, q4⟩ := m_u16 hm q3 (a + 4) (by omega)
    rw [e4, q_bm_s, ll2, lN_add]
    obtain ⟨s5, e5, q5⟩ := m_u16 hm q4 (a + 2) (by omega)
    rw [e5, q_bm_s, nI_add, il65536]
    simp (disch := omega) only [nI_ltI]
    unfold xGlyphPositionsModel_checkClasses_68
    rw [q_ni]
    obtain ⟨s6, e6, q6⟩ := m_needB q5 (¬ 65536 < (u (a + 2)).val + (u (a + 4)).val)
    rw [e6, q_bv_s]
    simp (disch := omega) only [m_le0]
    by_cases c3 : (u (a + 4)).val = 0
    · rw [if_pos c3]
      refine ⟨s6, rfl, q6.to ?_ (fun _ => rfl)⟩
      constructor
      · rintro ⟨⟨⟨⟨⟨g1, g2⟩, g3⟩, g4⟩, g5⟩, g6⟩
        exact ⟨g1, ⟨by omega, Or.inl ⟨c1, by omega, by omega⟩⟩, g2⟩
      · rintro ⟨g1, ⟨g2, g3⟩, g4⟩
        have g3 := g3.resolve_right (fun h => by omega)
        exact ⟨⟨⟨⟨⟨g1, g4⟩, by omega⟩, by omega⟩, by omega⟩, by omega⟩
    · rw [if_neg c3, ll4, ll2, nI_l (by omega), lN_mul, lN_add, lN_add]
      obtain ⟨s7, e7, q7⟩ := m_u16 hm q6 (a + 4 + 2 * (u (a + 4)).val) (by omega)
      rw [e7, q_bm_s]
      refine ⟨s7, rfl, q7.to ?_ (fun _ => rfl)⟩
      constructor
      · rintro ⟨⟨⟨⟨⟨⟨g1, g2⟩, g3⟩, g4⟩, g5⟩, g6⟩, g7⟩
        exact ⟨g1, ⟨by omega, Or.inl ⟨c1, by omega, by omega⟩⟩, g2⟩
      · rintro ⟨g1, ⟨g2, g3⟩, g4⟩
        have g3 := g3.resolve_right (fun h => by omega)
        exact ⟨⟨⟨⟨⟨⟨g1, g4⟩, by omega⟩, by omega⟩, by omega⟩, by omega⟩, by omega⟩
  · have h112 : ∀ {G1 : Prop} {s1 : QSt}, mQ st G1 (L + 1) s1 → m1 st (q_bm (xGlyphPositionsModel_u16 (lN a + 2) s1) (fun r4 sr4 => xGlyphPositionsModel_checkClasses_112 N (lN a) r4 N (-1) 0 sr4)) (G1 ∧ a + 4 ≤ n ∧ a + 4 + 6 * (u (a + 2)).val ≤ n ∧ s_rr u (a + 4) (u (a + 2)).val) (L + 1) := by
      intro G1 s1 q1
      rw [ll2, lN_add]
      obtain ⟨s2, e2, q2⟩ := m_u16 hm q1 (a + 2) (by omega)
      rw [e2, q_bm_s]
      generalize hM : (u (a + 2)).val = m
      have hm2 : m < 65536 := by omega
      obtain ⟨s3, e3, q3⟩ := m_loop0 (st := st) (fun f (c : Int32) k s => xGlyphPositionsModel_checkClasses_112 N (lN a) (nI m) f c (nI k) s) (fun k => if k = 0 then -1 else nI (u (a + 4 + 6 * (k - 1) + 2)).val) m (fun k => a + 4 + 6 * k + 6 ≤ n ∧ (k = 0 ∨ (u (a + 4 + 6 * (k - 1) + 2)).val < (u (a + 4 + 6 * k)).val) ∧ (u (a + 4 + 6 * k)).val ≤ (u (a + 4 + 6 * k + 2)).val) (fun f _ s => by
          show xGlyphPositionsModel_checkClasses_112 N _ _ (f + 1) _ _ _ = _
          rw [xGlyphPositionsModel_checkClasses_112, if_pos (nI_le (by omega) (by omega))]) (fun f _ k l hk => by
          show xGlyphPositionsModel_checkClasses_112 N _ _ (f + 1) _ _ _ = _
          rw [xGlyphPositionsModel_checkClasses_112, if_neg (nI_ge (by omega) (by omega)), mS_b, if_neg m_1ne]) (fun f k L hk hL _ => by
          refine ⟨nI (u (a + 4 + 6 * k + 2)).val, ?_⟩
          show ∃ s', xGlyphPositionsModel_checkClasses_112 N _ _ (f + 1) _ _ _ = xGlyphPositionsModel_checkClasses_112 N _ _ f _ _ _ ∧ _
          rw [xGlyphPositionsModel_checkClasses_112, if_neg (nI_ge (by omega) (by omega)), if_pos (mS_b ..), ll4, ll6, ll8, nI_l (by omega), lN_mul, lN_add, lN_add, lN_add, lN_add, lN_add, lN_add, show a + 6 + 6 * k = a + 4 + 6 * k + 2 by omega]
          obtain ⟨s4, e4, q4⟩ := m_u16 hm (mQ.good (st := st) hL) (a + 4 + 6 * k) (by omega)
          rw [e4, q_bm_s]
          obtain ⟨s5, e5, q5⟩ := m_u16 hm q4 (a + 4 + 6 * k + 2) (by omega)
          rw [e5, q_bm_s]
          obtain ⟨s6, e6, q6⟩ := m_u16 hm q5 (a + 8 + 6 * k) (by omega)
          rw [e6, q_bm_s]
          have hcn := m_risen k (x := (u (a + 4 + 6 * k)).val) (y := (u (a + 4 + 6 * (k - 1) + 2)).val) (by omega) (by omega)
          have hend : nI (u (a + 4 + 6 * k + 2)).val = if k + 1 = 0 then -1 else nI (u (a + 4 + 6 * (k + 1 - 1) + 2)).val := by
            rw [if_neg (by omega), Nat.add_sub_cancel]
          unfold xGlyphPositionsModel_checkClasses_201 xGlyphPositionsModel_checkClasses_202
          by_cases g1 : k = 0 ∨ (u (a + 4 + 6 * (k - 1) + 2)).val < (u (a + 4 + 6 * k)).val
          · rw [if_neg (hcn.mpr g1)]
            simp (disch := omega) only [nI_ltI]
            rw [q_ni]
            obtain ⟨s7, e7, q7⟩ := m_needB q6 (¬ (u (a + 4 + 6 * k + 2)).val < (u (a + 4 + 6 * k)).val)
            rw [e7, q_bv_s, nI_1]
            exact ⟨s7, rfl, q7.to ⟨fun h => ⟨by omega, g1, by omega⟩, fun h => ⟨⟨⟨⟨trivial, by omega⟩, by omega⟩, by omega⟩, by omega⟩⟩ (fun _ => rfl), fun _ => hend⟩
          · rw [if_pos (Decidable.not_not.mp (fun h => g1 (hcn.mp h)))]
            obtain ⟨s7, e7, q7⟩ := m_need0 q6
            rw [e7, q_bv_s, nI_1]
            exact ⟨s7, rfl, m_bad q7 (fun h => g1 h.2.1), fun _ => hend⟩) (show m < N by omega) q2
      rw [if_pos rfl, nI_0] at e3
      refine ⟨s3, e3, q3.to ?_ (fun _ => rfl)⟩
      constructor
      · rintro ⟨⟨g1, g2⟩, g3⟩
        have := s_fill (n := n) (b := a + 4) (m := m) (sz := 6) (by omega) (fun j hj => by have := (g3 j hj).1; omega)
        exact ⟨g1, by omega, by omega, fun k hk => ⟨(g3 k hk).2.2, fun k0 => (g3 k hk).2.1.resolve_left (by omega)⟩⟩
      · rintro ⟨g1, g2, g3, g4⟩
        refine ⟨⟨g1, by omega⟩, fun k hk => ⟨by omega, ?_, (g4 k hk).1⟩⟩
        by_cases k0 : k = 0
        · exact Or.inl k0
        · exact Or.inr ((g4 k hk).2 (by omega))
    rw [if_neg c1]
    by_cases c2 : (u a).val = 2
    · rw [if_pos c2]
      obtain ⟨s3, e3, q3⟩ := m_need1 q2
      rw [e3, q_bv_s, if_neg (by rw [m_eq1 (by omega)]; exact c1)]
      obtain ⟨s4, e4, q4⟩ := h112 q3
      exact ⟨s4, e4, q4.to ⟨fun h => ⟨h.1.1.1, ⟨h.2.1, Or.inr ⟨c2, h.2.2⟩⟩, h.1.1.2⟩, fun h => ⟨⟨⟨h.1, h.2.2⟩, by have := h.2.1.1; omega⟩, h.2.1.1, (h.2.1.2.resolve_left (fun g => c1 g.1)).2⟩⟩ (fun _ => rfl)⟩
    · rw [if_neg c2]
      obtain ⟨s3, e3, q3⟩ := m_need0 q2
      rw [e3, q_bv_s, if_neg (by rw [m_eq1 (by omega)]; exact c1)]
      obtain ⟨s4, e4, q4⟩ := h112 q3
      refine ⟨s4, e4, q4.to ⟨fun h => h.1.elim, ?_⟩ (fun _ => rfl)⟩
      rintro ⟨-, ⟨-, h | h⟩, -⟩
      · exact absurd h.1 c1
      · exact absurd h.1 c2
theorem m_pset (hm : mH n u st) {G : Prop} {L : Nat} {s : QSt} (q : mQ st G L s) (r sz : Nat) (hr : r < 2 ^ 56) (hsz : sz ≤ 32) (hN : 70000 < N) : m1 st (xGlyphPositionsModel_checkPairSet N (lN r) (nI sz) s) (G ∧ s_row n u r (2 + sz) ∧ L + 1 ≤ 20000) (L + 1) := by
  unfold xGlyphPositionsModel_checkPairSet
  obtain ⟨s1, e1, q1⟩ := m_look q
  rw [e1, q_bv_s, il256]
  obtain ⟨w, s2, e2, q2, w1, w2, w3⟩ := m_most hm q1 r (m := 256) (by omega) (by omega)
  rw [e2, q_bm_s]
  have hw := mo_le w2 w3
  obtain ⟨s3, e3, q3⟩ := m_loop0 (st := st) (fun f (c : Int32) k s => xGlyphPositionsModel_checkPairSet_20 N (lN r) (nI sz) (nI w) f c (nI k) s) (fun k => if k = 0 then -1 else nI (u (r + 2 + (2 + sz) * (k - 1))).val) w (fun k => r + 2 + (2 + sz) * k + (2 + sz) ≤ n ∧ (k = 0 ∨ (u (r + 2 + (2 + sz) * (k - 1))).val < (u (r + 2 + (2 + sz) * k)).val)) (fun f _ s => by
      show xGlyphPositionsModel_checkPairSet_20 N _ _ _ (f + 1) _ _ _ = _
      rw [xGlyphPositionsModel_checkPairSet_20, if_pos (nI_le (by omega) (by omega))]) (fun f _ k l hk => by
      show xGlyphPositionsModel_checkPairSet_20 N _ _ _ (f + 1) _ _ _ = _
      rw [xGlyphPositionsModel_checkPairSet_20, if_neg (nI_ge (by omega) (by omega)), mS_b, if_neg m_1ne]) (fun f k L hk hL _ => by
      refine ⟨nI (u (r + 2 + (2 + sz) * k)).val, ?_⟩
      show ∃ s', xGlyphPositionsModel_checkPairSet_20 N _ _ _ (f + 1) _ _ _ = xGlyphPositionsModel_checkPairSet_20 N _ _ _ f _ _ _ ∧ _
      rw [xGlyphPositionsModel_checkPairSet_20, if_neg (nI_ge (by omega) (by omega)), if_pos (mS_b ..), ll2, nI_l (by omega), nI_l (by omega), lN_add, lN_add, lN_mul, lN_add, q_lt]
      have hb : (2 + sz) * k ≤ 34 * 65536 := Nat.mul_le_mul (by omega) (by omega)
      generalize hy : r + 2 + (2 + sz) * k = y
      have hyl : y < 2 ^ 57 := by omega
      obtain ⟨s4, e4, q4⟩ := m_u16 hm (mQ.good (st := st) hL) y (by omega)
      rw [e4, q_bm_s]
      unfold xGlyphPositionsModel_checkPairSet_73
      rw [q_ni]
      obtain ⟨s5, e5, q5⟩ := m_needB q4 (¬ nI (u y).val ≤ if k = 0 then -1 else nI (u (r + 2 + (2 + sz) * (k - 1))).val)
      rw [e5, q_bv_s, ll2, lN_add, nI_l (by omega)]
      obtain ⟨s6, e6, q6⟩ := m_reach hm q5 (y + 2) sz (by omega) (by omega)
      rw [e6, q_bv_s, nI_1]
      refine ⟨s6, rfl, q6.to ?_ (fun _ => rfl), fun _ => by rw [if_neg (by omega), Nat.add_sub_cancel, hy]⟩
      have hcn := m_risen k (x := (u y).val) (y := (u (r + 2 + (2 + sz) * (k - 1))).val) (by omega) (by omega)
      rw [hcn]
      constructor
      · rintro ⟨⟨⟨g1, g2⟩, g3⟩, g4⟩
        exact ⟨by omega, g3⟩
      · rintro ⟨g1, g2⟩
        exact ⟨⟨⟨trivial, by omega⟩, g2⟩, Or.inr (by omega)⟩) (show w < N by omega) q2
  rw [if_pos rfl, nI_0] at e3
  refine ⟨s3, e3, q3.to ?_ (fun _ => rfl)⟩
  unfold s_row s_list
  constructor
  · rintro ⟨⟨⟨g1, g2⟩, g3, g4⟩, g5⟩
    rw [w2 ⟨⟨g1, g2⟩, g3, g4⟩] at g5
    refine ⟨g1, ⟨⟨g3, g4, s_fill g3 (fun j hj => (g5 j hj).1)⟩, fun k hk => ?_⟩, g2⟩
    exact (g5 (k + 1) hk).2.resolve_left (by omega)
  · rintro ⟨g1, ⟨⟨g3, g4, g5⟩, g6⟩, g7⟩
    have h0 : (G ∧ L + 1 ≤ 20000) ∧ r + 2 ≤ n ∧ (u r).val ≤ 256 := ⟨⟨g1, g7⟩, g3, g4⟩
    refine ⟨h0, fun k hk => ?_⟩
    rw [w2 h0] at hk
    constructor
    · have h1 : (2 + sz) * k + (2 + sz) ≤ (u r).val * (2 + sz) := by
        rw [← Nat.mul_succ, Nat.mul_comm]
        exact Nat.mul_le_mul_right _ hk
      omega
    · by_cases k0 : k = 0
      · exact Or.inl k0
      · have := g6 (k - 1) (by omega)
        rw [show k - 1 + 1 = k by omega] at this
        exact Or.inr this
theorem m_pairs (hm : mH n u st) {G : Prop} {L : Nat} {s : QSt} (q : mQ st G L s) (a : Nat) (ha : a < 2 ^ 54) (hN : 70000 < N) : m1 st (xGlyphPositionsModel_checkPairs N (lN a) s) (G ∧ s_pair n u a ∧ L + s_pairK u a ≤ 20000) (L + s_pairK u a) := by
  unfold xGlyphPositionsModel_checkPairs xGlyphPositionsModel_checkPairs_17
  obtain ⟨s1, e1, q1⟩ := m_u16 hm q a (by omega)
  rw [e1, q_bm_s]
  simp (disch := omega) only [m_eq1, m_eq2]
  have hp4 := s_pop_le ((u (a + 4)).val % 256)
  have hp6 := s_pop_le ((u (a + 6)).val % 256)
  unfold s_pair s_pairK s_psz
  unfold xGlyphPositionsModel_checkPairs_22
  by_cases c1 : (u a).val = 1
  · rw [if_pos c1, if_pos c1]
    obtain ⟨s2, e2, q2⟩ := m_need1 q1
    rw [e2, q_bv_s, ll4, lN_add]
    obtain ⟨s3, e3, q3⟩ := m_bits hm q2 (a + 4) (by omega)
    rw [e3, q_bm_s, m_size (by omega) hN, q_bn_s, ll6, lN_add]
    obtain ⟨s4, e4, q4⟩ := m_bits hm q3 (a + 6) (by omega)
    rw [e4, q_bm_s, m_size (by omega) hN, q_bn_s, q_lt, nI_add, if_pos (by rw [m_eq1 (by omega)]; exact c1), ll8, lN_add]
    obtain ⟨w, s5, e5, q5, w1, w2, w3⟩ := m_idx (N := N) hm q4 a (a + 8) (by omega) (by omega) hN
    have hw := mo_le w2 w3
    rw [e5, q_bm_s]
    generalize hz : s_pop ((u (a + 4)).val % 256) + s_pop ((u (a + 6)).val % 256) = sz
    have hsz : sz ≤ 32 := by omega
    obtain ⟨s6, e6, q6⟩ := m_loop1 (st := st) (fun f (_ : Unit) k s => xGlyphPositionsModel_checkPairs_72 N (lN a) (nI sz) (nI w) f (nI k) s) (fun _ => ()) w (fun k => a + 10 + 2 * k + 2 ≤ n ∧ s_row n u (a + (u (a + 10 + 2 * k)).val) (2 + sz)) (fun _ => 1) (fun f _ s => by
        show xGlyphPositionsModel_checkPairs_72 N _ _ _ (f + 1) _ _ = _
        rw [xGlyphPositionsModel_checkPairs_72, if_pos (nI_le (by omega) (by omega))]) (fun f _ k l hk => by
        show xGlyphPositionsModel_checkPairs_72 N _ _ _ (f + 1) _ _ = _
        rw [xGlyphPositionsModel_checkPairs_72, if_neg (nI_ge (by omega) (by omega)), mS_b, if_neg m_1ne]) (fun f k L hk hL _ => by
        refine ⟨(), ?_⟩
        show ∃ s', xGlyphPositionsModel_checkPairs_72 N _ _ _ (f + 1) _ _ = xGlyphPositionsModel_checkPairs_72 N _ _ _ f _ _ ∧ _
        rw [xGlyphPositionsModel_checkPairs_72, if_neg (nI_ge (by omega) (by omega)), if_pos (mS_b ..), ll10, ll2, nI_l (by omega), lN_mul, lN_add, lN_add]
        obtain ⟨s7, e7, q7⟩ := m_u16 hm (mQ.good (st := st) hL) (a + 10 + 2 * k) (by omega)
        rw [e7, q_bm_s, nI_l (by omega), lN_add]
        obtain ⟨s8, e8, q8⟩ := m_pset (N := N) hm q7 (a + (u (a + 10 + 2 * k)).val) sz (by omega) hsz hN
        rw [e8, q_bv_s, nI_1]
        exact ⟨s8, rfl, q8.to ⟨fun h => ⟨⟨h.1.2, h.2.1⟩, h.2.2⟩, fun h => ⟨⟨trivial, h.1.1⟩, h.1.2, h.2⟩⟩ (fun _ => rfl), fun _ => by trivial⟩) (show w < N by omega) q5
    rw [s_sum1] at q6
    refine ⟨s6, e6, q6.to ?_ ?_⟩
    · unfold s_idx s_list
      constructor
      · rintro ⟨⟨⟨⟨⟨g1, g2⟩, g3, g4⟩, g5, g6⟩, ⟨g7, g8, g9, g10, g11⟩, g12⟩, g13, g14⟩
        rw [w2 ⟨⟨⟨⟨g1, g2⟩, g3, g4⟩, g5, g6⟩, ⟨g7, g8, g9, g10, g11⟩, g12⟩] at g13 g14
        rw [Nat.mod_eq_of_lt (by omega), Nat.mod_eq_of_lt (by omega)] at hz
        rw [hz]
        refine ⟨g1, ⟨by omega, g4, g6, g10, Or.inl ⟨c1, ⟨⟨g7, g8, ?_⟩, g11⟩, fun k hk => (g13 k hk).2⟩⟩, by omega⟩
        exact s_fill g7 (fun j hj => by have := (g13 j hj).1; omega)
      · rintro ⟨g1, ⟨g2, g4, g6, g10, g20⟩, g21⟩
        obtain ⟨-, ⟨⟨g7, g8, g9⟩, g11⟩, g13⟩ := g20.resolve_right (fun h => by omega)
        rw [Nat.mod_eq_of_lt (by omega), Nat.mod_eq_of_lt (by omega)] at hz
        rw [hz] at g13
        have h0 : (((G ∧ a + 2 ≤ n) ∧ a + 4 + 2 ≤ n ∧ (u (a + 4)).val ≤ 255) ∧ a + 6 + 2 ≤ n ∧ (u (a + 6)).val ≤ 255) ∧ (a + 8 + 2 ≤ n ∧ (u (a + 8)).val ≤ 256 ∧ a + 4 ≤ n ∧ s_cov n u (a + (u (a + 2)).val) ∧ (u (a + 8)).val = s_cv u (a + (u (a + 2)).val)) ∧ L + 1 ≤ 20000 := ⟨⟨⟨⟨g1, by omega⟩, by omega, g4⟩, by omega, g6⟩, ⟨g7, g8, by omega, g10, g11⟩, by omega⟩
        refine ⟨h0, ?_⟩
        rw [w2 h0]
        exact ⟨fun k hk => ⟨by omega, g13 k hk⟩, by omega⟩
    · rintro ⟨h0, -⟩
      rw [w2 h0]
      omega
  · rw [if_neg c1, if_neg c1]
    by_cases c2 : (u a).val = 2
    · rw [if_pos c2]
      obtain ⟨s2, e2, q2⟩ := m_need1 q1
      rw [e2, q_bv_s, ll4, lN_add]
      obtain ⟨s3, e3, q3⟩ := m_bits hm q2 (a + 4) (by omega)
      rw [e3, q_bm_s, m_size (by omega) hN, q_bn_s, ll6, lN_add]
      obtain ⟨s4, e4, q4⟩ := m_bits hm q3 (a + 6) (by omega)
      rw [e4, q_bm_s, m_size (by omega) hN, q_bn_s, q_lt, nI_add, if_neg (by rw [m_eq1 (by omega)]; exact c1), if_pos (by rw [m_eq2 (by omega)]; exact c2), ll2, lN_add]
      obtain ⟨s5, e5, q5⟩ := m_u16 hm q4 (a + 2) (by omega)
      rw [e5, q_bm_s, nI_l (by omega), lN_add]
      obtain ⟨v, s6, e6, q6, v1, v2, v3⟩ := m_cov (N := N) hm q5 (a + (u (a + 2)).val) (by omega) hN
      rw [e6, q_bm_s, ll8, lN_add]
      obtain ⟨s7, e7, q7⟩ := m_u16 hm q6 (a + 8) (by omega)
      rw [e7, q_bm_s, nI_l (by omega), lN_add]
      obtain ⟨s8, e8, q8⟩ := m_cls (N := N) hm q7 (a + (u (a + 8)).val) (by omega) hN
      rw [e8, q_bv_s, ll10, lN_add]
      obtain ⟨s9, e9, q9⟩ := m_u16 hm q8 (a + 10) (by omega)
      rw [e9, q_bm_s, nI_l (by omega), lN_add]
      obtain ⟨s10, e10, q10⟩ := m_cls (N := N) hm q9 (a + (u (a + 10)).val) (by omega) hN
      rw [e10, q_bv_s, ll12, lN_add, il256]
      obtain ⟨w, s11, e11, q11, w1, w2, w3⟩ := m_most hm q10 (a + 12) (m := 256) (by omega) (by omega)
      have hw := mo_le w2 w3
      rw [e11, q_bm_s, q_lt, ll14, lN_add]
      obtain ⟨y, s12, e12, q12, y1, y2, y3⟩ := m_most hm q11 (a + 14) (m := 256) (by omega) (by omega)
      have hy := mo_le y2 y3
      rw [e12, q_bm_s, q_lt]
      generalize hz : s_pop ((u (a + 4)).val % 256) + s_pop ((u (a + 6)).val % 256) = sz
      have hsz : sz ≤ 32 := by omega
      have hb : w * y * sz ≤ 65536 * 65536 * 32 := Nat.mul_le_mul (Nat.mul_le_mul (by omega) (by omega)) hsz
      rw [nI_l (by omega), nI_l (by omega), nI_l (by omega), lN_mul, lN_mul, ll16, lN_add]
      obtain ⟨s13, e13, q13⟩ := m_reach hm q12 (a + 16) (w * y * sz) (by omega) (by omega)
      rw [e13, q_bv_s]
      refine ⟨s13, rfl, q13.to ?_ (fun _ => by omega)⟩
      unfold s_pc
      constructor
      · rintro ⟨⟨h1, h2⟩, h3⟩
        rw [w2 h1, y2 ⟨h1, h2⟩] at h3
        obtain ⟨⟨⟨⟨⟨⟨⟨⟨⟨⟨g1, g2⟩, g3, g4⟩, g5, g6⟩, g7⟩, g8, g9⟩, g10⟩, g11, g12⟩, g13⟩, g14, g15⟩, g16, g17⟩ := h1
        rw [Nat.mod_eq_of_lt (by omega), Nat.mod_eq_of_lt (by omega)] at hz
        rw [hz]
        exact ⟨g1, ⟨by omega, g4, g6, g8, Or.inr ⟨c2, by omega, g17, h2.2, by omega, g11, g14⟩⟩, by omega⟩
      · rintro ⟨g1, ⟨g2, g4, g6, g8, g20⟩, g21⟩
        obtain ⟨-, k1, k2, k3, k4, k5, k6⟩ := g20.resolve_left (fun h => by omega)
        rw [Nat.mod_eq_of_lt (by omega), Nat.mod_eq_of_lt (by omega)] at hz
        rw [hz] at k4
        have h1 : ((((((((G ∧ a + 2 ≤ n) ∧ a + 4 + 2 ≤ n ∧ (u (a + 4)).val ≤ 255) ∧ a + 6 + 2 ≤ n ∧ (u (a + 6)).val ≤ 255) ∧ a + 2 + 2 ≤ n) ∧ s_cov n u (a + (u (a + 2)).val) ∧ L + 1 ≤ 20000) ∧ a + 8 + 2 ≤ n) ∧ s_cls n u (a + (u (a + 8)).val) ∧ L + 1 + 1 ≤ 20000) ∧ a + 10 + 2 ≤ n) ∧ s_cls n u (a + (u (a + 10)).val) ∧ L + 1 + 1 + 1 ≤ 20000 := ⟨⟨⟨⟨⟨⟨⟨⟨⟨g1, by omega⟩, by omega, g4⟩, by omega, g6⟩, by omega⟩, g8, by omega⟩, by omega⟩, k5, by omega⟩, by omega⟩, k6, by omega⟩
        have h2 : a + 12 + 2 ≤ n ∧ (u (a + 12)).val ≤ 256 := ⟨by omega, k2⟩
        have h3 : a + 14 + 2 ≤ n ∧ (u (a + 14)).val ≤ 256 := ⟨by omega, k3⟩
        refine ⟨⟨⟨h1, h2⟩, h3⟩, ?_⟩
        rw [w2 ⟨h1, h2⟩, y2 ⟨⟨h1, h2⟩, h3⟩]
        exact Or.inr k4
    · rw [if_neg c2]
      obtain ⟨s2, e2, q2⟩ := m_need0 q1
      rw [e2, q_bv_s, ll4, lN_add]
      obtain ⟨s3, e3, q3⟩ := m_bits hm q2 (a + 4) (by omega)
      rw [e3, q_bm_s, m_size (by omega) hN, q_bn_s, ll6, lN_add]
      obtain ⟨s4, e4, q4⟩ := m_bits hm q3 (a + 6) (by omega)
      rw [e4, q_bm_s, m_size (by omega) hN, q_bn_s, q_lt, nI_add, if_neg (by rw [m_eq1 (by omega)]; exact c1), if_neg (by rw [m_eq2 (by omega)]; exact c2)]
      refine ⟨s4, rfl, q4.to ?_ (fun h => h.1.1.elim)⟩
      constructor
      · exact fun h => h.1.1.elim
      · rintro ⟨-, ⟨-, -, -, -, h | h⟩, -⟩
        · exact absurd h.1 c1
        · exact absurd h.1 c2
end PMl6
