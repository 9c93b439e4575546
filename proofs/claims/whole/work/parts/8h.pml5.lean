section PMl5
variable {n N : Nat} {u : Nat → Fin 65536} {st : QSt}
theorem m_anc (hm : mH n u st) {G : Prop} {L : Nat} {s : QSt} (q : mQ st G L s) (a : Nat) (ha : a < 2 ^ 57) : m1 st (xGlyphPositionsModel_checkAnchor (lN a) s) (G ∧ s_anc n u a ∧ L + 1 ≤ 20000) (L + 1) := by
  unfold xGlyphPositionsModel_checkAnchor xGlyphPositionsModel_checkAnchor_25
  obtain ⟨s1, e1, q1⟩ := m_look q
  rw [e1, q_bv_s]
  obtain ⟨s2, e2, q2⟩ := m_u16 hm q1 a (by omega)
  rw [e2, q_bm_s]
  have h26 : ∀ (c : Prop), m1 st (xGlyphPositionsModel_checkAnchor_26 (lN a) (bI c) s2) (((G ∧ L + 1 ≤ 20000) ∧ a + 6 ≤ n) ∧ c) (L + 1) := by
    intro c
    unfold xGlyphPositionsModel_checkAnchor_26
    obtain ⟨s3, e3, q3⟩ := m_needB q2 c
    rw [e3, q_bv_s, ll2, lN_add]
    obtain ⟨s4, e4, q4⟩ := m_u16 hm q3 (a + 2) (by omega)
    rw [e4, q_bm_s, ll4, lN_add]
    obtain ⟨s5, e5, q5⟩ := m_u16 hm q4 (a + 4) (by omega)
    rw [e5, q_bm_s]
    exact ⟨s5, rfl, q5.to (by constructor; rintro ⟨⟨⟨⟨g1, g2⟩, g3⟩, g4⟩, g5⟩; exact ⟨⟨g1, by omega⟩, g3⟩; rintro ⟨⟨g1, g2⟩, g3⟩; exact ⟨⟨⟨⟨g1, by omega⟩, g3⟩, by omega⟩, by omega⟩) (fun _ => rfl)⟩
  simp (disch := omega) only [m_lt1, il3, nI_ltI]
  unfold s_anc
  by_cases c1 : (u a).val = 0
  · rw [if_pos c1]
    obtain ⟨s3, e3, q3⟩ := h26 False
    rw [bI_f (fun h => h)] at e3
    exact ⟨s3, e3, q3.to ⟨fun h => h.2.elim, fun h => by omega⟩ (fun _ => rfl)⟩
  · rw [if_neg c1]
    by_cases c2 : 3 < (u a).val
    · rw [if_pos c2]
      obtain ⟨s3, e3, q3⟩ := h26 False
      rw [bI_f (fun h => h)] at e3
      exact ⟨s3, e3, q3.to ⟨fun h => h.2.elim, fun h => by omega⟩ (fun _ => rfl)⟩
    · rw [if_neg c2]
      obtain ⟨s3, e3, q3⟩ := h26 True
      rw [bI_t trivial] at e3
      exact ⟨s3, e3, q3.to ⟨fun h => ⟨h.1.1.1, ⟨h.1.2, by omega, by omega⟩, h.1.1.2⟩, fun h => ⟨⟨⟨h.1, h.2.2⟩, h.2.1.1⟩, trivial⟩⟩ (fun _ => rfl)⟩
theorem m_place (hm : mH n u st) {G : Prop} {L : Nat} {s : QSt} (q : mQ st G L s) (p a : Nat) (hp : p < 2 ^ 56) (ha : a < 2 ^ 57) : m1 st (xGlyphPositionsModel_checkPlace (lN p) (lN a) s) (G ∧ (a + 2 ≤ n ∧ ((u a).val ≠ 0 → s_anc n u (p + (u a).val))) ∧ L + (if (u a).val = 0 then 0 else 1) ≤ 20000) (L + if (u a).val = 0 then 0 else 1) := by
  unfold xGlyphPositionsModel_checkPlace
  obtain ⟨s1, e1, q1⟩ := m_u16 hm q a (by omega)
  rw [e1, q_bm_s]
  simp (disch := omega) only [m_le0]
  by_cases c : (u a).val = 0
  · rw [if_pos c, if_pos c]
    exact ⟨s1, rfl, q1.to ⟨fun h => ⟨h.1, ⟨h.2, fun g => absurd c g⟩, (q.1 h.1).1⟩, fun h => ⟨h.1, h.2.1.1⟩⟩ (fun _ => rfl)⟩
  · rw [if_neg c, if_neg c, nI_l (by omega), lN_add]
    obtain ⟨s2, e2, q2⟩ := m_anc hm q1 (p + (u a).val) (by omega)
    rw [e2, q_bv_s]
    exact ⟨s2, rfl, q2.to ⟨fun h => ⟨h.1.1, ⟨h.1.2, fun _ => h.2.1⟩, h.2.2⟩, fun h => ⟨⟨h.1, h.2.1.1⟩, h.2.1.2 c, h.2.2⟩⟩ (fun _ => rfl)⟩
theorem m_row (hm : mH n u st) {G : Prop} {L : Nat} {s : QSt} (q : mQ st G L s) (p a m : Nat) (hp : p < 2 ^ 56) (ha : a < 2 ^ 56) (hm2 : m < 65536) (hN : 70000 < N) : m1 st (xGlyphPositionsModel_checkRow N (lN p) (lN a) (nI m) s) (G ∧ (∀ k, k < m → a + 2 * k + 2 ≤ n ∧ ((u (a + 2 * k)).val ≠ 0 → s_anc n u (p + (u (a + 2 * k)).val))) ∧ L + s_ancK u a m ≤ 20000) (L + s_ancK u a m) := by
  exact m_loop1 (st := st) (fun f (_ : Unit) k s => xGlyphPositionsModel_checkRow_3 N (lN p) (lN a) (nI m) f (nI k) s) (fun _ => ()) m (fun k => a + 2 * k + 2 ≤ n ∧ ((u (a + 2 * k)).val ≠ 0 → s_anc n u (p + (u (a + 2 * k)).val))) (fun k => if (u (a + 2 * k)).val = 0 then 0 else 1) (fun f _ s => by
      show xGlyphPositionsModel_checkRow_3 N _ _ _ (f + 1) _ _ = _
      rw [xGlyphPositionsModel_checkRow_3, if_pos (nI_le (by omega) (by omega))]) (fun f _ k l hk => by
      show xGlyphPositionsModel_checkRow_3 N _ _ _ (f + 1) _ _ = _
      rw [xGlyphPositionsModel_checkRow_3, if_neg (nI_ge (by omega) (by omega)), mS_b, if_neg m_1ne]) (fun f k L hk hL _ => by
      refine ⟨(), ?_⟩
      show ∃ s', xGlyphPositionsModel_checkRow_3 N _ _ _ (f + 1) _ _ = xGlyphPositionsModel_checkRow_3 N _ _ _ f _ _ ∧ _
      rw [xGlyphPositionsModel_checkRow_3, if_neg (nI_ge (by omega) (by omega)), if_pos (mS_b ..), ll2, nI_l (by omega), lN_mul, lN_add]
      obtain ⟨s4, e4, q4⟩ := m_place hm (mQ.good (st := st) hL) p (a + 2 * k) (by omega) (by omega)
      rw [e4, q_bv_s, nI_1]
      exact ⟨s4, rfl, q4.to (by rw [true_and]) (fun _ => rfl), fun _ => by trivial⟩) (show m < N by omega) q
theorem m_idx (hm : mH n u st) {G : Prop} {L : Nat} {s : QSt} (q : mQ st G L s) (a x : Nat) (ha : a < 2 ^ 56) (hx : x < 2 ^ 57) (hN : 70000 < N) : mo st (xGlyphPositionsModel_byIndex N (lN a) (lN x) s) (u x).val (G ∧ (x + 2 ≤ n ∧ (u x).val ≤ 256 ∧ a + 4 ≤ n ∧ s_cov n u (a + (u (a + 2)).val) ∧ (u x).val = s_cv u (a + (u (a + 2)).val)) ∧ L + 1 ≤ 20000) (L + 1) := by
  unfold xGlyphPositionsModel_byIndex
  rw [il256]
  obtain ⟨w, s1, e1, q1, w1, w2, w3⟩ := m_most hm q x (m := 256) (by omega) (by omega)
  rw [e1, q_bm_s, ll2, lN_add]
  obtain ⟨s2, e2, q2⟩ := m_u16 hm q1 (a + 2) (by omega)
  rw [e2, q_bm_s, nI_l (by omega), lN_add]
  obtain ⟨v, s3, e3, q3, v1, v2, v3⟩ := m_cov (N := N) hm q2 (a + (u (a + 2)).val) (by omega) hN
  rw [e3, q_bm_s]
  simp (disch := omega) only [nI_eq]
  unfold xGlyphPositionsModel_byIndex_37
  rw [q_nj]
  obtain ⟨s4, e4, q4⟩ := m_needB q3 (v = w)
  rw [e4, q_bv_s]
  refine (mo.of q4 (fun _ => w1) rfl).to ?_ (fun g => w2 g.1.1.1) (fun _ => rfl)
  constructor
  · rintro ⟨⟨⟨⟨g1, g2, g3⟩, g4⟩, g5, g6⟩, g7⟩
    rw [v2 ⟨⟨⟨g1, g2, g3⟩, g4⟩, g5, g6⟩, w2 ⟨g1, g2, g3⟩] at g7
    exact ⟨g1, ⟨g2, g3, g4, g5, g7.symm⟩, g6⟩
  · rintro ⟨g1, ⟨g2, g3, g4, g5, g7⟩, g6⟩
    refine ⟨⟨⟨⟨g1, g2, g3⟩, g4⟩, g5, g6⟩, ?_⟩
    rw [v2 ⟨⟨⟨g1, g2, g3⟩, g4⟩, g5, g6⟩, w2 ⟨g1, g2, g3⟩]
    exact g7.symm
theorem m_joins (hm : mH n u st) {G : Prop} {L : Nat} {s : QSt} (q : mQ st G L s) (a : Nat) (ha : a < 2 ^ 55) (hN : 70000 < N) : m1 st (xGlyphPositionsModel_checkJoins N (lN a) s) (G ∧ s_cur n u a ∧ L + s_curK u a ≤ 20000) (L + s_curK u a) := by
  unfold xGlyphPositionsModel_checkJoins
  obtain ⟨s1, e1, q1⟩ := m_u16 hm q a (by omega)
  rw [e1, q_bm_s]
  simp (disch := omega) only [m_eq1]
  unfold xGlyphPositionsModel_checkJoins_15
  rw [q_nj]
  obtain ⟨s2, e2, q2⟩ := m_needB q1 ((u a).val = 1)
  rw [e2, q_bv_s, ll4, lN_add]
  obtain ⟨w, s3, e3, q3, w1, w2, w3⟩ := m_idx (N := N) hm q2 a (a + 4) (by omega) (by omega) hN
  rw [e3, q_bm_s]
  have hw := mo_le w2 w3
  have h2w : 2 * w < N := by
    by_cases g : (u (a + 4)).val ≤ 256
    · omega
    · have := w3 (fun h => g h.2.1.2.1)
      omega
  obtain ⟨s4, e4, q4⟩ := m_loop1 (st := st) (fun f (_ : Unit) k s => xGlyphPositionsModel_checkJoins_32 N (lN a) (nI w) f (nI k) s) (fun _ => ()) (2 * w) (fun k => a + 6 + 2 * k + 2 ≤ n ∧ ((u (a + 6 + 2 * k)).val ≠ 0 → s_anc n u (a + (u (a + 6 + 2 * k)).val))) (fun k => if (u (a + 6 + 2 * k)).val = 0 then 0 else 1) (fun f _ s => by
      show xGlyphPositionsModel_checkJoins_32 N _ _ (f + 1) _ _ = _
      rw [xGlyphPositionsModel_checkJoins_32, il2, pk_mul, if_pos (nI_le (by omega) (by omega))]) (fun f _ k l hk => by
      show xGlyphPositionsModel_checkJoins_32 N _ _ (f + 1) _ _ = _
      rw [xGlyphPositionsModel_checkJoins_32, il2, pk_mul, if_neg (nI_ge (by omega) (by omega)), mS_b, if_neg m_1ne]) (fun f k L hk hL _ => by
      refine ⟨(), ?_⟩
      show ∃ s', xGlyphPositionsModel_checkJoins_32 N _ _ (f + 1) _ _ = xGlyphPositionsModel_checkJoins_32 N _ _ f _ _ ∧ _
      rw [xGlyphPositionsModel_checkJoins_32, il2, pk_mul, if_neg (nI_ge (by omega) (by omega)), if_pos (mS_b ..), ll6, ll2, nI_l (by omega), lN_mul, lN_add, lN_add]
      obtain ⟨s4, e4, q4⟩ := m_place hm (mQ.good (st := st) hL) a (a + 6 + 2 * k) (by omega) (by omega)
      rw [e4, q_bv_s, nI_1]
      exact ⟨s4, rfl, q4.to (by rw [true_and]) (fun _ => rfl), fun _ => by trivial⟩) (show 2 * w < N from h2w) q3
  refine ⟨s4, e4, q4.to ?_ ?_⟩
  · unfold s_cur s_idx s_list s_curK s_ancs s_ancK
    constructor
    · rintro ⟨⟨⟨⟨g1, g2⟩, g3⟩, ⟨g4, g5, g6, g7, g8⟩, g9⟩, g10, g11⟩
      have ew := w2 ⟨⟨⟨g1, g2⟩, g3⟩, ⟨g4, g5, g6, g7, g8⟩, g9⟩
      rw [ew] at g10 g11
      refine ⟨g1, ⟨by omega, g3, g7, ⟨⟨g4, g5, ?_⟩, g8⟩, fun k hk => (g10 k hk).2⟩, by omega⟩
      have := s_fill (n := n) (b := a + 6) (m := 2 * (u (a + 4)).val) (sz := 2) (by omega) (fun j hj => by have := (g10 j hj).1; omega)
      omega
    · rintro ⟨g1, ⟨g2, g3, g4, ⟨⟨g5, g6, g7⟩, g8⟩, g9⟩, g10⟩
      have h0 : ((G ∧ a + 2 ≤ n) ∧ (u a).val = 1) ∧ (a + 4 + 2 ≤ n ∧ (u (a + 4)).val ≤ 256 ∧ a + 4 ≤ n ∧ s_cov n u (a + (u (a + 2)).val) ∧ (u (a + 4)).val = s_cv u (a + (u (a + 2)).val)) ∧ L + 1 ≤ 20000 := ⟨⟨⟨g1, by omega⟩, g3⟩, ⟨g5, g6, g2, g4, g8⟩, by omega⟩
      refine ⟨h0, ?_⟩
      rw [w2 h0]
      exact ⟨fun k hk => ⟨by omega, g9 k hk⟩, by omega⟩
  · rintro ⟨g0, -⟩
    unfold s_curK s_ancK
    rw [w2 g0]
    omega
def m_sz (x : Int32) : Int32 := 0 + (2 * ((x >>> ((0 : Int32) &&& 31)) &&& 1)) + (2 * ((x >>> ((0 + 1 : Int32) &&& 31)) &&& 1)) + (2 * ((x >>> ((0 + 1 + 1 : Int32) &&& 31)) &&& 1)) + (2 * ((x >>> ((0 + 1 + 1 + 1 : Int32) &&& 31)) &&& 1)) + (2 * ((x >>> ((0 + 1 + 1 + 1 + 1 : Int32) &&& 31)) &&& 1)) + (2 * ((x >>> ((0 + 1 + 1 + 1 + 1 + 1 : Int32) &&& 31)) &&& 1)) + (2 * ((x >>> ((0 + 1 + 1 + 1 + 1 + 1 + 1 : Int32) &&& 31)) &&& 1)) + (2 * ((x >>> ((0 + 1 + 1 + 1 + 1 + 1 + 1 + 1 : Int32) &&& 31)) &&& 1))
theorem m_sz_is (x : Int32) (M : Nat) : xGlyphPositionsModel_sizeOf_4 N x (M + 9) 0 0 = some (m_sz x) := rfl
theorem m_sz_b : ∀ b, b < 256 → m_sz (nI b) = nI (s_pop b) := by decide +kernel
theorem m_size {b : Nat} (hb : b < 256) (hN : 70000 < N) : xGlyphPositionsModel_sizeOf N (nI b) = some (nI (s_pop b)) := by
  unfold xGlyphPositionsModel_sizeOf
  rw [← m_sz_b b hb]
  obtain ⟨M, hM⟩ : ∃ M, N = M + 9 := ⟨N - 9, by omega⟩
  have h := m_sz_is (N := N) (nI b) M
  rw [← hM] at h
  exact h
theorem m_bits (hm : mH n u st) {G : Prop} {L : Nat} {s : QSt} (q : mQ st G L s) (a : Nat) (ha : a < 2 ^ 57) : mr st (xGlyphPositionsModel_bitsAt (lN a) s) (nI ((u a).val % 256)) (G ∧ a + 2 ≤ n ∧ (u a).val ≤ 255) L := by
  unfold xGlyphPositionsModel_bitsAt
  obtain ⟨s1, e1, q1⟩ := m_u16 hm q a (by omega)
  rw [e1, q_bm_s, il256]
  simp (disch := omega) only [nI_leI]
  unfold xGlyphPositionsModel_bitsAt_19
  rw [q_ni]
  obtain ⟨s2, e2, q2⟩ := m_needB q1 (¬ 256 ≤ (u a).val)
  rw [e2, q_bv_s, pk_andN (by omega) 8 (by decide)]
  exact ⟨s2, rfl, q2.to ⟨fun h => ⟨h.1.1, h.1.2, by omega⟩, fun h => ⟨⟨h.1, h.2.1⟩, by omega⟩⟩ (fun _ => rfl)⟩
theorem m_reach (hm : mH n u st) {G : Prop} {L : Nat} {s : QSt} (q : mQ st G L s) (x y : Nat) (hx : x < 2 ^ 60) (hy : y < 2 ^ 60) : m1 st (xGlyphPositionsModel_reach (lN x) (lN y) s) (G ∧ (y = 0 ∨ x + y ≤ n)) L := by
  have hn := hm.1
  unfold xGlyphPositionsModel_reach xGlyphPositionsModel_reach_19 xGlyphPositionsModel_reach_24
  rw [ll0, lN_add, q.n12, hm.2.1, nI_l (by omega), m_cmp (by omega) (by omega), m_cmp (by omega) (by omega)]
  by_cases c : y = 0
  · subst c
    rw [if_pos (show (if (0 : Nat) < 0 then (-1 : Int32) else if (0 : Nat) = 0 then 0 else 1) = 0 by decide)]
    obtain ⟨s2, e2, q2⟩ := m_need1 q
    rw [e2, q_bv_s]
    exact ⟨s2, rfl, q2.to (by simp) (fun _ => rfl)⟩
  · have e0 : ¬ ((if y < 0 then -1 else if y = 0 then 0 else 1) = (0 : Int32)) := by
      rw [if_neg (by omega), if_neg c]; decide
    rw [if_neg e0]
    by_cases c2 : x + y ≤ n
    · have e1 : ¬ ((0 : Int32) < if x + y < n then -1 else if x + y = n then 0 else 1) := by
        by_cases h : x + y < n
        · rw [if_pos h]; decide
        · rw [if_neg h, if_pos (by omega)]; decide
      rw [if_neg e1]
      obtain ⟨s2, e2, q2⟩ := m_need1 q
      rw [e2, q_bv_s]
      exact ⟨s2, rfl, q2.to (by simp [c2]) (fun _ => rfl)⟩
    · have e1 : ((0 : Int32) < if x + y < n then -1 else if x + y = n then 0 else 1) := by
        rw [if_neg (by omega), if_neg (by omega)]; decide
      rw [if_pos e1]
      obtain ⟨s2, e2, q2⟩ := m_need0 q
      rw [e2, q_bv_s]
      exact ⟨s2, rfl, q2.to (by simp [c2, c]) (fun _ => rfl)⟩
theorem m_single (hm : mH n u st) {G : Prop} {L : Nat} {s : QSt} (q : mQ st G L s) (a : Nat) (ha : a < 2 ^ 55) (hN : 70000 < N) : m1 st (xGlyphPositionsModel_checkSingle N (lN a) s) (G ∧ s_single n u a ∧ L + 1 ≤ 20000) (L + 1) := by
  unfold xGlyphPositionsModel_checkSingle xGlyphPositionsModel_checkSingle_17 xGlyphPositionsModel_checkSingle_22
  obtain ⟨s1, e1, q1⟩ := m_u16 hm q a (by omega)
  rw [e1, q_bm_s]
  simp (disch := omega) only [m_eq1, m_eq2]
  unfold s_single
  by_cases c1 : (u a).val = 1
  · rw [if_pos c1]
    obtain ⟨s2, e2, q2⟩ := m_need1 q1
    rw [e2, q_bv_s, ll4, lN_add]
    obtain ⟨s3, e3, q3⟩ := m_bits hm q2 (a + 4) (by omega)
    rw [e3, q_bm_s, if_pos c1, ll2, lN_add]
    obtain ⟨s4, e4, q4⟩ := m_u16 hm q3 (a + 2) (by omega)
    rw [e4, q_bm_s, nI_l (by omega), lN_add]
    obtain ⟨v, s5, e5, q5, v1, v2, v3⟩ := m_cov (N := N) hm q4 (a + (u (a + 2)).val) (by omega) hN
    rw [e5, q_bm_s, m_size (by omega) hN, q_bn_s]
    have hp := s_pop_le ((u (a + 4)).val % 256)
    rw [nI_l (by omega), ll6, lN_add]
    obtain ⟨s6, e6, q6⟩ := m_reach hm q5 (a + 6) (s_pop ((u (a + 4)).val % 256)) (by omega) (by omega)
    rw [e6, q_bv_s]
    refine ⟨s6, rfl, q6.to ?_ (fun _ => rfl)⟩
    constructor
    · rintro ⟨⟨⟨⟨⟨g1, g2⟩, g3, g4⟩, g5⟩, g6, g7⟩, g8⟩
      rw [Nat.mod_eq_of_lt (by omega)] at g8
      exact ⟨g1, ⟨by omega, g4, g6, Or.inl ⟨c1, by omega⟩⟩, g7⟩
    · rintro ⟨g1, ⟨g2, g3, g4, g5⟩, g6⟩
      have g5 := g5.resolve_right (fun h => by omega)
      rw [Nat.mod_eq_of_lt (by omega)]
      exact ⟨⟨⟨⟨⟨g1, by omega⟩, by omega, g3⟩, by omega⟩, g4, g6⟩, Or.inr g5.2⟩
  · rw [if_neg c1]
    by_cases c2 : (u a).val = 2
    · rw [if_pos c2]
      obtain ⟨s2, e2, q2⟩ := m_need1 q1
      rw [e2, q_bv_s, ll4, lN_add]
      obtain ⟨s3, e3, q3⟩ := m_bits hm q2 (a + 4) (by omega)
      rw [e3, q_bm_s, if_neg c1, if_pos c2, ll6, lN_add]
      obtain ⟨w, s4, e4, q4, w1, w2, w3⟩ := m_idx (N := N) hm q3 a (a + 6) (by omega) (by omega) hN
      have hw := mo_le w2 w3
      rw [e4, q_bm_s, m_size (by omega) hN, q_bn_s]
      have hp := s_pop_le ((u (a + 4)).val % 256)
      have hwp : w * s_pop ((u (a + 4)).val % 256) ≤ 65536 * 16 := Nat.mul_le_mul (by omega) hp
      rw [nI_l (by omega), nI_l (by omega), ll8, lN_add, lN_mul]
      obtain ⟨s6, e6, q6⟩ := m_reach hm q4 (a + 8) (w * s_pop ((u (a + 4)).val % 256)) (by omega) (by omega)
      rw [e6, q_bv_s]
      refine ⟨s6, rfl, q6.to ?_ (fun _ => rfl)⟩
      unfold s_idx s_list
      constructor
      · rintro ⟨⟨⟨⟨g1, g2⟩, g3, g4⟩, ⟨g5, g6, g7, g8, g9⟩, g10⟩, g11⟩
        rw [w2 ⟨⟨⟨g1, g2⟩, g3, g4⟩, ⟨g5, g6, g7, g8, g9⟩, g10⟩, Nat.mod_eq_of_lt (by omega)] at g11
        exact ⟨g1, ⟨by omega, g4, g8, Or.inr ⟨c2, ⟨g5, g6, by omega⟩, g9⟩⟩, g10⟩
      · rintro ⟨g1, ⟨g2, g3, g4, g5⟩, g6⟩
        obtain ⟨-, ⟨g7, g8, g9⟩, g10⟩ := g5.resolve_left (fun h => by omega)
        have h0 : ((G ∧ a + 2 ≤ n) ∧ a + 4 + 2 ≤ n ∧ (u (a + 4)).val ≤ 255) ∧ (a + 6 + 2 ≤ n ∧ (u (a + 6)).val ≤ 256 ∧ a + 4 ≤ n ∧ s_cov n u (a + (u (a + 2)).val) ∧ (u (a + 6)).val = s_cv u (a + (u (a + 2)).val)) ∧ L + 1 ≤ 20000 := ⟨⟨⟨g1, by omega⟩, by omega, g3⟩, ⟨g7, g8, by omega, g4, g10⟩, g6⟩
        refine ⟨h0, ?_⟩
        rw [w2 h0, Nat.mod_eq_of_lt (by omega)]
        exact Or.inr (by omega)
    · rw [if_neg c2]
      obtain ⟨s2, e2, q2⟩ := m_need0 q1
      rw [e2, q_bv_s, ll4, lN_add]
      obtain ⟨s3, e3, q3⟩ := m_bits hm q2 (a + 4) (by omega)
      rw [e3, q_bm_s, if_neg c1, if_neg c2]
      refine ⟨s3, rfl, q3.to ?_ (fun h => h.1.elim)⟩
      constructor
      · exact fun h => h.1.elim
      · rintro ⟨-, ⟨-, -, -, h | h⟩, -⟩
        · exact absurd h.1 c1
        · exact absurd h.1 c2
end PMl5
