section PMl4
variable {n N : Nat} {u : Nat → Fin 65536} {st : QSt}
theorem mo.to {o : Option (Int32 × QSt)} {v v' : Nat} {G G' : Prop} {L L' : Nat} (h : mo st o v G L) (hG : G ↔ G') (hv : G → v = v') (hL : G → L = L') : mo st o v' G' L' := by
  obtain ⟨w, s, e, q, h1, h2, h3⟩ := h
  exact ⟨w, s, e, q.to hG hL, h1, fun g => (h2 (hG.mpr g)).trans (hv (hG.mpr g)), fun g => h3 (fun g2 => g (hG.mp g2))⟩
theorem m_risen (k : Nat) {x y : Nat} (hx : x < 65536) (hy : y < 65536) : (¬ nI x ≤ if k = 0 then -1 else nI y) ↔ (k = 0 ∨ y < x) := by
  by_cases k0 : k = 0
  · rw [if_pos k0]
    exact ⟨fun _ => Or.inl k0, fun _ => c_m1 (by omega)⟩
  · rw [if_neg k0, nI_leI (by omega) (by omega)]
    simp only [k0, false_or, Nat.not_le]
theorem m_bad {L L' : Nat} {G : Prop} {s : QSt} (q : mQ st False L s) (h : ¬ G) : mQ st G L' s := ⟨fun g => absurd g h, fun _ => q.2 (fun g => g)⟩
theorem m_cov49b (a : Nat) (x3 x4 : Int32) (l : Int32) (hN : 70000 < N) : xGlyphPositionsModel_checkCoverage_49 N (lN a) x3 x4 N (-1) 0 0 (mS st 1 l) = some (0, mS st 1 l) := by
  obtain ⟨M, hM⟩ : ∃ M, N = M + 1 := ⟨N - 1, by omega⟩
  have h : ∀ M, xGlyphPositionsModel_checkCoverage_49 N (lN a) x3 x4 (M + 1) (-1) 0 0 (mS st 1 l) = some (0, mS st 1 l) := by
    intro M
    rw [xGlyphPositionsModel_checkCoverage_49]
    unfold xGlyphPositionsModel_checkCoverage_193
    rw [mS_b, if_neg m_1ne, if_neg m_1ne]
    by_cases c : x4 ≤ 0
    · rw [if_pos c]
    · rw [if_neg c]
  have h2 := h M
  rw [← hM] at h2
  exact h2
theorem m_cov1 (hm : mH n u st) {G : Prop} {L : Nat} {s : QSt} (q : mQ st G L s) (a m : Nat) (ha : a < 2 ^ 57) (hm2 : m < 65536) (hN : 70000 < N) : mo st (xGlyphPositionsModel_checkCoverage_49 N (lN a) (nI 1) (nI m) N (-1) 0 0 s) m (G ∧ ∀ k, k < m → a + 4 + 2 * k + 2 ≤ n ∧ (k = 0 ∨ (u (a + 4 + 2 * (k - 1))).val < (u (a + 4 + 2 * k)).val)) L := by
  obtain ⟨x, s1, e1, q1, h1⟩ := m_loopE (st := st) (fun f (c : Int32 × Int32) k s => xGlyphPositionsModel_checkCoverage_49 N (lN a) (nI 1) (nI m) f c.1 c.2 (nI k) s) (fun c s => xGlyphPositionsModel_checkCoverage_193 N c.2 s) (fun k => (if k = 0 then -1 else nI (u (a + 4 + 2 * (k - 1))).val, nI k)) m (fun k => a + 4 + 2 * k + 2 ≤ n ∧ (k = 0 ∨ (u (a + 4 + 2 * (k - 1))).val < (u (a + 4 + 2 * k)).val)) (fun f x s => by
      show xGlyphPositionsModel_checkCoverage_49 N _ _ _ (f + 1) _ _ _ _ = _
      rw [xGlyphPositionsModel_checkCoverage_49, if_pos (nI_le (by omega) (by omega))]) (fun f x k l hk => by
      show xGlyphPositionsModel_checkCoverage_49 N _ _ _ (f + 1) _ _ _ _ = _
      rw [xGlyphPositionsModel_checkCoverage_49, if_neg (nI_ge (by omega) (by omega)), mS_b, if_neg m_1ne]) (fun f k L hk hL hv => by
      refine ⟨(nI (u (a + 4 + 2 * k)).val, nI (k + 1)), ?_⟩
      show ∃ s', xGlyphPositionsModel_checkCoverage_49 N _ _ _ (f + 1) _ _ _ _ = xGlyphPositionsModel_checkCoverage_49 N _ _ _ f _ _ _ _ ∧ _
      rw [xGlyphPositionsModel_checkCoverage_49, if_neg (nI_ge (by omega) (by omega)), if_pos (mS_b ..), if_pos (show nI 1 = 1 from rfl)]
      unfold xGlyphPositionsModel_checkCoverage_82
      rw [ll4, ll2, nI_l (by omega), lN_mul, lN_add, lN_add, q_lt]
      obtain ⟨s4, e4, q4⟩ := m_u16 hm (mQ.good (st := st) hL) (a + 4 + 2 * k) (by omega)
      rw [e4, q_bm_s, if_pos (show nI 1 = 1 from rfl)]
      unfold xGlyphPositionsModel_checkCoverage_117 xGlyphPositionsModel_checkCoverage_138
      rw [if_neg (show ¬ nI (u (a + 4 + 2 * k)).val < nI (u (a + 4 + 2 * k)).val from nI_nlt (by omega) (by omega))]
      unfold xGlyphPositionsModel_checkCoverage_139
      rw [q_ni]
      obtain ⟨s5, e5, q5⟩ := m_needB q4 (¬ nI (u (a + 4 + 2 * k)).val ≤ if k = 0 then -1 else nI (u (a + 4 + 2 * (k - 1))).val)
      rw [e5, q_bv_s, if_neg (show ¬ nI 1 = 2 by decide)]
      unfold xGlyphPositionsModel_checkCoverage_171
      rw [q_lt, nI_add, pk_sub (by omega), Nat.add_sub_cancel, nI_1]
      refine ⟨s5, rfl, q5.to ?_ (fun _ => rfl), fun _ => by rw [if_neg (by omega)]; rfl⟩
      rw [m_risen k (by omega) (by omega), true_and]) (show m < N by omega) q
  rw [if_pos rfl, nI_0] at e1
  by_cases g : G ∧ ∀ k, k < m → a + 4 + 2 * k + 2 ≤ n ∧ (k = 0 ∨ (u (a + 4 + 2 * (k - 1))).val < (u (a + 4 + 2 * k)).val)
  · refine mo.of q1 (fun _ => by omega) ?_
    refine e1.trans ?_
    rw [h1 g]
    rfl
  · refine ⟨0, s1, ?_, q1, by omega, fun h => absurd h g, fun _ => rfl⟩
    refine e1.trans ?_
    obtain ⟨l, hl⟩ := q1.2 g
    unfold xGlyphPositionsModel_checkCoverage_193
    rw [hl, mS_b, if_neg m_1ne]
    rfl
theorem m_cov2 (hm : mH n u st) {G : Prop} {L : Nat} {s : QSt} (q : mQ st G L s) (a m : Nat) (ha : a < 2 ^ 57) (hm2 : m < 65536) (hN : 70000 < N) : mo st (xGlyphPositionsModel_checkCoverage_49 N (lN a) (nI 2) (nI m) N (-1) 0 0 s) (s_cnt u (a + 4) m) (G ∧ ∀ k, k < m → a + 4 + 6 * k + 6 ≤ n ∧ (k = 0 ∨ (u (a + 4 + 6 * (k - 1) + 2)).val < (u (a + 4 + 6 * k)).val) ∧ (u (a + 4 + 6 * k)).val ≤ (u (a + 4 + 6 * k + 2)).val ∧ (u (a + 4 + 6 * k + 4)).val = s_cnt u (a + 4) k) L := by
  have hn := hm.1
  obtain ⟨x, s1, e1, q1, h1⟩ := m_loopE (st := st) (fun f (c : Int32 × Int32) k s => xGlyphPositionsModel_checkCoverage_49 N (lN a) (nI 2) (nI m) f c.1 c.2 (nI k) s) (fun c s => xGlyphPositionsModel_checkCoverage_193 N c.2 s) (fun k => (if k = 0 then -1 else nI (u (a + 4 + 6 * (k - 1) + 2)).val, nI (s_cnt u (a + 4) k))) m (fun k => a + 4 + 6 * k + 6 ≤ n ∧ (k = 0 ∨ (u (a + 4 + 6 * (k - 1) + 2)).val < (u (a + 4 + 6 * k)).val) ∧ (u (a + 4 + 6 * k)).val ≤ (u (a + 4 + 6 * k + 2)).val ∧ (u (a + 4 + 6 * k + 4)).val = s_cnt u (a + 4) k) (fun f x s => by
      show xGlyphPositionsModel_checkCoverage_49 N _ _ _ (f + 1) _ _ _ _ = _
      rw [xGlyphPositionsModel_checkCoverage_49, if_pos (nI_le (by omega) (by omega))]) (fun f x k l hk => by
      show xGlyphPositionsModel_checkCoverage_49 N _ _ _ (f + 1) _ _ _ _ = _
      rw [xGlyphPositionsModel_checkCoverage_49, if_neg (nI_ge (by omega) (by omega)), mS_b, if_neg m_1ne]) (fun f k L hk hL hv => by
      have hk2 : k ≤ 2048 := by
        by_cases k0 : k = 0
        · omega
        · have := (hv (k - 1) (by omega)).1
          omega
      have hc := s_cnt_le (u := u) (a + 4) k
      refine ⟨(nI (u (a + 4 + 6 * k + 2)).val, nI (s_cnt u (a + 4) k) + nI (u (a + 4 + 6 * k + 2)).val - nI (u (a + 4 + 6 * k)).val + 1), ?_⟩
      show ∃ s', xGlyphPositionsModel_checkCoverage_49 N _ _ _ (f + 1) _ _ _ _ = xGlyphPositionsModel_checkCoverage_49 N _ _ _ f _ _ _ _ ∧ _
      rw [xGlyphPositionsModel_checkCoverage_49, if_neg (nI_ge (by omega) (by omega)), if_pos (mS_b ..), if_neg (show ¬ nI 2 = 1 by decide)]
      unfold xGlyphPositionsModel_checkCoverage_82
      rw [ll4, ll6, nI_l (by omega), lN_mul, lN_add, lN_add, q_lt]
      obtain ⟨s4, e4, q4⟩ := m_u16 hm (mQ.good (st := st) hL) (a + 4 + 6 * k) (by omega)
      rw [e4, q_bm_s, if_neg (show ¬ nI 2 = 1 by decide), ll2, lN_add]
      obtain ⟨s5, e5, q5⟩ := m_u16 hm q4 (a + 4 + 6 * k + 2) (by omega)
      rw [e5, q_bm_s]
      have h139 : ∀ (c : Prop), ∃ s', xGlyphPositionsModel_checkCoverage_139 N (xGlyphPositionsModel_checkCoverage_49 N (lN a) (nI 2) (nI m) f) (lN a) (nI 2) (nI m) (nI (s_cnt u (a + 4) k)) (nI k) (lN (a + 4 + 6 * k)) (nI (u (a + 4 + 6 * k)).val) (nI (u (a + 4 + 6 * k + 2)).val) (bI c) s5 = xGlyphPositionsModel_checkCoverage_49 N (lN a) (nI 2) (nI m) f (nI (u (a + 4 + 6 * k + 2)).val) (nI (s_cnt u (a + 4) k) + nI (u (a + 4 + 6 * k + 2)).val - nI (u (a + 4 + 6 * k)).val + 1) (nI (k + 1)) s' ∧ mQ st (c ∧ a + 4 + 6 * k + 6 ≤ n ∧ (u (a + 4 + 6 * k + 4)).val = s_cnt u (a + 4) k) L s' := by
        intro c
        unfold xGlyphPositionsModel_checkCoverage_139
        obtain ⟨s6, e6, q6⟩ := m_needB q5 c
        rw [e6, q_bv_s, if_pos (show nI 2 = 2 from rfl), ll4, lN_add]
        obtain ⟨s7, e7, q7⟩ := m_u16 hm q6 (a + 4 + 6 * k + 4) (by omega)
        rw [e7, q_bm_s]
        simp (disch := omega) only [nI_eq]
        unfold xGlyphPositionsModel_checkCoverage_168
        rw [q_nj]
        obtain ⟨s8, e8, q8⟩ := m_needB q7 ((u (a + 4 + 6 * k + 4)).val = s_cnt u (a + 4) k)
        rw [e8, q_bv_s]
        unfold xGlyphPositionsModel_checkCoverage_171
        rw [q_lt, nI_1]
        exact ⟨s8, rfl, q8.to (by constructor; rintro ⟨⟨⟨g1, g2⟩, g3⟩, g4⟩; exact ⟨g2, by omega, g4⟩; rintro ⟨g1, g2, g3⟩; exact ⟨⟨⟨⟨⟨trivial, by omega⟩, by omega⟩, g1⟩, by omega⟩, g3⟩) (fun _ => rfl)⟩
      unfold xGlyphPositionsModel_checkCoverage_117 xGlyphPositionsModel_checkCoverage_138
      have hcn := m_risen k (x := (u (a + 4 + 6 * k)).val) (y := (u (a + 4 + 6 * (k - 1) + 2)).val) (by omega) (by omega)
      have hend : (k = 0 ∨ (u (a + 4 + 6 * (k - 1) + 2)).val < (u (a + 4 + 6 * k)).val) → (u (a + 4 + 6 * k)).val ≤ (u (a + 4 + 6 * k + 2)).val → ((nI (u (a + 4 + 6 * k + 2)).val, nI (s_cnt u (a + 4) k) + nI (u (a + 4 + 6 * k + 2)).val - nI (u (a + 4 + 6 * k)).val + 1) : Int32 × Int32) = (if k + 1 = 0 then -1 else nI (u (a + 4 + 6 * (k + 1 - 1) + 2)).val, nI (s_cnt u (a + 4) (k + 1))) := by
        intro _ g
        rw [if_neg (by omega), Nat.add_sub_cancel, nI_add, pk_sub (by omega), nI_1]
        congr 2
        show _ = s_cnt u (a + 4) k + ((u (a + 4 + 6 * k + 2)).val - (u (a + 4 + 6 * k)).val + 1)
        omega
      by_cases g1 : k = 0 ∨ (u (a + 4 + 6 * (k - 1) + 2)).val < (u (a + 4 + 6 * k)).val
      · rw [if_neg (hcn.mpr g1)]
        by_cases g2 : (u (a + 4 + 6 * k + 2)).val < (u (a + 4 + 6 * k)).val
        · rw [if_pos (nI_lt g2 (by omega))]
          obtain ⟨s6, e6, q6⟩ := h139 False
          rw [bI_f (fun h => h)] at e6
          exact ⟨s6, e6, q6.to ⟨fun h => h.1.elim, fun h => by omega⟩ (fun _ => rfl), fun h => by omega⟩
        · rw [if_neg (nI_nlt (by omega) (by omega))]
          obtain ⟨s6, e6, q6⟩ := h139 True
          rw [bI_t trivial] at e6
          exact ⟨s6, e6, q6.to ⟨fun h => ⟨h.2.1, g1, by omega, h.2.2⟩, fun h => ⟨trivial, h.1, h.2.2.2⟩⟩ (fun _ => rfl), fun h => hend g1 (by omega)⟩
      · rw [if_pos (Decidable.not_not.mp (fun h => g1 (hcn.mp h)))]
        obtain ⟨s6, e6, q6⟩ := h139 False
        rw [bI_f (fun h => h)] at e6
        exact ⟨s6, e6, q6.to ⟨fun h => h.1.elim, fun h => absurd h.2.1 g1⟩ (fun _ => rfl), fun h => absurd h.2.1 g1⟩) (show m < N by omega) q
  rw [if_pos rfl, nI_0, show s_cnt u (a + 4) 0 = 0 from rfl, nI_0] at e1
  rcases Classical.em (¬ (G ∧ ∀ k, k < m → a + 4 + 6 * k + 6 ≤ n ∧ (k = 0 ∨ (u (a + 4 + 6 * (k - 1) + 2)).val < (u (a + 4 + 6 * k)).val) ∧ (u (a + 4 + 6 * k)).val ≤ (u (a + 4 + 6 * k + 2)).val ∧ (u (a + 4 + 6 * k + 4)).val = s_cnt u (a + 4) k)) with g | g
  · refine ⟨0, s1, ?_, q1, by omega, fun h => absurd h g, fun _ => rfl⟩
    refine e1.trans ?_
    obtain ⟨l, hl⟩ := q1.2 g
    unfold xGlyphPositionsModel_checkCoverage_193
    rw [hl, mS_b, if_neg m_1ne]
    rfl
  · have g := Classical.not_not.mp g
    refine mo.of q1 (fun _ => ?_) ?_
    · have hc := s_cnt_le (u := u) (a + 4) m
      have : m ≤ 2048 := by
        by_cases k0 : m = 0
        · omega
        · have := (g.2 (m - 1) (by omega)).1
          omega
      omega
    · refine e1.trans ?_
      rw [h1 g]
      rfl
theorem m_cov (hm : mH n u st) {G : Prop} {L : Nat} {s : QSt} (q : mQ st G L s) (a : Nat) (ha : a < 2 ^ 57) (hN : 70000 < N) : mo st (xGlyphPositionsModel_checkCoverage N (lN a) s) (s_cv u a) (G ∧ s_cov n u a ∧ L + 1 ≤ 20000) (L + 1) := by
  have hn := hm.1
  unfold xGlyphPositionsModel_checkCoverage xGlyphPositionsModel_checkCoverage_32
  obtain ⟨s1, e1, q1⟩ := m_look q
  rw [e1, q_bv_s]
  obtain ⟨s2, e2, q2⟩ := m_u16 hm q1 a (by omega)
  rw [e2, q_bm_s, ll2, lN_add]
  obtain ⟨s3, e3, q3⟩ := m_u16 hm q2 (a + 2) (by omega)
  rw [e3, q_bm_s]
  simp (disch := omega) only [m_eq1, m_eq2]
  unfold xGlyphPositionsModel_checkCoverage_37 s_cov s_cv
  by_cases c1 : (u a).val = 1
  · rw [if_pos c1, if_pos c1, c1]
    obtain ⟨s4, e4, q4⟩ := m_need1 q3
    rw [e4, q_bv_s]
    refine (m_cov1 hm q4 a (u (a + 2)).val ha (by omega) hN).to ?_ (fun _ => rfl) (fun _ => rfl)
    constructor
    · rintro ⟨⟨⟨⟨g1, g2⟩, g3⟩, g4⟩, g5⟩
      refine ⟨g1, ⟨by omega, Or.inl ⟨rfl, ?_, fun k hk => ?_⟩⟩, g2⟩
      · have := s_fill (n := n) (b := a + 4) (m := (u (a + 2)).val) (sz := 2) (by omega) (fun j hj => by have := (g5 j hj).1; omega)
        omega
      · have := (g5 (k + 1) hk).2.resolve_left (by omega)
        exact this
    · rintro ⟨g1, ⟨g2, g3⟩, g4⟩
      have g3 := g3.resolve_right (by omega)
      refine ⟨⟨⟨⟨g1, g4⟩, by omega⟩, by omega⟩, fun k hk => ⟨by omega, ?_⟩⟩
      by_cases k0 : k = 0
      · exact Or.inl k0
      · have := g3.2.2 (k - 1) (by omega)
        rw [show k - 1 + 1 = k by omega] at this
        exact Or.inr this
  · rw [if_neg c1, if_neg c1]
    by_cases c2 : (u a).val = 2
    · rw [if_pos c2, c2]
      obtain ⟨s4, e4, q4⟩ := m_need1 q3
      rw [e4, q_bv_s]
      refine (m_cov2 hm q4 a (u (a + 2)).val ha (by omega) hN).to ?_ (fun _ => rfl) (fun _ => rfl)
      constructor
      · rintro ⟨⟨⟨⟨g1, g2⟩, g3⟩, g4⟩, g5⟩
        refine ⟨g1, ⟨by omega, Or.inr ⟨rfl, ?_, fun k hk => ⟨(g5 k hk).2.2.1, fun k0 => ((g5 k hk).2.1).resolve_left (by omega)⟩, fun k hk => (g5 k hk).2.2.2⟩⟩, g2⟩
        have := s_fill (n := n) (b := a + 4) (m := (u (a + 2)).val) (sz := 6) (by omega) (fun j hj => by have := (g5 j hj).1; omega)
        omega
      · rintro ⟨g1, ⟨g2, g3⟩, g4⟩
        have g3 := g3.resolve_left (by omega)
        refine ⟨⟨⟨⟨g1, g4⟩, by omega⟩, by omega⟩, fun k hk => ⟨by omega, ?_, (g3.2.2.1 k hk).1, g3.2.2.2 k hk⟩⟩
        by_cases k0 : k = 0
        · exact Or.inl k0
        · exact Or.inr ((g3.2.2.1 k hk).2 (by omega))
    · rw [if_neg c2]
      obtain ⟨s4, e4, q4⟩ := m_need0 q3
      rw [e4, q_bv_s]
      have hno : ¬ (G ∧ (a + 4 ≤ n ∧ (((u a).val = 1 ∧ a + 4 + 2 * (u (a + 2)).val ≤ n ∧ s_rise u (a + 4) (u (a + 2)).val 2) ∨ ((u a).val = 2 ∧ a + 4 + 6 * (u (a + 2)).val ≤ n ∧ s_rr u (a + 4) (u (a + 2)).val ∧ ∀ k, k < (u (a + 2)).val → (u (a + 4 + 6 * k + 4)).val = s_cnt u (a + 4) k))) ∧ L + 1 ≤ 20000) := by
        rintro ⟨-, ⟨-, h | h⟩, -⟩
        · exact c1 h.1
        · exact c2 h.1
      obtain ⟨l, hl⟩ := q4.2 (fun h => h)
      refine ⟨0, s4, ?_, m_bad q4 hno, by omega, fun h => absurd h hno, fun _ => rfl⟩
      rw [hl]
      exact m_cov49b a _ _ l hN
end PMl4
