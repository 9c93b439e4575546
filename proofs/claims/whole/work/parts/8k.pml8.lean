section PMl8
variable {n N : Nat} {u : Nat → Fin 65536} {st : QSt}
theorem m_eqc {x c : Nat} (h : x < 2 ^ 31) (hc : c < 2 ^ 31) : nI x = nI c ↔ x = c := nI_eq h hc
theorem m_sub (hm : mH n u st) {G : Prop} {L : Nat} {s : QSt} (q : mQ st G L s) (t a : Nat) (ht : t < 65536) (ha : a < 2 ^ 52) (hN : 70000 < N) : m1 st (xGlyphPositionsModel_checkSubtable N (nI t) (lN a) s) (G ∧ s_sub n u t a ∧ L + s_subK u t a ≤ 20000) (L + s_subK u t a) := by
  unfold xGlyphPositionsModel_checkSubtable xGlyphPositionsModel_checkSubtable_64
  rw [il3, il4, il5, il6]
  simp (disch := omega) only [m_eq1, m_eq2, nI_eq]
  unfold s_sub s_subK
  by_cases c1 : t = 1
  · subst c1
    obtain ⟨s1, e1, q1⟩ := m_single (N := N) hm q a (by omega) hN
    rw [if_pos rfl, if_pos rfl, e1, q_bv_s]
    exact ⟨s1, rfl, q1.to (by simp) (fun _ => rfl)⟩
  by_cases c2 : t = 2
  · subst c2
    obtain ⟨s1, e1, q1⟩ := m_pairs (N := N) hm q a (by omega) hN
    rw [if_neg c1, if_neg c1, if_pos rfl, if_pos rfl, e1, q_bv_s]
    exact ⟨s1, rfl, q1.to (by simp) (fun _ => rfl)⟩
  by_cases c3 : t = 3
  · subst c3
    obtain ⟨s1, e1, q1⟩ := m_joins (N := N) hm q a (by omega) hN
    rw [if_neg c1, if_neg c1, if_neg c2, if_neg c2, if_pos rfl, if_pos rfl, e1, q_bv_s]
    exact ⟨s1, rfl, q1.to (by simp) (fun _ => rfl)⟩
  rw [if_neg c1, if_neg c1, if_neg c2, if_neg c2, if_neg c3, if_neg c3]
  by_cases c4 : t = 4
  · subst c4
    obtain ⟨s1, e1, q1⟩ := m_hangR (N := N) hm q 4 a (by omega) (by omega) hN
    rw [if_pos rfl, e1, q_bv_s]
    exact ⟨s1, rfl, q1.to (by simp) (fun _ => rfl)⟩
  rw [if_neg c4]
  by_cases c5 : t = 5
  · subst c5
    obtain ⟨s1, e1, q1⟩ := m_hangL (N := N) hm q a (by omega) hN
    rw [if_pos rfl, e1, q_bv_s]
    exact ⟨s1, rfl, q1.to (by simp) (fun _ => rfl)⟩
  rw [if_neg c5]
  by_cases c6 : t = 6
  · subst c6
    obtain ⟨s1, e1, q1⟩ := m_hangR (N := N) hm q 6 a (by omega) (by omega) hN
    rw [if_pos rfl, e1, q_bv_s]
    exact ⟨s1, rfl, q1.to (by simp) (fun _ => rfl)⟩
  rw [if_neg c6]
  obtain ⟨s1, e1, q1⟩ := m_need0 q
  rw [e1, q_bv_s]
  exact ⟨s1, rfl, m_bad q1 (by simp [c1, c2, c3, c4, c5, c6])⟩
theorem s_sub_le {t a : Nat} (h : s_sub n u t a) : a ≤ n := by
  rcases h with ⟨-, h⟩ | ⟨-, h⟩ | ⟨-, h⟩ | ⟨-, h⟩
  · have := h.1; omega
  · have := h.1; omega
  · have := h.1; omega
  · have := h.1; omega
theorem s_sub_ne9 {a : Nat} : ¬ s_sub n u 9 a := by
  rintro (⟨h, -⟩ | ⟨h, -⟩ | ⟨h, -⟩ | ⟨h, -⟩) <;> omega
/-- the loop of a lookup that is no extension -/
theorem m_lkN (hm : mH n u st) {G : Prop} {L : Nat} {s : QSt} (q : mQ st G L s) (l t w : Nat) (hl : l < 2 ^ 50) (ht : t < 65536) (ht9 : t ≠ 9) (hw : w < 65536) (hN : 70000 < N) : m1 st (xGlyphPositionsModel_checkLookup_76 N (lN l) (nI t) (nI w) N 0 0 s) (G ∧ (∀ k, k < w → l + 6 + 2 * k + 2 ≤ n ∧ s_sub n u t (l + (u (l + 6 + 2 * k)).val)) ∧ L + s_sum (fun k => s_subK u t (l + (u (l + 6 + 2 * k)).val)) w ≤ 20000) (L + s_sum (fun k => s_subK u t (l + (u (l + 6 + 2 * k)).val)) w) := by
  exact m_loop1 (st := st) (fun f (_ : Unit) k s => xGlyphPositionsModel_checkLookup_76 N (lN l) (nI t) (nI w) f 0 (nI k) s) (fun _ => ()) w (fun k => l + 6 + 2 * k + 2 ≤ n ∧ s_sub n u t (l + (u (l + 6 + 2 * k)).val)) (fun k => s_subK u t (l + (u (l + 6 + 2 * k)).val)) (fun f _ s => by
      show xGlyphPositionsModel_checkLookup_76 N _ _ _ (f + 1) _ _ _ = _
      rw [xGlyphPositionsModel_checkLookup_76, if_pos (nI_le (by omega) (by omega))]) (fun f _ k l hk => by
      show xGlyphPositionsModel_checkLookup_76 N _ _ _ (f + 1) _ _ _ = _
      rw [xGlyphPositionsModel_checkLookup_76, if_neg (nI_ge (by omega) (by omega)), mS_b, if_neg m_1ne]) (fun f k L hk hL _ => by
      refine ⟨(), ?_⟩
      show ∃ s', xGlyphPositionsModel_checkLookup_76 N _ _ _ (f + 1) _ _ _ = xGlyphPositionsModel_checkLookup_76 N _ _ _ f _ _ _ ∧ _
      rw [xGlyphPositionsModel_checkLookup_76, if_neg (nI_ge (by omega) (by omega)), if_pos (mS_b ..), ll6, ll2, nI_l (by omega), lN_mul, lN_add, lN_add]
      obtain ⟨s4, e4, q4⟩ := m_u16 hm (mQ.good (st := st) hL) (l + 6 + 2 * k) (by omega)
      rw [e4, q_bm_s, nI_l (by omega), lN_add, q_lt, if_neg (by rw [il9, nI_eq (by omega) (by omega)]; exact ht9)]
      obtain ⟨s5, e5, q5⟩ := m_sub (N := N) hm q4 t (l + (u (l + 6 + 2 * k)).val) ht (by omega) hN
      rw [e5, q_bv_s, nI_1]
      exact ⟨s5, rfl, q5.to ⟨fun h => ⟨⟨h.1.2, h.2.1⟩, h.2.2⟩, fun h => ⟨⟨trivial, h.1.1⟩, h.1.2, h.2⟩⟩ (fun _ => rfl), fun _ => by trivial⟩) (show w < N by omega) q
theorem m_lkE (hm : mH n u st) {G : Prop} {L : Nat} {s : QSt} (q : mQ st G L s) (l w : Nat) (hl : l < 2 ^ 50) (hw : w < 65536) (hN : 70000 < N) : m1 st (xGlyphPositionsModel_checkLookup_76 N (lN l) (nI 9) (nI w) N 0 0 s) (G ∧ (∀ k, k < w → l + 6 + 2 * k + 2 ≤ n ∧ s_ext n u (l + (u (l + 6 + 2 * k)).val) (u (l + (u (l + 6)).val + 2)).val) ∧ L + s_sum (fun k => s_subK u (u (l + (u (l + 6)).val + 2)).val (l + (u (l + 6 + 2 * k)).val + s_4 u (l + (u (l + 6 + 2 * k)).val + 4))) w ≤ 20000) (L + s_sum (fun k => s_subK u (u (l + (u (l + 6)).val + 2)).val (l + (u (l + 6 + 2 * k)).val + s_4 u (l + (u (l + 6 + 2 * k)).val + 4))) w) := by
  have hn := hm.1
  generalize hT : (u (l + (u (l + 6)).val + 2)).val = T
  have hTl : T < 65536 := by omega
  exact m_loop1 (st := st) (fun f (c : Int32) k s => xGlyphPositionsModel_checkLookup_76 N (lN l) (nI 9) (nI w) f c (nI k) s) (fun k => if k = 0 then 0 else nI T) w (fun k => l + 6 + 2 * k + 2 ≤ n ∧ s_ext n u (l + (u (l + 6 + 2 * k)).val) T) (fun k => s_subK u T (l + (u (l + 6 + 2 * k)).val + s_4 u (l + (u (l + 6 + 2 * k)).val + 4))) (fun f _ s => by
      show xGlyphPositionsModel_checkLookup_76 N _ _ _ (f + 1) _ _ _ = _
      rw [xGlyphPositionsModel_checkLookup_76, if_pos (nI_le (by omega) (by omega))]) (fun f _ k l hk => by
      show xGlyphPositionsModel_checkLookup_76 N _ _ _ (f + 1) _ _ _ = _
      rw [xGlyphPositionsModel_checkLookup_76, if_neg (nI_ge (by omega) (by omega)), mS_b, if_neg m_1ne]) (fun f k L hk hL _ => by
      refine ⟨nI (u (l + (u (l + 6 + 2 * k)).val + 2)).val, ?_⟩
      show ∃ s', xGlyphPositionsModel_checkLookup_76 N _ _ _ (f + 1) _ _ _ = xGlyphPositionsModel_checkLookup_76 N _ _ _ f _ _ _ ∧ _
      rw [xGlyphPositionsModel_checkLookup_76, if_neg (nI_ge (by omega) (by omega)), if_pos (mS_b ..), ll6, ll2, nI_l (by omega), lN_mul, lN_add, lN_add]
      obtain ⟨s4, e4, q4⟩ := m_u16 hm (mQ.good (st := st) hL) (l + 6 + 2 * k) (by omega)
      rw [e4, q_bm_s, nI_l (by omega), lN_add, q_lt, if_pos (show nI 9 = 9 from rfl)]
      have hk0 : k = 0 → (u (l + (u (l + 6 + 2 * k)).val + 2)).val = T := by
        intro h
        rw [h, Nat.mul_zero, Nat.add_zero]
        exact hT
      generalize he : l + (u (l + 6 + 2 * k)).val = e at *
      have hel : e < 2 ^ 51 := by omega
      rw [lN_add]
      obtain ⟨s5, e5, q5⟩ := m_u16 hm q4 (e + 2) (by omega)
      rw [e5, q_bm_s]
      obtain ⟨s6, e6, q6⟩ := m_u16 hm q5 e (by omega)
      rw [e6, q_bm_s]
      have h4l := @s_4lt u (e + 4)
      have h158 : ∀ (c : Prop), ∃ s', xGlyphPositionsModel_checkLookup_158 N (xGlyphPositionsModel_checkLookup_76 N (lN l) (nI 9) (nI w) f) (lN l) (nI 9) (nI w) (nI k) (lN e) (nI (u (e + 2)).val) (bI c) s6 = xGlyphPositionsModel_checkLookup_76 N (lN l) (nI 9) (nI w) f (nI (u (e + 2)).val) (nI (k + 1)) s' ∧ mQ st ((c ∧ l + 6 + 2 * k + 2 ≤ n ∧ e + 8 ≤ n ∧ s_sub n u (u (e + 2)).val (e + s_4 u (e + 4))) ∧ L + s_subK u (u (e + 2)).val (e + s_4 u (e + 4)) ≤ 20000) (L + s_subK u (u (e + 2)).val (e + s_4 u (e + 4))) s' := by
        intro c
        unfold xGlyphPositionsModel_checkLookup_158
        obtain ⟨s7, e7, q7⟩ := m_needB q6 c
        rw [e7, q_bv_s, ll4, lN_add]
        obtain ⟨s8, e8, q8⟩ := m_u32 hm q7 (e + 4) (by omega)
        rw [e8, q_bm_s, lN_add]
        obtain ⟨s9, e9, q9⟩ := m_sub (N := N) hm q8 (u (e + 2)).val (e + s_4 u (e + 4)) (by omega) (by omega) hN
        rw [e9, q_bv_s, nI_1]
        refine ⟨s9, rfl, q9.to ?_ (fun _ => rfl)⟩
        constructor
        · rintro ⟨⟨⟨⟨⟨⟨g1, g2⟩, g3⟩, g4⟩, g5⟩, g6⟩, g7, g8⟩
          exact ⟨⟨g5, g2, by omega, g7⟩, g8⟩
        · rintro ⟨⟨g5, g2, g6, g7⟩, g8⟩
          exact ⟨⟨⟨⟨⟨⟨trivial, g2⟩, by omega⟩, by omega⟩, g5⟩, by omega⟩, g7, g8⟩
      have hno : ∀ {P : Prop}, ¬ ((u e).val = 1 ∧ (u (e + 2)).val = T) → ((l + 6 + 2 * k + 2 ≤ n ∧ s_ext n u e T) ∧ P) → False := fun h1 h2 => h1 ⟨h2.1.2.2.1, h2.1.2.2.2.1⟩
      have hgo : ∀ {o : Option QSt}, o = xGlyphPositionsModel_checkLookup_158 N (xGlyphPositionsModel_checkLookup_76 N (lN l) (nI 9) (nI w) f) (lN l) (nI 9) (nI w) (nI k) (lN e) (nI (u (e + 2)).val) (bI ((u e).val = 1 ∧ (u (e + 2)).val = T)) s6 → ∃ s', o = xGlyphPositionsModel_checkLookup_76 N (lN l) (nI 9) (nI w) f (nI (u (e + 2)).val) (nI (k + 1)) s' ∧ mQ st ((l + 6 + 2 * k + 2 ≤ n ∧ s_ext n u e T) ∧ L + s_subK u T (e + s_4 u (e + 4)) ≤ 20000) (L + s_subK u T (e + s_4 u (e + 4))) s' ∧ (l + 6 + 2 * k + 2 ≤ n ∧ s_ext n u e T → nI (u (e + 2)).val = if k + 1 = 0 then 0 else nI T) := by
        intro o ho
        obtain ⟨s7, e7, q7⟩ := h158 ((u e).val = 1 ∧ (u (e + 2)).val = T)
        refine ⟨s7, ho.trans e7, q7.to ?_ ?_, fun h => by rw [if_neg (by omega), h.2.2.2.1]⟩
        · unfold s_ext
          constructor
          · rintro ⟨⟨⟨g1, g2⟩, g3, g4, g5⟩, g6⟩
            rw [g2] at g5 g6
            have := s_sub_le g5
            exact ⟨⟨g3, g4, g1, g2, by omega, g5⟩, g6⟩
          · rintro ⟨⟨g3, g4, g1, g2, -, g5⟩, g6⟩
            rw [g2]
            exact ⟨⟨⟨g1, rfl⟩, g3, g4, g5⟩, g6⟩
        · rintro ⟨⟨⟨-, g2⟩, -⟩, -⟩
          rw [g2]
      apply hgo
      unfold xGlyphPositionsModel_checkLookup_153 xGlyphPositionsModel_checkLookup_157
      simp (disch := omega) only [m_eq1, m_eq0]
      by_cases d1 : (u e).val = 1
      · rw [if_pos d1]
        by_cases d2 : k = 0
        · rw [if_pos d2, bI_t ⟨d1, hk0 d2⟩]
        · rw [if_neg d2, if_neg d2]
          by_cases d3 : (u (e + 2)).val = T
          · rw [if_pos (by rw [d3]), bI_t ⟨d1, d3⟩]
          · rw [if_neg (by rw [nI_eq (by omega) (by omega)]; exact d3), bI_f (fun h => d3 h.2)]
      · rw [if_neg d1, bI_f (fun h => d1 h.1)]) (show w < N by omega) q
theorem m_lookup (hm : mH n u st) {G : Prop} {L : Nat} {s : QSt} (q : mQ st G L s) (l : Nat) (hl : l < 2 ^ 50) (hN : 70000 < N) : m1 st (xGlyphPositionsModel_checkLookup N (lN l) s) (G ∧ s_lk n u l ∧ L + s_lkK u l ≤ 20000) (L + s_lkK u l) := by
  unfold xGlyphPositionsModel_checkLookup xGlyphPositionsModel_checkLookup_18 xGlyphPositionsModel_checkLookup_24
  obtain ⟨s1, e1, q1⟩ := m_u16 hm q l (by omega)
  rw [e1, q_bm_s]
  have h29 : ∀ (c : Prop), m1 st (xGlyphPositionsModel_checkLookup_29 N (lN l) (nI (u l).val) (bI c) s1) (G ∧ ((c ∧ l + 4 ≤ n ∧ (u (l + 2)).val / 16 % 2 = 0 ∧ s_list n u (l + 4) 16 2) ∧ ∀ k, k < (u (l + 4)).val → s_st n u l k) ∧ L + s_lkK u l ≤ 20000) (L + s_lkK u l) := by
    intro c
    unfold xGlyphPositionsModel_checkLookup_29
    obtain ⟨s2, e2, q2⟩ := m_needB q1 c
    rw [e2, q_bv_s, ll2, lN_add]
    obtain ⟨s3, e3, q3⟩ := m_u16 hm q2 (l + 2) (by omega)
    rw [e3, q_bm_s, pk_shrN (by omega) _ 4 (by decide), pk_andN (by omega) 1 (by decide)]
    simp (disch := omega) only [m_eq0]
    unfold xGlyphPositionsModel_checkLookup_54
    rw [q_nj]
    obtain ⟨s4, e4, q4⟩ := m_needB q3 ((u (l + 2)).val / 2 ^ 4 % 2 ^ 1 = 0)
    rw [e4, q_bv_s, ll4, lN_add, il16]
    obtain ⟨w, s5, e5, q5, w1, w2, w3⟩ := m_most hm q4 (l + 4) (m := 16) (by omega) (by omega)
    have hw := mo_le w2 w3
    rw [e5, q_bm_s]
    unfold s_lkK s_stK s_st s_list
    by_cases d : (u l).val = 9
    · simp only [d, if_true, ne_eq, not_true_eq_false, false_and, false_or, true_and]
      obtain ⟨s6, e6, q6⟩ := m_lkE (N := N) hm q5 l w hl (by omega) hN
      refine ⟨s6, e6, q6.to ?_ ?_⟩
      · constructor
        · rintro ⟨⟨⟨⟨⟨⟨g1, g2⟩, g3⟩, g4⟩, g5⟩, g6, g7⟩, g8, g9⟩
          rw [w2 ⟨⟨⟨⟨⟨g1, g2⟩, g3⟩, g4⟩, g5⟩, g6, g7⟩] at g8 g9
          exact ⟨g1, ⟨⟨g3, by omega, g5, g6, g7, s_fill g6 (fun j hj => by have := (g8 j hj).1; omega)⟩, fun k hk => (g8 k hk).2⟩, g9⟩
        · rintro ⟨g1, ⟨⟨g3, g4, g5, g6, g7, g10⟩, g8⟩, g9⟩
          have h0 : ((((G ∧ l + 2 ≤ n) ∧ c) ∧ l + 2 + 2 ≤ n) ∧ (u (l + 2)).val / 2 ^ 4 % 2 ^ 1 = 0) ∧ l + 4 + 2 ≤ n ∧ (u (l + 4)).val ≤ 16 := ⟨⟨⟨⟨⟨g1, by omega⟩, g3⟩, by omega⟩, g5⟩, g6, g7⟩
          refine ⟨h0, ?_⟩
          rw [w2 h0]
          exact ⟨fun k hk => ⟨by omega, g8 k hk⟩, g9⟩
      · rintro ⟨h0, -⟩
        rw [w2 h0]
    · simp only [d, if_false, ne_eq, not_false_eq_true, true_and, false_and, or_false]
      obtain ⟨s6, e6, q6⟩ := m_lkN (N := N) hm q5 l (u l).val w hl (by omega) d (by omega) hN
      refine ⟨s6, e6, q6.to ?_ ?_⟩
      · constructor
        · rintro ⟨⟨⟨⟨⟨⟨g1, g2⟩, g3⟩, g4⟩, g5⟩, g6, g7⟩, g8, g9⟩
          rw [w2 ⟨⟨⟨⟨⟨g1, g2⟩, g3⟩, g4⟩, g5⟩, g6, g7⟩] at g8 g9
          exact ⟨g1, ⟨⟨g3, by omega, g5, g6, g7, s_fill g6 (fun j hj => by have := (g8 j hj).1; omega)⟩, fun k hk => (g8 k hk).2⟩, g9⟩
        · rintro ⟨g1, ⟨⟨g3, g4, g5, g6, g7, g10⟩, g8⟩, g9⟩
          have h0 : ((((G ∧ l + 2 ≤ n) ∧ c) ∧ l + 2 + 2 ≤ n) ∧ (u (l + 2)).val / 2 ^ 4 % 2 ^ 1 = 0) ∧ l + 4 + 2 ≤ n ∧ (u (l + 4)).val ≤ 16 := ⟨⟨⟨⟨⟨g1, by omega⟩, g3⟩, by omega⟩, g5⟩, g6, g7⟩
          refine ⟨h0, ?_⟩
          rw [w2 h0]
          exact ⟨fun k hk => ⟨by omega, g8 k hk⟩, g9⟩
      · rintro ⟨h0, -⟩
        rw [w2 h0]
  have hgo : ∀ {o : Option QSt}, o = xGlyphPositionsModel_checkLookup_29 N (lN l) (nI (u l).val) (bI ((1 ≤ (u l).val ∧ (u l).val ≤ 6) ∨ (u l).val = 9)) s1 → m1 st o (G ∧ s_lk n u l ∧ L + s_lkK u l ≤ 20000) (L + s_lkK u l) := by
    intro o ho
    obtain ⟨s2, e2, q2⟩ := h29 ((1 ≤ (u l).val ∧ (u l).val ≤ 6) ∨ (u l).val = 9)
    refine ⟨s2, ho.trans e2, q2.to ?_ (fun _ => rfl)⟩
    unfold s_lk s_lo
    constructor
    · rintro ⟨g1, ⟨⟨g2, g3, g4, g5⟩, g6⟩, g7⟩
      exact ⟨g1, ⟨⟨g3, g2, g4, g5⟩, g6⟩, g7⟩
    · rintro ⟨g1, ⟨⟨g3, g2, g4, g5⟩, g6⟩, g7⟩
      exact ⟨g1, ⟨⟨g2, g3, g4, g5⟩, g6⟩, g7⟩
  apply hgo
  rw [il6, il9]
  simp (disch := omega) only [m_lt1, nI_leI, nI_eq]
  by_cases d1 : (u l).val = 0
  · rw [if_pos d1, if_neg (by omega), bI_f (by omega)]
  · rw [if_neg d1]
    by_cases d2 : (u l).val ≤ 6
    · rw [if_pos d2, bI_t (by omega)]
    · rw [if_neg d2]
      by_cases d3 : (u l).val = 9
      · rw [if_pos d3, bI_t (by omega)]
      · rw [if_neg d3, bI_f (by omega)]
theorem m_lks (hm : mH n u st) (hh : 10 ≤ n) {G : Prop} {L : Nat} {s : QSt} (q : mQ st G L s) (hN : 70000 < N) : m1 st (xGlyphPositionsModel_checkLookups N s) (G ∧ s_lks n u ∧ L + s_lksK u ≤ 20000) (L + s_lksK u) := by
  unfold xGlyphPositionsModel_checkLookups
  obtain ⟨s1, e1, q1⟩ := m_u16 hm q 8 (by omega)
  rw [ll8, e1, q_bm_s, q_lt, nI_l (by omega), il64]
  unfold s_lks s_lksK
  generalize ha : (u 8).val = a
  have hal : a < 65536 := by omega
  obtain ⟨w, s2, e2, q2, w1, w2, w3⟩ := m_most hm q1 a (m := 64) (by omega) (by omega)
  have hw := mo_le w2 w3
  rw [e2, q_bm_s]
  obtain ⟨s3, e3, q3⟩ := m_loop1 (st := st) (fun f (_ : Unit) k s => xGlyphPositionsModel_checkLookups_20 N (lN a) (nI w) f (nI k) s) (fun _ => ()) w (fun k => a + 2 + 2 * k + 2 ≤ n ∧ s_lk n u (a + (u (a + 2 + 2 * k)).val)) (fun k => s_lkK u (a + (u (a + 2 + 2 * k)).val)) (fun f _ s => by
      show xGlyphPositionsModel_checkLookups_20 N _ _ (f + 1) _ _ = _
      rw [xGlyphPositionsModel_checkLookups_20, if_pos (nI_le (by omega) (by omega))]) (fun f _ k l hk => by
      show xGlyphPositionsModel_checkLookups_20 N _ _ (f + 1) _ _ = _
      rw [xGlyphPositionsModel_checkLookups_20, if_neg (nI_ge (by omega) (by omega)), mS_b, if_neg m_1ne]) (fun f k L hk hL _ => by
      refine ⟨(), ?_⟩
      show ∃ s', xGlyphPositionsModel_checkLookups_20 N _ _ (f + 1) _ _ = xGlyphPositionsModel_checkLookups_20 N _ _ f _ _ ∧ _
      rw [xGlyphPositionsModel_checkLookups_20, if_neg (nI_ge (by omega) (by omega)), if_pos (mS_b ..), ll2, nI_l (by omega), lN_mul, lN_add, lN_add]
      obtain ⟨s4, e4, q4⟩ := m_u16 hm (mQ.good (st := st) hL) (a + 2 + 2 * k) (by omega)
      rw [e4, q_bm_s, nI_l (by omega), lN_add]
      obtain ⟨s5, e5, q5⟩ := m_lookup (N := N) hm q4 (a + (u (a + 2 + 2 * k)).val) (by omega) hN
      rw [e5, q_bv_s, nI_1]
      exact ⟨s5, rfl, q5.to ⟨fun h => ⟨⟨h.1.2, h.2.1⟩, h.2.2⟩, fun h => ⟨⟨trivial, h.1.1⟩, h.1.2, h.2⟩⟩ (fun _ => rfl), fun _ => by trivial⟩) (show w < N by omega) q2
  refine ⟨s3, e3, q3.to ?_ ?_⟩
  · unfold s_list
    constructor
    · rintro ⟨⟨⟨g1, g2⟩, g3, g4⟩, g5, g6⟩
      rw [w2 ⟨⟨g1, g2⟩, g3, g4⟩] at g5 g6
      exact ⟨g1, ⟨⟨g3, g4, s_fill g3 (fun j hj => (g5 j hj).1)⟩, fun k hk => (g5 k hk).2⟩, g6⟩
    · rintro ⟨g1, ⟨⟨g3, g4, g7⟩, g5⟩, g6⟩
      have h0 : (G ∧ 8 + 2 ≤ n) ∧ a + 2 ≤ n ∧ (u a).val ≤ 64 := ⟨⟨g1, by omega⟩, g3, g4⟩
      refine ⟨h0, ?_⟩
      rw [w2 h0]
      exact ⟨fun k hk => ⟨by omega, g5 k hk⟩, g6⟩
  · rintro ⟨h0, -⟩
    rw [w2 h0]
end PMl8
