section PMl7
variable {n N : Nat} {u : Nat → Fin 65536} {st : QSt}
theorem s_sum_add (f : Nat → Nat) (x y : Nat) : s_sum f (x + y) = s_sum f x + s_sum (fun j => f (x + j)) y := by
  induction y with
  | zero => rfl
  | succ y ih =>
    show s_sum f (x + y) + f (x + y) = s_sum f x + (s_sum _ y + f (x + y))
    rw [ih]; omega
theorem s_sum_c {f g : Nat → Nat} {m : Nat} (h : ∀ k, k < m → f k = g k) : s_sum f m = s_sum g m := by
  induction m with
  | zero => rfl
  | succ m ih =>
    show s_sum f m + f m = s_sum g m + g m
    rw [ih (fun k hk => h k (by omega)), h m (by omega)]
theorem s_flatK (b c m : Nat) : s_sum (fun k => s_ancK u (b + 2 * c * k) c) m = s_ancK u b (m * c) := by
  induction m with
  | zero => rw [Nat.zero_mul]; rfl
  | succ m ih =>
    show s_sum _ m + s_ancK u (b + 2 * c * m) c = _
    rw [ih, show (m + 1) * c = m * c + c from Nat.succ_mul m c]
    unfold s_ancK
    rw [s_sum_add]
    congr 1
    refine s_sum_c (fun k _ => ?_)
    rw [show b + 2 * c * m + 2 * k = b + 2 * (m * c + k) by rw [Nat.mul_add, Nat.mul_assoc, Nat.mul_comm c m]; omega]
theorem s_flat (P : Nat → Prop) (c m : Nat) : (∀ k, k < m → ∀ j, j < c → P (k * c + j)) ↔ ∀ i, i < m * c → P i := by
  constructor
  · intro h i hi
    have hc : 0 < c := by
      refine Nat.pos_of_ne_zero (fun h0 => ?_)
      rw [h0, Nat.mul_zero] at hi
      omega
    have := h (i / c) (Nat.div_lt_of_lt_mul (by rw [Nat.mul_comm]; exact hi)) (i % c) (Nat.mod_lt _ hc)
    rw [Nat.mul_comm, Nat.div_add_mod] at this
    exact this
  · intro h k hk j hj
    have h1 : (k + 1) * c ≤ m * c := Nat.mul_le_mul_right _ hk
    rw [Nat.succ_mul] at h1
    exact h _ (by omega)
theorem m_marks (hm : mH n u st) {G : Prop} {L : Nat} {s : QSt} (q : mQ st G L s) (a c : Nat) (ha : a < 2 ^ 54) (hc : c < 65536) (hN : 70000 < N) : m1 st (xGlyphPositionsModel_checkMarks N (lN a) (nI c) s) (G ∧ (a + 10 ≤ n ∧ s_cov n u (a + (u (a + 2)).val) ∧ s_marks n u (a + (u (a + 8)).val) (s_cv u (a + (u (a + 2)).val)) c) ∧ L + (1 + (u (a + (u (a + 8)).val)).val) ≤ 20000) (L + (1 + (u (a + (u (a + 8)).val)).val)) := by
  unfold xGlyphPositionsModel_checkMarks
  rw [ll8, lN_add]
  obtain ⟨s1, e1, q1⟩ := m_u16 hm q (a + 8) (by omega)
  rw [e1, q_bm_s, nI_l (by omega), lN_add, q_lt, il256]
  generalize hb : a + (u (a + 8)).val = b
  have hbl : b < 2 ^ 55 := by omega
  obtain ⟨w, s2, e2, q2, w1, w2, w3⟩ := m_most hm q1 b (m := 256) (by omega) (by omega)
  have hw := mo_le w2 w3
  rw [e2, q_bm_s, ll2, lN_add]
  obtain ⟨s3, e3, q3⟩ := m_u16 hm q2 (a + 2) (by omega)
  rw [e3, q_bm_s, nI_l (by omega), lN_add]
  obtain ⟨v, s4, e4, q4, v1, v2, v3⟩ := m_cov (N := N) hm q3 (a + (u (a + 2)).val) (by omega) hN
  rw [e4, q_bm_s]
  simp (disch := omega) only [nI_eq]
  unfold xGlyphPositionsModel_checkMarks_52
  rw [q_nj]
  obtain ⟨s5, e5, q5⟩ := m_needB q4 (v = w)
  rw [e5, q_bv_s]
  obtain ⟨s6, e6, q6⟩ := m_loop1 (st := st) (fun f (_ : Unit) k s => xGlyphPositionsModel_checkMarks_58 N (nI c) (lN b) (nI w) f (nI k) s) (fun _ => ()) w (fun k => b + 2 + 4 * k + 4 ≤ n ∧ (u (b + 2 + 4 * k)).val < c ∧ s_anc n u (b + (u (b + 4 + 4 * k)).val)) (fun _ => 1) (fun f _ s => by
      show xGlyphPositionsModel_checkMarks_58 N _ _ _ (f + 1) _ _ = _
      rw [xGlyphPositionsModel_checkMarks_58, if_pos (nI_le (by omega) (by omega))]) (fun f _ k l hk => by
      show xGlyphPositionsModel_checkMarks_58 N _ _ _ (f + 1) _ _ = _
      rw [xGlyphPositionsModel_checkMarks_58, if_neg (nI_ge (by omega) (by omega)), mS_b, if_neg m_1ne]) (fun f k L hk hL _ => by
      refine ⟨(), ?_⟩
      show ∃ s', xGlyphPositionsModel_checkMarks_58 N _ _ _ (f + 1) _ _ = xGlyphPositionsModel_checkMarks_58 N _ _ _ f _ _ ∧ _
      rw [xGlyphPositionsModel_checkMarks_58, if_neg (nI_ge (by omega) (by omega)), if_pos (mS_b ..), ll2, ll4, nI_l (by omega), lN_mul, lN_add, lN_add]
      obtain ⟨s7, e7, q7⟩ := m_u16 hm (mQ.good (st := st) hL) (b + 2 + 4 * k) (by omega)
      rw [e7, q_bm_s]
      simp (disch := omega) only [nI_leI]
      unfold xGlyphPositionsModel_checkMarks_100
      rw [q_ni]
      obtain ⟨s8, e8, q8⟩ := m_needB q7 (¬ c ≤ (u (b + 2 + 4 * k)).val)
      rw [e8, q_bv_s, ll4, nI_l (by omega), lN_mul, lN_add, lN_add]
      obtain ⟨s9, e9, q9⟩ := m_u16 hm q8 (b + 4 + 4 * k) (by omega)
      rw [e9, q_bm_s, nI_l (by omega), lN_add]
      obtain ⟨s10, e10, q10⟩ := m_anc hm q9 (b + (u (b + 4 + 4 * k)).val) (by omega)
      rw [e10, q_bv_s, nI_1]
      exact ⟨s10, rfl, q10.to ⟨fun h => ⟨⟨by have := h.1.2; omega, by have := h.1.1.2; omega, h.2.1⟩, h.2.2⟩, fun h => ⟨⟨⟨⟨trivial, by omega⟩, by omega⟩, by omega⟩, h.1.2.2, h.2⟩⟩ (fun _ => rfl), fun _ => by trivial⟩) (show w < N by omega) q5
  rw [s_sum1] at q6
  refine ⟨s6, e6, q6.to ?_ ?_⟩
  · unfold s_marks s_idx s_list
    constructor
    · rintro ⟨⟨⟨⟨⟨⟨g1, g2⟩, g3, g4⟩, g5⟩, g6, g7⟩, g8⟩, g9, g10⟩
      rw [v2 ⟨⟨⟨⟨g1, g2⟩, g3, g4⟩, g5⟩, g6, g7⟩, w2 ⟨⟨g1, g2⟩, g3, g4⟩] at g8
      rw [w2 ⟨⟨g1, g2⟩, g3, g4⟩] at g9 g10
      refine ⟨g1, ⟨by omega, g6, ⟨⟨g3, g4, ?_⟩, g8.symm⟩, fun k hk => (g9 k hk).2⟩, by omega⟩
      exact s_fill g3 (fun j hj => by have := (g9 j hj).1; omega)
    · rintro ⟨g1, ⟨g2, g6, ⟨⟨g3, g4, g20⟩, g8⟩, g9⟩, g10⟩
      have h1 : (G ∧ a + 8 + 2 ≤ n) ∧ b + 2 ≤ n ∧ (u b).val ≤ 256 := ⟨⟨g1, by omega⟩, g3, g4⟩
      have h2 : (((G ∧ a + 8 + 2 ≤ n) ∧ b + 2 ≤ n ∧ (u b).val ≤ 256) ∧ a + 2 + 2 ≤ n) ∧ s_cov n u (a + (u (a + 2)).val) ∧ L + 1 ≤ 20000 := ⟨⟨h1, by omega⟩, g6, by omega⟩
      refine ⟨⟨h2, ?_⟩, ?_⟩
      · rw [v2 h2, w2 h1]; exact g8.symm
      · rw [w2 h1]
        exact ⟨fun k hk => ⟨by omega, g9 k hk⟩, by omega⟩
  · rintro ⟨⟨⟨⟨h1, -⟩, -⟩, -⟩, -⟩
    rw [w2 h1]
    omega
theorem m_parts (hm : mH n u st) {G : Prop} {L : Nat} {s : QSt} (q : mQ st G L s) (l c : Nat) (hl : l < 2 ^ 55) (hc : c ≤ 16) (hN : 70000 < N) : m1 st (xGlyphPositionsModel_checkParts N (lN l) (nI c) s) (G ∧ s_lig n u l c ∧ L + (1 + s_ancK u (l + 2) ((u l).val * c)) ≤ 20000) (L + (1 + s_ancK u (l + 2) ((u l).val * c))) := by
  unfold xGlyphPositionsModel_checkParts
  obtain ⟨s1, e1, q1⟩ := m_look q
  rw [e1, q_bv_s, il16]
  obtain ⟨w, s2, e2, q2, w1, w2, w3⟩ := m_most hm q1 l (m := 16) (by omega) (by omega)
  have hw : w ≤ 16 := by
    by_cases g : (u l).val ≤ 16
    · have := mo_le w2 w3; omega
    · have := w3 (fun h => g h.2.2); omega
  rw [e2, q_bm_s]
  simp (disch := omega) only [m_le0]
  unfold xGlyphPositionsModel_checkParts_24
  rw [q_ni]
  obtain ⟨s3, e3, q3⟩ := m_needB q2 (¬ w = 0)
  have hwc : w * c ≤ 16 * 16 := Nat.mul_le_mul hw hc
  rw [e3, q_bv_s, ll2, lN_add, pk_mul]
  obtain ⟨s4, e4, q4⟩ := m_row (N := N) hm q3 l (l + 2) (w * c) (by omega) (by omega) (by omega) hN
  rw [e4, q_bv_s]
  refine ⟨s4, rfl, q4.to ?_ ?_⟩
  · unfold s_lig s_list s_ancs
    constructor
    · rintro ⟨⟨⟨⟨g1, g2⟩, g3, g4⟩, g5⟩, g6, g7⟩
      rw [w2 ⟨⟨g1, g2⟩, g3, g4⟩] at g5 g6 g7
      refine ⟨g1, ⟨⟨g3, g4, ?_⟩, g5, fun k hk => (g6 k hk).2⟩, by omega⟩
      have := s_fill (n := n) (b := l + 2) (m := (u l).val * c) (sz := 2) g3 (fun j hj => (g6 j hj).1)
      rw [show (u l).val * (2 * c) = (u l).val * c * 2 by rw [Nat.mul_comm 2 c, Nat.mul_assoc]]
      exact this
    · rintro ⟨g1, ⟨⟨g3, g4, g8⟩, g5, g6⟩, g7⟩
      have h0 : (G ∧ L + 1 ≤ 20000) ∧ l + 2 ≤ n ∧ (u l).val ≤ 16 := ⟨⟨g1, by omega⟩, g3, g4⟩
      rw [show (u l).val * (2 * c) = (u l).val * c * 2 by rw [Nat.mul_comm 2 c, Nat.mul_assoc]] at g8
      rw [w2 h0]
      exact ⟨⟨h0, g5⟩, fun k hk => ⟨by omega, g6 k hk⟩, by omega⟩
  · rintro ⟨⟨h0, -⟩, -⟩
    rw [w2 h0]
    omega
theorem m_hang0 (hm : mH n u st) {G : Prop} {L : Nat} {s : QSt} (q : mQ st G L s) (a : Nat) (x3 : Int32) (ha : a < 2 ^ 53) (hN : 70000 < N) :
    ∃ (c w : Nat) (s' : QSt), xGlyphPositionsModel_checkHanging N (lN a) x3 s = xGlyphPositionsModel_checkHanging_96 N x3 (nI c) (lN (a + (u (a + 10)).val)) (nI w) N 0 s' ∧ c ≤ 16 ∧ w ≤ 256 ∧
      mQ st (G ∧ (a + 12 ≤ n ∧ (u a).val = 1 ∧ s_cov n u (a + (u (a + 2)).val) ∧ s_cov n u (a + (u (a + 4)).val) ∧ (u (a + 6)).val ≤ 16 ∧ s_marks n u (a + (u (a + 8)).val) (s_cv u (a + (u (a + 2)).val)) (u (a + 6)).val ∧ a + (u (a + 10)).val + 2 ≤ n ∧ (u (a + (u (a + 10)).val)).val ≤ 256 ∧ (u (a + (u (a + 10)).val)).val = s_cv u (a + (u (a + 4)).val)) ∧ L + (2 + (u (a + (u (a + 8)).val)).val) ≤ 20000) (L + (2 + (u (a + (u (a + 8)).val)).val)) s' ∧
      (G ∧ (a + 12 ≤ n ∧ (u a).val = 1 ∧ s_cov n u (a + (u (a + 2)).val) ∧ s_cov n u (a + (u (a + 4)).val) ∧ (u (a + 6)).val ≤ 16 ∧ s_marks n u (a + (u (a + 8)).val) (s_cv u (a + (u (a + 2)).val)) (u (a + 6)).val ∧ a + (u (a + 10)).val + 2 ≤ n ∧ (u (a + (u (a + 10)).val)).val ≤ 256 ∧ (u (a + (u (a + 10)).val)).val = s_cv u (a + (u (a + 4)).val)) ∧ L + (2 + (u (a + (u (a + 8)).val)).val) ≤ 20000 → c = (u (a + 6)).val ∧ w = (u (a + (u (a + 10)).val)).val) := by
  unfold xGlyphPositionsModel_checkHanging
  obtain ⟨s1, e1, q1⟩ := m_u16 hm q a (by omega)
  rw [e1, q_bm_s]
  simp (disch := omega) only [m_eq1]
  unfold xGlyphPositionsModel_checkHanging_15
  rw [q_nj]
  obtain ⟨s2, e2, q2⟩ := m_needB q1 ((u a).val = 1)
  rw [e2, q_bv_s, ll6, lN_add, il16]
  obtain ⟨c, s3, e3, q3, c1, c2, c3⟩ := m_most hm q2 (a + 6) (m := 16) (by omega) (by omega)
  have hc : c ≤ 16 := by
    by_cases g : (u (a + 6)).val ≤ 16
    · have := mo_le c2 c3; omega
    · have := c3 (fun h => g h.2.2); omega
  rw [e3, q_bm_s]
  obtain ⟨s4, e4, q4⟩ := m_marks (N := N) hm q3 a c (by omega) (by omega) hN
  rw [e4, q_bv_s, ll10, lN_add]
  obtain ⟨s5, e5, q5⟩ := m_u16 hm q4 (a + 10) (by omega)
  rw [e5, q_bm_s, nI_l (by omega), lN_add, q_lt, il256]
  generalize hb : a + (u (a + 10)).val = b
  have hbl : b < 2 ^ 54 := by omega
  obtain ⟨w, s6, e6, q6, w1, w2, w3⟩ := m_most hm q5 b (m := 256) (by omega) (by omega)
  have hw : w ≤ 256 := by
    by_cases g : (u b).val ≤ 256
    · have := mo_le w2 w3; omega
    · have := w3 (fun h => g h.2.2); omega
  rw [e6, q_bm_s, ll4, lN_add]
  obtain ⟨s7, e7, q7⟩ := m_u16 hm q6 (a + 4) (by omega)
  rw [e7, q_bm_s, nI_l (by omega), lN_add]
  obtain ⟨v, s8, e8, q8, v1, v2, v3⟩ := m_cov (N := N) hm q7 (a + (u (a + 4)).val) (by omega) hN
  rw [e8, q_bm_s]
  simp (disch := omega) only [nI_eq]
  unfold xGlyphPositionsModel_checkHanging_90
  rw [q_nj]
  obtain ⟨s9, e9, q9⟩ := m_needB q8 (v = w)
  rw [e9, q_bv_s]
  generalize hK : (u (a + (u (a + 8)).val)).val = K
  rw [hK] at q4 q5 q6 q7 q8 q9 w2 w3 v2 v3
  have hiff : (((((((((G ∧ a + 2 ≤ n) ∧ (u a).val = 1) ∧ a + 6 + 2 ≤ n ∧ (u (a + 6)).val ≤ 16) ∧ (a + 10 ≤ n ∧ s_cov n u (a + (u (a + 2)).val) ∧ s_marks n u (a + (u (a + 8)).val) (s_cv u (a + (u (a + 2)).val)) c) ∧ L + (1 + K) ≤ 20000) ∧ a + 10 + 2 ≤ n) ∧ b + 2 ≤ n ∧ (u b).val ≤ 256) ∧ a + 4 + 2 ≤ n) ∧ s_cov n u (a + (u (a + 4)).val) ∧ L + (1 + K) + 1 ≤ 20000) ∧ v = w) ↔ (G ∧ (a + 12 ≤ n ∧ (u a).val = 1 ∧ s_cov n u (a + (u (a + 2)).val) ∧ s_cov n u (a + (u (a + 4)).val) ∧ (u (a + 6)).val ≤ 16 ∧ s_marks n u (a + (u (a + 8)).val) (s_cv u (a + (u (a + 2)).val)) (u (a + 6)).val ∧ b + 2 ≤ n ∧ (u b).val ≤ 256 ∧ (u b).val = s_cv u (a + (u (a + 4)).val)) ∧ L + (2 + K) ≤ 20000) ∧ (c = (u (a + 6)).val ∧ w = (u b).val) := by
    constructor
    · rintro ⟨h8, g20⟩
      have ev := v2 h8
      obtain ⟨⟨h6, g13⟩, g14, g15⟩ := h8
      have ew := w2 h6
      obtain ⟨⟨⟨h3, ⟨g5, g6, g7⟩, g8⟩, g9⟩, g10, g11⟩ := h6
      have ec := c2 h3
      obtain ⟨⟨⟨g1, g2⟩, g3⟩, g4, g12⟩ := h3
      rw [ec] at g7
      exact ⟨⟨g1, ⟨by omega, g3, g6, g14, g12, g7, g10, g11, by rw [← ew, ← ev]; exact g20.symm⟩, by omega⟩, ec, ew⟩
    · rintro ⟨⟨g1, ⟨g2, g3, g6, g14, g12, g7, g10, g11, g20⟩, g21⟩, ec, ew⟩
      rw [ec]
      have h3 : ((G ∧ a + 2 ≤ n) ∧ (u a).val = 1) ∧ a + 6 + 2 ≤ n ∧ (u (a + 6)).val ≤ 16 := ⟨⟨⟨g1, by omega⟩, g3⟩, by omega, g12⟩
      rw [ec] at v2
      have h8 : ((((((G ∧ a + 2 ≤ n) ∧ (u a).val = 1) ∧ a + 6 + 2 ≤ n ∧ (u (a + 6)).val ≤ 16) ∧ (a + 10 ≤ n ∧ s_cov n u (a + (u (a + 2)).val) ∧ s_marks n u (a + (u (a + 8)).val) (s_cv u (a + (u (a + 2)).val)) (u (a + 6)).val) ∧ L + (1 + K) ≤ 20000) ∧ a + 10 + 2 ≤ n) ∧ b + 2 ≤ n ∧ (u b).val ≤ 256) ∧ a + 4 + 2 ≤ n := ⟨⟨⟨⟨h3, ⟨by omega, g6, g7⟩, by omega⟩, by omega⟩, g10, g11⟩, by omega⟩
      have ev := v2 ⟨h8, g14, by omega⟩
      exact ⟨⟨h8, g14, by omega⟩, by rw [ev, ew]; exact g20.symm⟩
  have hcw : (G ∧ (a + 12 ≤ n ∧ (u a).val = 1 ∧ s_cov n u (a + (u (a + 2)).val) ∧ s_cov n u (a + (u (a + 4)).val) ∧ (u (a + 6)).val ≤ 16 ∧ s_marks n u (a + (u (a + 8)).val) (s_cv u (a + (u (a + 2)).val)) (u (a + 6)).val ∧ b + 2 ≤ n ∧ (u b).val ≤ 256 ∧ (u b).val = s_cv u (a + (u (a + 4)).val)) ∧ L + (2 + K) ≤ 20000) → (c = (u (a + 6)).val ∧ w = (u b).val) := by
    rintro ⟨g1, ⟨g2, g3, g6, g14, g12, g7, g10, g11, g20⟩, g21⟩
    have h3 : ((G ∧ a + 2 ≤ n) ∧ (u a).val = 1) ∧ a + 6 + 2 ≤ n ∧ (u (a + 6)).val ≤ 16 := ⟨⟨⟨g1, by omega⟩, g3⟩, by omega, g12⟩
    have ec := c2 h3
    refine ⟨ec, ?_⟩
    rw [ec] at w2
    exact w2 ⟨⟨⟨h3, ⟨by omega, g6, g7⟩, by omega⟩, by omega⟩, g10, g11⟩
  refine ⟨c, w, s9, rfl, hc, hw, q9.to ⟨fun h => (hiff.mp h).1, fun h => hiff.mpr ⟨h, hcw h⟩⟩ (fun _ => by omega), hcw⟩
theorem m_hangR (hm : mH n u st) {G : Prop} {L : Nat} {s : QSt} (q : mQ st G L s) (t a : Nat) (ht : t ≠ 5) (ha : a < 2 ^ 53) (hN : 70000 < N) : m1 st (xGlyphPositionsModel_checkHanging N (lN a) 0 s) (G ∧ s_mon n u t a ∧ L + s_monK u t a ≤ 20000) (L + s_monK u t a) := by
  obtain ⟨c, w, s1, e1, hc, hw, q1, hcw⟩ := m_hang0 hm q a 0 ha hN
  rw [e1]
  unfold s_mon s_monK
  rw [if_neg ht]
  generalize hb : a + (u (a + 10)).val = b at *
  have hbl : b < 2 ^ 54 := by omega
  obtain ⟨s2, e2, q2⟩ := m_loop1 (st := st) (fun f (_ : Unit) k s => xGlyphPositionsModel_checkHanging_96 N 0 (nI c) (lN b) (nI w) f (nI k) s) (fun _ => ()) w (fun k => ∀ j, j < c → b + 2 + 2 * c * k + 2 * j + 2 ≤ n ∧ ((u (b + 2 + 2 * c * k + 2 * j)).val ≠ 0 → s_anc n u (b + (u (b + 2 + 2 * c * k + 2 * j)).val))) (fun k => s_ancK u (b + 2 + 2 * c * k) c) (fun f _ s => by
      show xGlyphPositionsModel_checkHanging_96 N _ _ _ _ (f + 1) _ _ = _
      rw [xGlyphPositionsModel_checkHanging_96, if_pos (nI_le (by omega) (by omega))]) (fun f _ k l hk => by
      show xGlyphPositionsModel_checkHanging_96 N _ _ _ _ (f + 1) _ _ = _
      rw [xGlyphPositionsModel_checkHanging_96, if_neg (nI_ge (by omega) (by omega)), mS_b, if_neg m_1ne]) (fun f k L hk hL _ => by
      refine ⟨(), ?_⟩
      show ∃ s', xGlyphPositionsModel_checkHanging_96 N _ _ _ _ (f + 1) _ _ = xGlyphPositionsModel_checkHanging_96 N _ _ _ _ f _ _ ∧ _
      have hck : 2 * c * k ≤ 32 * 256 := Nat.mul_le_mul (by omega) (by omega)
      rw [xGlyphPositionsModel_checkHanging_96, if_neg (nI_ge (by omega) (by omega)), if_pos (mS_b ..), if_pos rfl, ll2, nI_l (by omega), nI_l (by omega), lN_mul, lN_mul, lN_add, lN_add]
      obtain ⟨s4, e4, q4⟩ := m_row (N := N) hm (mQ.good (st := st) hL) b (b + 2 + 2 * c * k) c (by omega) (by omega) (by omega) hN
      rw [e4, q_bv_s, nI_1]
      exact ⟨s4, rfl, q4.to (by rw [true_and]) (fun _ => rfl), fun _ => by trivial⟩) (show w < N by omega) q1
  rw [s_flatK] at q2
  refine ⟨s2, e2, q2.to ?_ ?_⟩
  · have hfl := s_flat (fun i => b + 2 + 2 * i + 2 ≤ n ∧ ((u (b + 2 + 2 * i)).val ≠ 0 → s_anc n u (b + (u (b + 2 + 2 * i)).val))) c w
    have hre : (∀ k, k < w → ∀ j, j < c → b + 2 + 2 * c * k + 2 * j + 2 ≤ n ∧ ((u (b + 2 + 2 * c * k + 2 * j)).val ≠ 0 → s_anc n u (b + (u (b + 2 + 2 * c * k + 2 * j)).val))) ↔ ∀ i, i < w * c → b + 2 + 2 * i + 2 ≤ n ∧ ((u (b + 2 + 2 * i)).val ≠ 0 → s_anc n u (b + (u (b + 2 + 2 * i)).val)) := by
      rw [← hfl]
      have he : ∀ k j, b + 2 + 2 * c * k + 2 * j = b + 2 + 2 * (k * c + j) := by
        intro k j
        rw [Nat.mul_add, Nat.mul_assoc, Nat.mul_comm c k]
        omega
      simp only [he]
    rw [hre]
    unfold s_idx s_list s_ancs
    constructor
    · rintro ⟨h1, h2, h3⟩
      obtain ⟨ec, ew⟩ := hcw h1
      rw [ec, ew] at h2 h3
      obtain ⟨g1, ⟨g2, g3, g4, g5, g6, g7, g8, g9, g10⟩, g11⟩ := h1
      refine ⟨g1, ⟨g2, g3, g4, g5, g6, g7, Or.inr ⟨ht, ⟨⟨g8, g9, ?_⟩, g10⟩, fun k hk => (h2 k hk).2⟩⟩, by omega⟩
      have := s_fill (n := n) (b := b + 2) (m := (u b).val * (u (a + 6)).val) (sz := 2) g8 (fun j hj => (h2 j hj).1)
      rw [show (u b).val * (2 * (u (a + 6)).val) = (u b).val * (u (a + 6)).val * 2 by rw [Nat.mul_comm 2, Nat.mul_assoc]]
      exact this
    · rintro ⟨g1, ⟨g2, g3, g4, g5, g6, g7, h⟩, g11⟩
      obtain ⟨-, ⟨⟨g8, g9, g12⟩, g10⟩, g13⟩ := h.resolve_left (fun h => ht h.1)
      rw [show (u b).val * (2 * (u (a + 6)).val) = (u b).val * (u (a + 6)).val * 2 by rw [Nat.mul_comm 2, Nat.mul_assoc]] at g12
      have h1 : G ∧ (a + 12 ≤ n ∧ (u a).val = 1 ∧ s_cov n u (a + (u (a + 2)).val) ∧ s_cov n u (a + (u (a + 4)).val) ∧ (u (a + 6)).val ≤ 16 ∧ s_marks n u (a + (u (a + 8)).val) (s_cv u (a + (u (a + 2)).val)) (u (a + 6)).val ∧ b + 2 ≤ n ∧ (u b).val ≤ 256 ∧ (u b).val = s_cv u (a + (u (a + 4)).val)) ∧ L + (2 + (u (a + (u (a + 8)).val)).val) ≤ 20000 := ⟨g1, ⟨g2, g3, g4, g5, g6, g7, g8, g9, g10⟩, by omega⟩
      obtain ⟨ec, ew⟩ := hcw h1
      refine ⟨h1, ?_⟩
      rw [ec, ew]
      exact ⟨fun k hk => ⟨by omega, g13 k hk⟩, by omega⟩
  · rintro ⟨h1, -⟩
    obtain ⟨ec, ew⟩ := hcw h1
    rw [ec, ew]
    omega
theorem m_hangL (hm : mH n u st) {G : Prop} {L : Nat} {s : QSt} (q : mQ st G L s) (a : Nat) (ha : a < 2 ^ 53) (hN : 70000 < N) : m1 st (xGlyphPositionsModel_checkHanging N (lN a) 1 s) (G ∧ s_mon n u 5 a ∧ L + s_monK u 5 a ≤ 20000) (L + s_monK u 5 a) := by
  obtain ⟨c, w, s1, e1, hc, hw, q1, hcw⟩ := m_hang0 hm q a 1 ha hN
  rw [e1]
  unfold s_mon s_monK
  rw [if_pos rfl]
  generalize hb : a + (u (a + 10)).val = b at *
  have hbl : b < 2 ^ 54 := by omega
  obtain ⟨s2, e2, q2⟩ := m_loop1 (st := st) (fun f (_ : Unit) k s => xGlyphPositionsModel_checkHanging_96 N 1 (nI c) (lN b) (nI w) f (nI k) s) (fun _ => ()) w (fun k => b + 2 + 2 * k + 2 ≤ n ∧ s_lig n u (b + (u (b + 2 + 2 * k)).val) c) (fun k => 1 + s_ancK u (b + (u (b + 2 + 2 * k)).val + 2) ((u (b + (u (b + 2 + 2 * k)).val)).val * c)) (fun f _ s => by
      show xGlyphPositionsModel_checkHanging_96 N _ _ _ _ (f + 1) _ _ = _
      rw [xGlyphPositionsModel_checkHanging_96, if_pos (nI_le (by omega) (by omega))]) (fun f _ k l hk => by
      show xGlyphPositionsModel_checkHanging_96 N _ _ _ _ (f + 1) _ _ = _
      rw [xGlyphPositionsModel_checkHanging_96, if_neg (nI_ge (by omega) (by omega)), mS_b, if_neg m_1ne]) (fun f k L hk hL _ => by
      refine ⟨(), ?_⟩
      show ∃ s', xGlyphPositionsModel_checkHanging_96 N _ _ _ _ (f + 1) _ _ = xGlyphPositionsModel_checkHanging_96 N _ _ _ _ f _ _ ∧ _
      rw [xGlyphPositionsModel_checkHanging_96, if_neg (nI_ge (by omega) (by omega)), if_pos (mS_b ..), if_neg m_1ne, ll2, nI_l (by omega), lN_mul, lN_add, lN_add]
      obtain ⟨s4, e4, q4⟩ := m_u16 hm (mQ.good (st := st) hL) (b + 2 + 2 * k) (by omega)
      rw [e4, q_bm_s, nI_l (by omega), lN_add]
      obtain ⟨s5, e5, q5⟩ := m_parts (N := N) hm q4 (b + (u (b + 2 + 2 * k)).val) c (by omega) hc hN
      rw [e5, q_bv_s, nI_1]
      exact ⟨s5, rfl, q5.to ⟨fun h => ⟨⟨h.1.2, h.2.1⟩, h.2.2⟩, fun h => ⟨⟨trivial, h.1.1⟩, h.1.2, h.2⟩⟩ (fun _ => rfl), fun _ => by trivial⟩) (show w < N by omega) q1
  refine ⟨s2, e2, q2.to ?_ ?_⟩
  · unfold s_ligs s_ligK s_idx s_list
    constructor
    · rintro ⟨h1, h2, h3⟩
      obtain ⟨ec, ew⟩ := hcw h1
      rw [ec, ew] at h2 h3
      obtain ⟨g1, ⟨g2, g3, g4, g5, g6, g7, g8, g9, g10⟩, g11⟩ := h1
      refine ⟨g1, ⟨g2, g3, g4, g5, g6, g7, Or.inl ⟨rfl, ⟨⟨g8, g9, ?_⟩, g10⟩, fun k hk => (h2 k hk).2⟩⟩, by omega⟩
      exact s_fill g8 (fun j hj => (h2 j hj).1)
    · rintro ⟨g1, ⟨g2, g3, g4, g5, g6, g7, h⟩, g11⟩
      obtain ⟨-, ⟨⟨g8, g9, g12⟩, g10⟩, g13⟩ := h.resolve_right (fun h => h.1 rfl)
      have h1 : G ∧ (a + 12 ≤ n ∧ (u a).val = 1 ∧ s_cov n u (a + (u (a + 2)).val) ∧ s_cov n u (a + (u (a + 4)).val) ∧ (u (a + 6)).val ≤ 16 ∧ s_marks n u (a + (u (a + 8)).val) (s_cv u (a + (u (a + 2)).val)) (u (a + 6)).val ∧ b + 2 ≤ n ∧ (u b).val ≤ 256 ∧ (u b).val = s_cv u (a + (u (a + 4)).val)) ∧ L + (2 + (u (a + (u (a + 8)).val)).val) ≤ 20000 := ⟨g1, ⟨g2, g3, g4, g5, g6, g7, g8, g9, g10⟩, by omega⟩
      obtain ⟨ec, ew⟩ := hcw h1
      refine ⟨h1, ?_⟩
      rw [ec, ew]
      exact ⟨fun k hk => ⟨by omega, g13 k hk⟩, by omega⟩
  · rintro ⟨h1, -⟩
    obtain ⟨ec, ew⟩ := hcw h1
    unfold s_ligK
    rw [ec, ew]
    omega
end PMl7
