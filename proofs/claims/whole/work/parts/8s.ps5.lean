section PS5
variable {n N m c : Nat} {u : Nat → Fin 65536} {F : Nat → Nat → Int32} {D : Nat → Nat → Nat} {bk : Int32} {flag : Nat} {s s' t t' : QSt}
theorem wS.rfl' (w : wW n m c u F D bk flag s t) : wS n m c u F D bk flag s t s t := ⟨w, sC.rfl' s, sM.rfl' t⟩
theorem c_more (h9 : s.1 9 = nI m) (hm : m ≤ 512) {i k : Nat} (v : Int32) (hi : i < m) (hk : k < 4) : xRun_getMore (nI i) (nI k) v s = some (if k = 0 then q_pa s 14 i (s.2 14 i + v) else if k = 1 then q_pa s 15 i (s.2 15 i + v) else if k = 2 then q_pa s 12 i (s.2 12 i + v) else if k = 3 then q_pa s 13 i (s.2 13 i + v) else s) := by
  have hv : q_vpb (nI i) 800 = true := decide_eq_true (nI_in (by omega) (by omega))
  unfold xRun_getMore
  rw [if_neg (nI_pos (by omega)), h9, if_pos (nI_lt hi (by omega))]
  simp (disch := omega) only [hv, q_grd_tt, q_lt, nI_clamp, m_eq0, m_eq1, m_eq2, nI_eq, show (3 : Int32) = nI 3 from rfl]
  have hk4 : k = 0 ∨ k = 1 ∨ k = 2 ∨ k = 3 := by omega
  rcases hk4 with rfl | rfl | rfl | rfl <;> simp
theorem w_give (hG : gl N m c F D) (w : wW n m c u F D bk flag s t) {i a b : Nat} (hi : i < m) (hb : b < 256) (ha : a + s_pop b ≤ n) (hN : 70000 < N) :
    ∃ s' t', xSetter_giveValue N (nI i) (nI a) (nI b) s = some s' ∧ xGlyphPositionsModel_give N (nI i) (nI a) (nI b) t = some t' ∧ wS n m c u F D bk flag s t s' t' := by
  have hm := hG.1
  have hn := w.1.1.1
  have hoff : ∀ k, k < 8 → b / 2 ^ k % 2 = 1 → a + s_off b k + 2 ≤ n := by
    intro k hk h1
    have e := s_off_s b k
    have : s_off b (k + 1) ≤ s_pop b := s_sum_mono _ (by omega)
    omega
  have hrest : ∀ (d k f : Nat) (s t : QSt), k + d = 8 → 4 ≤ k → d < f → wW n m c u F D bk flag s t → ∃ t', xGlyphPositionsModel_give_6 N (nI i) (nI b) f (nI (a + s_off b k)) (nI k) t = some t' ∧ wS n m c u F D bk flag s t s t' := by
    intro d
    induction d with
    | zero =>
      intro k f s t hk h4 hf w
      obtain ⟨f, rfl⟩ : ∃ g, f = g + 1 := ⟨f - 1, by omega⟩
      refine ⟨t, ?_, wS.rfl' w⟩
      rw [xGlyphPositionsModel_give_6, show (8 : Int32) = nI 8 from rfl, if_pos (nI_le (by omega) (by omega))]
    | succ d ih =>
      intro k f s t hk h4 hf w
      obtain ⟨f, rfl⟩ : ∃ g, f = g + 1 := ⟨f - 1, by omega⟩
      by_cases h1 : b / 2 ^ k % 2 = 1
      · rw [m_give1 w.2.2.1.1 hb (by omega) (by omega) h1 (hoff k (by omega) h1)]
        have hw := w_give1 (k := k) w (sv u (a + s_off b k)) hi
        rw [if_neg (by omega), if_neg (by omega), if_neg (by omega), if_neg (by omega)] at hw
        obtain ⟨t', e1, e2⟩ := ih (k + 1) f s _ (by omega) (by omega) (by omega) hw.1
        rw [show a + s_off b (k + 1) = a + s_off b k + 2 by rw [s_off_s]; omega] at e1
        exact ⟨t', e1, hw.tr e2⟩
      · rw [m_give0 hb (by omega) h1]
        obtain ⟨t', e1, e2⟩ := ih (k + 1) f s t (by omega) (by omega) (by omega) w
        rw [show a + s_off b (k + 1) = a + s_off b k by rw [s_off_s]; omega] at e1
        exact ⟨t', e1, e2⟩
  have key : ∀ (d k f f' : Nat) (s t : QSt), k + d = 4 → d < f → d + 4 < f' → wW n m c u F D bk flag s t → ∃ s' t', xSetter_giveValue_6 N (nI i) (nI b) f (nI (a + s_off b k)) (nI k) s = some s' ∧ xGlyphPositionsModel_give_6 N (nI i) (nI b) f' (nI (a + s_off b k)) (nI k) t = some t' ∧ wS n m c u F D bk flag s t s' t' := by
    intro d
    induction d with
    | zero =>
      intro k f f' s t hk hf hf' w
      obtain ⟨f, rfl⟩ : ∃ g, f = g + 1 := ⟨f - 1, by omega⟩
      have e : k = 4 := by omega
      subst e
      obtain ⟨t', e1, e2⟩ := hrest 4 4 f' s t (by omega) (by omega) (by omega) w
      refine ⟨s, t', ?_, e1, e2⟩
      rw [xSetter_giveValue_6, il4, if_pos (nI_le (by omega) (by omega))]
    | succ d ih =>
      intro k f f' s t hk hf hf' w
      obtain ⟨f, rfl⟩ : ∃ g, f = g + 1 := ⟨f - 1, by omega⟩
      obtain ⟨f', rfl⟩ : ∃ g, f' = g + 1 := ⟨f' - 1, by omega⟩
      have e1 : xSetter_giveValue_6 N (nI i) (nI b) (f + 1) (nI (a + s_off b k)) (nI k) s = if b / 2 ^ k % 2 = 0 then xSetter_giveValue_6 N (nI i) (nI b) f (nI (a + s_off b k)) (nI (k + 1)) s else q_bn (xTable_s16 (nI (a + s_off b k)) s) (fun r1 => q_bv (xRun_getMore (nI i) (nI k) r1 s) (fun sr2 => xSetter_giveValue_6 N (nI i) (nI b) f (nI (a + s_off b k + 2)) (nI (k + 1)) sr2)) := by
        rw [xSetter_giveValue_6, il4, if_neg (nI_ge (by omega) (by omega)), bit_k hb (by omega), nI_1, il2, nI_add]
        simp (disch := omega) only [m_eq0]
      rw [e1]
      by_cases h1 : b / 2 ^ k % 2 = 1
      · have ho := hoff k (by omega) h1
        rw [if_neg (by omega), f_s16 w.1.1 (by omega), q_bn_s, c_more w.1.2.1 hm _ hi (by omega), q_bv_s, m_give1 w.2.2.1.1 hb (by omega) (by omega) h1 ho]
        have hw := w_give1 (k := k) w (sv u (a + s_off b k)) hi
        obtain ⟨s', t', g1, g2, g3⟩ := ih (k + 1) f f' _ _ (by omega) (by omega) (by omega) hw.1
        rw [show a + s_off b (k + 1) = a + s_off b k + 2 by rw [s_off_s]; omega] at g1 g2
        exact ⟨s', t', g1, g2, hw.tr g3⟩
      · rw [if_pos (by omega), m_give0 hb (by omega) h1]
        obtain ⟨s', t', g1, g2, g3⟩ := ih (k + 1) f f' s t (by omega) (by omega) (by omega) w
        rw [show a + s_off b (k + 1) = a + s_off b k by rw [s_off_s]; omega] at g1 g2
        exact ⟨s', t', g1, g2, g3⟩
  exact key 4 0 N N s t (by omega) (by omega) (by omega) w
theorem i_at (hG : gl N m c F D) (w : wW n m c u F D bk flag s t) {a o i : Nat} (hc : s_cov n u (a + (u (a + o)).val)) (ho : a + o + 2 ≤ n) (hi : i < m) (hN : 70000 < N) :
    ∃ r, xSetter_indexAt N (nI (a + o)) (nI a) (nI i) s = some r ∧ xGlyphPositionsModel_covered N (nI a) (nI o) (nI (D 0 i)) t = some r ∧ (r = -1 ∨ ∃ k, k < s_cv u (a + (u (a + o)).val) ∧ r = nI k) := by
  have hn := w.1.1.1
  have hm := hG.1
  obtain ⟨r, e1, e2, e3⟩ := i_cov (N := N) w.1.1 w.2.2.1.1 hc (hG.2 i hi).1 hN
  refine ⟨r, ?_, ?_, e3⟩
  · unfold xSetter_indexAt
    rw [f_u16 w.1.1 (by omega), q_bn_s, show q_vpb (nI i) 800 = true from decide_eq_true (nI_in (by omega) (by omega)), q_grd_tt, q_lt, nI_clamp (by omega), (w.1.2.2.2 i hi).1, nI_add, e1, q_bn_s]
  · unfold xGlyphPositionsModel_covered
    rw [nI_add, g_f16 w.2.2.1.1 ho, q_bn_s, nI_add, e2, q_bn_s]
def tk (i m : Nat) (r : Int32) : Prop := r = -1 ∨ ∃ q, i < q ∧ q ≤ m ∧ r = nI q
theorem w_single (hG : gl N m c F D) (w : wW n m c u F D bk flag s t) {a i : Nat} (hV : s_single n u a) (hi : i < m) (hN : 70000 < N) :
    ∃ r s' t', q_bm (xSetter_takeSingle N (nI a) (nI i) s) (fun r7 sr7 => if r7 = 0 then some (-1, sr7) else some (nI i + 1, sr7)) = some (r, s') ∧ xGlyphPositionsModel_takeSingle N (nI a) (nI i) t = some (r, t') ∧ wS n m c u F D bk flag s t s' t' ∧ tk i m r := by
  have hn := w.1.1.1
  have hm := hG.1
  obtain ⟨h1, h2, h3, h4⟩ := hV
  have hv : q_vpb (nI i) 800 = true := decide_eq_true (nI_in (by omega) (by omega))
  obtain ⟨r, e1, e2, e3⟩ := i_at hG w (o := 2) h3 (by omega) hi hN
  unfold xSetter_takeSingle xGlyphPositionsModel_takeSingle
  rw [il2, nI_add, e1, q_bn_s, hv, q_grd_tt, q_lt, nI_clamp (by omega), (w.2.2.1.2.2.2.2 i hi).1, e2, q_bn_s]
  have hp := s_pop_le (u (a + 4)).val
  rcases e3 with rfl | ⟨k, hk, rfl⟩
  · rw [if_pos rfl, q_bm_s, if_pos rfl, if_neg (by decide)]
    exact ⟨-1, s, t, rfl, rfl, wS.rfl' w, Or.inl rfl⟩
  · have hkl := s_cv_lt hn h3
    rw [if_neg (c_m1e (by omega)), if_pos (nI_pos' (by omega)), il4, nI_add, f_u16 w.1.1 (by omega), q_bn_s, f_u16 w.1.1 (by omega), q_bn_s, g_f16 w.2.2.1.1 (by omega), q_bn_s, g_f16 w.2.2.1.1 (by omega), q_bn_s]
    simp (disch := omega) only [m_eq1]
    unfold xSetter_takeSingle_60 xGlyphPositionsModel_takeSingle_58
    rcases h4 with ⟨f1, f2⟩ | ⟨f1, ⟨f2, f3, f4⟩, f5⟩
    · rw [if_pos f1, if_pos f1, il6, nI_add]
      obtain ⟨s', t', g1, g2, g3⟩ := w_give hG w hi (by omega) f2 hN
      rw [g1, q_bv_s, g2, q_bv_s, q_bm_s, if_neg m_1ne, nI_1]
      exact ⟨nI (i + 1), s', t', rfl, rfl, g3, Or.inr ⟨i + 1, by omega, by omega, rfl⟩⟩
    · have hkp : k * s_pop (u (a + 4)).val + s_pop (u (a + 4)).val ≤ (u (a + 6)).val * s_pop (u (a + 4)).val := by
        rw [← Nat.succ_mul]
        exact Nat.mul_le_mul_right _ (by omega)
      rw [if_neg (by omega), if_neg (by omega), c_size _ (by omega), q_bn_s, m_size (by omega) hN, q_bn_s, il8, nI_add, pk_mul, nI_add]
      obtain ⟨s', t', g1, g2, g3⟩ := w_give hG w (a := a + 8 + k * s_pop (u (a + 4)).val) (b := (u (a + 4)).val) hi (by omega) (by omega) hN
      rw [g1, q_bv_s, g2, q_bv_s, q_bm_s, if_neg m_1ne, nI_1]
      exact ⟨nI (i + 1), s', t', rfl, rfl, g3, Or.inr ⟨i + 1, by omega, by omega, rfl⟩⟩
theorem w_next (hG : gl N m c F D) (w : wW n m c u F D bk flag s t) (hfl : flag < 65536) {i : Nat} (hi : i < m) (hN : 70000 < N) :
    xGlyphPositionsModel_nextOf N (nI flag) (nI i) t = some (s.2 25 i) ∧ (s.2 25 i = -1 ∨ ∃ q, i < q ∧ q < m ∧ s.2 25 i = nI q) := by
  have hm := hG.1
  have h25 := (w.2.1 i hi).2.2
  refine ⟨m_next (N := N) (flag := flag) (ps := fun q => k_ps flag (D 2 q) (D 3 q)) (G := D 0) hm w.2.2.1.2.2.1 (fun j hj => ⟨(w.2.2.1.2.2.2.2 j hj).1, ((hG.2 j hj).2.2.2.2 t w.2.2.1.2.1).2 flag hfl⟩) hi h25 hN, ?_⟩
  rcases h25 with ⟨h, -⟩ | ⟨q, h1, h2, h3, -⟩
  · exact Or.inl h
  · exact Or.inr ⟨q, by omega, h2, h3⟩
/-- where the values of a pair stand: both find the same place, or none -/
theorem w_vals (hG : gl N m c F D) (w : wW n m c u F D bk flag s t) {a i j k : Nat} (hV : s_pair n u a) (hi : i < m) (hj : j < m) (hk : k < s_cv u (a + (u (a + 2)).val)) (hN : 70000 < N) :
    ∃ r : Int32, (if (u a).val = 1 then q_bn (xTable_u16_3 (nI (a + 10 + 2 * k)) s) (fun r13 => xSetter_valuesInRow N (nI a + r13) (nI (s_psz u a)) (nI j) s) else xSetter_valuesByClasses N (nI a) (nI (s_psz u a)) (nI i) (nI j) s) = some r ∧
      ((r = -1 ∧ xGlyphPositionsModel_valuesOf N (nI a) (nI k) (nI (D 0 i)) (nI (D 0 j)) (nI (s_psz u a)) t = some 0) ∨ ∃ b, 0 < b ∧ b + s_psz u a ≤ n ∧ r = nI b ∧ xGlyphPositionsModel_valuesOf N (nI a) (nI k) (nI (D 0 i)) (nI (D 0 j)) (nI (s_psz u a)) t = some (nI b)) := by
  have hn := w.1.1.1
  have hm := hG.1
  have hf := w.1.1
  have hg := w.2.2.1.1
  obtain ⟨h1, h2, h3, h4, h5⟩ := hV
  have hz : s_psz u a ≤ 32 := by
    have e1 := s_pop_le (u (a + 4)).val
    have e2 := s_pop_le (u (a + 6)).val
    unfold s_psz
    omega
  have hkl := s_cv_lt hn h4
  unfold xGlyphPositionsModel_valuesOf
  rw [g_f16 hg (by omega), q_bn_s]
  simp (disch := omega) only [m_eq2]
  rcases h5 with ⟨f1, ⟨⟨f2, f3, f4⟩, f5⟩, f6⟩ | ⟨f1, f2, f3, f4, f5, f6, f7⟩
  · rw [if_pos f1, if_neg (by omega), f_u16 hf (by omega), q_bn_s, nI_add, show (10 : Int32) = nI 10 from rfl, il2, nI_add, pk_mul, nI_add, g_f16 hg (by omega), q_bn_s, nI_add, q_lt]
    rcases i_row (N := N) hf hg (f6 k (by omega)) hz (j := j) (by omega) (w.1.2.2.2 j hj).1 (hG.2 j hj).1 hN with ⟨r1, r2⟩ | ⟨q, hq, r1, r2⟩
    · exact ⟨-1, r1, Or.inl ⟨rfl, r2⟩⟩
    · refine ⟨_, r1, Or.inr ⟨_, by omega, ?_, rfl, r2⟩⟩
      have h6 := (f6 k (by omega)).1.2.2
      have : (2 + s_psz u a) * q + (2 + s_psz u a) ≤ (u (a + (u (a + 10 + 2 * k)).val)).val * (2 + s_psz u a) := by
        rw [← Nat.mul_succ, Nat.mul_comm]
        exact Nat.mul_le_mul_right _ hq
      omega
  · rw [if_neg (by omega), if_pos f1]
    unfold xSetter_valuesByClasses
    have hvi : q_vpb (nI i) 800 = true := decide_eq_true (nI_in (by omega) (by omega))
    have hvj : q_vpb (nI j) 800 = true := decide_eq_true (nI_in (by omega) (by omega))
    obtain ⟨x, hx, x1, x2⟩ := i_cls (N := N) hf hg f6 (hG.2 i hi).1 hN
    obtain ⟨y, hy, y1, y2⟩ := i_cls (N := N) hf hg f7 (hG.2 j hj).1 hN
    rw [il8, show (10 : Int32) = nI 10 from rfl, show (12 : Int32) = nI 12 from rfl, show (14 : Int32) = nI 14 from rfl, show (16 : Int32) = nI 16 from rfl]
    rw [nI_add, f_u16 hf (by omega), q_bn_s, hvi, q_grd_tt, q_lt, nI_clamp (by omega), (w.1.2.2.2 i hi).1, nI_add, x1, q_bn_s, nI_add, f_u16 hf (by omega), q_bn_s, hvj, q_grd_tt, q_lt, nI_clamp (by omega), (w.1.2.2.2 j hj).1, nI_add, y1, q_bn_s, nI_add, f_u16 hf (by omega), q_bn_s, nI_add, f_u16 hf (by omega), q_bn_s]
    rw [g_f16 hg (by omega), q_bn_s, nI_add a (u (a + 8)).val, x2, q_bn_s, g_f16 hg (by omega), q_bn_s, nI_add a (u (a + 10)).val, y2, q_bn_s, g_f16 hg (by omega), q_bn_s, g_f16 hg (by omega), q_bn_s]
    simp (disch := omega) only [nI_leI, nI_ltI]
    by_cases d1 : (u (a + 12)).val ≤ x
    · rw [if_pos d1, if_pos d1]
      exact ⟨-1, rfl, Or.inl ⟨rfl, rfl⟩⟩
    · rw [if_neg d1, if_neg d1]
      by_cases d2 : (u (a + 14)).val ≤ y
      · rw [if_neg (by omega), if_pos d2]
        exact ⟨-1, rfl, Or.inl ⟨rfl, rfl⟩⟩
      · rw [if_pos (by omega), if_neg d2, nI_add, pk_mul, nI_add, pk_mul, nI_add]
        refine ⟨_, rfl, Or.inr ⟨_, by omega, ?_, rfl, rfl⟩⟩
        have e1 : x * (u (a + 14)).val + (u (a + 14)).val ≤ (u (a + 12)).val * (u (a + 14)).val := by
          rw [← Nat.succ_mul]
          exact Nat.mul_le_mul_right _ (by omega)
        have e2 : (x * (u (a + 14)).val + y + 1) * s_psz u a ≤ (u (a + 12)).val * (u (a + 14)).val * s_psz u a := Nat.mul_le_mul_right _ (by omega)
        rw [Nat.succ_mul] at e2
        omega
theorem w_pair (hG : gl N m c F D) (w : wW n m c u F D bk flag s t) (hfl : flag < 65536) {a i : Nat} (hV : s_pair n u a) (hi : i < m) (hN : 70000 < N) :
    ∃ r s' t', xSetter_takePair N (nI a) (nI i) s = some (r, s') ∧ xGlyphPositionsModel_takePair N (nI flag) (nI a) (nI i) t = some (r, t') ∧ wS n m c u F D bk flag s t s' t' ∧ tk i m r := by
  have hn := w.1.1.1
  have hm := hG.1
  have hV' := hV
  obtain ⟨h1, h2, h3, h4, h5⟩ := hV
  have hv : q_vpb (nI i) 800 = true := decide_eq_true (nI_in (by omega) (by omega))
  obtain ⟨r, e1, e2, e3⟩ := i_at hG w (o := 2) h4 (by omega) hi hN
  obtain ⟨x1, x2⟩ := w_next hG w hfl hi hN
  unfold xSetter_takePair xGlyphPositionsModel_takePair
  rw [il2, nI_add, e1, q_bn_s, hv, q_grd_tt, q_lt, nI_clamp (by omega), q_grd_tt, q_lt, (w.2.2.1.2.2.2.2 i hi).1, e2, q_bn_s, x1, q_bn_s]
  rcases e3 with rfl | ⟨k, hk, rfl⟩
  · rw [if_pos rfl, if_pos (by decide)]
    exact ⟨-1, s, t, rfl, rfl, wS.rfl' w, Or.inl rfl⟩
  have hkl := s_cv_lt hn h4
  rw [if_neg (c_m1e (by omega)), if_neg (nI_pos (by omega))]
  rcases x2 with x2 | ⟨j, hj1, hj2, x2⟩
  · rw [x2, if_pos rfl, if_neg (by decide)]
    exact ⟨-1, s, t, rfl, rfl, wS.rfl' w, Or.inl rfl⟩
  have hvj : q_vpb (nI j) 800 = true := decide_eq_true (nI_in (by omega) (by omega))
  rw [x2, if_neg (c_m1e (by omega)), if_pos (nI_pos' (by omega)), il4, nI_add, il6, nI_add, f_u16 w.1.1 (by omega), q_bn_s, f_u16 w.1.1 (by omega), q_bn_s, c_size _ (by omega), q_bn_s, c_size _ (by omega), q_bn_s, q_lt, nI_add, f_u16 w.1.1 (by omega), q_bn_s]
  rw [g_f16 w.2.2.1.1 (by omega), q_bn_s, g_f16 w.2.2.1.1 (by omega), q_bn_s, q_grd_tt, q_lt, hvj, q_grd_tt, q_lt, nI_clamp (by omega), (w.2.2.1.2.2.2.2 j hj2).1, m_size (by omega) hN, q_bn_s, m_size (by omega) hN, q_bn_s, nI_add]
  simp (disch := omega) only [m_eq1]
  obtain ⟨r, v1, v2⟩ := w_vals hG w hV' hi hj2 hk hN
  have hgo : ∀ {o : Option (Int32 × QSt)}, o = xSetter_takePair_119 N (nI i) (nI j) (nI (u (a + 4)).val) (nI (u (a + 6)).val) r s → ∃ r' s' t', o = some (r', s') ∧ q_bn (xGlyphPositionsModel_valuesOf N (nI a) (nI k) (nI (D 0 i)) (nI (D 0 j)) (nI (s_psz u a)) t) (fun r10 => if r10 = 0 then some (-1, t) else q_bv (xGlyphPositionsModel_give N (nI i) r10 (nI (u (a + 4)).val) t) (fun sr11 => q_bn (some (nI (s_pop (u (a + 4)).val))) (fun r12 => q_bv (xGlyphPositionsModel_give N (nI j) (r10 + r12) (nI (u (a + 6)).val) sr11) (fun sr13 => if nI (u (a + 6)).val ≤ 0 then some (nI i + 1, sr13) else some (nI j + 1, sr13))))) = some (r', t') ∧ wS n m c u F D bk flag s t s' t' ∧ tk i m r' := by
    intro o ho
    rw [ho]
    unfold xSetter_takePair_119
    rcases v2 with ⟨rfl, v2⟩ | ⟨b, hb0, hb, rfl, v2⟩
    · rw [if_pos rfl, v2, q_bn_s, if_pos rfl]
      exact ⟨-1, s, t, rfl, rfl, wS.rfl' w, Or.inl rfl⟩
    · unfold s_psz at hb
      rw [if_neg (c_m1e (by omega)), v2, q_bn_s, if_neg (nI_ne0 hb0 (by omega))]
      obtain ⟨s1, t1, g1, g2, g3⟩ := w_give hG w (a := b) (b := (u (a + 4)).val) hi (by omega) (by omega) hN
      rw [g1, q_bv_s, g2, q_bv_s, c_size _ (by omega), q_bn_s, q_bn_s, nI_add]
      obtain ⟨s2, t2, k1, k2, k3⟩ := w_give hG g3.1 (a := b + s_pop (u (a + 4)).val) (b := (u (a + 6)).val) hj2 (by omega) (by omega) hN
      rw [k1, q_bv_s, k2, q_bv_s]
      simp (disch := omega) only [m_eq0, m_le0]
      by_cases d : (u (a + 6)).val = 0
      · rw [if_pos d, if_pos d, nI_1]
        exact ⟨_, s2, t2, rfl, rfl, g3.tr k3, Or.inr ⟨i + 1, by omega, by omega, rfl⟩⟩
      · rw [if_neg d, if_neg d, nI_1]
        exact ⟨_, s2, t2, rfl, rfl, g3.tr k3, Or.inr ⟨j + 1, by omega, by omega, rfl⟩⟩
  apply hgo
  by_cases d1 : (u a).val = 1
  · rw [if_pos d1] at v1 ⊢
    rw [show (10 : Int32) = nI 10 from rfl, nI_add, pk_mul, nI_add]
    have hkk : (u (a + 8)).val = s_cv u (a + (u (a + 2)).val) := (h5.resolve_right (fun h => by omega)).2.1.2
    have hu := f_u16 w.1.1 (a := a + 10 + 2 * k) (by omega)
    rw [hu, q_bn_s] at v1 ⊢
    show q_bn (xSetter_valuesInRow N (nI a + _) (nI (s_psz u a)) (nI j) s) _ = _
    rw [v1, q_bn_s]
  · rw [if_neg d1] at v1 ⊢
    show q_bn (xSetter_valuesByClasses N (nI a) (nI (s_psz u a)) (nI i) (nI j) s) _ = _
    rw [v1, q_bn_s]
end PS5
