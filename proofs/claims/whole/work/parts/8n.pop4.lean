section POp4
variable {V : Nat → (Nat → Int32) → Prop} {k N : Nat} {st : QSt}
theorem t_find {n : Nat} (hn : n ≤ 20) (h7 : st.1 7 = nI n) (a : Int32) : ∀ (d i f : Nat), i + d = n → d < f → ((∀ j, i ≤ j → j < n → st.2 6 j ≠ a) → xTags_find_2 N st a f (nI i) = some (-1)) ∧ ∀ m, i ≤ m → m < n → st.2 6 m = a → (∀ j, i ≤ j → j < m → st.2 6 j ≠ a) → xTags_find_2 N st a f (nI i) = some (nI m) := by
  intro d
  induction d with
  | zero =>
    intro i f hi hf
    obtain ⟨f, rfl⟩ : ∃ g, f = g + 1 := ⟨f - 1, by omega⟩
    refine ⟨fun _ => ?_, fun m h1 h2 => by omega⟩
    rw [xTags_find_2, h7, if_pos (nI_le (by omega) (by omega))]
  | succ d ih =>
    intro i f hi hf
    obtain ⟨f, rfl⟩ : ∃ g, f = g + 1 := ⟨f - 1, by omega⟩
    have hv : q_vpb (nI i) 20 = true := decide_eq_true (nI_in (by omega) (by omega))
    have e : xTags_find_2 N st a (f + 1) (nI i) = if st.2 6 i = a then some (nI i) else xTags_find_2 N st a f (nI (i + 1)) := by
      rw [xTags_find_2, h7, if_neg (nI_ge (by omega) (by omega)), hv, q_grd_tt, q_lt, nI_clamp (by omega), nI_1]
    obtain ⟨i1, i2⟩ := ih (i + 1) f (by omega) (by omega)
    rw [e]
    constructor
    · intro h
      rw [if_neg (h i (by omega) (by omega))]
      exact i1 (fun j h1 h2 => h j (by omega) h2)
    · intro m h1 h2 h3 h4
      by_cases hm : m = i
      · subst hm
        rw [if_pos h3]
      · rw [if_neg (h4 i (by omega) (by omega))]
        exact i2 m (by omega) h2 h3 (fun j h5 h6 => h4 j (by omega) h6)
theorem t_at {n : Nat} (hn : n ≤ 20) {s : QSt} (h19 : s.1 19 = nI n) (a : Int32) : ∀ (d i f : Nat) (x : Int32), i + d = n → d < f → ((∀ j, i ≤ j → j < n → s.2 32 j ≠ a) → xGlyphPositionsModel_tagAt_4 N s a f x (nI i) = some x) ∧ ∀ m, i ≤ m → m < n → s.2 32 m = a → (∀ j, m < j → j < n → s.2 32 j ≠ a) → xGlyphPositionsModel_tagAt_4 N s a f x (nI i) = some (nI m) := by
  intro d
  induction d with
  | zero =>
    intro i f x hi hf
    obtain ⟨f, rfl⟩ : ∃ g, f = g + 1 := ⟨f - 1, by omega⟩
    refine ⟨fun _ => ?_, fun m h1 h2 => by omega⟩
    rw [xGlyphPositionsModel_tagAt_4, h19, if_pos (nI_le (by omega) (by omega))]
  | succ d ih =>
    intro i f x hi hf
    obtain ⟨f, rfl⟩ : ∃ g, f = g + 1 := ⟨f - 1, by omega⟩
    have hv : q_vpb (nI i) 20 = true := decide_eq_true (nI_in (by omega) (by omega))
    have e : xGlyphPositionsModel_tagAt_4 N s a (f + 1) x (nI i) = if s.2 32 i = a then xGlyphPositionsModel_tagAt_4 N s a f (nI i) (nI (i + 1)) else xGlyphPositionsModel_tagAt_4 N s a f x (nI (i + 1)) := by
      rw [xGlyphPositionsModel_tagAt_4, h19, if_neg (nI_ge (by omega) (by omega)), hv, q_grd_tt, q_lt, nI_clamp (by omega), nI_1]
    rw [e]
    constructor
    · intro h
      rw [if_neg (h i (by omega) (by omega))]
      exact (ih (i + 1) f x (by omega) (by omega)).1 (fun j h1 h2 => h j (by omega) h2)
    · intro m h1 h2 h3 h4
      by_cases hm : m = i
      · subst hm
        rw [if_pos h3]
        exact (ih (m + 1) f (nI m) (by omega) (by omega)).1 (fun j h1 h2 => h4 j (by omega) h2)
      · by_cases hc : s.2 32 i = a
        · rw [if_pos hc]
          exact (ih (i + 1) f (nI i) (by omega) (by omega)).2 m (by omega) h2 h3 h4
        · rw [if_neg hc]
          exact (ih (i + 1) f x (by omega) (by omega)).2 m (by omega) h2 h3 h4
theorem p_nb {b : Int32} (h : b = 0 ∨ b = 1) : vp_nar .boolean b = b := by
  unfold vp_nar
  rw [q_isb_nar (decide_eq_true h)]
theorem p_feature (h : p_I V k st) (hN : 70000 < N) (a b : Int32) (hb : b = 0 ∨ b = 1) : p_wv (p_I V (k + 1)) (xw_feature N a b st) (xGlyphPositionsModel_feature N a b) := by
  have hup := h.up
  obtain ⟨h1, h2, h3, h4, ⟨n, g1, g2, g3, g4, g5⟩, h6, h7⟩ := h.up
  have hnb := p_nb hb
  by_cases hex : ∃ m, m < n ∧ st.2 6 m = a
  · obtain ⟨m, hm, hma⟩ := hex
    have uniq : ∀ j, j < n → st.2 6 j = a → j = m := fun j hj e => g5 j m hj hm (by rw [e, hma])
    have e1 : xTags_find N a st = some (nI m) := (t_find (N := N) g1 g2 a n 0 N (by omega) (by omega)).2 m (by omega) hm hma (fun j _ h2 e => by have := uniq j (by omega) e; omega)
    have e2 : ∀ s : QSt, s.1 19 = st.1 19 → s.2 32 = st.2 32 → xGlyphPositionsModel_tagAt N a s = some (nI m) := fun s x1 x2 => (t_at (N := N) g1 (s := s) (by rw [x1, g3]) a n 0 N (-1) (by omega) (by omega)).2 m (by omega) hm (by rw [x2, (g4 m hm).1, hma]) (fun j y1 y2 e => by
      rw [x2, (g4 j y2).1] at e
      have := uniq j y2 e
      omega)
    have hne : ¬ nI m = -1 := c_m1e (by omega)
    have hv : q_vpb (nI m) 20 = true := decide_eq_true (nI_in (by omega) (by omega))
    have hcl : (nI m).toNatClampNeg = m := nI_clamp (by omega)
    have hp : (0 : Int32) ≤ nI m := nI_pos' (by omega)
    refine ⟨0, q_pa (q_pa st 6 m a) 7 m b, q_pa (q_pa (q_ps (q_pa (q_pa st 6 m a) 7 m b) 11 0) 32 m a) 33 m b, ?_, ?_, ?_, ?_⟩
    · simp only [xw_feature, xGlyphPositions_feature, xTags_tell, e1, q_bn_s, if_neg hne, xTags_tell_37, hv, hcl, q_grd_tt, q_lt, q_bm, hnb]
      simp
    · simp only [xGlyphPositionsModel_feature]
      rw [e2 _ (by rw [p_a1, p_a1]) (by rw [p_a2, if_neg (by decide), p_a2, if_neg (by decide)]), q_bn_s, if_pos hp]
      simp only [xGlyphPositionsModel_feature_24, xGlyphPositionsModel_feature_25, xGlyphPositionsModel_feature_51, xGlyphPositionsModel_refused, q_lt, q_bm, hv, hcl, q_grd_tt, if_pos hp, hnb]
      simp
    · simp [p_s1, p_a1]
    · simp only [p_I, p_s1, p_s2, p_a1, p_a2]
      refine ⟨h1, h2, h3, h4, ⟨n, g1, g2, g3, fun j hj => ?_, fun i j hi hj e => ?_⟩, h6, h7⟩
      · by_cases hjm : j = m
        · subst hjm
          simp [p_upd]
          exact hb
        · have := g4 j hj
          simp [p_upd, hjm]
          exact this
      · have ee : ∀ j, upd (st.2 6) m a j = st.2 6 j := by
          intro j
          rw [p_upd]
          by_cases hjm : j = m
          · rw [if_pos hjm, hjm, hma]
          · rw [if_neg hjm]
        simp only [reduceIte] at e
        have e' : upd (st.2 6) m a i = upd (st.2 6) m a j := e
        rw [ee, ee] at e'
        exact g5 i j hi hj e'
  · have hno : ∀ j, j < n → st.2 6 j ≠ a := fun j hj e => hex ⟨j, hj, e⟩
    have e1 : xTags_find N a st = some (-1) := (t_find (N := N) g1 g2 a n 0 N (by omega) (by omega)).1 (fun j _ h2 => hno j h2)
    have e2 : ∀ s : QSt, s.1 19 = nI n → s.2 32 = st.2 32 → xGlyphPositionsModel_tagAt N a s = some (-1) := fun s x1 x2 => (t_at (N := N) g1 (s := s) x1 a n 0 N (-1) (by omega) (by omega)).1 (fun j _ h2 e => by
      rw [x2, (g4 j h2).1] at e
      exact hno j h2 e)
    have hm1 : ¬ (0 : Int32) ≤ -1 := by decide
    by_cases hn : n = 20
    · subst hn
      have e0 : ¬ nI 20 < 20 := by decide
      refine ⟨1, st, q_ps st 11 1, ?_, ?_, by simp [p_s1], hup.fault0 1⟩
      · simp only [xw_feature, xGlyphPositions_feature, xGlyphPositions_feature_t, xTags_tell, xTags_tell_p, e1, q_bn_s, g2, if_neg e0, q_bm]
        simp [q_bn]
      · simp only [xGlyphPositionsModel_feature]
        rw [e2 st g3 rfl, q_bn_s, if_neg hm1, g3, if_pos (show nI 20 = 20 from rfl)]
        simp only [xGlyphPositionsModel_feature_25, xGlyphPositionsModel_refused, q_lt, q_bm]
        simp
    · have hlt : nI n < 20 := by rw [show (20 : Int32) = nI 20 from rfl]; exact nI_lt (by omega) (by omega)
      have hne : ¬ nI n = 20 := by rw [show (20 : Int32) = nI 20 from rfl, nI_eq (by omega) (by omega)]; exact hn
      have hv : q_vpb (nI n) 20 = true := decide_eq_true (nI_in (by omega) (by omega))
      have hcl : (nI n).toNatClampNeg = n := nI_clamp (by omega)
      refine ⟨0, q_pa (q_pa (q_ps st 7 (nI (n + 1))) 6 n a) 7 n b, q_pa (q_pa (q_ps (q_ps (q_pa (q_pa (q_ps st 7 (nI (n + 1))) 6 n a) 7 n b) 11 0) 19 (nI (n + 1))) 32 n a) 33 n b, ?_, ?_, ?_, ?_⟩
      · simp only [xw_feature, xGlyphPositions_feature, xTags_tell, e1, q_bn_s, g2, if_pos hlt, xTags_tell_37, hv, hcl, q_grd_tt, q_lt, q_bm, hnb, nI_1]
        simp
      · simp only [xGlyphPositionsModel_feature]
        rw [e2 _ (by rw [p_a1, p_a1, p_s1, if_neg (by decide)]; exact g3) (by rw [p_a2, if_neg (by decide), p_a2, if_neg (by decide), p_s2]), q_bn_s, if_neg hm1]
        have e19 : (q_pa (q_pa (q_ps st 7 (nI (n + 1))) 6 n a) 7 n b).1 19 = nI n := by rw [p_a1, p_a1, p_s1, if_neg (by decide)]; exact g3
        rw [e19, if_neg hne]
        have e19' : (q_ps (q_pa (q_pa (q_ps st 7 (nI (n + 1))) 6 n a) 7 n b) 11 0).1 19 = nI n := by rw [p_s1, if_neg (by decide)]; exact e19
        simp only [xGlyphPositionsModel_feature_24, xGlyphPositionsModel_feature_25, xGlyphPositionsModel_feature_51, xGlyphPositionsModel_refused, q_lt, q_bm, q_grd_tt, if_neg hm1, hnb]
        simp [e19', hv, hcl, q_grd_tt, nI_1]
      · simp [p_s1, p_a1]
      · simp only [p_I, p_s1, p_s2, p_a1, p_a2]
        refine ⟨h1, h2, h3, h4, ⟨n + 1, by omega, rfl, rfl, fun j hj => ?_, fun i j hi hj e => ?_⟩, h6, h7⟩
        · by_cases hjn : j = n
          · subst hjn
            simp [p_upd]
            exact hb
          · have := g4 j (by omega)
            simp [p_upd, hjn]
            exact this
        · have e' : upd (st.2 6) n a i = upd (st.2 6) n a j := by simpa using e
          rw [p_upd, p_upd] at e'
          by_cases hin : i = n
          · by_cases hjn : j = n
            · omega
            · rw [if_pos hin, if_neg hjn] at e'
              exact absurd e'.symm (hno j (by omega))
          · by_cases hjn : j = n
            · rw [if_neg hin, if_pos hjn] at e'
              exact absurd e' (hno i (by omega))
            · rw [if_neg hin, if_neg hjn] at e'
              exact g5 i j (by omega) (by omega) e'
theorem p_m256 (x : Int32) : ((x.toBitVec.toNat % 256 : Nat) : Int) = x.toInt % 256 := by
  have h : x.toInt = x.toBitVec.toInt := rfl
  rw [h, BitVec.toInt_eq_toNat_cond]
  have := x.toBitVec.isLt
  split <;> omega
theorem p_by8 (x : Int32) : x.toInt8.toInt32 &&& 255 = x &&& 255 := by
  rw [p_255, p_255]
  congr 1
  have h1 := p_m256 x.toInt8.toInt32
  have h2 := p_m256 x
  rw [Int8.toInt_toInt32, Int32.toInt_toInt8] at h1
  have h3 : (x.toInt.bmod (2 ^ 8)) % 256 = x.toInt % 256 := Int.bmod_emod
  omega
theorem p_ush {s t : Int32} {q : Nat} (x : Int32) (hq : q = 8 ∨ q = 16 ∨ q = 24) (hs : ((s.toUInt32 &&& Int32.toUInt32 31).toBitVec % 32).toNat = q) (ht : (t.toBitVec.smod 32).toNat = q) : (q_ush x s).toInt8.toInt32 &&& 255 = (x >>> t) &&& 255 := by
  rw [p_by8, p_255, p_255]
  congr 1
  have h1 : (q_ush x s).toBitVec.toNat = x.toBitVec.toNat / 2 ^ q := pk_ushr x s q hs
  have h2 := p_m256 (x >>> t)
  rw [pk_shr x t q ht, Int.shiftRight_eq_div_pow] at h2
  rw [h1]
  have h : x.toInt = x.toBitVec.toInt := rfl
  rw [h, BitVec.toInt_eq_toNat_cond] at h2
  have hl := x.toBitVec.isLt
  generalize x.toBitVec.toNat = X at *
  rcases hq with rfl | rfl | rfl
  · simp only [Nat.reducePow, Int.natCast_pow, Int.reducePow] at h2 ⊢
    split at h2 <;> omega
  · simp only [Nat.reducePow, Int.natCast_pow, Int.reducePow] at h2 ⊢
    split at h2 <;> omega
  · simp only [Nat.reducePow, Int.natCast_pow, Int.reducePow] at h2 ⊢
    split at h2 <;> omega
theorem p_sh0 {t : Int32} (x : Int32) (ht : (t.toBitVec.smod 32).toNat = 0) : x.toInt8.toInt32 &&& 255 = (x >>> t) &&& 255 := by
  rw [p_by8, p_255, p_255]
  congr 1
  have h2 := p_m256 (x >>> t)
  have h3 := p_m256 x
  rw [pk_shr x t 0 ht, Int.shiftRight_zero] at h2
  omega
theorem m_fd {x x2 : Int32} {f m : Nat} {s : QSt} (h2 : ¬ x2 < 0) (h12 : s.1 12 = nI m) (hm : m < 8192) : xGlyphPositionsModel_feed_21 N x (f + 1) x2 s = xGlyphPositionsModel_feed_21 N x f (x2 + (-1)) (q_ps (q_pa s 26 m ((x >>> (8 * x2 &&& 31)) &&& 255)) 12 (nI (m + 1))) := by
  rw [xGlyphPositionsModel_feed_21, if_neg h2, h12, show q_vpb (nI m) 8192 = true from decide_eq_true (nI_in hm (by omega)), q_grd_tt, q_lt, q_lt, nI_clamp (by omega), p_a1, h12, nI_1]
theorem p_feed (h : p_I V k st) (hk : k < 512) (hN : 70000 < N) (x : Int32) : p_i (p_I V (k + 1)) (xGlyphPositions_feed x st) (xGlyphPositionsModel_feed N x) := by
  have hup := h.up
  obtain ⟨⟨n, g1, g2, g3, g4, g5⟩, -⟩ := h
  obtain ⟨-, h2, h3, h4, h5, h6, h7⟩ := hup
  have e3 : ∀ j, j ≤ 3 → q_vpb (nI (n + j)) 8192 = true := fun j hj => decide_eq_true (nI_in (by omega) (by omega))
  have e0 : q_vpb (nI n) 8192 = true := e3 0 (by omega)
  have c0 : (nI n).toNatClampNeg = n := nI_clamp (by omega)
  have c1 : (nI (n + 1)).toNatClampNeg = n + 1 := nI_clamp (by omega)
  have c2 : (nI (n + 2)).toNatClampNeg = n + 2 := nI_clamp (by omega)
  have c3 : (nI (n + 3)).toNatClampNeg = n + 3 := nI_clamp (by omega)
  have a1 : nI n + 1 = nI (n + 1) := nI_1 n
  have a2 : nI n + 2 = nI (n + 2) := nI_add n 2
  have a3 : nI n + 3 = nI (n + 3) := nI_add n 3
  have a4 : nI n + 4 = nI (n + 4) := nI_add n 4
  have hle : nI n ≤ 8188 := by rw [show (8188 : Int32) = nI 8188 from rfl]; exact nI_le (by omega) (by omega)
  have hle2 : nI (n + 4) ≤ 8192 := by rw [il8192]; exact nI_le (by omega) (by omega)
  generalize hS : q_ps (q_pa (q_pa (q_pa (q_pa st 0 n (q_ush x 24).toInt8.toInt32) 0 (n + 1) (q_ush x 16).toInt8.toInt32) 0 (n + 2) (q_ush x 8).toInt8.toInt32) 0 (n + 3) x.toInt8.toInt32) 3 (nI (n + 4)) = S
  have s12 : S.1 12 = nI n := by rw [← hS, p_s1, if_neg (by decide), p_a1, p_a1, p_a1, p_a1, g3]
  have hx : xGlyphPositions_feed x st = some (nI (n + 4), S) := by
    rw [← hS]
    simp only [xGlyphPositions_feed, xTable_append, g2, if_pos hle, e0, c0, q_grd_tt, q_lt, q_bm, p_a1, a1, a2, a3, a4, e3 1 (by omega), e3 2 (by omega), e3 3 (by omega), c1, c2, c3, pk_vb]
    simp [p_s1]
  generalize hT : q_ps (q_pa (q_ps (q_pa (q_ps (q_pa (q_ps (q_pa (q_ps S 11 0) 26 n ((x >>> (8 * 3 &&& 31)) &&& 255)) 12 (nI (n + 1))) 26 (n + 1) ((x >>> (8 * 2 &&& 31)) &&& 255)) 12 (nI (n + 1 + 1))) 26 (n + 1 + 1) ((x >>> (8 * 1 &&& 31)) &&& 255)) 12 (nI (n + 1 + 1 + 1))) 26 (n + 1 + 1 + 1) ((x >>> (8 * 0 &&& 31)) &&& 255)) 12 (nI (n + 1 + 1 + 1 + 1)) = T
  have hm : xGlyphPositionsModel_feed N x S = some (nI (n + 4), T) := by
    obtain ⟨M, rfl⟩ : ∃ M, N = M + 5 := ⟨N - 5, by omega⟩
    unfold xGlyphPositionsModel_feed
    rw [q_lt, p_s1, if_neg (show ¬ (12 : Nat) = 11 by decide), s12, a4, if_pos hle2]
    rw [m_fd (m := n) (by decide) (by rw [p_s1, if_neg (by decide), s12]) (by omega), show (3 : Int32) + (-1) = 2 by decide]
    rw [m_fd (m := n + 1) (by decide) (by rw [p_s1, if_pos rfl]) (by omega), show (2 : Int32) + (-1) = 1 by decide]
    rw [m_fd (m := n + 1 + 1) (by decide) (by rw [p_s1, if_pos rfl]) (by omega), show (1 : Int32) + (-1) = 0 by decide]
    rw [m_fd (m := n + 1 + 1 + 1) (by decide) (by rw [p_s1, if_pos rfl]) (by omega), show (0 : Int32) + (-1) = -1 by decide]
    rw [hT, xGlyphPositionsModel_feed_21, if_pos (by decide)]
    congr 2
    rw [← hT, p_s1, if_pos rfl]
  refine ⟨nI (n + 4), S, T, hx, hm, ?_⟩
  have t1 : ∀ j, j ≠ 11 → j ≠ 12 → T.1 j = S.1 j := by
    intro j j1 j2
    rw [← hT]
    simp only [p_s1, p_a1, if_neg j1, if_neg j2]
  have t2 : ∀ j, j ≠ 26 → T.2 j = S.2 j := by
    intro j j1
    rw [← hT]
    simp only [p_s2, p_a2, if_neg j1]
  have u1 : ∀ j, j ≠ 3 → S.1 j = st.1 j := by
    intro j j1
    rw [← hS]
    simp only [p_s1, p_a1, if_neg j1]
  have u2 : ∀ j, j ≠ 0 → S.2 j = st.2 j := by
    intro j j1
    rw [← hS]
    simp only [p_s2, p_a2, if_neg j1]
  have w1 : ∀ j, S.2 0 j = if j = n + 3 then x.toInt8.toInt32 else if j = n + 2 then (q_ush x 8).toInt8.toInt32 else if j = n + 1 then (q_ush x 16).toInt8.toInt32 else if j = n then (q_ush x 24).toInt8.toInt32 else st.2 0 j := by
    intro j
    rw [← hS]
    simp only [p_s2, p_a2, p_upd, if_true]
  have w2 : ∀ j, T.2 26 j = if j = n + 3 then (x >>> (8 * 0 &&& 31)) &&& 255 else if j = n + 2 then (x >>> (8 * 1 &&& 31)) &&& 255 else if j = n + 1 then (x >>> (8 * 2 &&& 31)) &&& 255 else if j = n then (x >>> (8 * 3 &&& 31)) &&& 255 else st.2 26 j := by
    intro j
    rw [← hT]
    simp only [p_s2, p_a2, p_upd, if_true]
    rw [u2 26 (by decide)]
  have s3 : S.1 3 = nI (n + 4) := by rw [← hS, p_s1, if_pos rfl]
  have t12 : T.1 12 = nI (n + 4) := by rw [← hT, p_s1, if_pos rfl]
  unfold p_I
  simp (disch := decide) only [t1, t2, u1, u2]
  refine ⟨⟨n + 4, by omega, s3, t12, fun j hj => ?_, fun j => ?_⟩, h2, h3, h4, h5, h6, h7⟩
  · rw [w1, w2]
    by_cases j3 : j = n + 3
    · rw [if_pos j3, if_pos j3]; exact (p_sh0 x (by decide)).symm
    rw [if_neg j3, if_neg j3]
    by_cases j2 : j = n + 2
    · rw [if_pos j2, if_pos j2]; exact (p_ush (q := 8) x (by omega) (by decide) (by decide)).symm
    rw [if_neg j2, if_neg j2]
    by_cases j1 : j = n + 1
    · rw [if_pos j1, if_pos j1]; exact (p_ush (q := 16) x (by omega) (by decide) (by decide)).symm
    rw [if_neg j1, if_neg j1]
    by_cases j0 : j = n
    · rw [if_pos j0, if_pos j0]; exact (p_ush (q := 24) x (by omega) (by decide) (by decide)).symm
    rw [if_neg j0, if_neg j0]
    exact g4 j (by omega)
  · rw [w1]
    by_cases j3 : j = n + 3
    · rw [if_pos j3]; exact pk_fb _
    rw [if_neg j3]
    by_cases j2 : j = n + 2
    · rw [if_pos j2]; exact pk_fb _
    rw [if_neg j2]
    by_cases j1 : j = n + 1
    · rw [if_pos j1]; exact pk_fb _
    rw [if_neg j1]
    by_cases j0 : j = n
    · rw [if_pos j0]; exact pk_fb _
    rw [if_neg j0]
    exact g5 j
end POp4
