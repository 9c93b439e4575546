section POp2
def p_u (n : Nat) (f : Nat → Int32) (a : Nat) : Fin 65536 := if a + 2 ≤ n then Fin.ofNat 65536 (256 * ((f a).toBitVec.toNat % 256) + (f (a + 1)).toBitVec.toNat % 256) else 0
theorem p_u_v {n : Nat} {f : Nat → Int32} {a : Nat} (h : a + 2 ≤ n) : (p_u n f a).val = 256 * ((f a).toBitVec.toNat % 256) + (f (a + 1)).toBitVec.toNat % 256 := by
  unfold p_u
  rw [if_pos h]
  show _ % 65536 = _
  exact Nat.mod_eq_of_lt (by omega)
theorem p_u_c {n : Nat} {f f' : Nat → Int32} (h : ∀ j, j < n → f j = f' j) : p_u n f = p_u n f' := by
  funext a
  unfold p_u
  by_cases c : a + 2 ≤ n
  · rw [if_pos c, if_pos c, h a (by omega), h (a + 1) (by omega)]
  · rw [if_neg c, if_neg c]
theorem p_255 (x : Int32) : x &&& 255 = nI (x.toBitVec.toNat % 256) := pk_and x 8 (by decide)
theorem p_or8 {x y : Nat} (hx : x < 256) (hy : y < 256) : (nI x <<< ((8 : Int32) &&& 31)) ||| nI y = nI (256 * x + y) := by
  rw [pk_shlN _ 8 (by decide) (by omega)]
  apply Int32.toBitVec_inj.mp
  apply BitVec.eq_of_toNat_eq
  rw [Int32.toBitVec_or, BitVec.toNat_or, pk_tn (by omega), pk_tn (by omega), pk_tn (by omega)]
  rw [Nat.mul_comm, ← Nat.two_pow_add_eq_or_of_lt (by omega)]
def p_V (n : Nat) (f : Nat → Int32) : Prop := s_head n (p_u n f) ∧ s_scripts n (p_u n f) ∧ s_features n (p_u n f) ∧ s_lks n (p_u n f)
/-- the class's font: n bytes -/
def fH (n : Nat) (u : Nat → Fin 65536) (st : QSt) : Prop := n ≤ 2048 ∧ st.1 4 = nI n ∧ (∀ a, a + 2 ≤ n → ((st.2 1 a &&& 255) <<< ((8 : Int32) &&& 31)) ||| (st.2 1 (a + 1) &&& 255) = nI (u a).val) ∧ ∀ a, n < a + 2 → u a = 0
theorem p_bytes {n : Nat} {f : Nat → Int32} {a : Nat} (h : a + 2 ≤ n) : ((f a &&& 255) <<< ((8 : Int32) &&& 31)) ||| (f (a + 1) &&& 255) = nI (p_u n f a).val := by
  rw [p_255, p_255, p_or8 (Nat.mod_lt _ (by omega)) (Nat.mod_lt _ (by omega)), p_u_v h]
theorem p_bytem {n : Nat} {f g : Nat → Int32} (hg : ∀ j, j < n → g j = f j &&& 255) {a : Nat} (h : a + 2 ≤ n) : 256 * g a + g (a + 1) = nI (p_u n f a).val := by
  rw [hg a (by omega), hg (a + 1) (by omega), p_255, p_255, il256, pk_mul, nI_add, p_u_v h]
theorem p_u0 {n : Nat} {f : Nat → Int32} {a : Nat} (h : n < a + 2) : p_u n f a = 0 := by
  unfold p_u
  rw [if_neg (by omega)]
theorem f_u16 {n : Nat} {u : Nat → Fin 65536} {st : QSt} (h : fH n u st) {a : Nat} (ha : a < 2 ^ 29) : xTable_u16_3 (nI a) st = some (nI (u a).val) := by
  obtain ⟨h1, h2, h3, h4⟩ := h
  unfold xTable_u16_3
  rw [if_neg (nI_pos (by omega)), h2]
  by_cases hc : a + 2 ≤ n
  · have e := h3 a hc
    rw [if_pos (by rw [il2, c_le2 h1 ha (by omega)]; exact hc), nI_1, nI_clamp (by omega), nI_clamp (by omega)]
    rw [show q_vpb (nI a) 8192 = true from decide_eq_true (nI_in (by omega) (by omega)), show q_vpb (nI (a + 1)) 8192 = true from decide_eq_true (nI_in (by omega) (by omega))]
    simp only [q_grd_tt, q_lt]
    rw [e]
  · rw [if_neg (by rw [il2, c_le2 h1 ha (by omega)]; exact hc), h4 a (by omega)]
    rfl
theorem mS_self (b : QSt) : mS b (b.1 14) (b.1 15) = b := by
  unfold mS q_ps
  refine Prod.ext ?_ rfl
  funext j
  unfold va_up
  by_cases h : j = 15
  · subst h; simp
  · by_cases h2 : j = 14
    · subst h2; simp
    · simp [h, h2]
theorem m_l72 {N : Nat} : ∀ (d i f : Nat) (s : QSt), i + d = 8192 → d < f → ∃ s' : QSt, xGlyphPositionsModel_load_72 N f (nI i) s = q_bm (xGlyphPositionsModel_lookupCount (q_ps s' 13 1)) (fun r9 sr9 => some (r9, sr9)) ∧ s'.1 = s.1 ∧ (∀ j, j ≠ 27 → s'.2 j = s.2 j) ∧ ∀ j, s'.2 27 j = if i ≤ j ∧ j < 8192 then s.2 26 j else s.2 27 j := by
  intro d
  induction d with
  | zero =>
    intro i f s hi hf
    obtain ⟨f, rfl⟩ : ∃ g, f = g + 1 := ⟨f - 1, by omega⟩
    refine ⟨s, ?_, rfl, fun _ _ => rfl, fun j => by rw [if_neg (by omega)]⟩
    rw [xGlyphPositionsModel_load_72, il8192, if_pos (nI_le (by omega) (by omega))]
    rfl
  | succ d ih =>
    intro i f s hi hf
    obtain ⟨f, rfl⟩ : ∃ g, f = g + 1 := ⟨f - 1, by omega⟩
    rw [xGlyphPositionsModel_load_72, il8192, if_neg (nI_ge (by omega) (by omega)), show q_vpb (nI i) 8192 = true from decide_eq_true (nI_in (by omega) (by omega)), q_grd_tt, q_lt, q_grd_tt, q_lt, nI_clamp (by omega), nI_1]
    obtain ⟨s', h1, h2, h3, h4⟩ := ih (i + 1) f (q_pa s 27 i (s.2 26 i)) (by omega) (by omega)
    refine ⟨s', h1, h2, fun j hj => ?_, fun j => ?_⟩
    · rw [h3 j hj, p_a2, if_neg hj]
    · rw [h4 j, p_a2, p_a2, if_neg (show ¬ (26 : Nat) = 27 by decide), if_pos (show (27 : Nat) = 27 from rfl), p_upd]
      by_cases hji : j = i
      · subst hji
        rw [if_neg (by omega), if_pos rfl, if_pos (by omega)]
      · rw [if_neg hji]
        by_cases hc : i + 1 ≤ j ∧ j < 8192
        · rw [if_pos hc, if_pos (by omega)]
        · rw [if_neg hc, if_neg (by omega)]
variable {k N n : Nat} {u : Nat → Fin 65536} {st : QSt}
/-- what the reference's load does -/
theorem m_load (hm : mH n u (q_ps st 11 0)) (hN : 70000 < N) :
    (¬ s_head n u → ∃ l, xGlyphPositionsModel_load N st = some (-1, mS (q_ps st 11 0) 1 l)) ∧
    (s_head n u → ¬ s_scripts n u → ∃ l, xGlyphPositionsModel_load N st = some (-2, mS (q_ps st 11 0) 1 l)) ∧
    (s_head n u → s_scripts n u → ¬ s_features n u → ∃ l, xGlyphPositionsModel_load N st = some (-3, mS (q_ps st 11 0) 1 l)) ∧
    (s_head n u → s_scripts n u → s_features n u → ¬ (s_lks n u ∧ s_lksK u ≤ 20000) → ∃ l, xGlyphPositionsModel_load N st = some (-4, mS (q_ps st 11 0) 1 l)) ∧
    (s_head n u → s_scripts n u → s_features n u → s_lks n u ∧ s_lksK u ≤ 20000 → ∃ s', xGlyphPositionsModel_load N st = some (nI (u (u 8).val).val, s') ∧ (∀ j, j ≠ 11 → j ≠ 13 → j ≠ 14 → j ≠ 15 → s'.1 j = st.1 j) ∧ s'.1 13 = 1 ∧ (∀ j, j ≠ 27 → s'.2 j = st.2 j) ∧ ∀ j, j < 8192 → s'.2 27 j = st.2 26 j) := by
  have q0 : mQ (q_ps st 11 0) True 0 (q_ps (q_ps (q_ps st 11 0) 14 0) 15 0) := mQ.good (by omega)
  obtain ⟨s1, e1, q1⟩ := m_head hm q0
  have eL : xGlyphPositionsModel_load N st = (if (s1.1 14) = 0 then (q_bv (xGlyphPositionsModel_checkScripts N s1) (fun sr5 => if (sr5.1 14) = 0 then (q_bv (xGlyphPositionsModel_checkFeatures N sr5) (fun sr6 => if (sr6.1 14) = 0 then (q_bv (xGlyphPositionsModel_checkLookups N sr6) (fun sr7 => if (sr7.1 14) = 0 then (xGlyphPositionsModel_load_72 N N 0 sr7) else (some ((-4), sr7)))) else (some ((-3), sr6)))) else (some ((-2), sr5)))) else (some ((-1), s1))) := by
    unfold xGlyphPositionsModel_load
    rw [q_lt, q_lt, q_lt, e1, q_bv_s]
  rw [eL]
  refine ⟨fun h => ?_, fun h1 h => ?_, fun h1 h2 h => ?_, fun h1 h2 h3 h => ?_, fun h1 h2 h3 h => ?_⟩
  · obtain ⟨l, hl⟩ := q1.2 (fun g => h g.2)
    rw [if_neg (fun g => h (q1.b0.mp g).2)]
    exact ⟨l, by rw [hl]⟩
  all_goals
    rw [if_pos (q1.b0.mpr ⟨trivial, h1⟩)]
    obtain ⟨s2, e2, q2⟩ := m_scripts (N := N) hm h1.1 q1 hN
    rw [e2, q_bv_s]
  · obtain ⟨l, hl⟩ := q2.2 (fun g => h g.2)
    rw [if_neg (fun g => h (q2.b0.mp g).2)]
    exact ⟨l, by rw [hl]⟩
  all_goals
    rw [if_pos (q2.b0.mpr ⟨⟨trivial, h1⟩, h2⟩)]
    obtain ⟨s3, e3, q3⟩ := m_features (N := N) hm h1.1 q2 hN
    rw [e3, q_bv_s]
  · obtain ⟨l, hl⟩ := q3.2 (fun g => h g.2)
    rw [if_neg (fun g => h (q3.b0.mp g).2)]
    exact ⟨l, by rw [hl]⟩
  all_goals
    rw [if_pos (q3.b0.mpr ⟨⟨⟨trivial, h1⟩, h2⟩, h3⟩)]
    obtain ⟨s4, e4, q4⟩ := m_lks (N := N) hm h1.1 q3 hN
    rw [Nat.zero_add] at q4
    rw [e4, q_bv_s]
  · obtain ⟨l, hl⟩ := q4.2 (fun g => h g.2)
    rw [if_neg (fun g => h (q4.b0.mp g).2)]
    exact ⟨l, by rw [hl]⟩
  · have g4 := q4.1 ⟨⟨⟨⟨trivial, h1⟩, h2⟩, h3⟩, h⟩
    rw [if_pos (q4.b0.mpr ⟨⟨⟨⟨trivial, h1⟩, h2⟩, h3⟩, h⟩)]
    obtain ⟨s5, e5, f1, f2, f3⟩ := m_l72 (N := N) 8192 0 N s4 (by omega) (by omega)
    rw [← nI_0, e5]
    have hb14 : s4.1 14 = 0 := by rw [g4.2, mS_b]
    have hb15 : s4.1 15 = nI (s_lksK u) := by rw [g4.2, mS_l]
    have hs4 : ∀ j, j ≠ 11 → j ≠ 14 → j ≠ 15 → s4.1 j = st.1 j := by
      intro j j1 j2 j3
      rw [g4.2]
      unfold mS
      rw [p_s1, if_neg j3, p_s1, if_neg j2, p_s1, if_neg j1]
    have hs42 : s4.2 = st.2 := by rw [g4.2, mS_2, p_s2]
    have hbase : mQ (q_ps s5 13 1) True (s_lksK u) (q_ps s5 13 1) := by
      have e := mS_self (q_ps s5 13 1)
      rw [p_s1, p_s1, if_neg (by decide), if_neg (by decide), f1, hb14, hb15] at e
      have := mQ.good (st := q_ps s5 13 1) h.2
      rw [e] at this
      exact this
    have hm5 : mH n u (q_ps s5 13 1) := by
      refine ⟨hm.1, ?_, ?_, hm.2.2.2⟩
      · rw [p_s1, if_neg (by decide), f1, hs4 12 (by decide) (by decide) (by decide)]
        exact hm.2.1
      · intro a ha
        have := hm.2.2.1 a ha
        rw [p_s2] at this ⊢
        rw [f2 26 (by decide), hs42]
        exact this
    obtain ⟨s6, e6, q6⟩ := m_lc hm5 hbase
    rw [e6, q_bm_s]
    have hh := h1.1
    have h82 : (u 8).val + 2 ≤ n := h.1.1.1
    have g6 := (q6.1 ⟨trivial, by omega, h82⟩).2
    refine ⟨s6, rfl, fun j j1 j2 j3 j4 => ?_, ?_, fun j hj => ?_, fun j hj => ?_⟩
    · rw [g6]
      unfold mS
      rw [p_s1, if_neg j4, p_s1, if_neg j3, p_s1, if_neg j2, f1, hs4 j j1 j3 j4]
    · rw [g6]
      unfold mS
      rw [p_s1, if_neg (by decide), p_s1, if_neg (by decide), p_s1, if_pos rfl]
    · rw [g6, mS_2, p_s2, f2 j hj, hs42]
    · rw [g6, mS_2, p_s2, f3 j, if_pos (by omega), hs42]
theorem p_I.st5 {V : Nat → (Nat → Int32) → Prop} (h : p_I V k st) (v : Int32) : p_I V k (q_ps st 5 v) := by
  simp only [p_I, p_s1, p_s2]
  exact h
theorem p_I_mS {V : Nat → (Nat → Int32) → Prop} (h : p_I V k st) (a b l : Int32) : p_I V k (mS (q_ps st 11 a) b l) := by
  unfold mS
  simp only [p_I, p_s1, p_s2]
  exact h
theorem p_load (h : p_I p_V k st) (hk : k < 512) (hN : 70000 < N) : p_i (p_I p_V (k + 1)) (xGlyphPositions_load N st) (xGlyphPositionsModel_load N) := by
  have hup := h.up
  obtain ⟨⟨n, g1, g2, g3, g4, g5⟩, h2, h3, h4, h5, h6, h7⟩ := h
  generalize hu : p_u n (st.2 0) = u
  have hc : cH n u st := ⟨by omega, g2, fun a ha => by rw [← hu]; exact p_bytes ha, fun a ha => by rw [← hu]; exact p_u0 ha⟩
  have hm : ∀ {s1 : QSt}, s1.1 12 = st.1 12 → s1.2 26 = st.2 26 → mH n u (q_ps s1 11 0) := by
    intro s1 h1 h2
    refine ⟨by omega, ?_, fun a ha => ?_, fun a ha => by rw [← hu]; exact p_u0 ha⟩
    · rw [p_s1, if_neg (by decide), h1, g3]
    · rw [p_s2, h2, ← hu]
      exact p_bytem g4 ha
  unfold xGlyphPositions_load
  rw [c_head hc, q_bnb]
  by_cases a1 : s_head n u
  rotate_left
  · rw [if_neg a1]
    obtain ⟨l, e⟩ := (m_load (N := N) (hm (s1 := st) rfl rfl) hN).1 a1
    exact ⟨-1, st, _, rfl, e, p_I_mS hup 0 1 l⟩
  rw [if_pos a1, c_scripts hc hN, q_bnb]
  by_cases a2 : s_scripts n u
  rotate_left
  · rw [if_neg a2]
    obtain ⟨l, e⟩ := (m_load (N := N) (hm (s1 := st) rfl rfl) hN).2.1 a1 a2
    exact ⟨-2, st, _, rfl, e, p_I_mS hup 0 1 l⟩
  rw [if_pos a2, c_features hc hN, q_bnb]
  by_cases a3 : s_features n u
  rotate_left
  · rw [if_neg a3]
    obtain ⟨l, e⟩ := (m_load (N := N) (hm (s1 := st) rfl rfl) hN).2.2.1 a1 a2 a3
    exact ⟨-3, st, _, rfl, e, p_I_mS hup 0 1 l⟩
  rw [if_pos a3]
  have hl := c_lks (N := N) hc hN
  by_cases a4 : s_lks n u ∧ s_lksK u ≤ 20000
  rotate_left
  · obtain ⟨l, el⟩ := hl.2 (fun g => a4 ⟨g.1, by omega⟩)
    rw [el, q_bm_s, if_pos rfl]
    obtain ⟨l2, e⟩ := (m_load (N := N) (hm (s1 := q_ps st 5 (nI l)) rfl rfl) hN).2.2.2.1 a1 a2 a3 a4
    exact ⟨-4, _, _, rfl, e, p_I_mS (hup.st5 (nI l)) 0 1 l2⟩
  rw [hl.1 ⟨a4.1, by omega⟩, q_bm_s, if_neg m_1ne]
  unfold xTable_copyFrom
  have hcp : q_cpyb ((q_ps st 5 (nI (s_lksK u))).2 0) ((q_ps st 5 (nI (s_lksK u))).1 3) 8192 = true := by
    rw [p_s2, p_s1, if_neg (by decide), g2]
    unfold q_cpyb
    rw [nI_clamp (by omega), decide_eq_true (nI_pos (by omega)), decide_eq_true (show n ≤ 8192 by omega)]
    simp only [Bool.true_and, List.all_eq_true]
    exact fun i _ => g5 i
  rw [hcp, q_grd_tt, q_lt, q_lt, q_bv_s, q_lt]
  generalize hS : q_ps (q_ps (q_pc (q_ps st 5 (nI (s_lksK u))) 0 1 ((q_ps st 5 (nI (s_lksK u))).1 3)) 4 ((q_pc (q_ps st 5 (nI (s_lksK u))) 0 1 ((q_ps st 5 (nI (s_lksK u))).1 3)).1 3)) 0 1 = S
  have s1 : ∀ j, S.1 j = if j = 0 then 1 else if j = 4 then nI n else if j = 5 then nI (s_lksK u) else st.1 j := by
    intro j
    rw [← hS, p_s1, p_s1]
    show (if j = 0 then (1 : Int32) else if j = 4 then (q_ps st 5 (nI (s_lksK u))).1 3 else (q_ps st 5 (nI (s_lksK u))).1 j) = _
    rw [p_s1, p_s1, if_neg (show ¬ (3 : Nat) = 5 by decide), g2]
  have s2 : ∀ j, j ≠ 1 → S.2 j = st.2 j := by
    intro j hj
    rw [← hS]
    show va_up _ 1 _ j = _
    rw [va_up_ne _ _ hj]
    rfl
  have s3 : ∀ j, j < n → S.2 1 j = st.2 0 j := by
    intro j hj
    rw [← hS]
    show (va_up (q_ps st 5 (nI (s_lksK u))).2 1 _ 1) j = _
    rw [va_up_self]
    show va_cpy _ _ 0 0 ((q_ps st 5 (nI (s_lksK u))).1 3).toNatClampNeg j = _
    rw [p_s1, if_neg (by decide), g2, nI_clamp (by omega), pk_cpy_in (by omega) (by omega)]
    show st.2 0 (0 + (j - 0)) = _
    rw [Nat.zero_add, Nat.sub_zero]
  have hun : p_u n (S.2 1) = u := by rw [← hu]; exact p_u_c s3
  have hf : fH n u S := ⟨by omega, by rw [s1]; rfl, fun a ha => by rw [← hun]; exact p_bytes ha, fun a ha => by rw [← hun]; exact p_u0 ha⟩
  rw [il8, f_u16 hf (by omega), q_bn_s, f_u16 hf (by omega), q_bn_s]
  obtain ⟨s', e, f1, f2, f3, f4⟩ := (m_load (N := N) (hm (s1 := S) (by rw [s1]; rfl) (by rw [s2 26 (by decide)])) hN).2.2.2.2 a1 a2 a3 a4
  refine ⟨nI (u (u 8).val).val, S, s', rfl, e, ?_⟩
  unfold p_I
  rw [f1 3 (by decide) (by decide) (by decide) (by decide), f1 12 (by decide) (by decide) (by decide) (by decide), f1 0 (by decide) (by decide) (by decide) (by decide), f2, f1 4 (by decide) (by decide) (by decide) (by decide), f1 17 (by decide) (by decide) (by decide) (by decide), f1 1 (by decide) (by decide) (by decide) (by decide), f1 18 (by decide) (by decide) (by decide) (by decide), f1 2 (by decide) (by decide) (by decide) (by decide), f1 6 (by decide) (by decide) (by decide) (by decide), f1 16 (by decide) (by decide) (by decide) (by decide), f1 7 (by decide) (by decide) (by decide) (by decide), f1 19 (by decide) (by decide) (by decide) (by decide), f1 8 (by decide) (by decide) (by decide) (by decide), f1 20 (by decide) (by decide) (by decide) (by decide), f1 9 (by decide) (by decide) (by decide) (by decide), f1 21 (by decide) (by decide) (by decide) (by decide)]
  simp (disch := decide) only [f3, s2]
  simp only [s1]
  refine ⟨⟨n, by omega, g2, g3, g4, g5⟩, ⟨rfl, Or.inr ⟨rfl, n, by omega, rfl, fun j hj => ?_, ?_⟩⟩, h3, h4, h5, h6.up, h7⟩
  · rw [f4 j (by omega), s2 26 (by decide), s3 j hj, g4 j hj]
  · unfold p_V
    rw [hun]
    exact ⟨a1, a2, a3, a4.1⟩
end POp2
