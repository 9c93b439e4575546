section PS6
variable {n N m c : Nat} {u : Nat → Fin 65536} {F : Nat → Nat → Int32} {D : Nat → Nat → Nat} {bk : Int32} {flag : Nat} {s s' t t' : QSt}
theorem w_joinA (w : wW n m c u F D bk flag s t) {i j : Nat} (X Y Z : Int32) (hij : i < j) (hj : j < m) :
    wS n m c u F D bk flag s t (q_pa (q_pa (q_pa (q_pa (q_pa (q_pa s 12 i (X + s.2 14 i)) 12 j (s.2 12 j - (Y + s.2 14 j))) 14 j (s.2 14 j - (Y + s.2 14 j))) 16 j (nI i)) 17 j 1) 19 j Z)
      (q_pa (q_pa (q_pa (q_pa (q_pa (q_pa (q_pa t 40 i (X + t.2 42 i)) 40 j (t.2 40 j - (Y + t.2 42 j))) 42 j (t.2 42 j - (Y + t.2 42 j))) 44 j (nI i)) 45 j 1) 46 j 0) 47 j Z) := by
  have hC : sC s (q_pa (q_pa (q_pa (q_pa (q_pa (q_pa s 12 i (X + s.2 14 i)) 12 j (s.2 12 j - (Y + s.2 14 j))) 14 j (s.2 14 j - (Y + s.2 14 j))) 16 j (nI i)) 17 j 1) 19 j Z) := (((((sC.pa (by omega) (by omega)).tr (sC.pa (by omega) (by omega))).tr (sC.pa (by omega) (by omega))).tr (sC.pa (by omega) (by omega))).tr (sC.pa (by omega) (by omega))).tr (sC.pa (by omega) (by omega))
  have hM : sM t (q_pa (q_pa (q_pa (q_pa (q_pa (q_pa (q_pa t 40 i (X + t.2 42 i)) 40 j (t.2 40 j - (Y + t.2 42 j))) 42 j (t.2 42 j - (Y + t.2 42 j))) 44 j (nI i)) 45 j 1) 46 j 0) 47 j Z) := ((((((sM.pa (by omega) (by omega)).tr (sM.pa (by omega) (by omega))).tr (sM.pa (by omega) (by omega))).tr (sM.pa (by omega) (by omega))).tr (sM.pa (by omega) (by omega))).tr (sM.pa (by omega) (by omega))).tr (sM.pa (by omega) (by omega))
  refine ⟨w.to hC hM (fun l hl => ?_), hC, hM⟩
  obtain ⟨a1, a2, a3, a4, a5, a6⟩ := w.2.2.2 i (by omega)
  obtain ⟨b1, b2, b3, b4, b5, b6⟩ := w.2.2.2 j hj
  obtain ⟨h1, h2, h3, h4, h5, h6⟩ := w.2.2.2 l hl
  unfold r1 hg
  unfold hg at h6
  by_cases e : l = j
  · subst e
    have hli : ¬ l = i := by omega
    simp [p_a2, p_upd, hli, b1, b2, b3, b4, b5]
    exact Or.inr ⟨i, hij, rfl⟩
  · by_cases e2 : l = i
    · subst e2
      simp [p_a2, p_upd, e, a1, a2, a3, a4, a5]
      exact h6
    · simp [p_a2, p_upd, e, e2, h1, h2, h3, h4, h5]
      exact h6
theorem w_joinB (w : wW n m c u F D bk flag s t) {i j : Nat} (X Y Z : Int32) (hij : i < j) (hj : j < m) :
    wS n m c u F D bk flag s t (q_pa (q_pa (q_pa (q_pa (q_pa (q_pa s 12 j (Y + s.2 14 j)) 12 i (s.2 12 i - (X + s.2 14 i))) 14 i (s.2 14 i - (X + s.2 14 i))) 16 j (nI i)) 17 j 1) 19 j Z)
      (q_pa (q_pa (q_pa (q_pa (q_pa (q_pa (q_pa t 40 j (Y + t.2 42 j)) 40 i (t.2 40 i - (X + t.2 42 i))) 42 i (t.2 42 i - (X + t.2 42 i))) 44 j (nI i)) 45 j 1) 46 j 0) 47 j Z) := by
  have hC : sC s (q_pa (q_pa (q_pa (q_pa (q_pa (q_pa s 12 j (Y + s.2 14 j)) 12 i (s.2 12 i - (X + s.2 14 i))) 14 i (s.2 14 i - (X + s.2 14 i))) 16 j (nI i)) 17 j 1) 19 j Z) := (((((sC.pa (by omega) (by omega)).tr (sC.pa (by omega) (by omega))).tr (sC.pa (by omega) (by omega))).tr (sC.pa (by omega) (by omega))).tr (sC.pa (by omega) (by omega))).tr (sC.pa (by omega) (by omega))
  have hM : sM t (q_pa (q_pa (q_pa (q_pa (q_pa (q_pa (q_pa t 40 j (Y + t.2 42 j)) 40 i (t.2 40 i - (X + t.2 42 i))) 42 i (t.2 42 i - (X + t.2 42 i))) 44 j (nI i)) 45 j 1) 46 j 0) 47 j Z) := ((((((sM.pa (by omega) (by omega)).tr (sM.pa (by omega) (by omega))).tr (sM.pa (by omega) (by omega))).tr (sM.pa (by omega) (by omega))).tr (sM.pa (by omega) (by omega))).tr (sM.pa (by omega) (by omega))).tr (sM.pa (by omega) (by omega))
  refine ⟨w.to hC hM (fun l hl => ?_), hC, hM⟩
  obtain ⟨a1, a2, a3, a4, a5, a6⟩ := w.2.2.2 i (by omega)
  obtain ⟨b1, b2, b3, b4, b5, b6⟩ := w.2.2.2 j hj
  obtain ⟨h1, h2, h3, h4, h5, h6⟩ := w.2.2.2 l hl
  unfold r1 hg
  unfold hg at h6
  by_cases e : l = j
  · subst e
    have hli : ¬ l = i := by omega
    simp [p_a2, p_upd, hli, b1, b2, b3, b4, b5]
    exact Or.inr ⟨i, hij, rfl⟩
  · by_cases e2 : l = i
    · subst e2
      simp [p_a2, p_upd, e, a1, a2, a3, a4, a5]
      exact h6
    · simp [p_a2, p_upd, e, e2, h1, h2, h3, h4, h5]
      exact h6
theorem c_anch (hf : fH n u s) {x p : Nat} (hx : x < 2 ^ 28) : xSetter_anchorAt (nI x) (nI p) s = some (if (u x).val = 0 then -1 else nI (p + (u x).val)) := by
  unfold xSetter_anchorAt
  rw [f_u16 hf (by omega), q_bn_s, nI_add]
  simp (disch := omega) only [m_eq0]
  by_cases d : (u x).val = 0
  · rw [if_pos d, if_pos d]
  · rw [if_neg d, if_neg d]
theorem c_join {i j : Nat} (hi : i < 512) (hj : j < 512) (hne : i ≠ j) (X Y : Int32) : xRun_join (nI i) X (nI j) Y s = some (q_pa (q_pa (q_pa s 12 i (X + s.2 14 i)) 12 j (s.2 12 j - (Y + s.2 14 j))) 14 j (s.2 14 j - (Y + s.2 14 j))) := by
  have hvi : q_vpb (nI i) 800 = true := decide_eq_true (nI_in (by omega) (by omega))
  have hvj : q_vpb (nI j) 800 = true := decide_eq_true (nI_in (by omega) (by omega))
  have hne' : ¬ j = i := fun e => hne e.symm
  unfold xRun_join
  simp (disch := omega) only [hvi, hvj, q_grd_tt, q_lt, nI_clamp]
  simp [p_a2, p_upd, hne']
theorem c_hangC {i j : Nat} (hj : j < 512) (Z : Int32) : xRun_hangByCursive (nI j) (nI i) Z s = some (q_pa (q_pa (q_pa s 16 j (nI i)) 17 j 1) 19 j Z) := by
  have hvj : q_vpb (nI j) 800 = true := decide_eq_true (nI_in (by omega) (by omega))
  unfold xRun_hangByCursive
  simp (disch := omega) only [hvj, q_grd_tt, q_lt, nI_clamp, p_nb (b := 1) (Or.inr rfl)]
theorem m_hangJ {j : Nat} (hj : j < 512) {b : Int32} (hb : b = 0 ∨ b = 1) (x y z : Int32) : xGlyphPositionsModel_hang (nI j) x b y z t = some (q_pa (q_pa (q_pa (q_pa t 44 j x) 45 j b) 46 j y) 47 j z) := by
  have hvj : q_vpb (nI j) 800 = true := decide_eq_true (nI_in (by omega) (by omega))
  unfold xGlyphPositionsModel_hang
  simp (disch := omega) only [hvj, q_grd_tt, q_lt, nI_clamp, p_nb hb]
theorem m_cur44 (hgm : gH n u t) {a x y i j k l : Nat} (hi : i < 512) (hj : j < 512) (hij : ¬ j = i) (hk : a + 8 + 4 * k + 2 ≤ n) (hl : a + 6 + 4 * l + 2 ≤ n) (hx : (u (a + 8 + 4 * k)).val = x) (hy : (u (a + 6 + 4 * l)).val = y) (h1 : x ≠ 0 → a + x + 6 ≤ n) (h2 : y ≠ 0 → a + y + 6 ≤ n) (h22 : t.1 22 = bk) :
    xGlyphPositionsModel_takeJoin_44 N (nI a) (nI i) (nI k) (nI j) (nI l) t = (if x = 0 then some (-1, t) else if y = 0 then some (-1, t) else if bk = 0 then
      xGlyphPositionsModel_takeJoin_230 N (nI a) (nI i) (nI j) (nI x) (nI y) (q_pa (q_pa (q_pa t 40 i (sv u (a + x + 2) + t.2 42 i)) 40 j (t.2 40 j - (sv u (a + y + 2) + t.2 42 j))) 42 j (t.2 42 j - (sv u (a + y + 2) + t.2 42 j)))
      else xGlyphPositionsModel_takeJoin_230 N (nI a) (nI i) (nI j) (nI x) (nI y) (q_pa (q_pa (q_pa t 40 j (sv u (a + y + 2) + t.2 42 j)) 40 i (t.2 40 i - (sv u (a + x + 2) + t.2 42 i))) 42 i (t.2 42 i - (sv u (a + x + 2) + t.2 42 i)))) := by
  have hn := hgm.1
  have hv : q_vpb (nI i) 800 = true := decide_eq_true (nI_in (by omega) (by omega))
  have hvj : q_vpb (nI j) 800 = true := decide_eq_true (nI_in (by omega) (by omega))
  have hij2 : ¬ i = j := fun e => hij e.symm
  have ci : (nI i).toNatClampNeg = i := nI_clamp (by omega)
  have cj : (nI j).toNatClampNeg = j := nI_clamp (by omega)
  unfold xGlyphPositionsModel_takeJoin_44
  rw [if_neg (nI_pos (by omega)), if_pos (nI_pos' (by omega)), il8, il4, il6, nI_add, pk_mul, nI_add, g_f16 hgm hk, q_bn_s, nI_add, pk_mul, nI_add, g_f16 hgm hl, q_bn_s, hx, hy]
  by_cases d1 : x = 0
  · rw [if_pos d1, if_pos (by rw [d1]; rfl)]
  have a1 := h1 d1
  rw [if_neg d1, if_neg (nI_ne0 (by omega) (by omega))]
  by_cases d2 : y = 0
  · rw [if_pos d2, if_pos (by rw [d2]; rfl)]
  have a2 := h2 d2
  rw [if_neg d2, if_neg (nI_ne0 (by omega) (by omega)), il2, nI_add a x, nI_add (a + x) 2, g_s16 hgm (by omega), q_bn_s, hv, q_grd_tt, q_lt, q_lt, nI_add a y, nI_add (a + y) 2, g_s16 hgm (by omega), q_bn_s, hvj, q_grd_tt, q_lt, q_lt, h22, ci, cj]
  by_cases hb : bk = 0
  · rw [if_pos hb, if_pos hb]
    simp only [q_grd_tt, q_lt]
    congr 1
    simp [p_a2, p_upd, hij]
  · rw [if_neg hb, if_neg hb]
    simp only [q_grd_tt, q_lt]
    congr 1
    simp [p_a2, p_upd, hij2]
theorem m_cur230 (hgm : gH n u t) {a x y i j : Nat} (hj : j < 512) (h1 : a + x + 6 ≤ n) (h2 : a + y + 6 ≤ n) :
    xGlyphPositionsModel_takeJoin_230 N (nI a) (nI i) (nI j) (nI x) (nI y) t = some (nI (i + 1), q_pa (q_pa (q_pa (q_pa t 44 j (nI i)) 45 j 1) 46 j 0) 47 j (sv u (a + x + 4) - sv u (a + y + 4))) := by
  unfold xGlyphPositionsModel_takeJoin_230
  rw [il4, nI_add a x, nI_add (a + x) 4, g_s16 hgm (by omega), q_bn_s, nI_add a y, nI_add (a + y) 4, g_s16 hgm (by omega), q_bn_s, m_hangJ hj (Or.inr rfl), q_bv_s, nI_1]
theorem c_cur168 (hf : fH n u s) {a x y i j : Nat} (hj : j < 512) (h1 : a + x + 6 ≤ n) (h2 : a + y + 6 ≤ n) :
    xSetter_takeCursive_168 N (nI i) (nI j) (nI (a + x)) (nI (a + y)) s = some (1, q_pa (q_pa (q_pa s 16 j (nI i)) 17 j 1) 19 j (sv u (a + x + 4) - sv u (a + y + 4))) := by
  have hn := hf.1
  unfold xSetter_takeCursive_168
  rw [il4, nI_add (a + x) 4, f_s16 hf (by omega), q_bn_s, nI_add (a + y) 4, f_s16 hf (by omega), q_bn_s, c_hangC hj, q_bv_s]
theorem w_cur (hG : gl N m c F D) (w : wW n m c u F D bk flag s t) (hfl : flag < 65536) {a i : Nat} (hV : s_cur n u a) (hi : i < m) (hN : 70000 < N) :
    ∃ r s' t', q_bm (xSetter_takeCursive N (nI a) (nI i) s) (fun r5 sr5 => if r5 = 0 then some (-1, sr5) else some (nI i + 1, sr5)) = some (r, s') ∧ xGlyphPositionsModel_takeJoin N (nI flag) (nI a) (nI i) t = some (r, t') ∧ wS n m c u F D bk flag s t s' t' ∧ tk i m r := by
  have hn := w.1.1.1
  have hm := hG.1
  obtain ⟨h1, h2, h3, ⟨⟨h4, h5, h6⟩, h7⟩, h8⟩ := hV
  have hv : q_vpb (nI i) 800 = true := decide_eq_true (nI_in (by omega) (by omega))
  have hkl := s_cv_lt hn h3
  obtain ⟨r, e1, e2, e3⟩ := i_at hG w (o := 2) h3 (by omega) hi hN
  obtain ⟨x1, x2⟩ := w_next hG w hfl hi hN
  have hM : xGlyphPositionsModel_takeJoin N (nI flag) (nI a) (nI i) t = (if 0 ≤ s.2 25 i then q_grd (q_vpb (s.2 25 i) 800) (q_lt (t.2 38 (s.2 25 i).toNatClampNeg) (fun v4 => q_bn (xGlyphPositionsModel_covered N (nI a) 2 v4 t) (fun r5 => xGlyphPositionsModel_takeJoin_44 N (nI a) (nI i) r (s.2 25 i) r5 t))) else xGlyphPositionsModel_takeJoin_44 N (nI a) (nI i) r (s.2 25 i) (-1) t) := by
    unfold xGlyphPositionsModel_takeJoin
    rw [hv, q_grd_tt, q_lt, nI_clamp (by omega), (w.2.2.1.2.2.2.2 i hi).1, il2, e2, q_bn_s, x1, q_bn_s]
  rw [hM]
  unfold xSetter_takeCursive
  rw [il2, nI_add, hv, q_grd_tt, q_lt, nI_clamp (by omega)]
  rcases x2 with x2 | ⟨j, hj1, hj2, x2⟩
  · rw [x2, if_pos rfl, q_bm_s, if_pos rfl, if_neg (by decide)]
    refine ⟨-1, s, t, rfl, ?_, wS.rfl' w, Or.inl rfl⟩
    unfold xGlyphPositionsModel_takeJoin_44
    rw [if_neg (show ¬ (0 : Int32) ≤ -1 by decide)]
    by_cases d : r < 0
    · rw [if_pos d]
    · rw [if_neg d]
  have hvj : q_vpb (nI j) 800 = true := decide_eq_true (nI_in (by omega) (by omega))
  obtain ⟨r', e4, e5, e6⟩ := i_at hG w (o := 2) (i := j) h3 (by omega) hj2 hN
  rw [x2, if_neg (c_m1e (by omega)), if_pos (nI_pos' (by omega)), hvj, q_grd_tt, q_lt, nI_clamp (by omega), (w.2.2.1.2.2.2.2 j hj2).1, e5, q_bn_s, e1, q_bn_s, e4, q_bn_s]
  rcases e3 with rfl | ⟨k, hk, rfl⟩
  · unfold xGlyphPositionsModel_takeJoin_44
    rw [if_pos rfl, q_bm_s, if_pos rfl, if_pos (by decide)]
    exact ⟨-1, s, t, rfl, rfl, wS.rfl' w, Or.inl rfl⟩
  rw [if_neg (c_m1e (by omega))]
  rcases e6 with rfl | ⟨l, hl, rfl⟩
  · unfold xGlyphPositionsModel_takeJoin_44
    rw [if_pos rfl, q_bm_s, if_pos rfl, if_neg (nI_pos (by omega)), if_neg (by decide)]
    exact ⟨-1, s, t, rfl, rfl, wS.rfl' w, Or.inl rfl⟩
  have hex : (u (a + 8 + 4 * k)).val ≠ 0 → s_anc n u (a + (u (a + 8 + 4 * k)).val) := by
    have := h8 (2 * k + 1) (by omega)
    rw [show a + 6 + 2 * (2 * k + 1) = a + 8 + 4 * k by omega] at this
    exact this
  have hen : (u (a + 6 + 4 * l)).val ≠ 0 → s_anc n u (a + (u (a + 6 + 4 * l)).val) := by
    have := h8 (2 * l) (by omega)
    rw [show a + 6 + 2 * (2 * l) = a + 6 + 4 * l by omega] at this
    exact this
  rw [if_neg (c_m1e (by omega)), il8, il4, il6, nI_add, pk_mul, nI_add, nI_add, pk_mul, nI_add, c_anch w.1.1 (by omega), q_bn_s, c_anch w.1.1 (by omega), q_bn_s]
  generalize hx : (u (a + 8 + 4 * k)).val = x at *
  generalize hy : (u (a + 6 + 4 * l)).val = y at *
  rw [m_cur44 (bk := bk) w.2.2.1.1 (by omega) (by omega) (by omega) (by omega) (by omega) hx hy (fun d => (hex d).1) (fun d => (hen d).1) w.2.2.1.2.2.2.1]
  by_cases d1 : x = 0
  · rw [if_pos d1, if_pos rfl, q_bm_s, if_pos rfl, if_pos d1]
    exact ⟨-1, s, t, rfl, rfl, wS.rfl' w, Or.inl rfl⟩
  have a1 := (hex d1).1
  rw [if_neg d1, if_neg (c_m1e (by omega)), if_neg d1]
  by_cases d2 : y = 0
  · rw [if_pos d2, if_pos rfl, q_bm_s, if_pos rfl, if_pos d2]
    exact ⟨-1, s, t, rfl, rfl, wS.rfl' w, Or.inl rfl⟩
  have a2 := (hen d2).1
  rw [if_neg d2, if_neg (c_m1e (by omega)), if_neg d2, w.1.2.2.1, nI_add, nI_add, f_s16 w.1.1 (by omega), q_bn_s, f_s16 w.1.1 (by omega), q_bn_s, q_bn_s, q_bn_s, nI_1]
  by_cases hb : bk = 0
  · have hw := w_joinA w (sv u (a + x + 2)) (sv u (a + y + 2)) (sv u (a + x + 4) - sv u (a + y + 4)) hj1 hj2
    have hC : sC s (q_pa (q_pa (q_pa s 12 i (sv u (a + x + 2) + s.2 14 i)) 12 j (s.2 12 j - (sv u (a + y + 2) + s.2 14 j))) 14 j (s.2 14 j - (sv u (a + y + 2) + s.2 14 j))) := ((sC.pa (by omega) (by omega)).tr (sC.pa (by omega) (by omega))).tr (sC.pa (by omega) (by omega))
    have hMM : sM t (q_pa (q_pa (q_pa t 40 i (sv u (a + x + 2) + t.2 42 i)) 40 j (t.2 40 j - (sv u (a + y + 2) + t.2 42 j))) 42 j (t.2 42 j - (sv u (a + y + 2) + t.2 42 j))) := ((sM.pa (by omega) (by omega)).tr (sM.pa (by omega) (by omega))).tr (sM.pa (by omega) (by omega))
    have fS := (w.1.to hC).1
    have gT := (w.2.2.1.to hMM).1
    rw [if_pos hb, if_pos hb, c_join (by omega) (by omega) (by omega), q_bv_s, c_cur168 fS (by omega) a1 a2, q_bm_s, if_neg m_1ne, m_cur230 gT (by omega) a1 a2]
    exact ⟨_, _, _, rfl, rfl, hw, Or.inr ⟨i + 1, by omega, by omega, rfl⟩⟩
  · have hw := w_joinB w (sv u (a + x + 2)) (sv u (a + y + 2)) (sv u (a + x + 4) - sv u (a + y + 4)) hj1 hj2
    have hC : sC s (q_pa (q_pa (q_pa s 12 j (sv u (a + y + 2) + s.2 14 j)) 12 i (s.2 12 i - (sv u (a + x + 2) + s.2 14 i))) 14 i (s.2 14 i - (sv u (a + x + 2) + s.2 14 i))) := ((sC.pa (by omega) (by omega)).tr (sC.pa (by omega) (by omega))).tr (sC.pa (by omega) (by omega))
    have hMM : sM t (q_pa (q_pa (q_pa t 40 j (sv u (a + y + 2) + t.2 42 j)) 40 i (t.2 40 i - (sv u (a + x + 2) + t.2 42 i))) 42 i (t.2 42 i - (sv u (a + x + 2) + t.2 42 i))) := ((sM.pa (by omega) (by omega)).tr (sM.pa (by omega) (by omega))).tr (sM.pa (by omega) (by omega))
    have fS := (w.1.to hC).1
    have gT := (w.2.2.1.to hMM).1
    rw [if_neg hb, if_neg hb, c_join (by omega) (by omega) (by omega), q_bv_s, c_cur168 fS (by omega) a1 a2, q_bm_s, if_neg m_1ne, m_cur230 gT (by omega) a1 a2]
    exact ⟨_, _, _, rfl, rfl, hw, Or.inr ⟨i + 1, by omega, by omega, rfl⟩⟩
end PS6
