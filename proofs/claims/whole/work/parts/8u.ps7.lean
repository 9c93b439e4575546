section PS7
variable {n N m c : Nat} {u : Nat → Fin 65536} {F : Nat → Nat → Int32} {D : Nat → Nat → Nat} {bk : Int32} {flag : Nat} {s s' t t' : QSt}
theorem w_hangM (w : wW n m c u F D bk flag s t) {i q : Nat} (X Y : Int32) (hq : q < i) (hi : i < m) :
    wS n m c u F D bk flag s t (q_pa (q_pa (q_pa (q_pa (q_pa (q_pa s 16 i (nI q)) 17 i 0) 18 i X) 19 i Y) 14 i 0) 15 i 0) (q_pa (q_pa (q_pa (q_pa (q_pa (q_pa t 42 i 0) 43 i 0) 44 i (nI q)) 45 i 0) 46 i X) 47 i Y) := by
  have hC : sC s (q_pa (q_pa (q_pa (q_pa (q_pa (q_pa s 16 i (nI q)) 17 i 0) 18 i X) 19 i Y) 14 i 0) 15 i 0) := (((((sC.pa (by omega) (by omega)).tr (sC.pa (by omega) (by omega))).tr (sC.pa (by omega) (by omega))).tr (sC.pa (by omega) (by omega))).tr (sC.pa (by omega) (by omega))).tr (sC.pa (by omega) (by omega))
  have hM : sM t (q_pa (q_pa (q_pa (q_pa (q_pa (q_pa t 42 i 0) 43 i 0) 44 i (nI q)) 45 i 0) 46 i X) 47 i Y) := (((((sM.pa (by omega) (by omega)).tr (sM.pa (by omega) (by omega))).tr (sM.pa (by omega) (by omega))).tr (sM.pa (by omega) (by omega))).tr (sM.pa (by omega) (by omega))).tr (sM.pa (by omega) (by omega))
  refine ⟨w.to hC hM (fun l hl => ?_), hC, hM⟩
  obtain ⟨h1, h2, h3, h4, h5, h6⟩ := w.2.2.2 l hl
  unfold r1 hg
  unfold hg at h6
  by_cases e : l = i
  · subst e
    simp [p_a2, p_upd, h1, h2]
    exact Or.inr ⟨q, hq, rfl⟩
  · simp [p_a2, p_upd, e, h1, h2, h3, h4, h5]
    exact h6
theorem c_onB (hf : fH n u s) {tt a j wh : Nat} {x5 : Int32} (htt : tt < 65536) (h5 : tt ≠ 5) (hb : a + 16 < 2 ^ 20) (hj : 2 * (j * (u (a + 6)).val + wh) < 2 ^ 27) : xSetter_anchorOn (nI tt) (nI a) (nI j) (nI wh) x5 s = some (if (u (a + (u (a + 10)).val + 2 + 2 * (j * (u (a + 6)).val + wh))).val = 0 then -1 else nI (a + (u (a + 10)).val + (u (a + (u (a + 10)).val + 2 + 2 * (j * (u (a + 6)).val + wh))).val)) := by
  unfold xSetter_anchorOn
  rw [il6, nI_add, f_u16 hf (by omega), q_bn_s, show (10 : Int32) = nI 10 from rfl, nI_add, f_u16 hf (by omega), q_bn_s, q_lt, nI_add, if_neg (by rw [il5, nI_eq (by omega) (by omega)]; exact h5), il2, nI_add, pk_mul, nI_add, pk_mul, nI_add, c_anch hf (by omega), q_bn_s]
theorem c_onL (hf : fH n u s) {a j wh pi L p ct : Nat} (ha : a < 2 ^ 20) (hj : j < 65536) (hL : a + (u (a + 10)).val + (u (a + (u (a + 10)).val + 2 + 2 * j)).val = L) (hp : (u L).val = p) (hp0 : p ≠ 0) (hp16 : p ≤ 16) (hpi : pi ≤ 16) (hct : ct = if pi = 0 then p else if pi ≤ p then pi else p) (hc : (u (a + 6)).val ≤ 16) (hwh : wh < 65536) :
    xSetter_anchorOn (nI 5) (nI a) (nI j) (nI wh) (nI pi) s = some (if (u (L + 2 + 2 * ((ct - 1) * (u (a + 6)).val + wh))).val = 0 then -1 else nI (L + (u (L + 2 + 2 * ((ct - 1) * (u (a + 6)).val + wh))).val)) := by
  have h104 : ∀ x, 1 ≤ x → x ≤ 16 → xSetter_anchorOn_104 s (nI wh) (nI (u (a + 6)).val) (nI L) (nI x) = some (if (u (L + 2 + 2 * ((x - 1) * (u (a + 6)).val + wh))).val = 0 then -1 else nI (L + (u (L + 2 + 2 * ((x - 1) * (u (a + 6)).val + wh))).val)) := by
    intro x hx1 hx2
    have hb : (x - 1) * (u (a + 6)).val ≤ 16 * 16 := Nat.mul_le_mul (by omega) hc
    unfold xSetter_anchorOn_104
    rw [show nI x - 1 = nI (x - 1) by rw [il1, pk_sub hx1], pk_mul, nI_add, il2, pk_mul, nI_add, nI_add, c_anch hf (by omega), q_bn_s]
  unfold xSetter_anchorOn xSetter_anchorOn_97
  rw [il6, nI_add, f_u16 hf (by omega), q_bn_s, show (10 : Int32) = nI 10 from rfl, nI_add, f_u16 hf (by omega), q_bn_s, q_lt, nI_add, if_pos (show nI 5 = 5 from rfl), il2, nI_add, pk_mul, nI_add, f_u16 hf (by omega), q_bn_s, q_lt, nI_add, hL, f_u16 hf (by omega), q_bn_s, hp]
  simp (disch := omega) only [m_eq0, nI_leI]
  by_cases d1 : pi = 0
  · rw [if_pos d1] at hct ⊢
    subst hct
    exact h104 ct (by omega) hp16
  · rw [if_neg d1] at hct ⊢
    by_cases d2 : pi ≤ p
    · rw [if_pos d2] at hct ⊢
      subst hct
      exact h104 ct (by omega) hpi
    · rw [if_neg d2] at hct ⊢
      subst hct
      exact h104 ct (by omega) hp16
theorem c_hangM {i q : Nat} (hi : i < 512) (X Y : Int32) : xRun_hangByMark (nI i) (nI q) X Y s = some (q_pa (q_pa (q_pa (q_pa (q_pa (q_pa s 16 i (nI q)) 17 i 0) 18 i X) 19 i Y) 14 i 0) 15 i 0) := by
  have hv : q_vpb (nI i) 800 = true := decide_eq_true (nI_in (by omega) (by omega))
  unfold xRun_hangByMark
  simp (disch := omega) only [hv, q_grd_tt, q_lt, nI_clamp, p_nb (b := 0) (Or.inl rfl)]
theorem c_mk48 (hf : fH n u s) {tt a i q k j pi pc pr : Nat} (ha : a < 2 ^ 20) (hi : i < 512) (hk : k < 65536) (hpr : pr < 2 ^ 20) (e1 : xSetter_indexAt N (nI (a + 2)) (nI a) (nI i) s = some (nI k)) (e2 : xSetter_indexAt N (nI (a + 4)) (nI a) (nI q) s = some (nI j)) (hj : j < 65536) (hpi : s.2 10 i = nI pi)
    (hon : xSetter_anchorOn (nI tt) (nI a) (nI j) (nI (u (a + (u (a + 8)).val + 2 + 4 * k)).val) (nI pi) s = some (if (u pc).val = 0 then -1 else nI (pr + (u pc).val))) :
    xSetter_takeMark_48 N (nI tt) (nI a) (nI i) (nI q) s = if (u pc).val = 0 then some (0, s) else some (1, q_pa (q_pa (q_pa (q_pa (q_pa (q_pa s 16 i (nI q)) 17 i 0) 18 i (sv u (pr + (u pc).val + 2) - sv u (a + (u (a + 8)).val + (u (a + (u (a + 8)).val + 4 + 4 * k)).val + 2))) 19 i (sv u (pr + (u pc).val + 4) - sv u (a + (u (a + 8)).val + (u (a + (u (a + 8)).val + 4 + 4 * k)).val + 4))) 14 i 0) 15 i 0) := by
  have hv : q_vpb (nI i) 800 = true := decide_eq_true (nI_in (by omega) (by omega))
  unfold xSetter_takeMark_48
  rw [il2, il4, nI_add a 2, nI_add a 4, e1, q_bn_s, e2, q_bn_s, if_neg (c_m1e (by omega)), if_neg (c_m1e (by omega)), il8, nI_add a 8, f_u16 hf (by omega), q_bn_s, q_lt, nI_add, q_lt, pk_mul, nI_add, nI_add, nI_add, f_u16 hf (by omega), q_bn_s, q_lt, f_u16 hf (by omega), q_bn_s, hv, q_grd_tt, q_lt, nI_clamp (by omega), hpi, hon, q_bn_s]
  rw [show a + (u (a + 8)).val + 2 + 4 * k + 2 = a + (u (a + 8)).val + 4 + 4 * k by omega, nI_add]
  by_cases d : (u pc).val = 0
  · rw [if_pos d, if_pos rfl, if_pos d]
  · rw [if_neg d, if_neg (c_m1e (by omega)), if_neg d, nI_add (pr + (u pc).val) 2, f_s16 hf (by omega), q_bn_s, nI_add _ 2, f_s16 hf (by omega), q_bn_s, nI_add (pr + (u pc).val) 4, f_s16 hf (by omega), q_bn_s, nI_add _ 4, f_s16 hf (by omega), q_bn_s, c_hangM hi, q_bv_s]
theorem m_mk229 (hgm : gH n u t) {i q wh mk pr rw' pc : Nat} (hi : i < 512) (hpc : rw' + 2 * wh = pc) (h1 : pc + 2 ≤ n) (h2 : (u pc).val ≠ 0 → pr + (u pc).val + 6 ≤ n) (h3 : mk + 6 ≤ n) :
    xGlyphPositionsModel_takeMark_229 N (nI i) (nI q) (nI wh) (nI mk) (nI pr) (nI rw') t = if (u pc).val = 0 then some (-1, t) else some (nI (i + 1), q_pa (q_pa (q_pa (q_pa (q_pa (q_pa t 42 i 0) 43 i 0) 44 i (nI q)) 45 i 0) 46 i (sv u (pr + (u pc).val + 2) - sv u (mk + 2))) 47 i (sv u (pr + (u pc).val + 4) - sv u (mk + 4))) := by
  have hn := hgm.1
  have hv : q_vpb (nI i) 800 = true := decide_eq_true (nI_in (by omega) (by omega))
  unfold xGlyphPositionsModel_takeMark_229
  rw [il2, pk_mul, nI_add rw' (2 * wh), hpc, g_f16 hgm h1, q_bn_s]
  simp (disch := omega) only [m_eq0]
  by_cases d : (u pc).val = 0
  · rw [if_pos d, if_pos d]
  · have a2 := h2 d
    have gT : gH n u (q_pa (q_pa t 42 i 0) 43 i 0) := ⟨hn, fun a ha => hgm.2 a ha⟩
    rw [if_neg d, if_neg d, hv, q_grd_tt, q_lt, q_grd_tt, q_lt, nI_clamp (by omega), nI_add pr, nI_add (pr + (u pc).val) 2, g_s16 gT (by omega), q_bn_s, nI_add mk 2, g_s16 gT (by omega), q_bn_s, il4, nI_add (pr + (u pc).val) 4, g_s16 gT (by omega), q_bn_s, nI_add mk 4, g_s16 gT (by omega), q_bn_s, m_hangJ hi (Or.inl rfl), q_bv_s, nI_1]
theorem m_mk47B (hgm : gH n u t) {tt a i q k j : Nat} (htt : tt < 65536) (h5 : tt ≠ 5) (ha : a + 12 ≤ n) (hk : a + (u (a + 8)).val + 4 + 4 * k + 2 ≤ n) (hj : j < 65536) :
    xGlyphPositionsModel_takeMark_47 N (nI tt) (nI a) (nI i) (nI k) (nI q) (nI j) t = xGlyphPositionsModel_takeMark_229 N (nI i) (nI q) (nI (u (a + (u (a + 8)).val + 2 + 4 * k)).val) (nI (a + (u (a + 8)).val + (u (a + (u (a + 8)).val + 4 + 4 * k)).val)) (nI (a + (u (a + 10)).val)) (nI (a + (u (a + 10)).val + 2 + 2 * (u (a + 6)).val * j)) t := by
  have hn := hgm.1
  unfold xGlyphPositionsModel_takeMark_47
  rw [if_neg (nI_pos (by omega)), if_pos (nI_pos' (by omega)), il6, nI_add a 6, g_f16 hgm (by omega), q_bn_s, il8, nI_add a 8, g_f16 hgm (by omega), q_bn_s, q_lt, nI_add, show (10 : Int32) = nI 10 from rfl, nI_add a 10, g_f16 hgm (by omega), q_bn_s, q_lt, nI_add a, il2, nI_add _ 2, il4, pk_mul, nI_add, g_f16 hgm (by omega), q_bn_s, nI_add _ 4, nI_add, g_f16 hgm (by omega), q_bn_s, q_lt, q_lt, if_neg (by rw [il5, nI_eq (by omega) (by omega)]; exact h5)]
  simp only [pk_mul, nI_add]
theorem m_mk47L (hgm : gH n u t) {a i q k j pi L p ct : Nat} (ha : a + 12 ≤ n) (hk : a + (u (a + 8)).val + 4 + 4 * k + 2 ≤ n) (hj : a + (u (a + 10)).val + 2 + 2 * j + 2 ≤ n) (hi : i < 512) (hpi : t.2 39 i = nI pi) (hL : a + (u (a + 10)).val + (u (a + (u (a + 10)).val + 2 + 2 * j)).val = L) (hLn : L + 2 ≤ n) (hp : (u L).val = p) (hp0 : p ≠ 0) (hp16 : p ≤ 16) (hpi16 : pi ≤ 16) (hct : ct = if pi = 0 then p else if pi ≤ p then pi else p) :
    xGlyphPositionsModel_takeMark_47 N (nI 5) (nI a) (nI i) (nI k) (nI q) (nI j) t = xGlyphPositionsModel_takeMark_229 N (nI i) (nI q) (nI (u (a + (u (a + 8)).val + 2 + 4 * k)).val) (nI (a + (u (a + 8)).val + (u (a + (u (a + 8)).val + 4 + 4 * k)).val)) (nI L) (nI (L + 2 + 2 * (u (a + 6)).val * (ct - 1))) t := by
  have hn := hgm.1
  have hv : q_vpb (nI i) 800 = true := decide_eq_true (nI_in (by omega) (by omega))
  have h211 : ∀ x, 1 ≤ x → x ≤ 16 → ∀ (y z : Int32), xGlyphPositionsModel_takeMark_211 N (nI i) (nI q) (nI (u (a + 6)).val) y z (nI L) (nI x) t = xGlyphPositionsModel_takeMark_229 N (nI i) (nI q) y z (nI L) (nI (L + 2 + 2 * (u (a + 6)).val * (x - 1))) t := by
    intro x hx1 hx2 y z
    unfold xGlyphPositionsModel_takeMark_211
    rw [q_lt, il1, pk_sub hx1, il2, pk_mul, pk_mul, nI_add, nI_add]
  unfold xGlyphPositionsModel_takeMark_47 xGlyphPositionsModel_takeMark_199
  rw [if_neg (nI_pos (by omega)), if_pos (nI_pos' (by omega)), il6, nI_add a 6, g_f16 hgm (by omega), q_bn_s, il8, nI_add a 8, g_f16 hgm (by omega), q_bn_s, q_lt, nI_add, show (10 : Int32) = nI 10 from rfl, nI_add a 10, g_f16 hgm (by omega), q_bn_s, q_lt, nI_add a, il2, nI_add _ 2, il4, pk_mul, nI_add, g_f16 hgm (by omega), q_bn_s, nI_add _ 4, nI_add, g_f16 hgm (by omega), q_bn_s, q_lt, q_lt, if_pos (show nI 5 = 5 from rfl), pk_mul 2 j, nI_add (a + (u (a + 10)).val) 2, nI_add _ (2 * j), g_f16 hgm hj, q_bn_s, q_lt, nI_add (a + (u (a + 10)).val) (u (a + (u (a + 10)).val + 2 + 2 * j)).val, hL, nI_add (a + (u (a + 8)).val) (u (a + (u (a + 8)).val + 4 + 4 * k)).val, g_f16 hgm hLn, q_bn_s, hp, hv, q_grd_tt, q_lt, nI_clamp (by omega), hpi, q_grd_tt, q_lt, q_grd_tt, q_lt]
  simp (disch := omega) only [m_eq0, nI_leI]
  by_cases d1 : pi = 0
  · rw [if_pos d1] at hct ⊢
    subst hct
    exact h211 ct (by omega) hp16 _ _
  · rw [if_neg d1] at hct ⊢
    by_cases d2 : pi ≤ p
    · rw [if_pos d2] at hct ⊢
      subst hct
      exact h211 ct (by omega) hpi16 _ _
    · rw [if_neg d2] at hct ⊢
      subst hct
      exact h211 ct (by omega) hp16 _ _
theorem w_mk (hG : gl N m c F D) (w : wW n m c u F D bk flag s t) {tt a i q : Nat} (hV : s_mon n u tt a) (htt : tt = 4 ∨ tt = 5 ∨ tt = 6) (hi : i < m) (hq : q < i) {r : Int32} (e1 : xSetter_indexAt N (nI (a + 2)) (nI a) (nI i) s = some r) (e3 : r = -1 ∨ ∃ k, k < s_cv u (a + (u (a + 2)).val) ∧ r = nI k) (hN : 70000 < N) :
    ∃ r' s' t', q_bm (xSetter_takeMark_48 N (nI tt) (nI a) (nI i) (nI q) s) (fun r4 sr4 => if r4 = 0 then some (-1, sr4) else some (nI i + 1, sr4)) = some (r', s') ∧ q_bn (xGlyphPositionsModel_covered N (nI a) 4 (nI (D 0 q)) t) (fun r5 => xGlyphPositionsModel_takeMark_47 N (nI tt) (nI a) (nI i) r (nI q) r5 t) = some (r', t') ∧ wS n m c u F D bk flag s t s' t' ∧ tk i m r' := by
  have hn := w.1.1.1
  have hm := hG.1
  have hf := w.1.1
  have hg := w.2.2.1.1
  obtain ⟨h1, h2, h3, h4, h5, ⟨⟨⟨h6, h7, h8⟩, h9⟩, h10⟩, h11⟩ := hV
  obtain ⟨r2, e4, e5, e6⟩ := i_at hG w (o := 4) (i := q) h4 (by omega) (by omega) hN
  rw [il4, e5, q_bn_s]
  rcases e3 with rfl | ⟨k, hk, rfl⟩
  · unfold xSetter_takeMark_48 xGlyphPositionsModel_takeMark_47
    rw [il2, nI_add, e1, q_bn_s, il4, nI_add, e4, q_bn_s, if_pos rfl, q_bm_s, if_pos rfl, if_pos (by decide)]
    exact ⟨-1, s, t, rfl, rfl, wS.rfl' w, Or.inl rfl⟩
  have hkl := s_cv_lt hn h3
  have hjl := s_cv_lt hn h4
  rcases e6 with rfl | ⟨j, hj, rfl⟩
  · unfold xSetter_takeMark_48 xGlyphPositionsModel_takeMark_47
    rw [il2, nI_add, e1, q_bn_s, il4, nI_add, e4, q_bn_s, if_neg (c_m1e (by omega)), if_pos rfl, q_bm_s, if_pos rfl, if_neg (nI_pos (by omega)), if_neg (by decide)]
    exact ⟨-1, s, t, rfl, rfl, wS.rfl' w, Or.inl rfl⟩
  obtain ⟨b1, b2⟩ := h10 k (by omega)
  have hpi := (w.1.2.2.2 i hi).2.1
  have hpt := (w.2.2.1.2.2.2.2 i hi).2
  have hp16 := (hG.2 i hi).2.1
  have fin : ∀ {pc pr : Nat}, pr < 2 ^ 20 → (xSetter_anchorOn (nI tt) (nI a) (nI j) (nI (u (a + (u (a + 8)).val + 2 + 4 * k)).val) (nI (D 1 i)) s = some (if (u pc).val = 0 then -1 else nI (pr + (u pc).val))) → xGlyphPositionsModel_takeMark_47 N (nI tt) (nI a) (nI i) (nI k) (nI q) (nI j) t = (if (u pc).val = 0 then some (-1, t) else some (nI (i + 1), q_pa (q_pa (q_pa (q_pa (q_pa (q_pa t 42 i 0) 43 i 0) 44 i (nI q)) 45 i 0) 46 i (sv u (pr + (u pc).val + 2) - sv u (a + (u (a + 8)).val + (u (a + (u (a + 8)).val + 4 + 4 * k)).val + 2))) 47 i (sv u (pr + (u pc).val + 4) - sv u (a + (u (a + 8)).val + (u (a + (u (a + 8)).val + 4 + 4 * k)).val + 4)))) → ∃ r' s' t', q_bm (xSetter_takeMark_48 N (nI tt) (nI a) (nI i) (nI q) s) (fun r4 sr4 => if r4 = 0 then some (-1, sr4) else some (nI i + 1, sr4)) = some (r', s') ∧ xGlyphPositionsModel_takeMark_47 N (nI tt) (nI a) (nI i) (nI k) (nI q) (nI j) t = some (r', t') ∧ wS n m c u F D bk flag s t s' t' ∧ tk i m r' := by
    intro pc pr hpr hon hmod
    rw [c_mk48 hf (by omega) (by omega) (by omega) hpr e1 e4 (by have := (u (a + (u (a + 10)).val)).isLt; have := h4.1; rcases h11 with ⟨-, x, -⟩ | ⟨-, x, -⟩ <;> have := x.2 <;> omega) hpi hon, hmod]
    by_cases d : (u pc).val = 0
    · rw [if_pos d, if_pos d, q_bm_s, if_pos rfl]
      exact ⟨-1, s, t, rfl, rfl, wS.rfl' w, Or.inl rfl⟩
    · rw [if_neg d, if_neg d, q_bm_s, if_neg m_1ne, nI_1]
      exact ⟨_, _, _, rfl, rfl, w_hangM w _ _ hq hi, Or.inr ⟨i + 1, by omega, by omega, rfl⟩⟩
  rcases h11 with ⟨rfl, ⟨⟨g1, g2, g3⟩, g4⟩, g5⟩ | ⟨ht5, ⟨⟨g1, g2, g3⟩, g4⟩, g5⟩
  · obtain ⟨⟨l1, l2, l3⟩, l4, l5⟩ := g5 j (by omega)
    generalize hL : a + (u (a + 10)).val + (u (a + (u (a + 10)).val + 2 + 2 * j)).val = L at *
    generalize hp : (u L).val = p at *
    generalize hct : (if D 1 i = 0 then p else if D 1 i ≤ p then D 1 i else p) = ct
    have hct1 : 1 ≤ ct ∧ ct ≤ p := by
      rw [← hct]
      by_cases d1 : D 1 i = 0
      · rw [if_pos d1]; omega
      · rw [if_neg d1]
        by_cases d2 : D 1 i ≤ p
        · rw [if_pos d2]; omega
        · rw [if_neg d2]; omega
    generalize hC : (u (a + 6)).val = C at *
    generalize hW : (u (a + (u (a + 8)).val + 2 + 4 * k)).val = wh at *
    have hle : (ct - 1) * C + wh + 1 ≤ p * C := by
      have : (ct - 1 + 1) * C ≤ p * C := Nat.mul_le_mul_right _ (by omega)
      rw [Nat.succ_mul] at this
      omega
    have e2c : p * (2 * C) = p * C * 2 := by rw [Nat.mul_comm 2 C, Nat.mul_assoc]
    rw [e2c] at l3
    refine fin (pc := L + 2 + 2 * ((ct - 1) * C + wh)) (pr := L) (by omega) ?_ ?_
    · have := c_onL (n := n) (u := u) hf (a := a) (j := j) (wh := wh) (pi := D 1 i) (L := L) (p := p) (ct := ct) (by omega) (by omega) hL hp l4 l2 hp16 hct.symm (by rw [hC]; exact h5) (by omega)
      rw [hC] at this
      exact this
    · have e7 := m_mk47L (N := N) hg (q := q) (pi := D 1 i) (ct := ct) (k := k) h1 (by omega) (by omega) (by omega) hpt hL l1 hp l4 l2 hp16 hct.symm
      rw [hW, hC] at e7
      rw [e7]
      exact m_mk229 hg (by omega) (by rw [Nat.mul_add, Nat.mul_assoc, Nat.mul_comm C]; omega) (by omega) (fun d => (l5 ((ct - 1) * C + wh) (by omega) d).1) b2.1
  · generalize hB : a + (u (a + 10)).val = B at *
    generalize hC : (u (a + 6)).val = C at *
    generalize hW : (u (a + (u (a + 8)).val + 2 + 4 * k)).val = wh at *
    have hle : j * C + wh + 1 ≤ (u B).val * C := by
      have : (j + 1) * C ≤ (u B).val * C := Nat.mul_le_mul_right _ (by omega)
      rw [Nat.succ_mul] at this
      omega
    have e2c : (u B).val * (2 * C) = (u B).val * C * 2 := by rw [Nat.mul_comm 2 C, Nat.mul_assoc]
    rw [e2c] at g3
    refine fin (pc := B + 2 + 2 * (j * C + wh)) (pr := B) (by omega) ?_ ?_
    · have := c_onB (n := n) (u := u) hf (tt := tt) (a := a) (j := j) (wh := wh) (x5 := nI (D 1 i)) (by omega) ht5 (by omega) (by rw [hC]; omega)
      rw [hC, hB] at this
      exact this
    · have e7 := m_mk47B (N := N) hg (tt := tt) (i := i) (q := q) (k := k) (j := j) (by omega) ht5 h1 (by omega) (by omega)
      rw [hW, hC, hB] at e7
      rw [e7]
      exact m_mk229 hg (by omega) (by rw [Nat.mul_add, Nat.mul_assoc, Nat.mul_comm C]; omega) (by omega) (fun d => (g5 (j * C + wh) (by omega) d).1) b2.1
theorem w_mark (hG : gl N m c F D) (w : wW n m c u F D bk flag s t) (hfl : flag < 65536) {tt a i : Nat} (hV : s_mon n u tt a) (htt : tt = 4 ∨ tt = 5 ∨ tt = 6) (hi : i < m) (hN : 70000 < N) :
    ∃ r s' t', q_bm (xSetter_takeMark N (nI tt) (nI a) (nI i) s) (fun r4 sr4 => if r4 = 0 then some (-1, sr4) else some (nI i + 1, sr4)) = some (r, s') ∧ xGlyphPositionsModel_takeMark N (nI tt) (nI flag) (nI a) (nI i) t = some (r, t') ∧ wS n m c u F D bk flag s t s' t' ∧ tk i m r := by
  have hn := w.1.1.1
  have hm := hG.1
  have hv : q_vpb (nI i) 800 = true := decide_eq_true (nI_in (by omega) (by omega))
  obtain ⟨r, e1, e2, e3⟩ := i_at hG w (o := 2) hV.2.2.1 (by have := hV.1; omega) hi hN
  have h38 : ∀ j, j < m → t.2 38 j = nI (D 0 j) := fun j hj => (w.2.2.1.2.2.2.2 j hj).1
  have none' : xGlyphPositionsModel_baseOf N (nI tt) (nI flag) (nI i) t = some (-1) → xGlyphPositionsModel_takeMark N (nI tt) (nI flag) (nI a) (nI i) t = some (-1, t) := by
    intro e
    unfold xGlyphPositionsModel_takeMark
    rw [hv, q_grd_tt, q_lt, nI_clamp (by omega), h38 i hi, il2, e2, q_bn_s, e, q_bn_s, if_neg (by decide)]
    unfold xGlyphPositionsModel_takeMark_47
    rw [if_neg (show ¬ (0 : Int32) ≤ -1 by decide)]
    by_cases d : r < 0
    · rw [if_pos d]
    · rw [if_neg d]
  have some' : ∀ q, q < i → xGlyphPositionsModel_baseOf N (nI tt) (nI flag) (nI i) t = some (nI q) → xGlyphPositionsModel_takeMark N (nI tt) (nI flag) (nI a) (nI i) t = q_bn (xGlyphPositionsModel_covered N (nI a) 4 (nI (D 0 q)) t) (fun r5 => xGlyphPositionsModel_takeMark_47 N (nI tt) (nI a) (nI i) r (nI q) r5 t) := by
    intro q hq e
    unfold xGlyphPositionsModel_takeMark
    rw [hv, q_grd_tt, q_lt, nI_clamp (by omega), h38 i hi, il2, e2, q_bn_s, e, q_bn_s, if_pos (nI_pos' (by omega)), show q_vpb (nI q) 800 = true from decide_eq_true (nI_in (by omega) (by omega)), q_grd_tt, q_lt, nI_clamp (by omega), h38 q (by omega)]
  unfold xSetter_takeMark
  rw [hv, q_grd_tt, q_lt, q_grd_tt, q_lt, nI_clamp (by omega)]
  by_cases d6 : tt = 6
  · subst d6
    rw [if_pos (show nI 6 = 6 from rfl)]
    have hb := (w.2.1 i hi).2.1
    have hb6 := m_base6 (N := N) (KD := D 2) (flag := flag) (ps := fun q => k_ps flag (D 2 q) (D 3 q)) (G := D 0) hm (fun j hj => ⟨h38 j hj, ((hG.2 j hj).2.2.2.2 t w.2.2.1.2.1).2 flag hfl, (hG.2 j hj).2.2.1, ((hG.2 j hj).2.2.2.2 t w.2.2.1.2.1).1⟩) hi hb hN
    unfold xSetter_takeMark_21
    rcases hb with ⟨hb, -⟩ | ⟨q, hq, hb, -⟩
    · rw [hb, if_pos rfl, q_bm_s, if_pos rfl, none' (hb6.1 hb)]
      exact ⟨-1, s, t, rfl, rfl, wS.rfl' w, Or.inl rfl⟩
    · have hb7 := hb6.2 q hq hb
      rw [hb, if_neg (c_m1e (by omega)), if_pos (show nI 6 = 6 from rfl), show q_vpb (nI q) 800 = true from decide_eq_true (nI_in (by omega) (by omega)), q_grd_tt, q_lt, nI_clamp (by omega), (w.1.2.2.2 q (by omega)).2.2.1]
      have hk3 := (hG.2 q (by omega)).2.2.1
      by_cases k3 : D 2 q = 3
      · rw [if_pos k3] at hb7
        rw [if_pos (by rw [k3]; rfl), some' q hq hb7]
        exact w_mk hG w hV htt hi hq e1 e3 hN
      · rw [if_neg k3] at hb7
        rw [if_neg (by rw [il3, nI_eq (by omega) (by omega)]; exact k3), q_bm_s, if_pos rfl, none' hb7]
        exact ⟨-1, s, t, rfl, rfl, wS.rfl' w, Or.inl rfl⟩
  · have hne : ¬ nI tt = 6 := by rw [il6, nI_eq (by omega) (by omega)]; exact d6
    rw [if_neg hne]
    have hb := (w.1.2.2.2 i hi).2.2.2.2
    have hb4 := m_base4 (N := N) (KD := D 2) (flag := nI flag) (G := D 0) hm hne (fun j hj => ⟨h38 j hj, (hG.2 j hj).2.2.1, ((hG.2 j hj).2.2.2.2 t w.2.2.1.2.1).1⟩) hi hb hN
    unfold xSetter_takeMark_21
    rcases hb with ⟨hb, -⟩ | ⟨q, hq, hb, -⟩
    · rw [hb] at hb4 ⊢
      rw [if_pos rfl, q_bm_s, if_pos rfl, none' hb4]
      exact ⟨-1, s, t, rfl, rfl, wS.rfl' w, Or.inl rfl⟩
    · rw [hb] at hb4 ⊢
      rw [if_neg (c_m1e (by omega)), if_neg hne, some' q hq hb4]
      exact w_mk hG w hV htt hi hq e1 e3 hN
end PS7
