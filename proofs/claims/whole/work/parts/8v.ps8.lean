section PS8
variable {n N m c : Nat} {u : Nat → Fin 65536} {F : Nat → Nat → Int32} {D : Nat → Nat → Nat} {bk : Int32} {flag : Nat} {s s' t t' : QSt}
theorem w_take (hG : gl N m c F D) (w : wW n m c u F D bk flag s t) (hfl : flag < 65536) {tt a i : Nat} (hV : s_sub n u tt a) (hi : i < m) (hN : 70000 < N) :
    ∃ r s' t', xSetter_take_65 N (nI i) (nI tt) (nI a) s = some (r, s') ∧ xGlyphPositionsModel_take N (nI tt) (nI flag) (nI a) (nI i) t = some (r, t') ∧ wS n m c u F D bk flag s t s' t' ∧ tk i m r := by
  unfold xSetter_take_65 xGlyphPositionsModel_take
  rcases hV with ⟨rfl, hV⟩ | ⟨rfl, hV⟩ | ⟨rfl, hV⟩ | ⟨htt, hV⟩
  · rw [if_pos (show nI 1 = 1 from rfl), if_pos (show nI 1 = 1 from rfl)]
    obtain ⟨r, s', t', e1, e2, e3, e4⟩ := w_single hG w hV hi hN
    rw [e1, e2, q_bm_s]
    exact ⟨r, s', t', rfl, rfl, e3, e4⟩
  · rw [if_neg (show ¬ nI 2 = 1 by decide), if_neg (show ¬ nI 2 = 1 by decide), if_pos (show nI 2 = 2 from rfl), if_pos (show nI 2 = 2 from rfl)]
    obtain ⟨r, s', t', e1, e2, e3, e4⟩ := w_pair hG w hfl hV hi hN
    rw [e1, e2, q_bm_s, q_bm_s]
    exact ⟨r, s', t', rfl, rfl, e3, e4⟩
  · rw [if_neg (show ¬ nI 3 = 1 by decide), if_neg (show ¬ nI 3 = 1 by decide), if_neg (show ¬ nI 3 = 2 by decide), if_neg (show ¬ nI 3 = 2 by decide), if_pos (show nI 3 = 3 from rfl), if_pos (show nI 3 = 3 from rfl)]
    obtain ⟨r, s', t', e1, e2, e3, e4⟩ := w_cur hG w hfl hV hi hN
    rw [e1, e2, q_bm_s]
    exact ⟨r, s', t', rfl, rfl, e3, e4⟩
  · have n1 : ¬ nI tt = 1 := by rw [m_eq1 (by omega)]; omega
    have n2 : ¬ nI tt = 2 := by rw [m_eq2 (by omega)]; omega
    have n3 : ¬ nI tt = 3 := by rw [il3, nI_eq (by omega) (by omega)]; omega
    rw [if_neg n1, if_neg n1, if_neg n2, if_neg n2, if_neg n3, if_neg n3]
    obtain ⟨r, s', t', e1, e2, e3, e4⟩ := w_mark hG w hfl hV htt hi hN
    rw [e1, e2, q_bm_s]
    exact ⟨r, s', t', rfl, rfl, e3, e4⟩
def s_ty (u : Nat → Fin 65536) (l : Nat) : Nat := if (u l).val = 9 then (u (l + (u (l + 6)).val + 2)).val else (u l).val
theorem w_sub (hG : gl N m c F D) (w : wW n m c u F D bk flag s t) (hfl : flag < 65536) {l k i : Nat} (hV : s_lk n u l) (hk : k < (u (l + 4)).val) (hi : i < m) (hN : 70000 < N) :
    ∃ r s' t', xSetter_take N (nI l) (nI k) (nI i) s = some (r, s') ∧ q_bn (xGlyphPositionsModel_subtableAt (nI l) (nI k) t) (fun r6 => xGlyphPositionsModel_take N (nI (s_ty u l)) (nI flag) r6 (nI i) t) = some (r, t') ∧ wS n m c u F D bk flag s t s' t' ∧ tk i m r := by
  have hn := w.1.1.1
  have hf := w.1.1
  have hg := w.2.2.1.1
  obtain ⟨⟨h1, h2, h3, ⟨h4, h5, h6⟩⟩, h7⟩ := hV
  have hst := h7 k hk
  unfold xSetter_take xGlyphPositionsModel_subtableAt s_ty
  rw [f_u16 hf (by omega), q_bn_s, il6, nI_add, il2, pk_mul, nI_add, f_u16 hf (by omega), q_bn_s, q_lt, nI_add, g_f16 hg (by omega), q_bn_s, q_lt, g_f16 hg (by omega), q_bn_s, nI_add, il9]
  simp (disch := omega) only [nI_eq]
  rcases hst with ⟨h9, hs⟩ | ⟨h9, hs⟩
  · rw [if_neg h9, if_neg h9, if_neg h9, q_bn_s, nI_add]
    exact w_take hG w hfl hs hi hN
  · rw [if_pos h9, if_pos h9, if_pos h9]
    obtain ⟨g1, g2, g3, g4, g5⟩ := hs
    rw [nI_add, f_u16 hf (by omega), q_bn_s, il4, nI_add, f_u32 hf (by omega), q_bn_s, q_lt, nI_add, g_f32 hg (by omega), q_bn_s, q_bn_s, nI_add, g3]
    exact w_take hG w hfl g5 hi hN
theorem w_subs (hG : gl N m c F D) (hfl : flag < 65536) {l i : Nat} (hV : s_lk n u l) (hi : i < m) (rec : Int32 → Int32 → QSt → Option QSt) (hN : 70000 < N) :
    ∀ (d k f f' : Nat) (s t : QSt), k + d = (u (l + 4)).val → d < f → d < f' → wW n m c u F D bk flag s t → ∃ r s' t', xSetter_carryOut_97 N rec (nI l) (nI (u (l + 4)).val) (nI i) f (-1) (nI k) s = xSetter_carryOut_127 N rec (nI l) (nI (u (l + 4)).val) (nI i) r s' ∧ xGlyphPositionsModel_doAt_37 N (nI l) (nI i) (nI (s_ty u l)) (nI flag) f' (nI k) t = some (if r = -1 then nI (i + 1) else r, t') ∧ wS n m c u F D bk flag s t s' t' ∧ tk i m r := by
  have hm := hG.1
  intro d
  induction d with
  | zero =>
    intro k f f' s t hk hf hf' w
    have hn := w.1.1.1
    have hg := w.2.2.1.1
    have h4 := hV.1.2.2.2.1
    obtain ⟨f, rfl⟩ : ∃ g, f = g + 1 := ⟨f - 1, by omega⟩
    obtain ⟨f', rfl⟩ : ∃ g, f' = g + 1 := ⟨f' - 1, by omega⟩
    refine ⟨-1, s, t, ?_, ?_, wS.rfl' w, Or.inl rfl⟩
    · rw [xSetter_carryOut_97, if_pos (nI_le (by omega) (by omega))]
    · rw [xGlyphPositionsModel_doAt_37, il4, nI_add, g_f16 hg (by omega), q_bn_s, if_pos (nI_le (by omega) (by omega)), nI_1, if_pos rfl]
  | succ d ih =>
    intro k f f' s t hk hf hf' w
    have hn := w.1.1.1
    have hg := w.2.2.1.1
    have h4 := hV.1.2.2.2.1
    have h16 := hV.1.2.2.2.2.1
    obtain ⟨f, rfl⟩ : ∃ g, f = g + 1 := ⟨f - 1, by omega⟩
    obtain ⟨f', rfl⟩ : ∃ g, f' = g + 1 := ⟨f' - 1, by omega⟩
    obtain ⟨r, s1, t1, e1, e2, e3, e4⟩ := w_sub hG w hfl hV (k := k) (by omega) hi hN
    obtain ⟨r6, e5⟩ : ∃ r6, xGlyphPositionsModel_subtableAt (nI l) (nI k) t = some r6 := by
      cases h : xGlyphPositionsModel_subtableAt (nI l) (nI k) t with
      | none => rw [h] at e2; exact absurd e2 (by simp [q_bn])
      | some r6 => exact ⟨r6, rfl⟩
    rw [e5, q_bn_s] at e2
    have hC : xSetter_carryOut_97 N rec (nI l) (nI (u (l + 4)).val) (nI i) (f + 1) (-1) (nI k) s = xSetter_carryOut_97 N rec (nI l) (nI (u (l + 4)).val) (nI i) f r (nI (k + 1)) s1 := by
      rw [xSetter_carryOut_97, if_neg (nI_ge (by omega) (by omega)), if_pos rfl, e1, q_bm_s, nI_1]
    have hM : xGlyphPositionsModel_doAt_37 N (nI l) (nI i) (nI (s_ty u l)) (nI flag) (f' + 1) (nI k) t = if r < 0 then xGlyphPositionsModel_doAt_37 N (nI l) (nI i) (nI (s_ty u l)) (nI flag) f' (nI (k + 1)) t1 else some (r, t1) := by
      rw [xGlyphPositionsModel_doAt_37, il4, nI_add, g_f16 hg (by omega), q_bn_s, if_neg (nI_ge (by omega) (by omega)), e5, q_bn_s, e2, q_bm_s, nI_1]
    rw [hC, hM]
    rcases e4 with rfl | ⟨q, hq1, hq2, rfl⟩
    · rw [if_pos (by decide)]
      obtain ⟨r', s', t', g1, g2, g3, g4⟩ := ih (k + 1) f f' s1 t1 (by omega) (by omega) (by omega) e3.1
      exact ⟨r', s', t', g1, g2, e3.tr g3, g4⟩
    · rw [if_neg (nI_pos (by omega))]
      refine ⟨nI q, s1, t1, ?_, by rw [if_neg (c_m1e (by omega))], e3, Or.inr ⟨q, hq1, hq2, rfl⟩⟩
      obtain ⟨f, rfl⟩ : ∃ g, f = g + 1 := ⟨f - 1, by omega⟩
      rw [xSetter_carryOut_97]
      by_cases d2 : nI (u (l + 4)).val ≤ nI (k + 1)
      · rw [if_pos d2]
      · rw [if_neg d2, if_neg (c_m1e (by omega))]
theorem m_type (hg : gH n u t) {l : Nat} (hV : s_lk n u l) (h0 : (u (l + 4)).val ≠ 0) : xGlyphPositionsModel_typeOf (nI l) t = some (nI (s_ty u l)) := by
  have hn := hg.1
  obtain ⟨⟨h1, h2, h3, ⟨h4, h5, h6⟩⟩, h7⟩ := hV
  unfold xGlyphPositionsModel_typeOf s_ty
  rw [g_f16 hg (by omega), q_bn_s, il9]
  simp (disch := omega) only [nI_eq]
  by_cases d : (u l).val = 9
  · rw [if_pos d, if_pos d, il4, nI_add, g_f16 hg (by omega), q_bn_s, if_neg (nI_nle (by omega) (by omega)), il6, nI_add, g_f16 hg (by omega), q_bn_s, nI_add, il2, nI_add]
    have hst := (h7 0 (by omega)).resolve_left (fun h => h.1 d)
    rw [Nat.mul_zero, Nat.add_zero] at hst
    have := hst.2.1
    rw [g_f16 hg (by omega), q_bn_s]
  · rw [if_neg d, if_neg d]
theorem m_doAt (hG : gl N m c F D) (w : wW n m c u F D bk flag s t) (hfl : flag < 65536) {l i : Nat} (hV : s_lk n u l) (hflag : (u (l + 2)).val = flag) (hi : i < m) :
    ∃ ty, xGlyphPositionsModel_doAt N (nI l) (nI i) t = (@ite _ (k_ps flag (D 2 i) (D 3 i)) (Classical.propDecidable _) (some (nI (i + 1), t)) (xGlyphPositionsModel_doAt_37 N (nI l) (nI i) ty (nI flag) N 0 t)) ∧ ((u (l + 4)).val ≠ 0 → ty = nI (s_ty u l)) := by
  have hm := hG.1
  have hn := w.1.1.1
  have hg := w.2.2.1.1
  have h1 := hV.1.1
  have h4 := hV.1.2.2.2.1
  have hty : ∃ ty, xGlyphPositionsModel_typeOf (nI l) t = some ty ∧ ((u (l + 4)).val ≠ 0 → ty = nI (s_ty u l)) := by
    by_cases h0 : (u (l + 4)).val = 0
    · unfold xGlyphPositionsModel_typeOf
      rw [g_f16 hg (by omega), q_bn_s, il9, il4, nI_add, g_f16 hg (by omega), q_bn_s]
      by_cases d : nI (u l).val = nI 9
      · rw [if_pos d, if_pos (by rw [h0]; decide)]
        exact ⟨_, rfl, fun h => absurd h0 h⟩
      · rw [if_neg d]
        exact ⟨_, rfl, fun h => absurd h0 h⟩
    · exact ⟨_, m_type hg hV h0, fun _ => rfl⟩
  obtain ⟨ty, e1, e2⟩ := hty
  refine ⟨ty, ?_, e2⟩
  unfold xGlyphPositionsModel_doAt
  rw [e1, q_bn_s, il2, nI_add, g_f16 hg (by omega), q_bn_s, hflag, show q_vpb (nI i) 800 = true from decide_eq_true (nI_in (by omega) (by omega)), q_grd_tt, q_lt, nI_clamp (by omega), (w.2.2.1.2.2.2.2 i hi).1, ((hG.2 i hi).2.2.2.2 t w.2.2.1.2.1).2 flag hfl, q_bn_s, nI_1]
  by_cases d : k_ps flag (D 2 i) (D 3 i)
  · rw [if_pos d, if_neg (by rw [bI0]; exact fun h => h d)]
  · rw [if_neg d, if_pos (by rw [bI0]; exact d)]
/-- a lookup, glyph by glyph -/
theorem w_run (hG : gl N m c F D) (hfl : flag < 65536) {l num : Nat} (hV : s_lk n u l) (hflag : (u (l + 2)).val = flag) (hnum : num < 64) (x2 : Int32) (rec : Int32 → QSt → Option (Int32 × QSt)) (hN : 70000 < N) :
    ∀ (d i g f f' : Nat) (s t : QSt), i + d = m → g ≤ m → d < f → m - max i g < f' → wW n m c u F D bk flag s t → t.2 37 num ≠ 0 → (∀ z : QSt, sM t z → xGlyphPositionsModel_lookupAt (nI num) z = some (nI l)) → ∃ s' t', xSetter_carryOut_59 N (nI l) (nI (u (l + 4)).val) f (nI g) (nI i) s = some s' ∧ xGlyphPositionsModel_set_139 N rec x2 (nI num) f' (nI (max i g)) t = rec (nI (num + 1)) t' ∧ wS n m c u F D bk flag s t s' t' := by
  have hm := hG.1
  have hv64 : q_vpb (nI num) 64 = true := decide_eq_true (nI_in (by omega) (by omega))
  intro d
  induction d with
  | zero =>
    intro i g f f' s t hi hg hf hf' w h37 hla
    obtain ⟨f, rfl⟩ : ∃ g, f = g + 1 := ⟨f - 1, by omega⟩
    obtain ⟨f', rfl⟩ : ∃ g, f' = g + 1 := ⟨f' - 1, by omega⟩
    refine ⟨s, t, ?_, ?_, wS.rfl' w⟩
    · rw [xSetter_carryOut_59, w.1.2.1, if_pos (nI_le (by omega) (by omega))]
    · rw [xGlyphPositionsModel_set_139, hv64, q_grd_tt, q_lt, nI_clamp (by omega), if_neg h37, w.2.2.1.2.2.1, if_pos (nI_le (by omega) (by omega)), nI_1]
  | succ d ih =>
    intro i g f f' s t hi hg hf hf' w h37 hla
    obtain ⟨f, rfl⟩ : ∃ g, f = g + 1 := ⟨f - 1, by omega⟩
    have hvi : q_vpb (nI i) 800 = true := decide_eq_true (nI_in (by omega) (by omega))
    by_cases hig : i < g
    · obtain ⟨s', t', e1, e2, e3⟩ := ih (i + 1) g f f' s t (by omega) hg (by omega) (by omega) w h37 hla
      rw [show max (i + 1) g = max i g by omega] at e2
      refine ⟨s', t', ?_, e2, e3⟩
      rw [xSetter_carryOut_59, w.1.2.1, if_neg (nI_ge (by omega) (by omega)), if_pos (nI_lt hig (by omega)), nI_1]
      exact e1
    · rw [show max i g = i by omega] at hf' ⊢
      obtain ⟨f', rfl⟩ : ∃ g, f' = g + 1 := ⟨f' - 1, by omega⟩
      obtain ⟨ty, hdo, hty⟩ := m_doAt (N := N) hG w hfl hV hflag (i := i) (by omega)
      have hM : ∀ (g' : Nat) (t1 : QSt), xGlyphPositionsModel_doAt N (nI l) (nI i) t = some (nI g', t1) → xGlyphPositionsModel_set_139 N rec x2 (nI num) (f' + 1) (nI i) t = xGlyphPositionsModel_set_139 N rec x2 (nI num) f' (nI g') t1 := by
        intro g' t1 hd
        rw [xGlyphPositionsModel_set_139, hv64, q_grd_tt, q_lt, nI_clamp (by omega), if_neg h37, w.2.2.1.2.2.1, if_neg (nI_ge (by omega) (by omega)), hla t (sM.rfl' t), q_bn_s, hd, q_bm_s]
      have hC : xSetter_carryOut_59 N (nI l) (nI (u (l + 4)).val) (f + 1) (nI g) (nI i) s = @ite _ (k_ps flag (D 2 i) (D 3 i)) (Classical.propDecidable _) (xSetter_carryOut_59 N (nI l) (nI (u (l + 4)).val) f (nI g) (nI (i + 1)) s) (xSetter_carryOut_97 N (xSetter_carryOut_59 N (nI l) (nI (u (l + 4)).val) f) (nI l) (nI (u (l + 4)).val) (nI i) N (-1) 0 s) := by
        rw [xSetter_carryOut_59, w.1.2.1, if_neg (nI_ge (by omega) (by omega)), if_neg (nI_nlt (by omega) (by omega)), hvi, q_grd_tt, q_lt, nI_clamp (by omega), (w.2.1 i (by omega)).1, nI_1]
        by_cases d : k_ps flag (D 2 i) (D 3 i)
        · rw [if_pos d, if_neg (by rw [bI0]; exact fun h => h d)]
        · rw [if_neg d, if_pos (by rw [bI0]; exact d)]
      rw [hC]
      by_cases hp : k_ps flag (D 2 i) (D 3 i)
      · rw [if_pos hp] at hdo ⊢
        rw [hM (i + 1) t hdo]
        obtain ⟨s', t', e1, e2, e3⟩ := ih (i + 1) g f f' s t (by omega) hg (by omega) (by omega) w h37 hla
        rw [show max (i + 1) g = i + 1 by omega] at e2
        exact ⟨s', t', e1, e2, e3⟩
      · rw [if_neg hp] at hdo ⊢
        have h16 := hV.1.2.2.2.2.1
        have hgo : ∀ (r : Int32) (s1 t1 : QSt), xSetter_carryOut_97 N (xSetter_carryOut_59 N (nI l) (nI (u (l + 4)).val) f) (nI l) (nI (u (l + 4)).val) (nI i) N (-1) 0 s = xSetter_carryOut_127 N (xSetter_carryOut_59 N (nI l) (nI (u (l + 4)).val) f) (nI l) (nI (u (l + 4)).val) (nI i) r s1 → xGlyphPositionsModel_doAt_37 N (nI l) (nI i) ty (nI flag) N 0 t = some (if r = -1 then nI (i + 1) else r, t1) → wS n m c u F D bk flag s t s1 t1 → tk i m r → ∃ s' t', xSetter_carryOut_97 N (xSetter_carryOut_59 N (nI l) (nI (u (l + 4)).val) f) (nI l) (nI (u (l + 4)).val) (nI i) N (-1) 0 s = some s' ∧ xGlyphPositionsModel_set_139 N rec x2 (nI num) (f' + 1) (nI i) t = rec (nI (num + 1)) t' ∧ wS n m c u F D bk flag s t s' t' := by
          intro r s1 t1 e1 e2 e3 e4
          rw [e1]
          unfold xSetter_carryOut_127
          have h37' : t1.2 37 num ≠ 0 := by rw [e3.2.2.2 37 (by omega)]; exact h37
          have hla' : ∀ z : QSt, sM t1 z → xGlyphPositionsModel_lookupAt (nI num) z = some (nI l) := fun z hz => hla z (e3.2.2.tr hz)
          rcases e4 with rfl | ⟨q, hq1, hq2, rfl⟩
          · rw [if_pos rfl, q_lt, nI_1]
            rw [if_pos rfl] at e2
            rw [e2] at hdo
            rw [hM (i + 1) t1 hdo]
            obtain ⟨s', t', g1, g2, g3⟩ := ih (i + 1) (i + 1) f f' s1 t1 (by omega) (by omega) (by omega) (by omega) e3.1 h37' hla'
            rw [show max (i + 1) (i + 1) = i + 1 by omega] at g2
            exact ⟨s', t', g1, g2, e3.tr g3⟩
          · rw [if_neg (c_m1e (by omega)), nI_1]
            rw [if_neg (c_m1e (by omega))] at e2
            rw [e2] at hdo
            rw [hM q t1 hdo]
            obtain ⟨s', t', g1, g2, g3⟩ := ih (i + 1) q f f' s1 t1 (by omega) hq2 (by omega) (by omega) e3.1 h37' hla'
            rw [show max (i + 1) q = q by omega] at g2
            exact ⟨s', t', g1, g2, e3.tr g3⟩
        by_cases h0 : (u (l + 4)).val = 0
        · have hg := w.2.2.1.1
          have hn := hg.1
          have h4 := hV.1.2.2.2.1
          obtain ⟨M, hM1⟩ : ∃ M, N = M + 1 := ⟨N - 1, by omega⟩
          refine hgo (-1) s t ?_ ?_ (wS.rfl' w) (Or.inl rfl)
          · have : ∀ (M' : Nat), xSetter_carryOut_97 N (xSetter_carryOut_59 N (nI l) (nI (u (l + 4)).val) f) (nI l) (nI (u (l + 4)).val) (nI i) (M' + 1) (-1) 0 s = xSetter_carryOut_127 N (xSetter_carryOut_59 N (nI l) (nI (u (l + 4)).val) f) (nI l) (nI (u (l + 4)).val) (nI i) (-1) s := by
              intro M'
              rw [xSetter_carryOut_97, h0, if_pos (by decide)]
            have h2 := this M
            rw [← hM1] at h2
            exact h2
          · have : ∀ (M' : Nat), xGlyphPositionsModel_doAt_37 N (nI l) (nI i) ty (nI flag) (M' + 1) 0 t = some (if (-1 : Int32) = -1 then nI (i + 1) else -1, t) := by
              intro M'
              rw [xGlyphPositionsModel_doAt_37, il4, nI_add, g_f16 hg (by omega), q_bn_s, h0, if_pos (by decide), nI_1, if_pos rfl]
            have h2 := this M
            rw [← hM1] at h2
            exact h2
        · rw [hty h0] at hdo hgo
          obtain ⟨r, s1, t1, e1, e2, e3, e4⟩ := w_subs (N := N) hG hfl hV (i := i) (by omega) (xSetter_carryOut_59 N (nI l) (nI (u (l + 4)).val) f) hN (u (l + 4)).val 0 N N s t (by omega) (by omega) (by omega) w
          exact hgo r s1 t1 e1 e2 e3 e4
end PS8
