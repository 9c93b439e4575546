section PSB
variable {n N : Nat} {u : Nat → Fin 65536} {s s' t t' : QSt}
def cR (cnt : Nat) (s t : QSt) : Prop := (∀ l, l < 64 → (s.2 11 l = 0 ∨ s.2 11 l = 1) ∧ t.2 37 l = s.2 11 l) ∧ ∀ l, cnt ≤ l → l < 64 → s.2 11 l = 0
def s1C (s s' : QSt) : Prop := s'.1 = s.1 ∧ ∀ j, j ≠ 11 → s'.2 j = s.2 j
def s1M (t t' : QSt) : Prop := t'.1 = t.1 ∧ ∀ j, j ≠ 37 → t'.2 j = t.2 j
theorem s1C.rfl' (s : QSt) : s1C s s := ⟨rfl, fun _ _ => rfl⟩
theorem s1M.rfl' (s : QSt) : s1M s s := ⟨rfl, fun _ _ => rfl⟩
theorem s1C.tr {a b c : QSt} (h : s1C a b) (g : s1C b c) : s1C a c := ⟨g.1.trans h.1, fun j hj => (g.2 j hj).trans (h.2 j hj)⟩
theorem s1M.tr {a b c : QSt} (h : s1M a b) (g : s1M b c) : s1M a c := ⟨g.1.trans h.1, fun j hj => (g.2 j hj).trans (h.2 j hj)⟩
theorem s1C.pa {i : Nat} {v : Int32} : s1C s (q_pa s 11 i v) := ⟨rfl, fun j hj => by rw [p_a2, if_neg hj]⟩
theorem s1M.pa {i : Nat} {v : Int32} : s1M t (q_pa t 37 i v) := ⟨rfl, fun j hj => by rw [p_a2, if_neg hj]⟩
theorem fH.to1 (h : fH n u s) (g : s1C s s') : fH n u s' := ⟨h.1, by rw [g.1]; exact h.2.1, fun a ha => by rw [g.2 1 (by decide)]; exact h.2.2.1 a ha, h.2.2.2⟩
theorem gH.to1 (h : gH n u t) (g : s1M t t') : gH n u t' := ⟨h.1, fun a ha => by rw [g.2 27 (by decide)]; exact h.2 a ha⟩
theorem cR.w {cnt l : Nat} (h : cR cnt s t) (hl : l < cnt) : cR cnt (q_pa s 11 l 1) (q_pa t 37 l 1) := by
  refine ⟨fun j hj => ?_, fun j h1 h2 => ?_⟩
  · rw [p_a2, if_pos rfl, p_a2, if_pos rfl, p_upd, p_upd]
    by_cases e : j = l
    · rw [if_pos e, if_pos e]; exact ⟨Or.inr rfl, rfl⟩
    · rw [if_neg e, if_neg e]; exact h.1 j hj
  · rw [p_a2, if_pos rfl, p_upd, if_neg (by omega)]
    exact h.2 j h1 h2
theorem cR.m {cnt l : Nat} (h : cR cnt s t) : cR cnt s (q_pa t 37 l (t.2 37 l)) := by
  refine ⟨fun j hj => ?_, h.2⟩
  rw [p_a2, if_pos rfl, p_upd]
  by_cases e : j = l
  · rw [if_pos e, e]; rw [e] at hj; exact h.1 l hj
  · rw [if_neg e]; exact h.1 j hj
theorem m_chl {a k f cnt : Nat} {x4 : Int32} (hg : gH n u t) (hcnt : cnt ≤ 64) (hN : s_nums n u (a + 2) cnt) (hk : k < (u (a + 2)).val) (hc : cR cnt s t) (hx : x4 = 0 ∨ x4 = 1) : xGlyphPositionsModel_choosing_57 N x4 (nI a) (f + 1) (nI k) t = xGlyphPositionsModel_choosing_57 N x4 (nI a) f (nI (k + 1)) (q_pa t 37 (u (a + 4 + 2 * k)).val (if x4 = 0 then t.2 37 (u (a + 4 + 2 * k)).val else 1)) := by
  have hn := hg.1
  obtain ⟨⟨h1, h2, h3⟩, h4⟩ := hN
  have hl := h4 k hk
  rw [show a + 2 + 2 + 2 * k = a + 4 + 2 * k by omega] at hl
  generalize hL : (u (a + 4 + 2 * k)).val = l at *
  have hv : q_vpb (nI l) 64 = true := decide_eq_true (nI_in (by omega) (by omega))
  rw [xGlyphPositionsModel_choosing_57, il2, nI_add a 2, g_f16 hg (by omega), q_bn_s, if_neg (nI_ge (by omega) (by omega)), il4, nI_add a 4, pk_mul, nI_add, g_f16 hg (by omega), q_bn_s, hL, hv, q_grd_tt, q_lt, nI_clamp (by omega)]
  unfold xGlyphPositionsModel_choosing_106 xGlyphPositionsModel_choosing_111
  rw [hv, q_grd_tt, q_lt, q_grd_tt, q_lt, nI_clamp (by omega), nI_1, p_nb (b := 1) (Or.inr rfl), p_nb (b := 0) (Or.inl rfl)]
  have hb := hc.1 l (by omega)
  rcases hx with rfl | rfl
  · rw [if_pos rfl, if_pos rfl]
    by_cases d : t.2 37 l = 0
    · rw [if_pos d, d]
    · rw [if_neg d]
      have : t.2 37 l = 1 := by
        rw [hb.2] at d ⊢
        exact hb.1.resolve_left d
      rw [this]
  · rw [if_neg m_1ne, if_neg m_1ne]
    by_cases d : t.2 37 l = 0
    · rw [if_pos d]
    · rw [if_neg d]
theorem m_che {a k f : Nat} {x4 : Int32} (hg : gH n u t) (ha : a + 4 ≤ n) (hk : (u (a + 2)).val ≤ k) (hk2 : k < 2 ^ 31) : xGlyphPositionsModel_choosing_57 N x4 (nI a) (f + 1) (nI k) t = some t := by
  rw [xGlyphPositionsModel_choosing_57, il2, nI_add, g_f16 hg (by omega), q_bn_s, if_pos (nI_le (by omega) (by omega))]
theorem w_want57 {a cnt : Nat} (hcnt : cnt ≤ 64) (hNu : s_nums n u (a + 2) cnt) : ∀ (d k f f' : Nat) (s t : QSt), k + d = (u (a + 2)).val → d < f → d < f' → fH n u s → gH n u t → cR cnt s t → ∃ s' t', xChoice_wantLookupsOf_44 N (nI a) (nI (u (a + 2)).val) f (nI k) s = some s' ∧ xGlyphPositionsModel_choosing_57 N 1 (nI a) f' (nI k) t = some t' ∧ cR cnt s' t' ∧ s1C s s' ∧ s1M t t' := by
  intro d
  induction d with
  | zero =>
    intro k f f' s t hk hf hf' h1 h2 hc
    have hn := h1.1
    obtain ⟨f, rfl⟩ : ∃ g, f = g + 1 := ⟨f - 1, by omega⟩
    obtain ⟨f', rfl⟩ : ∃ g, f' = g + 1 := ⟨f' - 1, by omega⟩
    refine ⟨s, t, ?_, m_che h2 (by have := hNu.1.1; omega) (by omega) (by omega), hc, s1C.rfl' s, s1M.rfl' t⟩
    rw [xChoice_wantLookupsOf_44, if_pos (nI_le (by omega) (by omega))]
  | succ d ih =>
    intro k f f' s t hk hf hf' h1 h2 hc
    have hn := h1.1
    obtain ⟨f, rfl⟩ : ∃ g, f = g + 1 := ⟨f - 1, by omega⟩
    obtain ⟨f', rfl⟩ : ∃ g, f' = g + 1 := ⟨f' - 1, by omega⟩
    have hl := hNu.2 k (by omega)
    have h64 := hNu.1.2.1
    have h3 := hNu.1.1
    rw [show a + 2 + 2 + 2 * k = a + 4 + 2 * k by omega] at hl
    obtain ⟨s', t', e1, e2, e3, e4, e5⟩ := ih (k + 1) f f' (q_pa s 11 (u (a + 4 + 2 * k)).val 1) (q_pa t 37 (u (a + 4 + 2 * k)).val 1) (by omega) (by omega) (by omega) (h1.to1 s1C.pa) (h2.to1 s1M.pa) (hc.w hl)
    refine ⟨s', t', ?_, ?_, e3, s1C.pa.tr e4, s1M.pa.tr e5⟩
    · rw [xChoice_wantLookupsOf_44, if_neg (nI_ge (by omega) (by omega)), il4, nI_add a 4, il2, pk_mul, nI_add, f_u16 h1 (by omega), q_bn_s, il64, if_neg (nI_ge (by omega) (by omega)), show q_vpb (nI (u (a + 4 + 2 * k)).val) 64 = true from decide_eq_true (nI_in (by omega) (by omega)), q_grd_tt, q_lt, nI_clamp (by omega), p_nb (b := 1) (Or.inr rfl), nI_1]
      exact e1
    · rw [m_chl h2 hcnt hNu (by omega) hc (Or.inr rfl), if_neg m_1ne]
      exact e2
theorem w_nowant57 {a cnt : Nat} (hcnt : cnt ≤ 64) (hNu : s_nums n u (a + 2) cnt) : ∀ (d k f' : Nat) (t : QSt), k + d = (u (a + 2)).val → d < f' → gH n u t → cR cnt s t → ∃ t', xGlyphPositionsModel_choosing_57 N 0 (nI a) f' (nI k) t = some t' ∧ cR cnt s t' ∧ s1M t t' := by
  intro d
  induction d with
  | zero =>
    intro k f' t hk hf' h2 hc
    obtain ⟨f', rfl⟩ : ∃ g, f' = g + 1 := ⟨f' - 1, by omega⟩
    exact ⟨t, m_che h2 (by have := hNu.1.1; omega) (by omega) (by omega), hc, s1M.rfl' t⟩
  | succ d ih =>
    intro k f' t hk hf' h2 hc
    obtain ⟨f', rfl⟩ : ∃ g, f' = g + 1 := ⟨f' - 1, by omega⟩
    obtain ⟨t', e2, e3, e5⟩ := ih (k + 1) f' (q_pa t 37 (u (a + 4 + 2 * k)).val (t.2 37 (u (a + 4 + 2 * k)).val)) (by omega) (by omega) (h2.to1 s1M.pa) hc.m
    refine ⟨t', ?_, e3, s1M.pa.tr e5⟩
    rw [m_chl h2 hcnt hNu (by omega) hc (Or.inl rfl), if_pos rfl]
    exact e2
theorem w_want (hh : 10 ≤ n) (hF : s_features n u) (hcnt : (u (u 8).val).val ≤ 64) (h1 : fH n u s) (h2 : gH n u t) (hc : cR (u (u 8).val).val s t) {k : Nat} (hk : k < (u (u 6).val).val) (hN : 70000 < N) :
    (∃ s' t', xChoice_wantLookupsOf N (nI k) s = some s' ∧ xGlyphPositionsModel_choosing_35 N (nI k) (nI (u 6).val) 1 t = some t' ∧ cR (u (u 8).val).val s' t' ∧ s1C s s' ∧ s1M t t') ∧ ∃ t', xGlyphPositionsModel_choosing_35 N (nI k) (nI (u 6).val) 0 t = some t' ∧ cR (u (u 8).val).val s t' ∧ s1M t t' := by
  have hn := h1.1
  obtain ⟨⟨⟨f1, f2, f3⟩, -⟩, f4⟩ := hF
  have hNu := f4 k hk
  have h3 := hNu.1.1
  have h64 := hNu.1.2.1
  have eM : ∀ x4 : Int32, xGlyphPositionsModel_choosing_35 N (nI k) (nI (u 6).val) x4 t = xGlyphPositionsModel_choosing_57 N x4 (nI ((u 6).val + (u ((u 6).val + 6 + 6 * k)).val)) N (nI 0) t := by
    intro x4
    unfold xGlyphPositionsModel_choosing_35
    rw [il6, nI_add, pk_mul, nI_add, g_f16 h2 (by omega), q_bn_s, q_lt, nI_add]
    rfl
  constructor
  · obtain ⟨s', t', e1, e2, e3⟩ := w_want57 (N := N) hcnt hNu _ 0 N N s t (Nat.zero_add _) (by omega) (by omega) h1 h2 hc
    refine ⟨s', t', ?_, by rw [eM]; exact e2, e3⟩
    unfold xChoice_wantLookupsOf
    rw [il6, f_u16 h1 (by omega), q_bn_s, nI_add, pk_mul, nI_add, f_u16 h1 (by omega), q_bn_s, q_lt, nI_add, il2, nI_add, f_u16 h1 (by omega), q_bn_s]
    exact e1
  · obtain ⟨t', e2, e3⟩ := w_nowant57 (N := N) hcnt hNu _ 0 N t (Nat.zero_add _) (by omega) h2 hc
    exact ⟨t', by rw [eM]; exact e2, e3⟩
theorem is_on (hT : p_tag (s.1 7) (t.1 19) (s.2 6) (s.2 7) (t.2 32) (t.2 33)) (tag : Int32) (hN : 70000 < N) : ∃ b : Int32, xTags_isOn N tag s = some b ∧ xGlyphPositionsModel_isOn N tag t = some b ∧ (b = 0 ∨ b = 1) := by
  obtain ⟨m, g1, g2, g3, g4, g5⟩ := hT
  unfold xTags_isOn xGlyphPositionsModel_isOn
  by_cases hex : ∃ q, q < m ∧ s.2 6 q = tag
  · obtain ⟨q, hq, hqa⟩ := hex
    have uniq : ∀ j, j < m → s.2 6 j = tag → j = q := fun j hj e => g5 j q hj hq (by rw [e, hqa])
    have e1 : xTags_find N tag s = some (nI q) := (t_find (N := N) g1 g2 tag m 0 N (by omega) (by omega)).2 q (by omega) hq hqa (fun j _ h2 e => by have := uniq j (by omega) e; omega)
    have e2 : xGlyphPositionsModel_tagAt N tag t = some (nI q) := (t_at (N := N) g1 (s := t) g3 tag m 0 N (-1) (by omega) (by omega)).2 q (by omega) hq (by rw [(g4 q hq).1, hqa]) (fun j y1 y2 e => by
      rw [(g4 j y2).1] at e
      have := uniq j y2 e
      omega)
    have hv : q_vpb (nI q) 20 = true := decide_eq_true (nI_in (by omega) (by omega))
    rw [e1, q_bn_s, if_neg (c_m1e (by omega)), e2, q_bn_s, if_neg (nI_pos (by omega)), hv, q_grd_tt, q_lt, nI_clamp (by omega), q_grd_tt, q_lt, (g4 q hq).2.1]
    by_cases d : s.2 7 q = 0
    · rw [if_pos d]
      exact ⟨0, rfl, rfl, Or.inl rfl⟩
    · rw [if_neg d]
      exact ⟨1, rfl, rfl, Or.inr rfl⟩
  · have hno : ∀ j, j < m → s.2 6 j ≠ tag := fun j hj e => hex ⟨j, hj, e⟩
    have e1 : xTags_find N tag s = some (-1) := (t_find (N := N) g1 g2 tag m 0 N (by omega) (by omega)).1 (fun j _ h2 => hno j h2)
    have e2 : xGlyphPositionsModel_tagAt N tag t = some (-1) := (t_at (N := N) g1 (s := t) g3 tag m 0 N (-1) (by omega) (by omega)).1 (fun j _ h2 e => by
      rw [(g4 j h2).1] at e
      exact hno j h2 e)
    rw [e1, q_bn_s, if_pos rfl, e2, q_bn_s, if_pos (by decide)]
    exact ⟨0, rfl, rfl, Or.inl rfl⟩
/-- what holds of both while features are chosen -/
def cE (n : Nat) (u : Nat → Fin 65536) (s t : QSt) : Prop := fH n u s ∧ gH n u t ∧ p_tag (s.1 7) (t.1 19) (s.2 6) (s.2 7) (t.2 32) (t.2 33) ∧ cR (u (u 8).val).val s t
theorem cE.to (h : cE n u s t) (g1 : s1C s s') (g2 : s1M t t') (hc : cR (u (u 8).val).val s' t') : cE n u s' t' := by
  refine ⟨h.1.to1 g1, h.2.1.to1 g2, ?_, hc⟩
  rw [g1.1, g2.1, g1.2 6 (by decide), g1.2 7 (by decide), g2.2 32 (by decide), g2.2 33 (by decide)]
  exact h.2.2.1
theorem w_feats (hh : 10 ≤ n) (hF : s_features n u) (hcnt : (u (u 8).val).val ≤ 64) {a : Nat} (hNu : s_nums n u (a + 4) (u (u 6).val).val) (hN : 70000 < N) :
    ∀ (d k f f' : Nat) (s t : QSt), k + d = (u (a + 4)).val → d < f → d < f' → cE n u s t → ∃ s' t', xChoice_find_85 N (nI a) (nI (u 6).val) (nI (u (a + 4)).val) f (nI k) s = some s' ∧ xGlyphPositionsModel_chooseAll_57 N (nI a) f' (nI k) t = some t' ∧ cE n u s' t' ∧ s1C s s' ∧ s1M t t' := by
  have h64 := hNu.1.2.1
  have hn4 := hNu.1.1
  have hn5 := hNu.1.2.2
  intro d
  induction d with
  | zero =>
    intro k f f' s t hk hf hf' hE
    have hn := hE.1.1
    obtain ⟨f, rfl⟩ : ∃ g, f = g + 1 := ⟨f - 1, by omega⟩
    obtain ⟨f', rfl⟩ : ∃ g, f' = g + 1 := ⟨f' - 1, by omega⟩
    refine ⟨s, t, ?_, ?_, hE, s1C.rfl' s, s1M.rfl' t⟩
    · rw [xChoice_find_85, if_pos (nI_le (by omega) (by omega))]
    · rw [xGlyphPositionsModel_chooseAll_57, il4, nI_add, g_f16 hE.2.1 (by omega), q_bn_s, if_pos (nI_le (by omega) (by omega))]
  | succ d ih =>
    intro k f f' s t hk hf hf' hE
    have hn := hE.1.1
    obtain ⟨f, rfl⟩ : ∃ g, f = g + 1 := ⟨f - 1, by omega⟩
    obtain ⟨f', rfl⟩ : ∃ g, f' = g + 1 := ⟨f' - 1, by omega⟩
    have hl := hNu.2 k (by omega)
    rw [show a + 4 + 2 + 2 * k = a + 6 + 2 * k by omega] at hl
    generalize hL : (u (a + 6 + 2 * k)).val = l at *
    have hfe := hF.1.1.2.2
    have hfm := hF.1.1.2.1
    obtain ⟨b, b1, b2, b3⟩ := is_on (N := N) hE.2.2.1 (nI (s_4 u ((u 6).val + 2 + 6 * l))) hN
    have hC : xChoice_find_85 N (nI a) (nI (u 6).val) (nI (u (a + 4)).val) (f + 1) (nI k) s = if b = 0 then xChoice_find_85 N (nI a) (nI (u 6).val) (nI (u (a + 4)).val) f (nI (k + 1)) s else q_bv (xChoice_wantLookupsOf N (nI l) s) (fun sr8 => xChoice_find_85 N (nI a) (nI (u 6).val) (nI (u (a + 4)).val) f (nI (k + 1)) sr8) := by
      rw [xChoice_find_85, if_neg (nI_ge (by omega) (by omega)), il6, nI_add a 6, il2, pk_mul, nI_add, f_u16 hE.1 (by omega), q_bn_s, hL, nI_add _ 2, pk_mul, nI_add, f_u32 hE.1 (by omega), q_bn_s, b1, q_bn_s, nI_1]
    have hM : xGlyphPositionsModel_chooseAll_57 N (nI a) (f' + 1) (nI k) t = q_bv (if b = 0 then xGlyphPositionsModel_choosing_35 N (nI l) (nI (u 6).val) 0 t else xGlyphPositionsModel_choosing_35 N (nI l) (nI (u 6).val) 1 t) (fun sr5 => xGlyphPositionsModel_chooseAll_57 N (nI a) f' (nI (k + 1)) sr5) := by
      rw [xGlyphPositionsModel_chooseAll_57, il4, nI_add a 4, g_f16 hE.2.1 (by omega), q_bn_s, if_neg (nI_ge (by omega) (by omega)), il6, nI_add a 6, il2, pk_mul, nI_add, g_f16 hE.2.1 (by omega), q_bn_s, hL, nI_1]
      unfold xGlyphPositionsModel_choosing xGlyphPositionsModel_choosing_30
      rw [il6, g_f16 hE.2.1 (by omega), q_bn_s, if_pos rfl, il2, nI_add _ 2, pk_mul, nI_add, g_f32 hE.2.1 (by omega), q_bn_s, b2, q_bn_s]
    rw [hC, hM]
    obtain ⟨⟨s1, t1, e1, e2, e3, e4, e5⟩, t2, g1, g2, g3⟩ := w_want (N := N) hh hF hcnt hE.1 hE.2.1 hE.2.2.2 hl hN
    by_cases d0 : b = 0
    · rw [if_pos d0, if_pos d0, g1, q_bv_s]
      obtain ⟨s', t', k1, k2, k3, k4, k5⟩ := ih (k + 1) f f' s t2 (by omega) (by omega) (by omega) (hE.to (s1C.rfl' s) g3 g2)
      exact ⟨s', t', k1, k2, k3, k4, g3.tr k5⟩
    · rw [if_neg d0, if_neg d0, e1, q_bv_s, e2, q_bv_s]
      obtain ⟨s', t', k1, k2, k3, k4, k5⟩ := ih (k + 1) f f' s1 t1 (by omega) (by omega) (by omega) (hE.to e4 e5 e3)
      exact ⟨s', t', k1, k2, k3, e4.tr k4, e5.tr k5⟩
theorem c_init (x1 x2 : Int32) : ∀ (d k f : Nat) (s : QSt), k + d = 64 → d < f → (∀ l, l < k → s.2 11 l = 0) → ∃ s', xChoice_find_2 N x1 x2 f (nI k) s = q_bn (xChoice_languageAt N x1 x2 s') (fun r1 => if r1 = (-1) then (some s') else (q_bn (xTable_u16_3 (r1 + 2) s') (fun r2 => if r2 = 65535 then (xChoice_find_59 N r1 s') else (q_bv (xChoice_wantLookupsOf N r2 s') (fun sr9 => xChoice_find_59 N r1 sr9))))) ∧ s1C s s' ∧ ∀ l, l < 64 → s'.2 11 l = 0 := by
  intro d
  induction d with
  | zero =>
    intro k f s hk hf h
    obtain ⟨f, rfl⟩ : ∃ g, f = g + 1 := ⟨f - 1, by omega⟩
    refine ⟨s, ?_, s1C.rfl' s, fun l hl => h l (by omega)⟩
    rw [xChoice_find_2, il64, if_pos (nI_le (by omega) (by omega))]
  | succ d ih =>
    intro k f s hk hf h
    obtain ⟨f, rfl⟩ : ∃ g, f = g + 1 := ⟨f - 1, by omega⟩
    obtain ⟨s', e1, e2, e3⟩ := ih (k + 1) f (q_pa s 11 k 0) (by omega) (by omega) (fun l hl => by
      rw [p_a2, if_pos rfl, p_upd]
      by_cases e : l = k
      · rw [if_pos e]
      · rw [if_neg e]; exact h l (by omega))
    refine ⟨s', ?_, s1C.pa.tr e2, e3⟩
    rw [xChoice_find_2, il64, if_neg (nI_ge (by omega) (by omega)), show q_vpb (nI k) 64 = true from decide_eq_true (nI_in (by omega) (by omega)), q_grd_tt, q_lt, nI_clamp (by omega), p_nb (b := 0) (Or.inl rfl), nI_1]
    exact e1
theorem m_init : ∀ (d k f : Nat) (t : QSt), k + d = 64 → d < f → (∀ l, l < k → t.2 37 l = 0) → ∃ t', xGlyphPositionsModel_chooseAll_2 N f (nI k) t = q_bn (xGlyphPositionsModel_languageAt N t') (fun r1 => if r1 = 0 then (some t') else (q_bn (xGlyphPositionsModel_f16 (r1 + 2) t') (fun r2 => if r2 = 65535 then (xGlyphPositionsModel_chooseAll_57 N r1 N 0 t') else (q_bn (xGlyphPositionsModel_f16 (r1 + 2) t') (fun r6 => q_bv (xGlyphPositionsModel_choosing N r6 1 t') (fun sr7 => xGlyphPositionsModel_chooseAll_57 N r1 N 0 sr7)))))) ∧ s1M t t' ∧ ∀ l, l < 64 → t'.2 37 l = 0 := by
  intro d
  induction d with
  | zero =>
    intro k f s hk hf h
    obtain ⟨f, rfl⟩ : ∃ g, f = g + 1 := ⟨f - 1, by omega⟩
    refine ⟨s, ?_, s1M.rfl' s, fun l hl => h l (by omega)⟩
    rw [xGlyphPositionsModel_chooseAll_2, il64, if_pos (nI_le (by omega) (by omega))]
  | succ d ih =>
    intro k f s hk hf h
    obtain ⟨f, rfl⟩ : ∃ g, f = g + 1 := ⟨f - 1, by omega⟩
    obtain ⟨s', e1, e2, e3⟩ := ih (k + 1) f (q_pa s 37 k 0) (by omega) (by omega) (fun l hl => by
      rw [p_a2, if_pos rfl, p_upd]
      by_cases e : l = k
      · rw [if_pos e]
      · rw [if_neg e]; exact h l (by omega))
    refine ⟨s', ?_, s1M.pa.tr e2, e3⟩
    rw [xGlyphPositionsModel_chooseAll_2, il64, if_neg (nI_ge (by omega) (by omega)), show q_vpb (nI k) 64 = true from decide_eq_true (nI_in (by omega) (by omega)), q_grd_tt, q_lt, nI_clamp (by omega), p_nb (b := 0) (Or.inl rfl), nI_1]
    exact e1
theorem w_choose (hH : s_head n u) (hS : s_scripts n u) (hF : s_features n u) (hcnt : (u (u 8).val).val ≤ 64) (hf : fH n u s) (hg : gH n u t) (hT : p_tag (s.1 7) (t.1 19) (s.2 6) (s.2 7) (t.2 32) (t.2 33)) {x1 x2 : Int32} (h17 : t.1 17 = x1) (h18 : t.1 18 = x2) (hN : 70000 < N) :
    ∃ s' t', xChoice_find N x1 x2 s = some s' ∧ xGlyphPositionsModel_chooseAll N t = some t' ∧ cR (u (u 8).val).val s' t' ∧ s1C s s' ∧ s1M t t' := by
  have hh := hH.1
  have hn := hf.1
  obtain ⟨s0, c1, c2, c3⟩ := c_init (N := N) x1 x2 64 0 N s (by omega) (by omega) (fun l hl => by omega)
  obtain ⟨t0, d1, d2, d3⟩ := m_init (N := N) 64 0 N t (by omega) (by omega) (fun l hl => by omega)
  have hE : cE n u s0 t0 := by
    refine ⟨hf.to1 c2, hg.to1 d2, ?_, fun l hl => ⟨Or.inl (c3 l hl), by rw [c3 l hl, d3 l hl]⟩, fun l _ hl => c3 l hl⟩
    rw [c2.1, d2.1, c2.2 6 (by decide), c2.2 7 (by decide), d2.2 32 (by decide), d2.2 33 (by decide)]
    exact hT
  have eC : xChoice_find N x1 x2 s = _ := c1
  have eM : xGlyphPositionsModel_chooseAll N t = _ := d1
  rw [eC, eM]
  have fin : ∀ {a : Nat} {s1 t1 : QSt}, s_lang n u a → cE n u s1 t1 → ∃ s' t', xChoice_find_59 N (nI a) s1 = some s' ∧ xGlyphPositionsModel_chooseAll_57 N (nI a) N 0 t1 = some t' ∧ cE n u s' t' ∧ s1C s1 s' ∧ s1M t1 t' := by
    intro a s1 t1 hl hE1
    obtain ⟨l1, l2, l3⟩ := hl
    have h64 := l3.1.2.1
    obtain ⟨s', t', e1, e2, e3⟩ := w_feats (N := N) hh hF hcnt l3 hN (u (a + 4)).val 0 N N s1 t1 (by omega) (by omega) (by omega) hE1
    refine ⟨s', t', ?_, e2, e3⟩
    unfold xChoice_find_59
    rw [il6, f_u16 hE1.1 (by omega), q_bn_s, il4, nI_add, f_u16 hE1.1 (by omega), q_bn_s]
    exact e1
  rcases l_lang (N := N) (x1 := x1) (x2 := x2) hE.1 hE.2.1 hH hS (by rw [d2.1]; exact h17) (by rw [d2.1]; exact h18) hN with ⟨e1, e2⟩ | ⟨a, a0, ha, e1, e2⟩
  · rw [e1, q_bn_s, if_pos rfl, e2, q_bn_s, if_pos rfl]
    exact ⟨s0, t0, rfl, rfl, hE.2.2.2, c2, d2⟩
  · have l1 := ha.1
    rw [e1, q_bn_s, if_neg (c_m1e (by omega)), e2, q_bn_s, if_neg (nI_ne0 a0 (by omega)), il2, nI_add, f_u16 hE.1 (by omega), q_bn_s, g_f16 hE.2.1 (by omega), q_bn_s, q_bn_s, il65535]
    simp (disch := omega) only [nI_eq]
    by_cases d : (u (a + 2)).val = 65535
    · rw [if_pos d, if_pos d]
      obtain ⟨s', t', g1, g2, g3, g4, g5⟩ := fin ha hE
      exact ⟨s', t', g1, g2, g3.2.2.2, c2.tr g4, d2.tr g5⟩
    · rw [if_neg d, if_neg d]
      have hreq := ha.2.1.resolve_left d
      obtain ⟨⟨s1, t1, k1, k2, k3, k4, k5⟩, -⟩ := w_want (N := N) hh hF hcnt hE.1 hE.2.1 hE.2.2.2 hreq hN
      have hch : xGlyphPositionsModel_choosing N (nI (u (a + 2)).val) 1 t0 = some t1 := by
        unfold xGlyphPositionsModel_choosing xGlyphPositionsModel_choosing_30
        rw [il6, g_f16 hE.2.1 (by omega), q_bn_s, if_neg m_1ne]
        exact k2
      rw [k1, q_bv_s, hch, q_bv_s]
      obtain ⟨s', t', g1, g2, g3, g4, g5⟩ := fin ha (hE.to k4 k5 k3)
      exact ⟨s', t', g1, g2, g3.2.2.2, (c2.tr k4).tr g4, (d2.tr k5).tr g5⟩
end PSB
