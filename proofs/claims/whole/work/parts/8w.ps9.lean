section PS9
variable {n N m c : Nat} {u : Nat → Fin 65536} {F : Nat → Nat → Int32} {D : Nat → Nat → Nat} {bk : Int32} {s s' t t' : QSt}
def sL (s s' : QSt) : Prop := s'.1 = s.1 ∧ ∀ j, (j < 12 ∨ (19 < j ∧ j < 23) ∨ 25 < j) → s'.2 j = s.2 j
theorem sL.rfl' (s : QSt) : sL s s := ⟨rfl, fun _ _ => rfl⟩
theorem sL.tr {a b c : QSt} (h : sL a b) (g : sL b c) : sL a c := ⟨g.1.trans h.1, fun j hj => (g.2 j hj).trans (h.2 j hj)⟩
theorem sC.L (h : sC s s') : sL s s' := ⟨h.1, fun j hj => h.2 j (by omega)⟩
theorem eS.toL (h : eS n m u D bk s) (g : sL s s') : eS n m u D bk s' := by
  obtain ⟨⟨h1, h2, h3, h4⟩, h5, h6, h7⟩ := h
  refine ⟨⟨h1, by rw [g.1]; exact h2, fun a ha => by rw [g.2 1 (by omega)]; exact h3 a ha, h4⟩, by rw [g.1]; exact h5, by rw [g.1]; exact h6, fun j hj => ?_⟩
  rw [g.2 8 (by omega), g.2 10 (by omega), g.2 20 (by omega), g.2 21 (by omega), g.2 22 (by omega)]
  exact h7 j hj
def wB (n m c : Nat) (u : Nat → Fin 65536) (F : Nat → Nat → Int32) (D : Nat → Nat → Nat) (bk : Int32) (s t : QSt) : Prop := eS n m u D bk s ∧ eT n m c u F D bk t ∧ ∀ j, j < m → r1 j s t
theorem w_carry (hG : gl N m c F D) (w : wB n m c u F D bk s t) (hh : 10 ≤ n) (hV : s_lks n u) {num : Nat} (hnum : num < (u (u 8).val).val) (h37 : t.2 37 num ≠ 0) (x2 : Int32) (rec : Int32 → QSt → Option (Int32 × QSt)) (hN : 70000 < N) :
    ∃ s' t', xSetter_carryOut N (nI num) s = some s' ∧ xGlyphPositionsModel_set_139 N rec x2 (nI num) N 0 t = rec (nI (num + 1)) t' ∧ wB n m c u F D bk s' t' ∧ sL s s' ∧ sM t t' := by
  have hm := hG.1
  have hn := w.1.1.1
  obtain ⟨⟨h1, h2, h3⟩, h4⟩ := hV
  have hl := h4 num hnum
  generalize hL : (u 8).val + (u ((u 8).val + 2 + 2 * num)).val = l at *
  have hl4 := hl.1.1
  have hl6 := hl.1.2.2.2.1
  obtain ⟨s5, e1, e2, e3, e4⟩ := w_find (N := N) (m := m) (KD := D 2) (MK := D 3) (s := s) (flag := (u (l + 2)).val) (by omega) hm w.1.2.1 (fun j hj => ⟨(hG.2 j hj).2.2.1, (hG.2 j hj).2.2.2.1, (w.1.2.2.2 j hj).2.2.1, (w.1.2.2.2 j hj).2.2.2.1⟩) hN
  have hL5 : sL s s5 := ⟨e2, fun j hj => e3 j (by omega) (by omega) (by omega)⟩
  have w5 : wW n m c u F D bk (u (l + 2)).val s5 t := by
    refine ⟨w.1.toL hL5, e4, w.2.1, fun j hj => ?_⟩
    obtain ⟨a1, a2, a3, a4, a5, a6⟩ := w.2.2 j hj
    unfold r1 hg
    unfold hg at a6
    rw [e3 12 (by omega) (by omega) (by omega), e3 13 (by omega) (by omega) (by omega), e3 14 (by omega) (by omega) (by omega), e3 15 (by omega) (by omega) (by omega), e3 16 (by omega) (by omega) (by omega), e3 17 (by omega) (by omega) (by omega), e3 18 (by omega) (by omega) (by omega), e3 19 (by omega) (by omega) (by omega)]
    exact ⟨a1, a2, a3, a4, a5, a6⟩
  have hla : ∀ z : QSt, sM t z → xGlyphPositionsModel_lookupAt (nI num) z = some (nI l) := by
    intro z hz
    have hgz := (w.2.1.to hz).1
    unfold xGlyphPositionsModel_lookupAt
    rw [il8, g_f16 hgz (by omega), q_bn_s, il2, nI_add, pk_mul, nI_add, g_f16 hgz (by omega), q_bn_s, nI_add, hL]
  obtain ⟨s', t', k1, k2, k3⟩ := w_run (N := N) hG (by omega) hl rfl (num := num) (by omega) x2 rec hN m 0 0 N N s5 t (by omega) (by omega) (by omega) (by omega) w5 h37 hla
  refine ⟨s', t', ?_, k2, ⟨k3.1.1, k3.1.2.2.1, k3.1.2.2.2⟩, hL5.tr k3.2.1.L, k3.2.2⟩
  unfold xSetter_carryOut
  rw [il8, f_u16 w.1.1 (by omega), q_bn_s, il2, nI_add, pk_mul, nI_add, f_u16 w.1.1 (by omega), q_bn_s, q_lt, nI_add, hL, nI_add, f_u16 w.1.1 (by omega), q_bn_s, e1, q_bv_s, il4, nI_add, f_u16 w5.1.1 (by omega), q_bn_s]
  exact k1
theorem w_skip (x1 : Int32) : ∀ (d num f : Nat) (s : QSt), num + d = 64 → d < f → (∀ l, num ≤ l → l < 64 → s.2 11 l = 0) → xGlyphPositions_set_53 N x1 f (nI num) s = q_bv (xRun_finish N x1 s) (fun sr4 => some (sr4.1 9, sr4)) := by
  intro d
  induction d with
  | zero =>
    intro num f s hd hf h
    obtain ⟨f, rfl⟩ : ∃ g, f = g + 1 := ⟨f - 1, by omega⟩
    rw [xGlyphPositions_set_53, il64, if_pos (nI_le (by omega) (by omega))]
  | succ d ih =>
    intro num f s hd hf h
    obtain ⟨f, rfl⟩ : ∃ g, f = g + 1 := ⟨f - 1, by omega⟩
    rw [xGlyphPositions_set_53, il64, if_neg (nI_ge (by omega) (by omega)), show q_vpb (nI num) 64 = true from decide_eq_true (nI_in (by omega) (by omega)), q_grd_tt, q_lt, nI_clamp (by omega), if_pos (h num (by omega) (by omega)), nI_1]
    exact ih (num + 1) f s (by omega) (by omega) (fun l h1 h2 => h l (by omega) h2)
theorem w_all (hG : gl N m c F D) (hh : 10 ≤ n) (hV : s_lks n u) (x1 : Int32) (hN : 70000 < N) :
    ∀ (d num f f' : Nat) (s t : QSt), num + d = (u (u 8).val).val → 64 < f + num → d < f' → wB n m c u F D bk s t → (∀ l, l < 64 → (s.2 11 l = 0 ↔ t.2 37 l = 0)) → (∀ l, (u (u 8).val).val ≤ l → l < 64 → s.2 11 l = 0) → ∃ s' t', xGlyphPositions_set_53 N x1 f (nI num) s = q_bv (xRun_finish N x1 s') (fun sr4 => some (sr4.1 9, sr4)) ∧ xGlyphPositionsModel_set_131 N (nI (u (u 8).val).val) f' (nI num) t = xGlyphPositionsModel_set_181 N N 0 t' ∧ wB n m c u F D bk s' t' ∧ sL s s' ∧ sM t t' := by
  have h64 : (u (u 8).val).val ≤ 64 := hV.1.2.1
  intro d
  induction d with
  | zero =>
    intro num f f' s t hd hf hf' w h11 h0
    obtain ⟨f', rfl⟩ : ∃ g, f' = g + 1 := ⟨f' - 1, by omega⟩
    refine ⟨s, t, w_skip x1 (64 - num) num f s (by omega) (by omega) (fun l g1 g2 => h0 l (by omega) g2), ?_, w, sL.rfl' s, sM.rfl' t⟩
    rw [xGlyphPositionsModel_set_131, if_pos (nI_le (by omega) (by omega))]
  | succ d ih =>
    intro num f f' s t hd hf hf' w h11 h0
    obtain ⟨f, rfl⟩ : ∃ g, f = g + 1 := ⟨f - 1, by omega⟩
    obtain ⟨f', rfl⟩ : ∃ g, f' = g + 1 := ⟨f' - 1, by omega⟩
    have hv64 : q_vpb (nI num) 64 = true := decide_eq_true (nI_in (by omega) (by omega))
    rw [xGlyphPositions_set_53, il64, if_neg (nI_ge (by omega) (by omega)), hv64, q_grd_tt, q_lt, nI_clamp (by omega), nI_1, xGlyphPositionsModel_set_131, if_neg (nI_ge (by omega) (by omega))]
    by_cases d0 : s.2 11 num = 0
    · rw [if_pos d0]
      obtain ⟨s', t', e1, e2, e3, e4, e5⟩ := ih (num + 1) f f' s t (by omega) (by omega) (by omega) w h11 h0
      refine ⟨s', t', e1, ?_, e3, e4, e5⟩
      have hM : ∀ M : Nat, xGlyphPositionsModel_set_139 N (xGlyphPositionsModel_set_131 N (nI (u (u 8).val).val) f') (nI (u (u 8).val).val) (nI num) (M + 1) 0 t = xGlyphPositionsModel_set_131 N (nI (u (u 8).val).val) f' (nI (num + 1)) t := by
        intro M
        rw [xGlyphPositionsModel_set_139, hv64, q_grd_tt, q_lt, nI_clamp (by omega), if_pos ((h11 num (by omega)).mp d0), nI_1]
      obtain ⟨M, hM1⟩ : ∃ M, N = M + 1 := ⟨N - 1, by omega⟩
      have h2 := hM M
      rw [← hM1] at h2
      rw [h2]
      exact e2
    · rw [if_neg d0]
      obtain ⟨s1, t1, k1, k2, k3, k4, k5⟩ := w_carry hG w hh hV (num := num) (by omega) (fun e => d0 ((h11 num (by omega)).mpr e)) (nI (u (u 8).val).val) (xGlyphPositionsModel_set_131 N (nI (u (u 8).val).val) f') hN
      rw [k1, q_bv_s, k2]
      obtain ⟨s', t', e1, e2, e3, e4, e5⟩ := ih (num + 1) f f' s1 t1 (by omega) (by omega) (by omega) k3 (fun l hl => by rw [k4.2 11 (by omega), k5.2 37 (by omega)]; exact h11 l hl) (fun l g1 g2 => by rw [k4.2 11 (by omega)]; exact h0 l g1 g2)
      exact ⟨s', t', e1, e2, e3, k4.tr e4, k5.tr e5⟩
theorem r1_15 {i : Nat} {v : Int32} (h : ∀ j, j < m → r1 j s t) : ∀ j, j < m → r1 j (q_pa s 15 i v) (q_pa t 43 i v) := r1_pa (x := 3) (by omega) h
theorem r1_14 {i : Nat} {v : Int32} (h : ∀ j, j < m → r1 j s t) : ∀ j, j < m → r1 j (q_pa s 14 i v) (q_pa t 42 i v) := r1_pa (x := 2) (by omega) h
def wR (m : Nat) (s t s' t' : QSt) : Prop := (∀ j, j < m → r1 j s' t') ∧ sC s s' ∧ sM t t'
theorem wR.tr {s'' t'' : QSt} (h : wR m s t s' t') (g : wR m s' t' s'' t'') : wR m s t s'' t'' := ⟨g.1, h.2.1.tr g.2.1, h.2.2.tr g.2.2⟩
theorem w_over1 (h : ∀ j, j < m → r1 j s t) {i k : Nat} (hi : i < m) (hk : k < m) (g : Int32) : wR m s t (q_pa (q_pa s 14 i (s.2 14 i + g * s.2 12 k)) 15 i (s.2 15 i + g * s.2 13 k)) (q_pa (q_pa t 42 i (t.2 42 i + g * t.2 40 k)) 43 i (t.2 43 i + g * t.2 41 k)) := by
  obtain ⟨a1, a2, a3, a4, a5, a6⟩ := h i hi
  obtain ⟨b1, b2, b3, b4, b5, b6⟩ := h k hk
  rw [a3, a4, b1, b2]
  exact ⟨r1_15 (r1_14 h), (sC.pa (by omega) (by omega)).tr (sC.pa (by omega) (by omega)), (sM.pa (by omega) (by omega)).tr (sM.pa (by omega) (by omega))⟩
theorem w_over0 (h : ∀ j, j < m → r1 j s t) {i k : Nat} : wR m s t s (q_pa (q_pa t 42 i (t.2 42 i + 0 * t.2 40 k)) 43 i (t.2 43 i + 0 * t.2 41 k)) := by
  rw [Int32.zero_mul, Int32.zero_mul, Int32.add_zero, Int32.add_zero]
  refine ⟨?_, sC.rfl' s, (sM.pa (by omega) (by omega)).tr (sM.pa (by omega) (by omega))⟩
  have h1 : ∀ j, j < m → r1 j s (q_pa t 42 i (t.2 42 i)) := r1_mre (x := 2) (by omega) rfl h
  have h2 : t.2 43 i = (q_pa t 42 i (t.2 42 i)).2 43 i := by rw [p_a2, if_neg (by decide)]
  exact r1_mre (x := 3) (by omega) h2 h1
theorem m_110 {i k : Nat} {x2 g : Int32} (hi : i < 512) (hk : k < 512) (rec : Int32 → QSt → Option QSt) : xGlyphPositionsModel_settle_110 N rec (nI i) x2 (nI k) g t = rec (nI (k + 1)) (q_pa (q_pa t 42 i (t.2 42 i + g * t.2 40 k)) 43 i (t.2 43 i + g * t.2 41 k)) := by
  have hvi : q_vpb (nI i) 800 = true := decide_eq_true (nI_in (by omega) (by omega))
  have hvk : q_vpb (nI k) 800 = true := decide_eq_true (nI_in (by omega) (by omega))
  unfold xGlyphPositionsModel_settle_110
  simp (disch := omega) only [hvi, hvk, q_grd_tt, q_lt, nI_clamp, nI_1]
  simp [p_a2]
theorem c_over {i k e f : Nat} {g : Int32} (hi : i < 512) (hk : k < e) (he : e ≤ 512) : xRun_goOver_3 N (nI i) (nI e) g (f + 1) (nI k) s = xRun_goOver_3 N (nI i) (nI e) g f (nI (k + 1)) (q_pa (q_pa s 14 i (s.2 14 i + g * s.2 12 k)) 15 i (s.2 15 i + g * s.2 13 k)) := by
  have hvi : q_vpb (nI i) 800 = true := decide_eq_true (nI_in (by omega) (by omega))
  have hvk : q_vpb (nI k) 800 = true := decide_eq_true (nI_in (by omega) (by omega))
  rw [xRun_goOver_3, if_neg (nI_ge hk (by omega))]
  simp (disch := omega) only [hvi, hvk, q_grd_tt, q_lt, nI_clamp, nI_1]
  simp [p_a2]
theorem w_fwd (hm : m ≤ 512) {i p : Nat} (hi : i < m) : ∀ (d k f f' : Nat) (s t : QSt), k + d = i → d < f → d + 1 < f' → (∀ j, j < m → r1 j s t) → t.1 22 = 0 → ∃ s' t', xRun_goOver_3 N (nI i) (nI i) (-1) f (nI k) s = some s' ∧ xGlyphPositionsModel_settle_75 N (nI i) (nI p) f' (nI k) t = some t' ∧ wR m s t s' t' := by
  intro d
  induction d with
  | zero =>
    intro k f f' s t hk hf hf' h h22
    obtain ⟨f, rfl⟩ : ∃ g, f = g + 1 := ⟨f - 1, by omega⟩
    obtain ⟨f', rfl⟩ : ∃ g, f' = g + 2 := ⟨f' - 2, by omega⟩
    have e : k = i := by omega
    subst e
    refine ⟨s, _, ?_, ?_, w_over0 (i := k) (k := k) h⟩
    · rw [xRun_goOver_3, if_pos (nI_le (by omega) (by omega))]
    · rw [xGlyphPositionsModel_settle_75, if_neg (nI_nlt (by omega) (by omega)), h22, if_pos rfl, if_pos (nI_le (by omega) (by omega)), m_110 (by omega) (by omega), xGlyphPositionsModel_settle_75, if_pos (nI_lt (by omega) (by omega))]
  | succ d ih =>
    intro k f f' s t hk hf hf' h h22
    obtain ⟨f, rfl⟩ : ∃ g, f = g + 1 := ⟨f - 1, by omega⟩
    obtain ⟨f', rfl⟩ : ∃ g, f' = g + 1 := ⟨f' - 1, by omega⟩
    have w := w_over1 h hi (k := k) (by omega) (-1)
    obtain ⟨s', t', e1, e2, e3⟩ := ih (k + 1) f f' _ _ (by omega) (by omega) (by omega) w.1 (by rw [w.2.2.1]; exact h22)
    refine ⟨s', t', ?_, ?_, w.tr e3⟩
    · rw [c_over (by omega) (by omega) (by omega)]
      exact e1
    · rw [xGlyphPositionsModel_settle_75, if_neg (nI_nlt (by omega) (by omega)), h22, if_pos rfl, if_neg (nI_ge (by omega) (by omega)), m_110 (by omega) (by omega)]
      exact e2
theorem w_bwd (hm : m ≤ 512) {i p : Nat} (hi : i < m) : ∀ (d k f f' : Nat) (s t : QSt), k + d = i + 1 → p < k → d < f → d < f' → (∀ j, j < m → r1 j s t) → ¬ t.1 22 = 0 → ∃ s' t', xRun_goOver_3 N (nI i) (nI (i + 1)) 1 f (nI k) s = some s' ∧ xGlyphPositionsModel_settle_75 N (nI i) (nI p) f' (nI k) t = some t' ∧ wR m s t s' t' := by
  intro d
  induction d with
  | zero =>
    intro k f f' s t hk hp hf hf' h h22
    obtain ⟨f, rfl⟩ : ∃ g, f = g + 1 := ⟨f - 1, by omega⟩
    obtain ⟨f', rfl⟩ : ∃ g, f' = g + 1 := ⟨f' - 1, by omega⟩
    refine ⟨s, t, ?_, ?_, h, sC.rfl' s, sM.rfl' t⟩
    · rw [xRun_goOver_3, if_pos (nI_le (by omega) (by omega))]
    · rw [xGlyphPositionsModel_settle_75, if_pos (nI_lt (by omega) (by omega))]
  | succ d ih =>
    intro k f f' s t hk hp hf hf' h h22
    obtain ⟨f, rfl⟩ : ∃ g, f = g + 1 := ⟨f - 1, by omega⟩
    obtain ⟨f', rfl⟩ : ∃ g, f' = g + 1 := ⟨f' - 1, by omega⟩
    have w := w_over1 h hi (k := k) (by omega) 1
    obtain ⟨s', t', e1, e2, e3⟩ := ih (k + 1) f f' _ _ (by omega) (by omega) (by omega) (by omega) w.1 (by rw [w.2.2.1]; exact h22)
    refine ⟨s', t', ?_, ?_, w.tr e3⟩
    · rw [c_over (by omega) (by omega) (by omega)]
      exact e1
    · rw [xGlyphPositionsModel_settle_75, if_neg (nI_nlt (by omega) (by omega)), if_neg h22, if_neg (nI_ge (by omega) (by omega)), m_110 (by omega) (by omega)]
      exact e2
theorem w_settle (hm : m ≤ 512) (h9 : s.1 9 = nI m) (h22 : t.1 22 = bk) (h : ∀ j, j < m → r1 j s t) {i : Nat} (hi : i < m) (hN : 70000 < N) : ∃ s' t', (∀ f, xRun_finish_2 N bk (f + 1) (nI i) s = xRun_finish_2 N bk f (nI (i + 1)) s') ∧ xGlyphPositionsModel_settle N (nI i) t = some t' ∧ wR m s t s' t' := by
  have hvi : q_vpb (nI i) 800 = true := decide_eq_true (nI_in (by omega) (by omega))
  have ci : (nI i).toNatClampNeg = i := nI_clamp (by omega)
  obtain ⟨a1, a2, a3, a4, a5, a6⟩ := h i hi
  have hC0 : ∀ f, xRun_finish_2 N bk (f + 1) (nI i) s = q_lt (s.2 16 i) (fun v1 => if v1 < 0 then xRun_finish_2 N bk f (nI i + 1) s else (if v1 < nI i then (q_grd (q_vpb (nI i) 800) (q_lt (s.2 15 i) (fun v2 => q_grd (q_vpb (nI i) 800) (q_lt (s.2 19 i) (fun v3 => q_grd (q_vpb v1 800) (q_lt (s.2 15 v1.toNatClampNeg) (fun v4 => q_grd (q_vpb (nI i) 800) (q_lt (q_pa s 15 i (v2 + (v3 + v4))) (fun s5 => q_grd (q_vpb (nI i) 800) (q_lt (s5.2 17 i) (fun v6 => if v6 = 0 then (q_grd (q_vpb (nI i) 800) (q_lt (s5.2 14 i) (fun v7 => q_grd (q_vpb (nI i) 800) (q_lt (s5.2 18 i) (fun v8 => q_grd (q_vpb v1 800) (q_lt (s5.2 14 v1.toNatClampNeg) (fun v9 => q_grd (q_vpb (nI i) 800) (q_lt (q_pa s5 14 i (v7 + (v8 + v9))) (fun s10 => if bk = 0 then (q_bv (xRun_goOver N (nI i) v1 (nI i) (-1) s10) (fun sr11 => xRun_finish_2 N bk f (nI i + 1) sr11)) else (q_bv (xRun_goOver N (nI i) (v1 + 1) (nI i + 1) 1 s10) (fun sr12 => xRun_finish_2 N bk f (nI i + 1) sr12))))))))))) else (xRun_finish_2 N bk f (nI i + 1) s5)))))))))))) else (xRun_finish_2 N bk f (nI i + 1) s))) := by
    intro f
    rw [xRun_finish_2, h9, if_neg (nI_ge hi (by omega)), hvi, q_grd_tt, ci]
  have hM0 : xGlyphPositionsModel_settle N (nI i) t = q_lt (s.2 16 i) (fun v1 => if 0 ≤ v1 then (q_grd (q_vpb (nI i) 800) (q_lt (t.2 43 i) (fun v2 => q_grd (q_vpb (nI i) 800) (q_lt (t.2 47 i) (fun v3 => q_grd (q_vpb v1 800) (q_lt (t.2 43 v1.toNatClampNeg) (fun v4 => q_grd (q_vpb (nI i) 800) (q_lt (q_pa t 43 i ((v2 + v3) + v4)) (fun s5 => q_grd (q_vpb (nI i) 800) (q_lt (s5.2 45 i) (fun v6 => if v6 = 0 then (q_grd (q_vpb (nI i) 800) (q_lt (s5.2 42 i) (fun v7 => q_grd (q_vpb (nI i) 800) (q_lt (s5.2 46 i) (fun v8 => q_grd (q_vpb v1 800) (q_lt (s5.2 42 v1.toNatClampNeg) (fun v9 => q_grd (q_vpb (nI i) 800) (q_lt (q_pa s5 42 i ((v7 + v8) + v9)) (fun s10 => xGlyphPositionsModel_settle_75 N (nI i) v1 N v1 s10))))))))) else (some s5)))))))))))) else (some t)) := by
    unfold xGlyphPositionsModel_settle
    rw [hvi, q_grd_tt, ci, a5]
  simp only [hC0, hM0, q_lt, hvi, q_grd_tt, nI_1]
  rcases a6 with hm1 | ⟨p, hp, hon, b1, b2, b3⟩
  · rw [hm1]
    refine ⟨s, t, fun f => ?_, ?_, h, sC.rfl' s, sM.rfl' t⟩
    · rw [if_pos (by decide)]
    · rw [if_neg (by decide)]
  have hvp : q_vpb (nI p) 800 = true := decide_eq_true (nI_in (by omega) (by omega))
  have cp : (nI p).toNatClampNeg = p := nI_clamp (by omega)
  obtain ⟨p1, p2, p3, p4, p5, p6⟩ := h p (by omega)
  have hneg : ¬ nI p < 0 := nI_pos (by omega)
  have hpos : (0 : Int32) ≤ nI p := nI_pos' (by omega)
  have hpi : nI p < nI i := nI_lt hp (by omega)
  rw [hon]
  simp only [if_neg hneg, if_pos hpos, if_pos hpi, hvp, cp, q_grd_tt]
  have w1 : wR m s t (q_pa s 15 i (s.2 15 i + (s.2 19 i + s.2 15 p))) (q_pa t 43 i (t.2 43 i + t.2 47 i + t.2 43 p)) := by
    rw [a4, b2, p4, Int32.add_assoc]
    exact ⟨r1_15 h, sC.pa (by omega) (by omega), sM.pa (by omega) (by omega)⟩
  have c17 : (q_pa s 15 i (s.2 15 i + (s.2 19 i + s.2 15 p))).2 17 i = s.2 17 i := by rw [p_a2, if_neg (by decide)]
  have c45 : (q_pa t 43 i (t.2 43 i + t.2 47 i + t.2 43 p)).2 45 i = s.2 17 i := by rw [p_a2, if_neg (by decide), b1]
  rw [c45]
  simp only [c17]
  rcases b3 with ⟨b3, b4⟩ | b3
  · rw [b3]
    simp only [if_true, reduceIte]
    generalize hS1 : q_pa s 15 i (s.2 15 i + (s.2 19 i + s.2 15 p)) = S1 at *
    generalize hT1 : q_pa t 43 i (t.2 43 i + t.2 47 i + t.2 43 p) = T1 at *
    have e18 : S1.2 18 i = s.2 18 i := by rw [← hS1, p_a2, if_neg (by decide)]
    have e46 : T1.2 46 i = s.2 18 i := by rw [← hT1, p_a2, if_neg (by decide), b4]
    have w2 : wR m S1 T1 (q_pa S1 14 i (S1.2 14 i + (S1.2 18 i + S1.2 14 p))) (q_pa T1 42 i (T1.2 42 i + T1.2 46 i + T1.2 42 p)) := by
      have q1 := w1.1 i hi
      have q2 := w1.1 p (by omega)
      rw [q1.2.2.1, q2.2.2.1, e46, e18, Int32.add_assoc]
      exact ⟨r1_14 w1.1, sC.pa (by omega) (by omega), sM.pa (by omega) (by omega)⟩
    generalize hS2 : q_pa S1 14 i (S1.2 14 i + (S1.2 18 i + S1.2 14 p)) = S2 at *
    generalize hT2 : q_pa T1 42 i (T1.2 42 i + T1.2 46 i + T1.2 42 p) = T2 at *
    have h22' : T2.1 22 = bk := by rw [w2.2.2.1, w1.2.2.1, h22]
    by_cases hb : bk = 0
    · obtain ⟨s', t', e1, e2, e3⟩ := w_fwd (N := N) hm (p := p) hi (i - p) p N N S2 T2 (by omega) (by omega) (by omega) w2.1 (by rw [h22', hb])
      refine ⟨s', t', fun f => ?_, e2, (w1.tr w2).tr e3⟩
      rw [if_pos hb]
      unfold xRun_goOver
      rw [e1, q_bv_s]
    · obtain ⟨M, hM1⟩ : ∃ M, N = M + 1 := ⟨N - 1, by omega⟩
      have w3 := w_over0 (i := i) (k := p) w2.1
      obtain ⟨s', t', e1, e2, e3⟩ := w_bwd (N := N) hm (p := p) hi (i - p) (p + 1) N M S2 _ (by omega) (by omega) (by omega) (by omega) w3.1 (by rw [w3.2.2.1, h22']; exact hb)
      refine ⟨s', t', fun f => ?_, ?_, ((w1.tr w2).tr w3).tr e3⟩
      · rw [if_neg hb]
        unfold xRun_goOver
        rw [nI_1, e1, q_bv_s]
      · have hstep : ∀ M' : Nat, xGlyphPositionsModel_settle_75 N (nI i) (nI p) (M' + 1) (nI p) T2 = xGlyphPositionsModel_settle_75 N (nI i) (nI p) M' (nI (p + 1)) (q_pa (q_pa T2 42 i (T2.2 42 i + 0 * T2.2 40 p)) 43 i (T2.2 43 i + 0 * T2.2 41 p)) := by
          intro M'
          rw [xGlyphPositionsModel_settle_75, if_neg (nI_nlt (by omega) (by omega)), h22', if_neg hb, if_pos (nI_le (by omega) (by omega)), m_110 (by omega) (by omega)]
        have h2 := hstep M
        rw [← hM1] at h2
        rw [h2]
        exact e2
  · rw [b3]
    refine ⟨_, _, fun f => ?_, ?_, w1⟩
    · rw [if_neg m_1ne]
    · rw [if_neg m_1ne]
theorem w_finish (hm : m ≤ 512) (hN : 70000 < N) : ∀ (d i f f' : Nat) (s t : QSt), i + d = m → d < f → d < f' → s.1 9 = nI m → t.1 21 = nI m → t.1 22 = bk → (∀ j, j < m → r1 j s t) → ∃ s' t', xRun_finish_2 N bk f (nI i) s = some s' ∧ xGlyphPositionsModel_set_181 N f' (nI i) t = some (nI m, t') ∧ wR m s t s' t' := by
  intro d
  induction d with
  | zero =>
    intro i f f' s t hi hf hf' h9 h21 h22 h
    obtain ⟨f, rfl⟩ : ∃ g, f = g + 1 := ⟨f - 1, by omega⟩
    obtain ⟨f', rfl⟩ : ∃ g, f' = g + 1 := ⟨f' - 1, by omega⟩
    refine ⟨s, t, ?_, ?_, h, sC.rfl' s, sM.rfl' t⟩
    · rw [xRun_finish_2, h9, if_pos (nI_le (by omega) (by omega))]
    · rw [xGlyphPositionsModel_set_181, h21, if_pos (nI_le (by omega) (by omega))]
  | succ d ih =>
    intro i f f' s t hi hf hf' h9 h21 h22 h
    obtain ⟨f, rfl⟩ : ∃ g, f = g + 1 := ⟨f - 1, by omega⟩
    obtain ⟨f', rfl⟩ : ∃ g, f' = g + 1 := ⟨f' - 1, by omega⟩
    obtain ⟨s1, t1, e1, e2, e3⟩ := w_settle (N := N) hm h9 h22 h (i := i) (by omega) hN
    obtain ⟨s', t', g1, g2, g3⟩ := ih (i + 1) f f' s1 t1 (by omega) (by omega) (by omega) (by rw [e3.2.1.1]; exact h9) (by rw [e3.2.2.1]; exact h21) (by rw [e3.2.2.1]; exact h22) e3.1
    refine ⟨s', t', by rw [e1 f]; exact g1, ?_, e3.tr g3⟩
    rw [xGlyphPositionsModel_set_181, h21, if_neg (nI_ge (by omega) (by omega)), e2, q_bv_s, nI_1]
    exact g2
end PS9
