section PSC
variable {n N m c : Nat} {u : Nat → Fin 65536} {F : Nat → Nat → Int32} {D : Nat → Nat → Nat} {bk : Int32} {s s' t t' : QSt}
theorem c_rstart (hm : m ≤ 512) : ∀ (d i f : Nat) (s : QSt), i + d = m → d < f → s.1 9 = nI m → (∀ j, j < i → s.2 12 j = s.2 9 j ∧ s.2 13 j = 0 ∧ s.2 14 j = 0 ∧ s.2 15 j = 0 ∧ s.2 16 j = -1) → ∃ s', xRun_start_10 N f (nI i) s = some s' ∧ s'.1 = s.1 ∧ (∀ j, (j < 12 ∨ 16 < j) → s'.2 j = s.2 j) ∧ ∀ j, j < m → s'.2 12 j = s.2 9 j ∧ s'.2 13 j = 0 ∧ s'.2 14 j = 0 ∧ s'.2 15 j = 0 ∧ s'.2 16 j = -1 := by
  intro d
  induction d with
  | zero =>
    intro i f s hi hf h9 h
    obtain ⟨f, rfl⟩ : ∃ g, f = g + 1 := ⟨f - 1, by omega⟩
    refine ⟨s, ?_, rfl, fun _ _ => rfl, fun j hj => h j (by omega)⟩
    rw [xRun_start_10, h9, if_pos (nI_le (by omega) (by omega))]
  | succ d ih =>
    intro i f s hi hf h9 h
    obtain ⟨f, rfl⟩ : ∃ g, f = g + 1 := ⟨f - 1, by omega⟩
    have hv : q_vpb (nI i) 800 = true := decide_eq_true (nI_in (by omega) (by omega))
    have hci : (nI i).toNatClampNeg = i := nI_clamp (by omega)
    rw [xRun_start_10, h9, if_neg (nI_ge (by omega) (by omega))]
    simp only [hv, q_grd_tt, q_lt, hci, nI_1]
    obtain ⟨s', e1, e2, e3, e4⟩ := ih (i + 1) f (q_pa (q_pa (q_pa (q_pa (q_pa s 12 i (s.2 9 i)) 13 i 0) 14 i 0) 15 i 0) 16 i (-1)) (by omega) (by omega) h9 (fun j hj => by
      by_cases e : j = i
      · subst e; simp [p_a2, p_upd]
      · have := h j (by omega)
        simp [p_a2, p_upd, e, this])
    refine ⟨s', e1, e2, fun j hj => ?_, fun j hj => ?_⟩
    · rw [e3 j hj, p_a2, if_neg (by omega), p_a2, if_neg (by omega), p_a2, if_neg (by omega), p_a2, if_neg (by omega), p_a2, if_neg (by omega)]
    · have := e4 j hj
      simpa [p_a2] using this
theorem m_start40 (hm : m ≤ 512) : ∀ (d i f : Nat) (t : QSt), i + d = m → d < f → t.1 20 = nI m → (∀ j, j < i → t.2 38 j = t.2 34 j ∧ t.2 40 j = t.2 35 j ∧ t.2 39 j = t.2 36 j ∧ t.2 41 j = 0 ∧ t.2 42 j = 0 ∧ t.2 43 j = 0 ∧ t.2 44 j = -1) → ∃ t', xGlyphPositionsModel_set_40 N f (nI i) t = q_bn (xGlyphPositionsModel_f16 8 t') (fun r5 => q_bn (xGlyphPositionsModel_f16 r5 t') (fun r6 => xGlyphPositionsModel_set_131 N r6 N 0 t')) ∧ t'.1 = t.1 ∧ (∀ j, (j < 38 ∨ 44 < j) → t'.2 j = t.2 j) ∧ ∀ j, j < m → t'.2 38 j = t.2 34 j ∧ t'.2 40 j = t.2 35 j ∧ t'.2 39 j = t.2 36 j ∧ t'.2 41 j = 0 ∧ t'.2 42 j = 0 ∧ t'.2 43 j = 0 ∧ t'.2 44 j = -1 := by
  intro d
  induction d with
  | zero =>
    intro i f t hi hf h20 h
    obtain ⟨f, rfl⟩ : ∃ g, f = g + 1 := ⟨f - 1, by omega⟩
    refine ⟨t, ?_, rfl, fun _ _ => rfl, fun j hj => h j (by omega)⟩
    rw [xGlyphPositionsModel_set_40, h20, if_pos (nI_le (by omega) (by omega))]
  | succ d ih =>
    intro i f t hi hf h20 h
    obtain ⟨f, rfl⟩ : ∃ g, f = g + 1 := ⟨f - 1, by omega⟩
    have hv : q_vpb (nI i) 800 = true := decide_eq_true (nI_in (by omega) (by omega))
    have hci : (nI i).toNatClampNeg = i := nI_clamp (by omega)
    have e35 : (q_pa t 38 i (t.2 34 i)).2 35 i = t.2 35 i := by rw [p_a2, if_neg (by decide)]
    have e36 : (q_pa (q_pa t 38 i (t.2 34 i)) 40 i (t.2 35 i)).2 36 i = t.2 36 i := by rw [p_a2, if_neg (by decide), p_a2, if_neg (by decide)]
    rw [xGlyphPositionsModel_set_40, h20, if_neg (nI_ge (by omega) (by omega))]
    simp only [hv, q_grd_tt, q_lt, hci, nI_1, e35, e36]
    obtain ⟨t', e1, e2, e3, e4⟩ := ih (i + 1) f (q_pa (q_pa (q_pa (q_pa (q_pa (q_pa (q_pa t 38 i (t.2 34 i)) 40 i (t.2 35 i)) 39 i (t.2 36 i)) 41 i 0) 42 i 0) 43 i 0) 44 i (-1)) (by omega) (by omega) h20 (fun j hj => by
      by_cases e : j = i
      · subst e; simp [p_a2, p_upd]
      · have := h j (by omega)
        simp [p_a2, p_upd, e, this])
    refine ⟨t', e1, e2, fun j hj => ?_, fun j hj => ?_⟩
    · rw [e3 j hj, p_a2, if_neg (by omega), p_a2, if_neg (by omega), p_a2, if_neg (by omega), p_a2, if_neg (by omega), p_a2, if_neg (by omega), p_a2, if_neg (by omega), p_a2, if_neg (by omega)]
    · have := e4 j hj
      simpa [p_a2] using this
theorem c_sstart (hm : m ≤ 512) (hD : ∀ j, j < m → D 2 j ≤ 3 ∧ D 3 j ≤ 255 ∧ ∀ s : QSt, s.1 6 = nI c → (∀ q, q < c → s.2 2 q = F 1 q ∧ s.2 3 q = F 2 q) → ∃ r, xKinds_rangeOf N (nI (D 0 j)) s = some r ∧ ((r = -1 ∧ D 2 j = 0 ∧ D 3 j = 0) ∨ ∃ q, q < c ∧ r = nI q ∧ F 3 q = nI (D 2 j) ∧ F 4 q = nI (D 3 j))) (hc : c ≤ 256) :
    ∀ (d i f : Nat) (x : Int32) (s : QSt), i + d = m → d < f → s.1 9 = nI m → s.1 6 = nI c → (∀ q, q < c → s.2 2 q = F 1 q ∧ s.2 3 q = F 2 q ∧ s.2 4 q = F 3 q ∧ s.2 5 q = F 4 q) → (∀ j, j < m → s.2 8 j = nI (D 0 j)) → bf (fun q => D 2 q = 3) i x → (∀ j, j < i → s.2 20 j = nI (D 2 j) ∧ s.2 21 j = nI (D 3 j) ∧ bf (fun q => D 2 q = 3) j (s.2 22 j)) → ∃ s', xSetter_start_9 N f x (nI i) s = some s' ∧ s'.1 = s.1 ∧ (∀ j, (j < 20 ∨ 22 < j) → s'.2 j = s.2 j) ∧ ∀ j, j < m → s'.2 20 j = nI (D 2 j) ∧ s'.2 21 j = nI (D 3 j) ∧ bf (fun q => D 2 q = 3) j (s'.2 22 j) := by
  intro d
  induction d with
  | zero =>
    intro i f x s hi hf h9 h6 hk h8 hx h
    obtain ⟨f, rfl⟩ : ∃ g, f = g + 1 := ⟨f - 1, by omega⟩
    refine ⟨s, ?_, rfl, fun _ _ => rfl, fun j hj => h j (by omega)⟩
    rw [xSetter_start_9, h9, if_pos (nI_le (by omega) (by omega))]
  | succ d ih =>
    intro i f x s hi hf h9 h6 hk h8 hx h
    obtain ⟨f, rfl⟩ : ∃ g, f = g + 1 := ⟨f - 1, by omega⟩
    have hv : q_vpb (nI i) 800 = true := decide_eq_true (nI_in (by omega) (by omega))
    have hci : (nI i).toNatClampNeg = i := nI_clamp (by omega)
    obtain ⟨d1, d2, d3⟩ := hD i (by omega)
    obtain ⟨r, r1, r2⟩ := d3 s h6 (fun q hq => ⟨(hk q hq).1, (hk q hq).2.1⟩)
    have hgo : xSetter_start_9 N (f + 1) x (nI i) s = if D 2 i = 3 then xSetter_start_9 N f x (nI (i + 1)) (q_pa (q_pa (q_pa s 20 i (nI (D 2 i))) 21 i (nI (D 3 i))) 22 i x) else xSetter_start_9 N f (nI i) (nI (i + 1)) (q_pa (q_pa (q_pa s 20 i (nI (D 2 i))) 21 i (nI (D 3 i))) 22 i x) := by
      have h89 : xSetter_start_89 N (xSetter_start_9 N f) x (nI i) (nI i) (nI (D 3 i)) (q_pa s 20 i (nI (D 2 i))) = if D 2 i = 3 then xSetter_start_9 N f x (nI (i + 1)) (q_pa (q_pa (q_pa s 20 i (nI (D 2 i))) 21 i (nI (D 3 i))) 22 i x) else xSetter_start_9 N f (nI i) (nI (i + 1)) (q_pa (q_pa (q_pa s 20 i (nI (D 2 i))) 21 i (nI (D 3 i))) 22 i x) := by
        have e20 : (q_pa (q_pa (q_pa s 20 i (nI (D 2 i))) 21 i (nI (D 3 i))) 22 i x).2 20 i = nI (D 2 i) := by
          rw [p_a2, if_neg (by decide), p_a2, if_neg (by decide), p_a2, if_pos rfl, p_upd, if_pos rfl]
        unfold xSetter_start_89
        simp only [hv, q_grd_tt, q_lt, hci, nI_1, e20]
        rw [il3]
        simp (disch := omega) only [nI_eq]
      rw [xSetter_start_9, h9, if_neg (nI_ge (by omega) (by omega)), hv, q_grd_tt, q_lt, hci, h8 i (by omega), r1, q_bn_s]
      unfold xSetter_start_63
      rcases r2 with ⟨rfl, r3, r4⟩ | ⟨q, hq, rfl, r3, r4⟩
      · rw [if_pos rfl, hv, q_grd_tt, q_lt, hci, if_pos rfl]
        rw [r3, r4] at h89 ⊢
        exact h89
      · have hvq : q_vpb (nI q) 256 = true := decide_eq_true (nI_in (by omega) (by omega))
        have hcq : (nI q).toNatClampNeg = q := nI_clamp (by omega)
        have e5 : (q_pa s 20 i (nI (D 2 i))).2 5 q = nI (D 3 i) := by rw [p_a2, if_neg (by decide), (hk q hq).2.2.2, r4]
        rw [if_neg (c_m1e (by omega)), hvq, q_grd_tt, q_lt, hcq, (hk q hq).2.2.1, r3, hv, q_grd_tt, q_lt, hci, if_neg (c_m1e (by omega)), q_grd_tt, q_lt, e5]
        exact h89
    rw [hgo]
    generalize hZ : q_pa (q_pa (q_pa s 20 i (nI (D 2 i))) 21 i (nI (D 3 i))) 22 i x = Z
    have z1 : Z.1 = s.1 := by rw [← hZ]; rfl
    have z2 : ∀ j, (j < 20 ∨ 22 < j) → Z.2 j = s.2 j := by
      intro j hj
      rw [← hZ, p_a2, if_neg (by omega), p_a2, if_neg (by omega), p_a2, if_neg (by omega)]
    have z3 : ∀ j, j < i + 1 → Z.2 20 j = nI (D 2 j) ∧ Z.2 21 j = nI (D 3 j) ∧ bf (fun q => D 2 q = 3) j (Z.2 22 j) := by
      intro j hj
      rw [← hZ]
      by_cases e : j = i
      · subst e
        simp [p_a2, p_upd]
        exact hx
      · have := h j (by omega)
        simp [p_a2, p_upd, e]
        exact this
    have hxs := bf_s hx
    have zk : ∀ q, q < c → Z.2 2 q = F 1 q ∧ Z.2 3 q = F 2 q ∧ Z.2 4 q = F 3 q ∧ Z.2 5 q = F 4 q := fun q hq => by
      rw [z2 2 (by omega), z2 3 (by omega), z2 4 (by omega), z2 5 (by omega)]; exact hk q hq
    by_cases hp : D 2 i = 3
    · rw [if_pos hp]
      obtain ⟨s', e1, e2, e3, e4⟩ := ih (i + 1) f x Z (by omega) (by omega) (by rw [z1]; exact h9) (by rw [z1]; exact h6) zk (fun j hj => by rw [z2 8 (by omega)]; exact h8 j hj) (hxs.1 hp) z3
      exact ⟨s', e1, by rw [e2, z1], fun j hj => by rw [e3 j hj, z2 j hj], e4⟩
    · rw [if_neg hp]
      obtain ⟨s', e1, e2, e3, e4⟩ := ih (i + 1) f (nI i) Z (by omega) (by omega) (by rw [z1]; exact h9) (by rw [z1]; exact h6) zk (fun j hj => by rw [z2 8 (by omega)]; exact h8 j hj) (hxs.2 hp) z3
      exact ⟨s', e1, by rw [e2, z1], fun j hj => by rw [e3 j hj, z2 j hj], e4⟩
/-- a run is set: class on s, reference on t -/
theorem w_set {k : Nat} (hk : k ≤ 512) (hH : s_head n u) (hS : s_scripts n u) (hFe : s_features n u) (hL : s_lks n u) (hf : fH n u s) (hgm : gH n u t) (h0 : ¬ s.1 0 = 0) (h13 : ¬ t.1 13 = 0) (h17 : t.1 17 = s.1 1) (h18 : t.1 18 = s.1 2)
    (hK : p_kin (s.1 6) (t.1 16) (s.2 2) (s.2 3) (s.2 4) (s.2 5) (t.2 28) (t.2 29) (t.2 30) (t.2 31)) (hT : p_tag (s.1 7) (t.1 19) (s.2 6) (s.2 7) (t.2 32) (t.2 33)) (hO : p_tol k (s.1 8) (t.1 20) (s.2 8) (s.2 9) (s.2 10) (t.2 34) (t.2 35) (t.2 36)) {x1 : Int32} (hx : x1 = 0 ∨ x1 = 1) (hN : 70000 < N) :
    ∃ (m : Nat) (s' t' : QSt), m ≤ 512 ∧ xGlyphPositions_set N x1 s = some (nI m, s') ∧ xGlyphPositionsModel_set N x1 t = some (nI m, t') ∧ s'.1 9 = nI m ∧ t'.1 21 = nI m ∧ t'.1 11 = 0 ∧ (∀ j, j < m → t'.2 40 j = s'.2 12 j ∧ t'.2 41 j = s'.2 13 j ∧ t'.2 42 j = s'.2 14 j ∧ t'.2 43 j = s'.2 15 j ∧ t'.2 44 j = s'.2 16 j) ∧
      (∀ j, j ≠ 9 → j ≠ 10 → s'.1 j = s.1 j) ∧ (∀ j, (j < 11 ∨ 25 < j) → s'.2 j = s.2 j) ∧ (∀ j, j ≠ 11 → j ≠ 21 → j ≠ 22 → t'.1 j = t.1 j) ∧ ∀ j, (j < 37 ∨ 47 < j) → t'.2 j = t.2 j := by
  obtain ⟨c, k1, k2, k3, k4⟩ := hK
  obtain ⟨m, o1, o2, o3, o4⟩ := hO
  have hm : m ≤ 512 := by omega
  have hcnt : (u (u 8).val).val ≤ 64 := hL.1.2.1
  have hh := hH.1
  have hn := hf.1
  -- the tables of kinds, and each glyph's kind and marks
  obtain ⟨F, F1, F2, F3, F4⟩ : ∃ F : Nat → Nat → Int32, F 1 = s.2 2 ∧ F 2 = s.2 3 ∧ F 3 = s.2 4 ∧ F 4 = s.2 5 := ⟨fun i => if i = 1 then s.2 2 else if i = 2 then s.2 3 else if i = 3 then s.2 4 else s.2 5, rfl, rfl, rfl, rfl⟩
  have hex : ∀ j, ∃ p : Nat × Nat × Nat × Nat, j < m → p.1 < 65536 ∧ s.2 8 j = nI p.1 ∧ p.2.1 ≤ 16 ∧ s.2 10 j = nI p.2.1 ∧ p.2.2.1 ≤ 3 ∧ p.2.2.2 ≤ 255 ∧ (∀ s' : QSt, s'.1 6 = nI c → (∀ q, q < c → s'.2 2 q = F 1 q ∧ s'.2 3 q = F 2 q) → ∃ r, xKinds_rangeOf N (nI p.1) s' = some r ∧ ((r = -1 ∧ p.2.2.1 = 0 ∧ p.2.2.2 = 0) ∨ ∃ q, q < c ∧ r = nI q ∧ F 3 q = nI p.2.2.1 ∧ F 4 q = nI p.2.2.2)) ∧ ∀ t' : QSt, kG c F t' → xGlyphPositionsModel_kindOfGlyph N (nI p.1) t' = some (nI p.2.2.1) ∧ ∀ flag, flag < 65536 → xGlyphPositionsModel_isPassed N (nI flag) (nI p.1) t' = some (bI (k_ps flag p.2.2.1 p.2.2.2)) := by
    intro j
    by_cases hj : j < m
    · obtain ⟨-, -, -, ⟨g, g1, g2⟩, ⟨p, p1, p2⟩⟩ := o4 j hj
      obtain ⟨kd, mk, a1, a2, a3, a4⟩ := k_glyph (N := N) k1 (F 1) (F 2) (F 3) (F 4) (fun q hq => by rw [F3]; exact (k4 q hq).2.2.2.2.1) (fun q hq => by rw [F4]; exact (k4 q hq).2.2.2.2.2) (nI g) hN
      exact ⟨(g, p, kd, mk), fun _ => ⟨g1, g2, p1, p2, a1, a2, a3, fun t' ht => a4 t' ht.1 ht.2⟩⟩
    · exact ⟨(0, 0, 0, 0), fun h => absurd h hj⟩
  obtain ⟨E, hE⟩ := Classical.axiomOfChoice hex
  obtain ⟨D, D0, D1, D2, D3⟩ : ∃ D : Nat → Nat → Nat, (∀ j, D 0 j = (E j).1) ∧ (∀ j, D 1 j = (E j).2.1) ∧ (∀ j, D 2 j = (E j).2.2.1) ∧ ∀ j, D 3 j = (E j).2.2.2 := ⟨fun i j => if i = 0 then (E j).1 else if i = 1 then (E j).2.1 else if i = 2 then (E j).2.2.1 else (E j).2.2.2, fun _ => rfl, fun _ => rfl, fun _ => rfl, fun _ => rfl⟩
  have hG : gl N m c F D := by
    refine ⟨hm, fun j hj => ?_⟩
    obtain ⟨e1, e2, e3, e4, e5, e6, e7, e8⟩ := hE j hj
    rw [D0, D1, D2, D3]
    exact ⟨e1, e3, e5, e6, e8⟩
  -- the class's start
  obtain ⟨s1, a1, a2, a3, a4⟩ := c_rstart (N := N) hm m 0 N (q_ps s 9 (s.1 8)) (by omega) (by omega) (by rw [p_s1, if_pos rfl, o2]) (fun j hj => by omega)
  have a1' : xRun_start N s = some s1 := a1
  have s1s : ∀ j, j ≠ 9 → s1.1 j = s.1 j := fun j hj => by rw [a2, p_s1, if_neg hj]
  have s19 : s1.1 9 = nI m := by rw [a2, p_s1, if_pos rfl, o2]
  have s1a : ∀ j, (j < 12 ∨ 16 < j) → s1.2 j = s.2 j := fun j hj => a3 j hj
  obtain ⟨s2, b1, b2, b3, b4⟩ := c_sstart (N := N) (m := m) (c := c) (F := F) (D := D) hm (fun j hj => by
    obtain ⟨e1, e2, e3, e4, e5, e6, e7, e8⟩ := hE j hj
    rw [D0, D2, D3]
    exact ⟨e5, e6, e7⟩) k1 m 0 N (-1) (q_ps s1 10 x1) (by omega) (by omega) (by rw [p_s1, if_neg (by decide), s19]) (by rw [p_s1, if_neg (by decide), s1s 6 (by decide), k2]) (fun q hq => by
    rw [p_s2, s1a 2 (by omega), s1a 3 (by omega), s1a 4 (by omega), s1a 5 (by omega), F1, F2, F3, F4]
    exact ⟨rfl, rfl, rfl, rfl⟩) (fun j hj => by rw [p_s2, s1a 8 (by omega), D0]; exact (hE j hj).2.1) (Or.inl ⟨rfl, fun j hj => by omega⟩) (fun j hj => by omega)
  have b1' : xSetter_start N x1 s1 = some s2 := by
    unfold xSetter_start
    rw [show q_isb x1 = true from decide_eq_true hx, q_grd_tt, q_lt]
    exact b1
  have s2s : ∀ j, j ≠ 9 → j ≠ 10 → s2.1 j = s.1 j := fun j h9 h10 => by rw [b2, p_s1, if_neg h10, s1s j h9]
  have s29 : s2.1 9 = nI m := by rw [b2, p_s1, if_neg (by decide), s19]
  have s210 : s2.1 10 = x1 := by rw [b2, p_s1, if_pos rfl]
  have s2a : ∀ j, (j < 12 ∨ (16 < j ∧ j < 20) ∨ 22 < j) → s2.2 j = s.2 j := fun j hj => by rw [b3 j (by omega), p_s2, s1a j (by omega)]
  have s2f : fH n u s2 := ⟨hf.1, by rw [s2s 4 (by decide) (by decide)]; exact hf.2.1, fun a ha => by rw [s2a 1 (by omega)]; exact hf.2.2.1 a ha, hf.2.2.2⟩
  -- the reference's start
  generalize ht1 : q_ps (q_ps t 11 0) 22 x1 = t1
  have t1s : ∀ j, j ≠ 11 → j ≠ 22 → t1.1 j = t.1 j := fun j j1 j2 => by rw [← ht1, p_s1, if_neg j2, p_s1, if_neg j1]
  have t1a : t1.2 = t.2 := by rw [← ht1, p_s2, p_s2]
  have t122 : t1.1 22 = x1 := by rw [← ht1, p_s1, if_pos rfl]
  have t111 : t1.1 11 = 0 := by rw [← ht1, p_s1, if_neg (by decide), p_s1, if_pos rfl]
  have t1g : gH n u t1 := ⟨hgm.1, fun a ha => by rw [t1a]; exact hgm.2 a ha⟩
  -- both choose
  obtain ⟨s3, t3, c1, c2, c3, c4, c5⟩ := w_choose (N := N) (x1 := s.1 1) (x2 := s.1 2) hH hS hFe hcnt s2f t1g (by
    rw [s2s 7 (by decide) (by decide), t1s 19 (by decide) (by decide), s2a 6 (by omega), s2a 7 (by omega), t1a]
    exact hT) (by rw [t1s 17 (by decide) (by decide)]; exact h17) (by rw [t1s 18 (by decide) (by decide)]; exact h18) hN
  generalize ht4 : q_ps t3 21 (t3.1 20) = t4
  have t420 : t4.1 20 = nI m := by rw [← ht4, p_s1, if_neg (by decide), c5.1, t1s 20 (by decide) (by decide), o3]
  have t421 : t4.1 21 = nI m := by rw [← ht4, p_s1, if_pos rfl, c5.1, t1s 20 (by decide) (by decide), o3]
  have t4s : ∀ j, j ≠ 11 → j ≠ 21 → j ≠ 22 → t4.1 j = t.1 j := fun j j1 j2 j3 => by rw [← ht4, p_s1, if_neg j2, c5.1, t1s j j1 j3]
  have t4a : ∀ j, j ≠ 37 → t4.2 j = t.2 j := fun j hj => by rw [← ht4, p_s2, c5.2 j hj, t1a]
  obtain ⟨t5, d1, d2, d3, d4⟩ := m_start40 (N := N) hm m 0 N t4 (by omega) (by omega) t420 (fun j hj => by omega)
  have t5g : gH n u t5 := ⟨hgm.1, fun a ha => by rw [d3 27 (by omega), t4a 27 (by decide)]; exact hgm.2 a ha⟩
  have s3s : ∀ j, s3.1 j = s2.1 j := fun j => by rw [c4.1]
  -- the relation
  have w0 : wB n m c u F D x1 s3 t5 := by
    refine ⟨⟨s2f.to1 c4, by rw [s3s, s29], by rw [s3s, s210], fun j hj => ?_⟩, ⟨t5g, ⟨by rw [d2, t4s 16 (by decide) (by decide) (by decide), k3], fun q hq => ?_⟩, by rw [d2, t421], ?_, fun j hj => ?_⟩, fun j hj => ?_⟩
    · obtain ⟨e1, e2, e3, e4, e5, e6, e7, e8⟩ := hE j hj
      obtain ⟨f1, f2, f3⟩ := b4 j hj
      rw [c4.2 8 (by decide), c4.2 10 (by decide), c4.2 20 (by decide), c4.2 21 (by decide), c4.2 22 (by decide), s2a 8 (by omega), s2a 10 (by omega), D0, D1]
      exact ⟨e2, e4, f1, f2, f3⟩
    · rw [d3 28 (by omega), d3 29 (by omega), d3 30 (by omega), d3 31 (by omega), t4a 28 (by decide), t4a 29 (by decide), t4a 30 (by decide), t4a 31 (by decide), F1, F2, F3, F4]
      obtain ⟨q1, q2, q3, q4, -⟩ := k4 q hq
      exact ⟨q1, q2, q3, q4⟩
    · rw [d2, ← ht4, p_s1, if_neg (by decide), c5.1, t122]
    · obtain ⟨e1, e2, e3, e4, -⟩ := hE j hj
      obtain ⟨f1, f2, f3, -⟩ := d4 j hj
      obtain ⟨g1, g2, g3, -⟩ := o4 j hj
      rw [f1, f3, t4a 34 (by decide), t4a 36 (by decide), g1, g3, D0, D1]
      exact ⟨e2, e4⟩
    · obtain ⟨f1, f2, f3, f4, f5, f6, f7⟩ := d4 j hj
      obtain ⟨g1, g2, g3, -⟩ := o4 j hj
      obtain ⟨q1, q2, q3, q4, q5⟩ := a4 j hj
      have s3r : ∀ i, 12 ≤ i → i ≤ 16 → s3.2 i = s1.2 i := fun i i1 i2 => by rw [c4.2 i (by omega), b3 i (by omega), p_s2]
      unfold r1 hg
      rw [s3r 12 (by omega) (by omega), s3r 13 (by omega) (by omega), s3r 14 (by omega) (by omega), s3r 15 (by omega) (by omega), s3r 16 (by omega) (by omega), f2, f4, f5, f6, f7, q1, q2, q3, q4, q5, t4a 35 (by decide), g2]
      exact ⟨rfl, rfl, rfl, rfl, rfl, Or.inl rfl⟩
  obtain ⟨s6, t6, e1, e2, e3, e4, e5⟩ := w_all (N := N) hG hh hL x1 hN (u (u 8).val).val 0 N N s3 t5 (by omega) (by omega) (by omega) w0 (fun l hl => by
    rw [d3 37 (by omega), ← ht4, p_s2, (c3.1 l hl).2]) c3.2
  obtain ⟨s7, t7, g1, g2, g3⟩ := w_finish (N := N) (bk := x1) hm hN m 0 N N s6 t6 (by omega) (by omega) (by omega) e3.1.2.1 e3.2.1.2.2.1 e3.2.1.2.2.2.1 e3.2.2
  have t6s : t6.1 = t4.1 := by rw [e5.1, d2]
  refine ⟨m, s7, t7, hm, ?_, ?_, ?_, ?_, ?_, fun j hj => ?_, fun j j1 j2 => ?_, fun j hj => ?_, fun j j1 j2 j3 => ?_, fun j hj => ?_⟩
  · unfold xGlyphPositions_set
    rw [if_neg h0, a1', q_bv_s, b1', q_bv_s, s2s 1 (by decide) (by decide), s2s 2 (by decide) (by decide), c1, q_bv_s]
    have e1' : xGlyphPositions_set_53 N x1 N 0 s3 = _ := e1
    have g1' : xRun_finish N x1 s6 = some s7 := g1
    rw [e1', g1', q_bv_s, g3.2.1.1, e3.1.2.1]
  · unfold xGlyphPositionsModel_set xGlyphPositionsModel_set_13 xGlyphPositionsModel_refused
    rw [if_neg h13, q_lt, if_pos (by decide), q_bm_s, if_pos rfl, show q_isb x1 = true from decide_eq_true hx, q_grd_tt, q_lt, ht1, c2, q_bv_s, q_lt, ht4]
    have d1' : xGlyphPositionsModel_set_40 N N 0 t4 = _ := d1
    have e2' : xGlyphPositionsModel_set_131 N (nI (u (u 8).val).val) N 0 t5 = _ := e2
    have h82 : (u 8).val + 2 ≤ n := hL.1.1
    rw [d1', il8, g_f16 t5g (by omega), q_bn_s, g_f16 t5g h82, q_bn_s, e2']
    exact g2
  · rw [g3.2.1.1, e3.1.2.1]
  · rw [g3.2.2.1, e3.2.1.2.2.1]
  · rw [g3.2.2.1, t6s, ← ht4, p_s1, if_neg (by decide), c5.1, t111]
  · obtain ⟨q1, q2, q3, q4, q5, -⟩ := g3.1 j hj
    exact ⟨q1, q2, q3, q4, q5⟩
  · rw [g3.2.1.1, e4.1, s3s, s2s j j1 j2]
  · rw [g3.2.1.2 j (by omega), e4.2 j (by omega), c4.2 j (by omega), s2a j (by omega)]
  · rw [g3.2.2.1, t6s, t4s j j1 j2 j3]
  · rw [g3.2.2.2 j (by omega), e5.2 j (by omega), d3 j (by omega), t4a j (by omega)]
end PSC
