section PS3
def bf (p : Nat → Prop) (i : Nat) (r : Int32) : Prop := (r = -1 ∧ ∀ j, j < i → p j) ∨ ∃ q, q < i ∧ r = nI q ∧ ¬ p q ∧ ∀ j, q < j → j < i → p j
def nx (p : Nat → Prop) (m c : Nat) (r : Int32) : Prop := (r = -1 ∧ ∀ j, c ≤ j → j < m → p j) ∨ ∃ q, c ≤ q ∧ q < m ∧ r = nI q ∧ ¬ p q ∧ ∀ j, c ≤ j → j < q → p j
theorem bf_s {p : Nat → Prop} {i : Nat} {r : Int32} (h : bf p i r) : (p i → bf p (i + 1) r) ∧ (¬ p i → bf p (i + 1) (nI i)) := by
  constructor
  · intro hp
    rcases h with ⟨h1, h2⟩ | ⟨q, h1, h2, h3, h4⟩
    · exact Or.inl ⟨h1, lt_s h2 hp⟩
    · refine Or.inr ⟨q, by omega, h2, h3, fun j g1 g2 => ?_⟩
      by_cases e : j = i
      · subst e; exact hp
      · exact h4 j g1 (by omega)
  · intro hp
    exact Or.inr ⟨i, by omega, rfl, hp, fun j g1 g2 => by omega⟩
theorem nx_s {p : Nat → Prop} {m c : Nat} {r : Int32} (hc : c < m) (h : nx p m (c + 1) r) : (p c → nx p m c r) ∧ (¬ p c → nx p m c (nI c)) := by
  constructor
  · intro hp
    rcases h with ⟨h1, h2⟩ | ⟨q, h1, h2, h3, h4, h5⟩
    · refine Or.inl ⟨h1, fun j g1 g2 => ?_⟩
      by_cases e : j = c
      · subst e; exact hp
      · exact h2 j (by omega) g2
    · refine Or.inr ⟨q, by omega, h2, h3, h4, fun j g1 g2 => ?_⟩
      by_cases e : j = c
      · subst e; exact hp
      · exact h5 j (by omega) g2
  · intro hp
    exact Or.inr ⟨c, by omega, hc, rfl, hp, fun j g1 g2 => by omega⟩
theorem p_nbI (p : Prop) : vp_nar .boolean (bI p) = bI p := p_nb (bI_01 p)
theorem bI0 (p : Prop) : bI p = 0 ↔ ¬ p := by
  by_cases h : p
  · rw [bI_t h]; simp [h]
  · rw [bI_f h]; simp [h]
variable {n N m : Nat} {u : Nat → Fin 65536} {KD MK : Nat → Nat} {s t : QSt}
theorem w_find2 {ps : Nat → Prop} (hm : m ≤ 512) : ∀ (c f : Nat) (x : Int32) (s : QSt), c ≤ m → c < f → (∀ j, j < m → s.2 23 j = bI (ps j)) → nx ps m c x → (∀ j, c ≤ j → j < m → nx ps m (j + 1) (s.2 25 j)) → ∃ s', xSetter_findPassedOver_77 N f x (nI c - 1) s = some s' ∧ s'.1 = s.1 ∧ (∀ j, j ≠ 25 → s'.2 j = s.2 j) ∧ ∀ j, j < m → nx ps m (j + 1) (s'.2 25 j) := by
  intro c
  induction c with
  | zero =>
    intro f x s _ hf h23 hx h25
    obtain ⟨f, rfl⟩ : ∃ g, f = g + 1 := ⟨f - 1, by omega⟩
    refine ⟨s, ?_, rfl, fun _ _ => rfl, fun j hj => h25 j (by omega) hj⟩
    rw [xSetter_findPassedOver_77, nI_m1, if_pos (by decide)]
  | succ c ih =>
    intro f x s hc hf h23 hx h25
    obtain ⟨f, rfl⟩ : ∃ g, f = g + 1 := ⟨f - 1, by omega⟩
    have hv : q_vpb (nI c) 800 = true := decide_eq_true (nI_in (by omega) (by omega))
    have h23' : ∀ j, j < m → (q_pa s 25 c x).2 23 j = bI (ps j) := fun j hj => by rw [p_a2, if_neg (by decide)]; exact h23 j hj
    have h25' : ∀ j, c ≤ j → j < m → nx ps m (j + 1) ((q_pa s 25 c x).2 25 j) := by
      intro j g1 g2
      rw [p_a2, if_pos rfl, p_upd]
      by_cases e : j = c
      · rw [if_pos e, e]; exact hx
      · rw [if_neg e]; exact h25 j (by omega) g2
    rw [xSetter_findPassedOver_77, nI_pred, if_neg (nI_pos (by omega)), hv, q_grd_tt, q_lt, nI_clamp (by omega), q_grd_tt, q_lt, h23' c (by omega), nI_dn]
    have hxs := nx_s (by omega) hx
    by_cases hp : ps c
    · rw [if_neg (by rw [bI0]; exact fun h => h hp)]
      obtain ⟨s', e1, e2, e3, e4⟩ := ih f x _ (by omega) (by omega) h23' (hxs.1 hp) h25'
      exact ⟨s', e1, e2, fun j hj => by rw [e3 j hj, p_a2, if_neg hj], e4⟩
    · rw [if_pos (by rw [bI0]; exact hp)]
      obtain ⟨s', e1, e2, e3, e4⟩ := ih f (nI c) _ (by omega) (by omega) h23' (hxs.2 hp) h25'
      exact ⟨s', e1, e2, fun j hj => by rw [e3 j hj, p_a2, if_neg hj], e4⟩
theorem w_find {flag : Nat} (hfl : flag < 65536) (hm : m ≤ 512) (h9 : s.1 9 = nI m) (hk : ∀ j, j < m → KD j ≤ 3 ∧ MK j ≤ 255 ∧ s.2 20 j = nI (KD j) ∧ s.2 21 j = nI (MK j)) (hN : 70000 < N) :
    ∃ s', xSetter_findPassedOver N (nI flag) s = some s' ∧ s'.1 = s.1 ∧ (∀ j, j ≠ 23 → j ≠ 24 → j ≠ 25 → s'.2 j = s.2 j) ∧ ∀ j, j < m → s'.2 23 j = bI (k_ps flag (KD j) (MK j)) ∧ bf (fun q => k_ps flag (KD q) (MK q)) j (s'.2 24 j) ∧ nx (fun q => k_ps flag (KD q) (MK q)) m (j + 1) (s'.2 25 j) := by
  have key : ∀ (d i f : Nat) (x : Int32) (z : QSt), i + d = m → d < f → z.1 = s.1 → (∀ j, j ≠ 23 → j ≠ 24 → z.2 j = s.2 j) → bf (fun q => k_ps flag (KD q) (MK q)) i x → (∀ j, j < i → z.2 23 j = bI (k_ps flag (KD j) (MK j)) ∧ bf (fun q => k_ps flag (KD q) (MK q)) j (z.2 24 j)) → ∃ s', xSetter_findPassedOver_4 N (nI flag) f x (nI i) z = some s' ∧ s'.1 = s.1 ∧ (∀ j, j ≠ 23 → j ≠ 24 → j ≠ 25 → s'.2 j = s.2 j) ∧ ∀ j, j < m → s'.2 23 j = bI (k_ps flag (KD j) (MK j)) ∧ bf (fun q => k_ps flag (KD q) (MK q)) j (s'.2 24 j) ∧ nx (fun q => k_ps flag (KD q) (MK q)) m (j + 1) (s'.2 25 j) := by
    intro d
    induction d with
    | zero =>
      intro i f x z hi hf hz1 hz2 hx hz
      obtain ⟨f, rfl⟩ : ∃ g, f = g + 1 := ⟨f - 1, by omega⟩
      have e : i = m := by omega
      subst e
      rw [xSetter_findPassedOver_4, hz1, h9, if_pos (nI_le (by omega) (by omega)), q_lt]
      obtain ⟨s', e1, e2, e3, e4⟩ := w_find2 (N := N) (ps := fun q => k_ps flag (KD q) (MK q)) hm i N (-1) z (by omega) (by omega) (fun j hj => (hz j hj).1) (Or.inl ⟨rfl, fun j g1 g2 => by omega⟩) (fun j g1 g2 => by omega)
      refine ⟨s', e1, by rw [e2, hz1], fun j j1 j2 j3 => by rw [e3 j j3, hz2 j j1 j2], fun j hj => ⟨?_, ?_, e4 j hj⟩⟩
      · rw [e3 23 (by decide)]; exact (hz j hj).1
      · rw [e3 24 (by decide)]; exact (hz j hj).2
    | succ d ih =>
      intro i f x z hi hf hz1 hz2 hx hz
      obtain ⟨f, rfl⟩ : ∃ g, f = g + 1 := ⟨f - 1, by omega⟩
      have hv : q_vpb (nI i) 800 = true := decide_eq_true (nI_in (by omega) (by omega))
      obtain ⟨k1, k2, k3, k4⟩ := hk i (by omega)
      rw [xSetter_findPassedOver_4, hz1, h9, if_neg (nI_ge (by omega) (by omega)), hv, q_grd_tt, q_lt, nI_clamp (by omega), q_grd_tt, q_lt, hz2 20 (by decide) (by decide), hz2 21 (by decide) (by decide), k3, k4, c_pass hfl k1 k2, q_bn_s, q_grd_tt, q_lt, p_nbI, q_grd_tt, q_lt, q_grd_tt, q_lt, nI_1]
      generalize hZ : q_pa (q_pa z 23 i (bI (k_ps flag (KD i) (MK i)))) 24 i x = Z
      have z1 : Z.1 = s.1 := by rw [← hZ]; exact hz1
      have z2 : ∀ j, j ≠ 23 → j ≠ 24 → Z.2 j = s.2 j := by
        intro j j1 j2
        rw [← hZ, p_a2, if_neg j2, p_a2, if_neg j1, hz2 j j1 j2]
      have z23 : ∀ j, Z.2 23 j = if j = i then bI (k_ps flag (KD i) (MK i)) else z.2 23 j := by
        intro j
        rw [← hZ, p_a2, if_neg (by decide), p_a2, if_pos rfl, p_upd]
      have z24 : ∀ j, Z.2 24 j = if j = i then x else z.2 24 j := by
        intro j
        rw [← hZ, p_a2, if_pos rfl, p_upd, p_a2, if_neg (show ¬ (24 : Nat) = 23 by decide)]
      have z3 : ∀ j, j < i + 1 → Z.2 23 j = bI (k_ps flag (KD j) (MK j)) ∧ bf (fun q => k_ps flag (KD q) (MK q)) j (Z.2 24 j) := by
        intro j hj
        rw [z23, z24]
        by_cases e : j = i
        · rw [if_pos e, if_pos e, e]; exact ⟨rfl, hx⟩
        · rw [if_neg e, if_neg e]; exact hz j (by omega)
      have e23 : (if i = i then bI (k_ps flag (KD i) (MK i)) else z.2 23 i) = bI (k_ps flag (KD i) (MK i)) := if_pos rfl
      rw [z23, e23]
      have hxs := bf_s hx
      by_cases hp : k_ps flag (KD i) (MK i)
      · rw [if_neg (by rw [bI0]; exact fun h => h hp)]
        exact ih (i + 1) f x Z (by omega) (by omega) z1 z2 (hxs.1 hp) z3
      · rw [if_pos (by rw [bI0]; exact hp)]
        exact ih (i + 1) f (nI i) Z (by omega) (by omega) z1 z2 (hxs.2 hp) z3
  exact key m 0 N (-1) s (by omega) (by omega) rfl (fun _ _ _ => rfl) (Or.inl ⟨rfl, fun j hj => by omega⟩) (fun j hj => by omega)
/-- the reference's road to the next glyph, and back to the glyph before -/
theorem m_next {flag : Nat} {ps : Nat → Prop} {G : Nat → Nat} (hm : m ≤ 512) (h21 : t.1 21 = nI m) (hg : ∀ j, j < m → t.2 38 j = nI (G j) ∧ xGlyphPositionsModel_isPassed N (nI flag) (nI (G j)) t = some (bI (ps j))) {i : Nat} {r : Int32} (hi : i < m) (hr : nx ps m (i + 1) r) (hN : 70000 < N) : xGlyphPositionsModel_nextOf N (nI flag) (nI i) t = some r := by
  have key : ∀ (d c f : Nat), c + d = m → d < f → nx ps m c r → xGlyphPositionsModel_nextOf_4 N t (nI flag) f (nI c) = some r := by
    intro d
    induction d with
    | zero =>
      intro c f hc hf hr
      obtain ⟨f, rfl⟩ : ∃ g, f = g + 1 := ⟨f - 1, by omega⟩
      rw [xGlyphPositionsModel_nextOf_4, h21, if_pos (nI_le (by omega) (by omega))]
      unfold xGlyphPositionsModel_nextOf_32
      rw [h21, if_pos (nI_le (by omega) (by omega))]
      rcases hr with ⟨h1, -⟩ | ⟨q, h1, h2, -⟩
      · rw [h1]
      · omega
    | succ d ih =>
      intro c f hc hf hr
      obtain ⟨f, rfl⟩ : ∃ g, f = g + 1 := ⟨f - 1, by omega⟩
      rw [xGlyphPositionsModel_nextOf_4, h21, if_neg (nI_ge (by omega) (by omega)), show q_vpb (nI c) 800 = true from decide_eq_true (nI_in (by omega) (by omega)), q_grd_tt, q_lt, nI_clamp (by omega), (hg c (by omega)).1, (hg c (by omega)).2, q_bn_s, nI_1]
      by_cases hp : ps c
      · rw [if_neg (by rw [bI0]; exact fun h => h hp)]
        refine ih (c + 1) f (by omega) (by omega) ?_
        rcases hr with ⟨h1, h2⟩ | ⟨q, h1, h2, h3, h4, h5⟩
        · exact Or.inl ⟨h1, fun j g1 g2 => h2 j (by omega) g2⟩
        · have : q ≠ c := fun e => h4 (e ▸ hp)
          exact Or.inr ⟨q, by omega, h2, h3, h4, fun j g1 g2 => h5 j (by omega) g2⟩
      · rw [if_pos (by rw [bI0]; exact hp)]
        unfold xGlyphPositionsModel_nextOf_32
        rw [h21, if_neg (nI_ge (by omega) (by omega))]
        rcases hr with ⟨h1, h2⟩ | ⟨q, h1, h2, h3, h4, h5⟩
        · exact absurd (h2 c (by omega) (by omega)) hp
        · have : q = c := by
            by_cases e : q = c
            · exact e
            · exact absurd (h5 c (by omega) (by omega)) hp
          rw [h3, this]
  unfold xGlyphPositionsModel_nextOf
  rw [q_lt, nI_1]
  exact key (m - (i + 1)) (i + 1) N (by omega) (by omega) hr
theorem m_base6 {flag : Nat} {ps : Nat → Prop} {G : Nat → Nat} (hm : m ≤ 512) (hg : ∀ j, j < m → t.2 38 j = nI (G j) ∧ xGlyphPositionsModel_isPassed N (nI flag) (nI (G j)) t = some (bI (ps j)) ∧ KD j ≤ 3 ∧ xGlyphPositionsModel_kindOfGlyph N (nI (G j)) t = some (nI (KD j))) {i : Nat} {r : Int32} (hi : i < m) (hr : bf ps i r) (hN : 70000 < N) : (r = -1 → xGlyphPositionsModel_baseOf N 6 (nI flag) (nI i) t = some (-1)) ∧ ∀ q, q < i → r = nI q → xGlyphPositionsModel_baseOf N 6 (nI flag) (nI i) t = some (if KD q = 3 then nI q else -1) := by
  have key : ∀ (c f : Nat), c ≤ m → c < f → bf ps c r → (r = -1 → xGlyphPositionsModel_baseOf_11 N t (nI flag) f (nI c - 1) = some (-1)) ∧ ∀ q, q < m → r = nI q → xGlyphPositionsModel_baseOf_11 N t (nI flag) f (nI c - 1) = some (if KD q = 3 then nI q else -1) := by
    intro c
    induction c with
    | zero =>
      intro f _ hf hb
      obtain ⟨f, rfl⟩ : ∃ g, f = g + 1 := ⟨f - 1, by omega⟩
      rcases hb with ⟨h1, -⟩ | ⟨q, h1, -⟩
      · refine ⟨fun _ => ?_, fun q hq e => ?_⟩
        · rw [xGlyphPositionsModel_baseOf_11, nI_m1, if_pos (by decide)]
          unfold xGlyphPositionsModel_baseOf_37
          rw [if_pos (by decide)]
        · rw [h1] at e
          exact absurd e.symm (c_m1e (by omega))
      · omega
    | succ c ih =>
      intro f hc hf hb
      obtain ⟨f, rfl⟩ : ∃ g, f = g + 1 := ⟨f - 1, by omega⟩
      obtain ⟨g1, g2, g3, g4⟩ := hg c (by omega)
      have hv : q_vpb (nI c) 800 = true := decide_eq_true (nI_in (by omega) (by omega))
      rw [xGlyphPositionsModel_baseOf_11, nI_pred, if_neg (nI_pos (by omega)), hv, q_grd_tt, q_lt, nI_clamp (by omega), g1, g2, q_bn_s, nI_dn]
      by_cases hp : ps c
      · rw [if_neg (by rw [bI0]; exact fun h => h hp)]
        refine ih f (by omega) (by omega) ?_
        rcases hb with ⟨h1, h2⟩ | ⟨q, h1, h2, h3, h4⟩
        · exact Or.inl ⟨h1, fun j hj => h2 j (by omega)⟩
        · have : q ≠ c := fun e => h3 (e ▸ hp)
          exact Or.inr ⟨q, by omega, h2, h3, fun j x1 x2 => h4 j x1 (by omega)⟩
      · rw [if_pos (by rw [bI0]; exact hp)]
        unfold xGlyphPositionsModel_baseOf_37
        rw [if_neg (nI_pos (by omega)), hv, q_grd_tt, q_lt, nI_clamp (by omega), g1, g4, q_bn_s, show (3 : Int32) = nI 3 from rfl]
        simp (disch := omega) only [nI_eq]
        rcases hb with ⟨h1, h2⟩ | ⟨q, h1, h2, h3, h4⟩
        · exact absurd (h2 c (by omega)) hp
        · have hqc : q = c := by
            by_cases e : q = c
            · exact e
            · exact absurd (h4 c (by omega) (by omega)) hp
          refine ⟨fun e => ?_, fun q' hq' e => ?_⟩
          · rw [h2] at e
            exact absurd e (c_m1e (by omega))
          · rw [h2, nI_eq (by omega) (by omega)] at e
            subst e
            subst hqc
            by_cases k3 : KD q = 3
            · rw [if_pos k3, if_pos k3]
            · rw [if_neg k3, if_neg k3]
  unfold xGlyphPositionsModel_baseOf
  rw [q_lt, if_pos rfl]
  have hk := key i N (by omega) (by omega) hr
  exact ⟨hk.1, fun q hq e => hk.2 q (by omega) e⟩
theorem m_base4 {flag x1 : Int32} {G : Nat → Nat} (hm : m ≤ 512) (hx1 : ¬ x1 = 6) (hg : ∀ j, j < m → t.2 38 j = nI (G j) ∧ KD j ≤ 3 ∧ xGlyphPositionsModel_kindOfGlyph N (nI (G j)) t = some (nI (KD j))) {i : Nat} {r : Int32} (hi : i < m) (hr : bf (fun q => KD q = 3) i r) (hN : 70000 < N) : xGlyphPositionsModel_baseOf N x1 flag (nI i) t = some r := by
  have key : ∀ (c f : Nat), c ≤ m → c < f → bf (fun q => KD q = 3) c r → xGlyphPositionsModel_baseOf_64 N t f (nI c - 1) = some r := by
    intro c
    induction c with
    | zero =>
      intro f _ hf hb
      obtain ⟨f, rfl⟩ : ∃ g, f = g + 1 := ⟨f - 1, by omega⟩
      rcases hb with ⟨h1, -⟩ | ⟨q, h1, -⟩
      · rw [xGlyphPositionsModel_baseOf_64, nI_m1, if_pos (by decide), h1]
      · omega
    | succ c ih =>
      intro f hc hf hb
      obtain ⟨f, rfl⟩ : ∃ g, f = g + 1 := ⟨f - 1, by omega⟩
      obtain ⟨g1, g3, g4⟩ := hg c (by omega)
      have hv : q_vpb (nI c) 800 = true := decide_eq_true (nI_in (by omega) (by omega))
      rw [xGlyphPositionsModel_baseOf_64, nI_pred, if_neg (nI_pos (by omega)), hv, q_grd_tt, q_lt, nI_clamp (by omega), g1, g4, q_bn_s, nI_dn, show (3 : Int32) = nI 3 from rfl]
      simp (disch := omega) only [nI_eq]
      by_cases hp : KD c = 3
      · rw [if_pos hp]
        refine ih f (by omega) (by omega) ?_
        rcases hb with ⟨h1, h2⟩ | ⟨q, h1, h2, h3, h4⟩
        · exact Or.inl ⟨h1, fun j hj => h2 j (by omega)⟩
        · have : q ≠ c := fun e => h3 (e ▸ hp)
          exact Or.inr ⟨q, by omega, h2, h3, fun j x1 x2 => h4 j x1 (by omega)⟩
      · rw [if_neg hp]
        rcases hb with ⟨h1, h2⟩ | ⟨q, h1, h2, h3, h4⟩
        · exact absurd (h2 c (by omega)) hp
        · have hqc : q = c := by
            by_cases e : q = c
            · exact e
            · exact absurd (h4 c (by omega) (by omega)) hp
          rw [h2, hqc]
  unfold xGlyphPositionsModel_baseOf
  rw [q_lt, if_neg hx1]
  exact key i N (by omega) (by omega) hr
end PS3
