section POp3
variable {V : Nat → (Nat → Int32) → Prop} {k N : Nat} {st : QSt}
def k_ok (a b c d : Int32) : Prop := ¬ a < 0 ∧ ¬ 65535 < a ∧ ¬ b < 0 ∧ ¬ 65535 < b ∧ a ≤ b ∧ ¬ c < 0 ∧ ¬ 3 < c ∧ ¬ d < 0 ∧ d ≤ 255
theorem k_bad {a b c d : Int32} (h : ¬ k_ok a b c d) (st : QSt) : xGlyphPositions_kind a b c d st = none ∧ xGlyphPositions_kind_t a b c d st = some 2 := by
  unfold xGlyphPositions_kind xGlyphPositions_kind_t xGlyphPositions_isU16 xGlyphPositions_kind_19 xGlyphPositions_kind_t_19 xGlyphPositions_kind_51 xGlyphPositions_kind_t_51
  by_cases h1 : a < 0
  · simp [h1, q_bn]
  by_cases h2 : 65535 < a
  · simp [h1, h2, q_bn]
  by_cases h3 : b < 0
  · simp [h1, h2, h3, q_bn]
  by_cases h4 : 65535 < b
  · simp [h1, h2, h3, h4, q_bn]
  by_cases h5 : a ≤ b
  rotate_left
  · simp [h1, h2, h3, h4, h5, q_bn]
  by_cases h6 : c < 0
  · simp [h1, h2, h3, h4, h5, h6, q_bn]
  by_cases h7 : 3 < c
  · simp [h1, h2, h3, h4, h5, h6, h7, q_bn]
  by_cases h8 : d < 0
  · simp [h1, h2, h3, h4, h5, h6, h7, h8, q_bn]
  by_cases h9 : d ≤ 255
  rotate_left
  · simp [h1, h2, h3, h4, h5, h6, h7, h8, h9, q_bn]
  exact absurd ⟨h1, h2, h3, h4, h5, h6, h7, h8, h9⟩ h
theorem k_okm {a b c d : Int32} : k_ok a b c d ↔ (¬ a < 0 ∧ ¬ 65535 < b ∧ ¬ b < a ∧ ¬ c < 0 ∧ ¬ 3 < c ∧ ¬ d < 0 ∧ ¬ 255 < d) := by
  unfold k_ok
  simp only [Int32.lt_iff_toInt_lt, Int32.le_iff_toInt_le, show (0 : Int32).toInt = 0 from by decide, show (65535 : Int32).toInt = 65535 from by decide, show (3 : Int32).toInt = 3 from by decide, show (255 : Int32).toInt = 255 from by decide]
  omega
theorem k_badm {a b c d : Int32} (h : ¬ k_ok a b c d) (st : QSt) : xGlyphPositionsModel_kind a b c d st = some (q_ps st 11 1) := by
  rw [k_okm] at h
  have e : xGlyphPositionsModel_kind_41 a b c d st = some (q_ps st 11 1) := by
    unfold xGlyphPositionsModel_kind_41 xGlyphPositionsModel_kind_42 xGlyphPositionsModel_kind_69 xGlyphPositionsModel_refused
    simp [q_bm, q_lt]
  unfold xGlyphPositionsModel_kind
  by_cases h1 : a < 0
  · rw [if_pos h1]; exact e
  rw [if_neg h1]
  by_cases h2 : 65535 < b
  · rw [if_pos h2]; exact e
  rw [if_neg h2]
  by_cases h3 : b < a
  · rw [if_pos h3]; exact e
  rw [if_neg h3]
  by_cases h4 : c < 0
  · rw [if_pos h4]; exact e
  rw [if_neg h4]
  by_cases h5 : 3 < c
  · rw [if_pos h5]; exact e
  rw [if_neg h5]
  by_cases h6 : d < 0
  · rw [if_pos h6]; exact e
  rw [if_neg h6]
  by_cases h7 : 255 < d
  · rw [if_pos h7]; exact e
  exact absurd ⟨h1, h2, h3, h4, h5, h6, h7⟩ h
theorem p_kind (h : p_I V k st) (a b c d : Int32) : p_wv (p_I V (k + 1)) (xw_kind a b c d st) (xGlyphPositionsModel_kind a b c d) := by
  by_cases hok : k_ok a b c d
  rotate_left
  · have hb := k_bad hok st
    refine ⟨1, st, q_ps st 11 1, ?_, k_badm hok st, by simp [p_s1], h.up.fault0 1⟩
    simp only [xw_kind, hb.1, hb.2, q_bn]
    simp
  have hokm := k_okm.mp hok
  obtain ⟨a1, a2, a3, a4, a5, a6, a7, a8, a9⟩ := hok
  obtain ⟨b1, b2, b3, b4, b5, b6, b7⟩ := hokm
  obtain ⟨h1, h2, h3, ⟨n, g1, g2, g3, g4⟩, h5, h6, h7⟩ := h.up
  obtain ⟨qc, hqc, rfl⟩ := nI_of2 (x := c) (M := 3) (n := 3) (by decide) a6 (by simpa [Int32.not_lt] using a7)
  obtain ⟨qd, hqd, rfl⟩ := nI_of2 (x := d) (M := 255) (n := 255) (by decide) a8 a9
  have ec : ∀ s : QSt, xGlyphPositions_kind a b (nI qc) (nI qd) s = q_bm (xKinds_tell a b (nI qc) (nI qd) s) (fun r3 sr3 => if r3 = 0 then none else some sr3) := by
    intro s
    simp only [xGlyphPositions_kind, xGlyphPositions_isU16, if_neg a1, if_neg a2, if_neg a3, if_neg a4, if_pos a5, if_neg a6, if_neg a7, if_neg a8, if_pos a9, q_bn_s]
    simp
  have et : ∀ s : QSt, xGlyphPositions_kind_t a b (nI qc) (nI qd) s = q_bn (xKinds_tell_p a b (nI qc) (nI qd) s) (fun r3 => if r3 = 0 then some 3 else none) := by
    intro s
    simp only [xGlyphPositions_kind_t, xGlyphPositions_isU16, if_neg a1, if_neg a2, if_neg a3, if_neg a4, if_pos a5, if_neg a6, if_neg a7, if_neg a8, if_pos a9, q_bn_s]
    simp
  have em : ∀ s : QSt, xGlyphPositionsModel_kind a b (nI qc) (nI qd) s = xGlyphPositionsModel_kind_42 a b (nI qc) (nI qd) 1 s := by
    intro s
    simp only [xGlyphPositionsModel_kind, if_neg b1, if_neg b2, if_neg b3, if_neg b4, if_neg b5, if_neg b6, if_neg b7]
  by_cases hn : n = 256
  · subst hn
    refine ⟨2, st, q_ps st 11 2, ?_, ?_, by simp [p_s1], h.up.fault0 2⟩
    · have e0 : ¬ nI 256 < 256 := by decide
      simp only [xw_kind, ec, et, xKinds_tell, xKinds_tell_p, g2, if_neg e0, q_bn, q_bm]
      simp
    · have e0 : nI 256 = 256 := rfl
      rw [em]
      simp only [xGlyphPositionsModel_kind_42, xGlyphPositionsModel_kind_69, xGlyphPositionsModel_refused, g3, e0, q_lt, q_bm]
      simp
  · have hlt : nI n < 256 := by rw [il256]; exact nI_lt (by omega) (by omega)
    have hne : ¬ nI n = 256 := by rw [il256, nI_eq (by omega) (by omega)]; exact hn
    have hgu : q_vpb (nI n) 256 = true := decide_eq_true (nI_in (by omega) (by omega))
    have hcl : (nI n).toNatClampNeg = n := nI_clamp (by omega)
    refine ⟨0, q_ps (q_pa (q_pa (q_pa (q_pa st 2 n a) 3 n b) 4 n (nI qc)) 5 n (nI qd)) 6 (nI (n + 1)), q_ps (q_pa (q_pa (q_pa (q_pa (q_ps (q_ps (q_pa (q_pa (q_pa (q_pa st 2 n a) 3 n b) 4 n (nI qc)) 5 n (nI qd)) 6 (nI (n + 1))) 11 0) 28 n a) 29 n b) 30 n (nI qc)) 31 n (nI qd)) 16 (nI (n + 1)), ?_, ?_, ?_, ?_⟩
    · simp only [xw_kind, ec, xKinds_tell, g2, if_pos hlt, hgu, hcl, q_grd_tt, q_lt, q_bm, p_a1, nI_1]
      simp
    · rw [em]
      simp only [xGlyphPositionsModel_kind_42, xGlyphPositionsModel_kind_69, xGlyphPositionsModel_refused, q_lt, q_bm]
      simp [p_s1, p_a1, g3, hne, hgu, hcl, q_grd_tt, nI_1]
    · simp [p_s1, p_a1]
    · simp only [p_I, p_s1, p_s2, p_a1, p_a2]
      refine ⟨h1, h2, h3, ⟨n + 1, by omega, rfl, rfl, fun j hj => ?_⟩, h5, h6, h7⟩
      by_cases hjn : j = n
      · subst hjn
        simp [p_upd]
        exact ⟨⟨qc, hqc, rfl⟩, qd, hqd, rfl⟩
      · have := g4 j (by omega)
        simp [p_upd, hjn]
        exact this
def a_ok (a b c : Int32) : Prop := ¬ a < 0 ∧ ¬ 65535 < a ∧ ¬ b < 0 ∧ ¬ 65535 < b ∧ ¬ c < 0 ∧ c ≤ 16
theorem a_bad {a b c : Int32} (h : ¬ a_ok a b c) (st : QSt) : xGlyphPositions_add a b c st = none ∧ xGlyphPositions_add_t a b c st = some 2 ∧ xGlyphPositionsModel_add a b c st = some (0, q_ps st 11 1) := by
  have e : xGlyphPositionsModel_add_34 a b c st = some (0, q_ps st 11 1) := by
    unfold xGlyphPositionsModel_add_34 xGlyphPositionsModel_add_35 xGlyphPositionsModel_add_62 xGlyphPositionsModel_refused
    simp [q_bm, q_lt]
  unfold xGlyphPositions_add xGlyphPositions_add_t xGlyphPositions_isU16 xGlyphPositions_add_24 xGlyphPositions_add_t_24 xGlyphPositionsModel_add
  rw [e]
  by_cases h1 : a < 0
  · simp [h1, q_bn]
  by_cases h2 : 65535 < a
  · simp [h1, h2, q_bn]
  by_cases h3 : b < 0
  · simp [h1, h2, h3, q_bn]
  by_cases h4 : 65535 < b
  · simp [h1, h2, h3, h4, q_bn]
  by_cases h5 : c < 0
  · simp [h1, h2, h3, h4, h5, q_bn]
  by_cases h6 : c ≤ 16
  · exact absurd ⟨h1, h2, h3, h4, h5, h6⟩ h
  · have h6' : 16 < c := by simpa [Int32.not_le] using h6
    simp [h1, h2, h3, h4, h5, h6, h6', q_bn]
theorem p_add (h : p_I V k st) (hk : k < 512) (a b c : Int32) : p_w (p_I V (k + 1)) (xw_add a b c st) (xGlyphPositionsModel_add a b c) := by
  by_cases hok : a_ok a b c
  rotate_left
  · have hb := a_bad hok st
    refine ⟨1, 0, st, q_ps st 11 1, ?_, hb.2.2, by simp [p_s1], fun hc => absurd hc (by decide), h.up.fault0 1⟩
    simp only [xw_add, hb.1, hb.2.1, q_bn]
    simp
  obtain ⟨a1, a2, a3, a4, a5, a6⟩ := hok
  have a6' : ¬ 16 < c := by simpa [Int32.not_lt] using a6
  have hup := h.up
  obtain ⟨-, -, -, -, -, ⟨n, g1, g2, g3, g4⟩, -⟩ := h
  obtain ⟨h1, h2, h3, h4, h5, -, h7⟩ := hup
  obtain ⟨qa, hqa, rfl⟩ := nI_of2 (x := a) (M := 65535) (n := 65535) (by decide) a1 (by simpa [Int32.not_lt] using a2)
  obtain ⟨qc, hqc, rfl⟩ := nI_of2 (x := c) (M := 16) (n := 16) (by decide) a5 a6
  have hlt : nI n < 800 := by rw [show (800 : Int32) = nI 800 from rfl]; exact nI_lt (by omega) (by omega)
  have hne : ¬ nI n = 800 := by rw [show (800 : Int32) = nI 800 from rfl, nI_eq (by omega) (by omega)]; omega
  have hgu : q_vpb (nI n) 800 = true := decide_eq_true (nI_in (by omega) (by omega))
  have hcl : (nI n).toNatClampNeg = n := nI_clamp (by omega)
  refine ⟨0, nI (n + 1), q_pa (q_ps (q_pa (q_pa (q_pa st 8 n (nI qa)) 9 n b) 10 n (nI qc)) 8 (nI (n + 1))) 48 0 (nI (n + 1)), q_ps (q_pa (q_pa (q_pa (q_ps (q_pa (q_ps (q_pa (q_pa (q_pa st 8 n (nI qa)) 9 n b) 10 n (nI qc)) 8 (nI (n + 1))) 48 0 (nI (n + 1))) 11 0) 34 n (nI qa)) 35 n b) 36 n (nI qc)) 20 (nI (n + 1)), ?_, ?_, ?_, ?_, ?_⟩
  · simp only [xw_add, xGlyphPositions_add, xGlyphPositions_isU16, if_neg a1, if_neg a2, if_neg a3, if_neg a4, if_neg a5, if_pos a6, q_bn_s, xTold_append, g2, if_pos hlt, hgu, hcl, q_grd_tt, q_lt, q_bm, p_a1, nI_1]
    simp [p_s1]
  · simp only [xGlyphPositionsModel_add, if_neg a1, if_neg a2, if_neg a3, if_neg a4, if_neg a5, if_neg a6', xGlyphPositionsModel_add_35, xGlyphPositionsModel_add_62, xGlyphPositionsModel_refused, q_lt, q_bm]
    simp [p_s1, p_a1, g3, hne, hgu, hcl, q_grd_tt, nI_1]
  · simp [p_s1, p_a1]
  · intro _; simp [p_s2, p_a2, p_upd]
  · simp only [p_I, p_s1, p_s2, p_a1, p_a2]
    refine ⟨h1, h2, h3, h4, h5, ⟨n + 1, by omega, rfl, rfl, fun j hj => ?_⟩, h7⟩
    by_cases hjn : j = n
    · subst hjn
      simp [p_upd]
      exact ⟨⟨qa, by omega, rfl⟩, qc, hqc, rfl⟩
    · have := g4 j (by omega)
      simp [p_upd, hjn]
      exact this
theorem r_wid {n : Nat} (hn : n ≤ 512) {s st : QSt} (hs : ∀ j, j < n → s.2 40 j = st.2 12 j) {x1 x2 : Int32} {m : Nat} (hm : m < n) (hx1 : x1 = nI m) : ∀ (d i f f' : Nat) (x : Int32), i + d = m → d < f → d < f' → ∃ y : Int32, xRun_widthsBefore_4 N st x1 f x (nI i) = some y ∧ xGlyphPositionsModel_place_51 N x1 x2 f' x (nI i) s = xGlyphPositionsModel_place_51 N x1 x2 1 y (nI m) s := by
  subst hx1
  intro d
  induction d with
  | zero =>
    intro i f f' x hi hf hf'
    obtain ⟨f, rfl⟩ : ∃ g, f = g + 1 := ⟨f - 1, by omega⟩
    obtain ⟨f', rfl⟩ : ∃ g, f' = g + 1 := ⟨f' - 1, by omega⟩
    have e : i = m := by omega
    subst e
    refine ⟨x, ?_, ?_⟩
    · rw [xRun_widthsBefore_4, if_pos (nI_le (by omega) (by omega))]
    · rw [xGlyphPositionsModel_place_51, xGlyphPositionsModel_place_51, if_pos (nI_le (by omega) (by omega)), if_pos (nI_le (by omega) (by omega))]
  | succ d ih =>
    intro i f f' x hi hf hf'
    obtain ⟨f, rfl⟩ : ∃ g, f = g + 1 := ⟨f - 1, by omega⟩
    obtain ⟨f', rfl⟩ : ∃ g, f' = g + 1 := ⟨f' - 1, by omega⟩
    have hv : q_vpb (nI i) 800 = true := decide_eq_true (nI_in (by omega) (by omega))
    obtain ⟨y, h1, h2⟩ := ih (i + 1) f f' (x + st.2 12 i) (by omega) (by omega) (by omega)
    refine ⟨y, ?_, ?_⟩
    · rw [xRun_widthsBefore_4, if_neg (nI_ge (by omega) (by omega)), hv, q_grd_tt, q_lt, q_lt, nI_clamp (by omega), nI_1]
      exact h1
    · rw [xGlyphPositionsModel_place_51, if_neg (nI_ge (by omega) (by omega)), hv, q_grd_tt, q_lt, q_lt, nI_clamp (by omega), nI_1, hs i (by omega)]
      exact h2
theorem p_place (h : p_I V k st) (hN : 70000 < N) (a b : Int32) : p_w (p_I V (k + 1)) (xw_place N a b st) (xGlyphPositionsModel_place N a b) := by
  have hup := h.up
  obtain ⟨-, -, -, -, -, -, ⟨n, g1, g2, g3, g4⟩⟩ := h
  have bad : xGlyphPositions_place N a b st = none → xGlyphPositions_place_t N a b st = some 1 → xGlyphPositionsModel_place N a b st = xGlyphPositionsModel_place_25 N a b st → p_w (p_I V (k + 1)) (xw_place N a b st) (xGlyphPositionsModel_place N a b) := by
    intro e1 e2 e3
    refine ⟨1, 0, st, q_ps st 11 1, ?_, ?_, by simp [p_s1], fun hc => absurd hc (by decide), hup.fault0 1⟩
    · simp only [xw_place, e1, e2, q_bn]
      simp
    · rw [e3]
      simp [xGlyphPositionsModel_place_25, xGlyphPositionsModel_place_26, xGlyphPositionsModel_place_37, xGlyphPositionsModel_refused, q_lt, q_bm]
  by_cases ha : a < 0
  · exact bad (by simp [xGlyphPositions_place, xGlyphPositions_place_15, ha]) (by simp [xGlyphPositions_place_t, xGlyphPositions_place_t_15, ha]) (by simp [xGlyphPositionsModel_place, ha])
  obtain ⟨m, hm, rfl⟩ := nI_of ha
  by_cases hmn : n ≤ m
  · have e1 : ¬ nI m < nI n := nI_nlt hmn hm
    have e2 : nI n ≤ nI m := nI_le hmn hm
    exact bad (by simp [xGlyphPositions_place, xGlyphPositions_place_15, ha, g2, e1]) (by simp [xGlyphPositions_place_t, xGlyphPositions_place_t_15, ha, g2, e1]) (by simp [xGlyphPositionsModel_place, ha, g3, e2])
  have hmn : m < n := by omega
  have e1 : nI m < nI n := nI_lt hmn (by omega)
  have e2 : ¬ nI n ≤ nI m := nI_ge hmn (by omega)
  have hv : q_vpb (nI m) 800 = true := decide_eq_true (nI_in (by omega) (by omega))
  have hcl : (nI m).toNatClampNeg = m := nI_clamp hm
  obtain ⟨f1, f2, f3, f4, f5⟩ := g4 m hmn
  by_cases hb : ¬ b < 0 ∧ ¬ 5 < b
  rotate_left
  · have n0 : ¬ b = 0 := fun e => hb (by subst e; decide)
    have n1 : ¬ b = 1 := fun e => hb (by subst e; decide)
    have n2 : ¬ b = 2 := fun e => hb (by subst e; decide)
    have n3 : ¬ b = 3 := fun e => hb (by subst e; decide)
    have n4 : ¬ b = 4 := fun e => hb (by subst e; decide)
    have n5 : ¬ b = 5 := fun e => hb (by subst e; decide)
    refine bad ?_ ?_ ?_
    · simp only [xGlyphPositions_place, if_neg ha, g2, if_pos e1, if_neg n0, if_neg n1, if_neg n2, if_neg n3, if_neg n4, if_neg n5]
    · simp only [xGlyphPositions_place_t, if_neg ha, g2, if_pos e1, if_neg n0, if_neg n1, if_neg n2, if_neg n3, if_neg n4, if_neg n5]
    · simp only [xGlyphPositionsModel_place, if_neg ha, g3, if_neg e2]
      by_cases b0 : b < 0
      · rw [if_pos b0]
      · rw [if_neg b0, if_pos (Decidable.not_not.mp (fun g => hb ⟨b0, g⟩))]
  obtain ⟨q, hq, rfl⟩ := nI_of2 (x := b) (M := 5) (n := 5) (by decide) hb.1 (by simpa [Int32.not_lt] using hb.2)
  have go : ∀ (v : Int32), xGlyphPositions_place N (nI m) (nI q) st = some v → (∀ (y : Int32) (s : QSt), (∀ j, s.2 j = (q_pa st 48 0 v).2 j) → xRun_widthsBefore N (nI m) st = some y → xGlyphPositionsModel_place_51 N (nI m) (nI q) 1 y (nI m) s = some (v, s)) → p_w (p_I V (k + 1)) (xw_place N (nI m) (nI q) st) (xGlyphPositionsModel_place N (nI m) (nI q)) := by
    intro v hv1 hv2
    obtain ⟨y, y1, y2⟩ := r_wid (N := N) g1 (s := q_ps (q_pa st 48 0 v) 11 0) (st := st) (fun j hj => by rw [p_s2, p_a2, if_neg (by decide)]; exact (g4 j hj).1) (x2 := nI q) hmn rfl m 0 N N 0 (by omega) (by omega) (by omega)
    refine ⟨0, v, q_pa st 48 0 v, q_ps (q_pa st 48 0 v) 11 0, ?_, ?_, by simp [p_s1], fun _ => by simp [p_s2, p_a2, p_upd], hup.fault 0 v⟩
    · simp only [xw_place, hv1]
    · have e3 : xGlyphPositionsModel_place N (nI m) (nI q) (q_pa st 48 0 v) = xGlyphPositionsModel_place_51 N (nI m) (nI q) N 0 0 (q_ps (q_pa st 48 0 v) 11 0) := by
        simp only [xGlyphPositionsModel_place, if_neg ha, p_a1, g3, if_neg e2, if_neg hb.1, if_neg hb.2, xGlyphPositionsModel_place_26, xGlyphPositionsModel_place_37, xGlyphPositionsModel_refused, q_lt, q_bm]
        simp
      refine e3.trans (Eq.trans ?_ (hv2 y _ (fun j => by rw [p_s2]) y1))
      exact y2
  have hq6 : q = 0 ∨ q = 1 ∨ q = 2 ∨ q = 3 ∨ q = 4 ∨ q = 5 := by omega
  have m1 : ∀ (y : Int32) (s : QSt), xGlyphPositionsModel_place_51 N (nI m) (nI q) 1 y (nI m) s = (if nI q = 0 then some (s.2 40 m, s) else if nI q = 1 then some (s.2 41 m, s) else if nI q = 2 then some (s.2 42 m, s) else if nI q = 3 then some (s.2 43 m, s) else if nI q = 4 then some (y + s.2 42 m, s) else some (s.2 44 m, s)) := by
    intro y s
    rw [xGlyphPositionsModel_place_51, if_pos (nI_le (by omega) (by omega))]
    simp only [hv, hcl, q_grd_tt, q_lt]
  have c1 : xGlyphPositions_place N (nI m) (nI q) st = (if nI q = 0 then some (st.2 12 m) else if nI q = 1 then some (st.2 13 m) else if nI q = 2 then some (st.2 14 m) else if nI q = 3 then some (st.2 15 m) else if nI q = 4 then q_bn (xRun_widthsBefore N (nI m) st) (fun r2 => some (r2 + st.2 14 m)) else if nI q = 5 then some (st.2 16 m) else none) := by
    simp only [xGlyphPositions_place, if_neg ha, g2, if_pos e1, hv, hcl, q_grd_tt, q_lt]
  have ks : ∀ {s : QSt} {v : Int32} {j : Nat}, j ≠ 48 → (∀ j, s.2 j = (q_pa st 48 0 v).2 j) → s.2 j = st.2 j := by
    intro s v j hj hs
    rw [hs, p_a2, if_neg hj]
  rcases hq6 with rfl | rfl | rfl | rfl | rfl | rfl
  · exact go (st.2 12 m) (by rw [c1]; rfl) (fun y s hs _ => by rw [m1, if_pos (by decide), ks (by decide) hs, f1])
  · exact go (st.2 13 m) (by rw [c1]; rfl) (fun y s hs _ => by rw [m1, if_neg (by decide), if_pos (by decide), ks (by decide) hs, f2])
  · exact go (st.2 14 m) (by rw [c1]; rfl) (fun y s hs _ => by rw [m1, if_neg (by decide), if_neg (by decide), if_pos (by decide), ks (by decide) hs, f3])
  · exact go (st.2 15 m) (by rw [c1]; rfl) (fun y s hs _ => by rw [m1, if_neg (by decide), if_neg (by decide), if_neg (by decide), if_pos (by decide), ks (by decide) hs, f4])
  · obtain ⟨y, y1, -⟩ := r_wid (N := N) g1 (s := q_ps st 11 0) (st := st) (fun j hj => by rw [p_s2]; exact (g4 j hj).1) (x2 := nI 4) hmn rfl m 0 N N 0 (by omega) (by omega) (by omega)
    have y1' : xRun_widthsBefore N (nI m) st = some y := y1
    exact go (y + st.2 14 m) (by rw [c1, y1']; rfl) (fun y' s hs hy' => by
      rw [y1'] at hy'
      have : y = y' := Option.some.inj hy'
      subst this
      rw [m1, if_neg (by decide), if_neg (by decide), if_neg (by decide), if_neg (by decide), if_pos (by decide), ks (by decide) hs, f3])
  · exact go (st.2 16 m) (by rw [c1]; rfl) (fun y s hs _ => by rw [m1, if_neg (by decide), if_neg (by decide), if_neg (by decide), if_neg (by decide), if_neg (by decide), ks (by decide) hs, f5])
end POp3
