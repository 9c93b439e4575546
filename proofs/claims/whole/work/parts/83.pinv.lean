section PInv
def p_tab (k : Nat) (a b : Int32) (f g : Nat → Int32) : Prop := ∃ n : Nat, n ≤ 4 * k ∧ a = nI n ∧ b = nI n ∧ (∀ j, j < n → g j = f j &&& 255) ∧ ∀ j, fits .byte (.int (f j)) = true
def p_fnt (V : Nat → (Nat → Int32) → Prop) (ld ld' sz : Int32) (f g : Nat → Int32) : Prop := ld' = ld ∧ (ld = 0 ∨ (ld = 1 ∧ ∃ n : Nat, n ≤ 2048 ∧ sz = nI n ∧ (∀ j, j < n → g j = f j &&& 255) ∧ V n f))
def p_kin (a b : Int32) (f1 f2 f3 f4 g1 g2 g3 g4 : Nat → Int32) : Prop := ∃ n : Nat, n ≤ 256 ∧ a = nI n ∧ b = nI n ∧ ∀ j, j < n → g1 j = f1 j ∧ g2 j = f2 j ∧ g3 j = f3 j ∧ g4 j = f4 j ∧ (∃ q : Nat, q ≤ 3 ∧ f3 j = nI q) ∧ ∃ q : Nat, q ≤ 255 ∧ f4 j = nI q
def p_tag (a b : Int32) (f1 f2 g1 g2 : Nat → Int32) : Prop := ∃ n : Nat, n ≤ 20 ∧ a = nI n ∧ b = nI n ∧ (∀ j, j < n → g1 j = f1 j ∧ g2 j = f2 j ∧ (f2 j = 0 ∨ f2 j = 1)) ∧ ∀ i j, i < n → j < n → f1 i = f1 j → i = j
def p_tol (k : Nat) (a b : Int32) (f1 f2 f3 g1 g2 g3 : Nat → Int32) : Prop := ∃ n : Nat, n ≤ k ∧ a = nI n ∧ b = nI n ∧ ∀ j, j < n → g1 j = f1 j ∧ g2 j = f2 j ∧ g3 j = f3 j ∧ (∃ q : Nat, q < 65536 ∧ f1 j = nI q) ∧ ∃ q : Nat, q ≤ 16 ∧ f3 j = nI q
def p_run (a b : Int32) (f1 f2 f3 f4 f5 g1 g2 g3 g4 g5 : Nat → Int32) : Prop := ∃ n : Nat, n ≤ 512 ∧ a = nI n ∧ b = nI n ∧ ∀ j, j < n → g1 j = f1 j ∧ g2 j = f2 j ∧ g3 j = f3 j ∧ g4 j = f4 j ∧ g5 j = f5 j
/-- behind k calls: the class's half of the state and the reference's half say the same; V is what holds of a table that is loaded -/
def p_I (V : Nat → (Nat → Int32) → Prop) (k : Nat) (st : QSt) : Prop :=
  p_tab k (st.1 3) (st.1 12) (st.2 0) (st.2 26) ∧ p_fnt V (st.1 0) (st.1 13) (st.1 4) (st.2 1) (st.2 27) ∧ (st.1 17 = st.1 1 ∧ st.1 18 = st.1 2) ∧
  p_kin (st.1 6) (st.1 16) (st.2 2) (st.2 3) (st.2 4) (st.2 5) (st.2 28) (st.2 29) (st.2 30) (st.2 31) ∧ p_tag (st.1 7) (st.1 19) (st.2 6) (st.2 7) (st.2 32) (st.2 33) ∧
  p_tol k (st.1 8) (st.1 20) (st.2 8) (st.2 9) (st.2 10) (st.2 34) (st.2 35) (st.2 36) ∧
  p_run (st.1 9) (st.1 21) (st.2 12) (st.2 13) (st.2 14) (st.2 15) (st.2 16) (st.2 40) (st.2 41) (st.2 42) (st.2 43) (st.2 44)
theorem p_tab.up {k : Nat} {a b : Int32} {f g : Nat → Int32} (h : p_tab k a b f g) : p_tab (k + 1) a b f g := by
  obtain ⟨n, h1, h2⟩ := h
  exact ⟨n, by omega, h2⟩
theorem p_tol.up {k : Nat} {a b : Int32} {f1 f2 f3 g1 g2 g3 : Nat → Int32} (h : p_tol k a b f1 f2 f3 g1 g2 g3) : p_tol (k + 1) a b f1 f2 f3 g1 g2 g3 := by
  obtain ⟨n, h1, h2⟩ := h
  exact ⟨n, by omega, h2⟩
theorem p_I.up {V : Nat → (Nat → Int32) → Prop} {k : Nat} {st : QSt} (h : p_I V k st) : p_I V (k + 1) st := ⟨h.1.up, h.2.1, h.2.2.1, h.2.2.2.1, h.2.2.2.2.1, h.2.2.2.2.2.1.up, h.2.2.2.2.2.2⟩
theorem p_s1 (st : QSt) (k : Nat) (v : Int32) (j : Nat) : (q_ps st k v).1 j = if j = k then v else st.1 j := rfl
theorem p_s2 (st : QSt) (k : Nat) (v : Int32) : (q_ps st k v).2 = st.2 := rfl
theorem p_a1 (st : QSt) (k i : Nat) (v : Int32) : (q_pa st k i v).1 = st.1 := rfl
theorem p_a2 (st : QSt) (k i : Nat) (v : Int32) (j : Nat) : (q_pa st k i v).2 j = if j = k then upd (st.2 k) i v else st.2 j := rfl
variable {V : Nat → (Nat → Int32) → Prop} {k N : Nat} {st : QSt}
theorem p_I0 : p_I V 0 q_st0 := by
  refine ⟨⟨0, by omega, rfl, rfl, fun j h => absurd h (by omega), fun j => (by decide : fits .byte (.int 0) = true)⟩, ⟨rfl, Or.inl rfl⟩, ⟨rfl, rfl⟩, ⟨0, by omega, rfl, rfl, fun j h => absurd h (by omega)⟩, ⟨0, by omega, rfl, rfl, fun j h => absurd h (by omega), fun i j h => absurd h (by omega)⟩, ⟨0, by omega, rfl, rfl, fun j h => absurd h (by omega)⟩, ⟨0, by omega, rfl, rfl, fun j h => absurd h (by omega)⟩⟩
theorem p_forget (h : p_I V k st) : p_i (p_I V (k + 1)) (xGlyphPositions_forget st) xGlyphPositionsModel_forget := by
  obtain ⟨h1, h2, h3, ⟨n, g1, g2, g3, g4⟩, h5, h6, h7⟩ := h.up
  refine ⟨nI n, q_ps st 6 0, q_ps (q_ps (q_ps st 6 0) 11 0) 16 0, ?_, ?_, ?_⟩
  · simp only [xGlyphPositions_forget, xKinds_drop, q_lt, q_bm, g2]
  · simp only [xGlyphPositionsModel_forget, q_lt, p_s1, g3]
    simp
  · simp only [p_I, p_s1, p_s2]
    exact ⟨h1, h2, h3, ⟨0, by omega, rfl, rfl, fun j h => absurd h (by omega)⟩, h5, h6, h7⟩
theorem p_clear (h : p_I V k st) : p_i (p_I V (k + 1)) (xGlyphPositions_clear st) xGlyphPositionsModel_clear := by
  obtain ⟨h1, h2, h3, h4, h5, ⟨n, g1, g2, g3, g4⟩, h7⟩ := h.up
  refine ⟨nI n, q_ps st 8 0, q_ps (q_ps (q_ps st 8 0) 11 0) 20 0, ?_, ?_, ?_⟩
  · simp only [xGlyphPositions_clear, xTold_drop, q_lt, q_bm, g2]
  · simp only [xGlyphPositionsModel_clear, q_lt, p_s1, g3]
    simp
  · simp only [p_I, p_s1, p_s2]
    exact ⟨h1, h2, h3, h4, h5, ⟨0, by omega, rfl, rfl, fun j h => absurd h (by omega)⟩, h7⟩
theorem p_choose (h : p_I V k st) (a b : Int32) : p_v (p_I V (k + 1)) (xGlyphPositions_choose a b st) (xGlyphPositionsModel_choose a b) := by
  obtain ⟨h1, h2, h3, h4, h5, h6, h7⟩ := h.up
  refine ⟨q_ps (q_ps st 1 a) 2 b, q_ps (q_ps (q_ps (q_ps (q_ps st 1 a) 2 b) 11 0) 17 a) 18 b, ?_, ?_, ?_⟩
  · simp only [xGlyphPositions_choose, q_lt]
  · simp only [xGlyphPositionsModel_choose, q_lt]
  · simp only [p_I, p_s1, p_s2]
    exact ⟨h1, h2, ⟨rfl, rfl⟩, h4, h5, h6, h7⟩
end PInv
