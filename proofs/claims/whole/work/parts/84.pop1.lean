section POp1
variable {V : Nat → (Nat → Int32) → Prop} {k N : Nat} {st : QSt}
theorem p_upd (f : Nat → Int32) (i : Nat) (v : Int32) (j : Nat) : upd f i v j = if j = i then v else f j := rfl
/-- only the fault and the law's own place were written -/
theorem p_I.fault (h : p_I V k st) (c v : Int32) : p_I V k (q_ps (q_pa st 48 0 v) 11 c) := by
  simp only [p_I, p_s1, p_s2, p_a1, p_a2]
  exact h
theorem p_I.fault0 (h : p_I V k st) (c : Int32) : p_I V k (q_ps st 11 c) := by
  simp only [p_I, p_s1, p_s2]
  exact h
theorem p_cut (h : p_I V k st) (hk : k < 512) (a : Int32) : p_w (p_I V (k + 1)) (xw_cut a st) (xGlyphPositionsModel_cut a) := by
  obtain ⟨⟨n, g1, g2, g3, g4, g5⟩, h2, h3, h4, h5, h6, h7⟩ := h.up
  by_cases ha : (0 : Int32) ≤ a
  · obtain ⟨m, hm, rfl⟩ := nI_of (x := a) (by simpa [Int32.not_lt] using ha)
    have ha0 : ¬ nI m < 0 := nI_pos hm
    by_cases hc : n ≤ m
    · have e1 : (nI n ≤ nI m) := nI_le hc hm
      refine ⟨0, 0, q_pa (q_ps st 3 (nI n - 0)) 48 0 0, q_ps (q_ps (q_pa (q_ps st 3 (nI n - 0)) 48 0 0) 11 0) 12 (nI n - 0), ?_, ?_, ?_, ?_, ?_⟩
      · simp only [xw_cut, xGlyphPositions_cut, xTable_shorten, xTable_shorten_21, xTable_shorten_22, if_pos ha, if_neg ha0, g2, if_pos e1, q_lt, q_bm]
      · simp only [xGlyphPositionsModel_cut, xGlyphPositionsModel_cut_10, xGlyphPositionsModel_cut_36, xGlyphPositionsModel_refused, if_pos ha, q_lt, q_bm, p_s1, p_a1, g3]
        simp [e1, p_s1, p_a1, g3]
      · simp [p_s1]
      · intro _; simp [p_s2, p_a2, p_upd]
      · simp only [p_I, p_s1, p_s2, p_a1, p_a2]
        have e0 : nI n - 0 = nI n := by rw [← nI_0, pk_sub (Nat.zero_le n)]; rfl
        exact ⟨⟨n, g1, e0, e0, g4, g5⟩, h2, h3, h4, h5, h6, h7⟩
    · have hc : m < n := Nat.lt_of_not_le hc
      have e1 : ¬ (nI n ≤ nI m) := nI_ge hc (by omega)
      have e2 : nI n - nI m = nI (n - m) := pk_sub (by omega)
      have e3 : nI n - nI (n - m) = nI m := by rw [pk_sub (by omega)]; congr 1; omega
      refine ⟨0, nI (n - m), q_pa (q_ps st 3 (nI m)) 48 0 (nI (n - m)), q_ps (q_ps (q_pa (q_ps st 3 (nI m)) 48 0 (nI (n - m))) 11 0) 12 (nI m), ?_, ?_, ?_, ?_, ?_⟩
      · simp only [xw_cut, xGlyphPositions_cut, xTable_shorten, xTable_shorten_21, xTable_shorten_22, if_pos ha, if_neg ha0, g2, if_neg e1, q_lt, q_bm, e2, e3]
      · simp only [xGlyphPositionsModel_cut, xGlyphPositionsModel_cut_10, xGlyphPositionsModel_cut_36, xGlyphPositionsModel_refused, if_pos ha, q_lt, q_bm, p_s1, p_a1, g3]
        simp [e1, p_s1, p_a1, g3, e2, e3]
      · simp [p_s1]
      · intro _; simp [p_s2, p_a2, p_upd]
      · simp only [p_I, p_s1, p_s2, p_a1, p_a2]
        exact ⟨⟨m, by omega, rfl, rfl, fun j hj => g4 j (by omega), g5⟩, h2, h3, h4, h5, h6, h7⟩
  · refine ⟨1, 0, st, q_ps st 11 1, ?_, ?_, ?_, ?_, h.up.fault0 1⟩
    · simp only [xw_cut, xGlyphPositions_cut, xGlyphPositions_cut_t, if_neg ha, q_bn]
      simp
    · simp only [xGlyphPositionsModel_cut, xGlyphPositionsModel_cut_10, xGlyphPositionsModel_refused, if_neg ha, q_lt, q_bm]
      simp
    · simp [p_s1]
    · intro hc; exact absurd hc (by decide)
theorem p_put (h : p_I V k st) (hk : k < 512) (a b : Int32) : p_w (p_I V (k + 1)) (xw_put a b st) (xGlyphPositionsModel_put a b) := by
  obtain ⟨⟨n, g1, g2, g3, g4, g5⟩, h2, h3, h4, h5, h6, h7⟩ := h.up
  have one : (1 : Int32) = nI 1 := rfl
  have out : (a < 0 ∨ ∃ m, n ≤ m ∧ m < 2 ^ 31 ∧ a = nI m) → p_w (p_I V (k + 1)) (xw_put a b st) (xGlyphPositionsModel_put a b) := by
    intro ho
    have hl : xTable_lies a 1 st = some 0 := by
      unfold xTable_lies
      rcases ho with ho | ⟨m, h1, h2, rfl⟩
      · rw [if_pos ho]
      · rw [if_neg (nI_pos h2), if_neg (by decide), g2]
        by_cases hn : n = 0
        · subst hn
          rw [if_pos]
          rw [Int32.lt_iff_toInt_lt, nI_toInt h2]
          have : (nI 0 - 1 : Int32).toInt = -1 := by decide
          omega
        · rw [one, pk_sub (by omega), if_pos (nI_lt (by omega) h2)]
    refine ⟨1, 0, st, q_ps st 11 1, ?_, ?_, ?_, ?_, h.up.fault0 1⟩
    · simp only [xw_put, xGlyphPositions_put, xGlyphPositions_put_t, hl, q_bn]
      simp
    · have hm : xGlyphPositionsModel_put a b st = xGlyphPositionsModel_put_16 a b st := by
        unfold xGlyphPositionsModel_put
        rcases ho with ho | ⟨m, h1, h2, rfl⟩
        · rw [if_pos ho]
        · rw [if_neg (nI_pos h2), g3, if_pos (nI_le h1 h2)]
      rw [hm]
      simp only [xGlyphPositionsModel_put_16, xGlyphPositionsModel_put_17, xGlyphPositionsModel_put_43, xGlyphPositionsModel_refused, q_lt, q_bm]
      simp
    · simp [p_s1]
    · intro hc; exact absurd hc (by decide)
  by_cases ha : a < 0
  · exact out (Or.inl ha)
  obtain ⟨m, hm, rfl⟩ := nI_of ha
  by_cases hmn : n ≤ m
  · exact out (Or.inr ⟨m, hmn, hm, rfl⟩)
  have hmn : m < n := Nat.lt_of_not_le hmn
  have hl : xTable_lies (nI m) 1 st = some 1 := by
    unfold xTable_lies
    rw [if_neg ha, if_neg (by decide), g2, one, pk_sub (by omega), if_neg (nI_nlt (by omega) (by omega))]
  have hgu : q_vpb (nI m) 8192 = true := decide_eq_true (nI_in (by omega) (by omega))
  have hcl : (nI m).toNatClampNeg = m := nI_clamp hm
  have hle : ¬ nI n ≤ nI m := nI_ge hmn (by omega)
  have hlt : nI m < nI n := nI_lt hmn (by omega)
  by_cases hb : b < 0 ∨ ¬ b ≤ 255
  · refine ⟨2, 0, st, q_ps st 11 2, ?_, ?_, ?_, ?_, h.up.fault0 2⟩
    · simp only [xw_put, xGlyphPositions_put, xGlyphPositions_put_t, hl, q_bn]
      by_cases hb0 : b < 0
      · simp [hb0, xGlyphPositions_put_33, xGlyphPositions_put_t_33]
      · simp [hb0, hb.resolve_left hb0, xGlyphPositions_put_33, xGlyphPositions_put_t_33]
    · simp only [xGlyphPositionsModel_put, xGlyphPositionsModel_put_17, xGlyphPositionsModel_put_38, xGlyphPositionsModel_put_43, xGlyphPositionsModel_refused, if_neg ha, g3, if_neg hle, q_lt, q_bm]
      by_cases hb0 : b < 0
      · simp [hb0]
      · simp [hb0, hb.resolve_left hb0]
    · simp [p_s1]
    · intro hc; exact absurd hc (by decide)
  · have hb0 : ¬ b < 0 := fun h => hb (Or.inl h)
    have hb1 : b ≤ 255 := Decidable.not_not.mp (fun h => hb (Or.inr h))
    obtain ⟨q, hq, rfl⟩ := nI_of2 (M := 255) (n := 255) (by decide) hb0 hb1
    refine ⟨0, st.2 0 m &&& 255, q_pa (q_pa st 0 m (vp_nar .byte (nI q).toInt8.toInt32)) 48 0 (st.2 0 m &&& 255), q_pa (q_ps (q_pa (q_pa st 0 m (vp_nar .byte (nI q).toInt8.toInt32)) 48 0 (st.2 0 m &&& 255)) 11 0) 26 m (nI q), ?_, ?_, ?_, ?_, ?_⟩
    · simp only [xw_put, xGlyphPositions_put, xTable_replace, hl, q_bn, if_neg hb0, if_pos hb1, if_neg ha, g2, if_pos hlt, hgu, q_grd_tt, q_lt, q_bm, hcl]
      simp
    · simp only [xGlyphPositionsModel_put, xGlyphPositionsModel_put_17, xGlyphPositionsModel_put_43, xGlyphPositionsModel_refused, if_neg ha, p_a1, g3, if_neg hle, if_neg hb0, if_pos hb1, q_lt, q_bm, hcl, hgu, q_grd_tt]
      simp [p_s2, p_a2, g4 m hmn]
    · simp [p_s1, p_a1]
    · intro _; simp [p_s2, p_a2, p_upd]
    · simp only [p_I, p_s1, p_s2, p_a1, p_a2]
      refine ⟨⟨n, g1, g2, g3, fun j hj => ?_, fun j => ?_⟩, h2, h3, h4, h5, h6, h7⟩
      · simp only [p_upd, if_pos, if_true, reduceIte]
        by_cases hjm : j = m
        · subst hjm
          simp [p_upd, pk_vb, sc_k8 q (by omega)]
        · simp [p_upd, hjm, g4 j hj]
      · by_cases hjm : j = m
        · subst hjm
          have e9 := pk_fb (nI q)
          simpa [p_upd, pk_vb] using e9
        · have e9 := g5 j
          simpa [p_upd, hjm] using e9
end POp1
