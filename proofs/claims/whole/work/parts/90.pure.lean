section PEnd
variable {k N : Nat} {st : QSt}
theorem p_set (h : p_I p_V k st) (hk : k < 512) (hN : 70000 < N) (b : Int32) (hb : b = 0 ∨ b = 1) : p_w (p_I p_V (k + 1)) (xw_set N b st) (xGlyphPositionsModel_set N b) := by
  have hup := h.up
  obtain ⟨h1, ⟨f0, h2⟩, h3, h4, h5, h6, h7⟩ := h
  rcases h2 with h2 | ⟨h2, n, n1, n2, n3, n4⟩
  · refine ⟨1, 0, st, q_ps st 11 1, ?_, ?_, by simp [p_s1], fun hc => absurd hc (by decide), hup.fault0 1⟩
    · simp only [xw_set, xGlyphPositions_set, xGlyphPositions_set_t, if_pos h2, q_bn]
      simp
    · have h13 : st.1 13 = 0 := by rw [f0, h2]
      simp only [xGlyphPositionsModel_set, if_pos h13, xGlyphPositionsModel_set_13, xGlyphPositionsModel_refused, q_lt, q_bm]
      simp
  · have hne : ¬ st.1 0 = 0 := by rw [h2]; exact m_1ne
    have hne13 : ¬ st.1 13 = 0 := by rw [f0, h2]; exact m_1ne
    have hf : fH n (p_u n (st.2 1)) st := ⟨n1, n2, fun a ha => p_bytes ha, fun a ha => p_u0 ha⟩
    obtain ⟨v1, v2, v3, v4⟩ := n4
    obtain ⟨m, so, -, -, e1, -, e3, -, -, -, e7, e8, -⟩ := w_set (N := N) (k := k) (s := st) (t := st) (x1 := b) (by omega) v1 v2 v3 v4 hf ⟨n1, fun a ha => p_bytem n3 ha⟩ hne hne13 h3.1 h3.2 h4 h5 h6 hb hN
    generalize hT : q_pa so 48 0 (nI m) = T
    have T1 : ∀ j, j ≠ 9 → j ≠ 10 → T.1 j = st.1 j := fun j j1 j2 => by rw [← hT, p_a1, e7 j j1 j2]
    have T2 : ∀ j, (25 < j ∧ j ≠ 48) → T.2 j = st.2 j := fun j hj => by rw [← hT, p_a2, if_neg hj.2, e8 j (by omega)]
    obtain ⟨m2, s2, t2, q0, q1, q2, q3, q4, q5, q6, q7, q8, q9, q10⟩ := w_set (N := N) (k := k) (s := st) (t := T) (x1 := b) (by omega) v1 v2 v3 v4 hf ⟨n1, fun a ha => by rw [T2 27 (by omega)]; exact p_bytem n3 ha⟩ hne (by rw [T1 13 (by decide) (by decide)]; exact hne13) (by rw [T1 17 (by decide) (by decide)]; exact h3.1) (by rw [T1 18 (by decide) (by decide)]; exact h3.2)
      (by rw [T1 16 (by decide) (by decide), T2 28 (by omega), T2 29 (by omega), T2 30 (by omega), T2 31 (by omega)]; exact h4) (by rw [T1 19 (by decide) (by decide), T2 32 (by omega), T2 33 (by omega)]; exact h5) (by rw [T1 20 (by decide) (by decide), T2 34 (by omega), T2 35 (by omega), T2 36 (by omega)]; exact h6) hb hN
    have heq : (nI m, so) = (nI m2, s2) := Option.some.inj (e1.symm.trans q1)
    have hm : nI m = nI m2 := (Prod.mk.inj heq).1
    have hs : so = s2 := (Prod.mk.inj heq).2
    subst hs
    have t1 : ∀ j, j ≠ 9 → j ≠ 10 → j ≠ 11 → j ≠ 21 → j ≠ 22 → t2.1 j = st.1 j := fun j j1 j2 j3 j4 j5 => by rw [q9 j j3 j4 j5, T1 j j1 j2]
    have t19 : t2.1 9 = nI m2 := by rw [q9 9 (by decide) (by decide) (by decide), ← hT, p_a1, q3]
    have ta : ∀ j, (j < 11 ∨ (25 < j ∧ j < 37)) → t2.2 j = st.2 j := fun j hj => by rw [q10 j (by omega), ← hT, p_a2, if_neg (by omega), q8 j (by omega)]
    have tb : ∀ j, (j < 37) → t2.2 j = so.2 j := fun j hj => by rw [q10 j (by omega), ← hT, p_a2, if_neg (by omega)]
    refine ⟨0, nI m2, T, t2, ?_, q2, q5, fun _ => ?_, ?_⟩
    · simp only [xw_set, e1]
      rw [hT]
    · rw [q10 48 (by omega), ← hT, p_a2, if_pos rfl, p_upd, if_pos rfl, hm]
    · unfold p_I
      rw [t1 3 (by decide) (by decide) (by decide) (by decide) (by decide), t1 12 (by decide) (by decide) (by decide) (by decide) (by decide), t1 0 (by decide) (by decide) (by decide) (by decide) (by decide), t1 13 (by decide) (by decide) (by decide) (by decide) (by decide), t1 4 (by decide) (by decide) (by decide) (by decide) (by decide), t1 17 (by decide) (by decide) (by decide) (by decide) (by decide), t1 1 (by decide) (by decide) (by decide) (by decide) (by decide), t1 18 (by decide) (by decide) (by decide) (by decide) (by decide), t1 2 (by decide) (by decide) (by decide) (by decide) (by decide), t1 6 (by decide) (by decide) (by decide) (by decide) (by decide), t1 16 (by decide) (by decide) (by decide) (by decide) (by decide), t1 7 (by decide) (by decide) (by decide) (by decide) (by decide), t1 19 (by decide) (by decide) (by decide) (by decide) (by decide), t1 8 (by decide) (by decide) (by decide) (by decide) (by decide), t1 20 (by decide) (by decide) (by decide) (by decide) (by decide)]
      rw [ta 0 (by omega), ta 26 (by omega), ta 1 (by omega), ta 27 (by omega), ta 2 (by omega), ta 3 (by omega), ta 4 (by omega), ta 5 (by omega), ta 28 (by omega), ta 29 (by omega), ta 30 (by omega), ta 31 (by omega), ta 6 (by omega), ta 7 (by omega), ta 32 (by omega), ta 33 (by omega), ta 8 (by omega), ta 9 (by omega), ta 10 (by omega), ta 34 (by omega), ta 35 (by omega), ta 36 (by omega)]
      refine ⟨h1.up, ⟨f0, Or.inr ⟨h2, n, n1, n2, n3, v1, v2, v3, v4⟩⟩, h3, h4, h5, h6.up, ⟨m2, q0, t19, q4, fun j hj => ?_⟩⟩
      rw [tb 12 (by omega), tb 13 (by omega), tb 14 (by omega), tb 15 (by omega), tb 16 (by omega)]
      exact q6 j hj
theorem law_pure (xs : Nat → Int32) (L : Nat) (hL : L ≤ 2560) : ∃ (N : Nat) (so : QSt), lawF_23 xs L N 513 0 q_st0 = some (1, so) := by
  have hN : 70000 < 100000 := by decide
  refine ⟨100000, ?_⟩
  have h := law_step (I := p_I p_V) (xs := xs) (L := L) (N := 100000) hL (fun k st hk h => ⟨fun a => p_feed h hk hN a, fun a b => p_put h hk a b, fun a => p_cut h hk a, p_load h hk hN, fun a b c d => p_kind h a b c d, p_forget h, fun a b => p_choose h a b, fun a b hb => p_feature h hN a b hb, fun a b c => p_add h hk a b c, p_clear h, fun b hb => p_set h hk hN b hb, fun a b => p_place h hN a b, h.up⟩) 513 0 q_st0 (by omega) (by omega) p_I0
  exact h
end PEnd
