section PLaw
theorem q_grd_tt {α : Type} (x : Option α) : q_grd true x = x := rfl
theorem q_bm_s {ρ α : Type} (r : ρ) (s : QSt) (k : ρ → QSt → Option α) : q_bm (some (r, s)) k = k r s := rfl
theorem q_bn_s {ρ α : Type} (r : ρ) (k : ρ → Option α) : q_bn (some r) k = k r := rfl
theorem q_bv_s {α : Type} (s : QSt) (k : QSt → Option α) : q_bv (some s) k = k s := rfl
theorem q_cmp0 (a : Int64) : lg_cmp a a = 0 := by
  unfold lg_cmp
  simp [Int64.lt_irrefl]
theorem q_thrown (s : QSt) : xGlyphPositionsModel_thrown s = some (s.1 11) := rfl
/-- a wrapped call: what the class's wrapper and the reference answer -/
def p_w (J : QSt → Prop) (x : Option (Int32 × QSt)) (m : QSt → Option (Int32 × QSt)) : Prop :=
  ∃ (c b : Int32) (s1 s2 : QSt), x = some (c, s1) ∧ m s1 = some (b, s2) ∧ s2.1 11 = c ∧ (c = 0 → s2.2 48 0 = b) ∧ J s2
def p_wv (J : QSt → Prop) (x : Option (Int32 × QSt)) (m : QSt → Option QSt) : Prop :=
  ∃ (c : Int32) (s1 s2 : QSt), x = some (c, s1) ∧ m s1 = some s2 ∧ s2.1 11 = c ∧ J s2
def p_i (J : QSt → Prop) (x : Option (Int32 × QSt)) (m : QSt → Option (Int32 × QSt)) : Prop :=
  ∃ (r : Int32) (s1 s2 : QSt), x = some (r, s1) ∧ m s1 = some (r, s2) ∧ J s2
def p_v (J : QSt → Prop) (x : Option QSt) (m : QSt → Option QSt) : Prop := ∃ s1 s2 : QSt, x = some s1 ∧ m s1 = some s2 ∧ J s2
/-- what each call owes -/
def p_ops (N : Nat) (st : QSt) (J : QSt → Prop) : Prop :=
  (∀ a, p_i J (xGlyphPositions_feed a st) (xGlyphPositionsModel_feed N a)) ∧
  (∀ a b, p_w J (xw_put a b st) (xGlyphPositionsModel_put a b)) ∧
  (∀ a, p_w J (xw_cut a st) (xGlyphPositionsModel_cut a)) ∧
  (p_i J (xGlyphPositions_load N st) (xGlyphPositionsModel_load N)) ∧
  (∀ a b c d, p_wv J (xw_kind a b c d st) (xGlyphPositionsModel_kind a b c d)) ∧
  (p_i J (xGlyphPositions_forget st) xGlyphPositionsModel_forget) ∧
  (∀ a b, p_v J (xGlyphPositions_choose a b st) (xGlyphPositionsModel_choose a b)) ∧
  (∀ a b, (b = 0 ∨ b = 1) → p_wv J (xw_feature N a b st) (xGlyphPositionsModel_feature N a b)) ∧
  (∀ a b c, p_w J (xw_add a b c st) (xGlyphPositionsModel_add a b c)) ∧
  (p_i J (xGlyphPositions_clear st) xGlyphPositionsModel_clear) ∧
  (∀ b, (b = 0 ∨ b = 1) → p_w J (xw_set N b st) (xGlyphPositionsModel_set N b)) ∧
  (∀ a b, p_w J (xw_place N a b st) (xGlyphPositionsModel_place N a b)) ∧ J st
theorem p_vpb {L k j : Nat} (hj : k + j < L) (hL : L ≤ 2560) : q_vpb (nI k + nI j) L = true := by
  rw [nI_add]
  exact decide_eq_true (nI_in hj (by omega))
set_option maxHeartbeats 4000000 in
set_option maxRecDepth 100000 in
theorem law_step {I : Nat → QSt → Prop} {xs : Nat → Int32} {L N : Nat} (hL : L ≤ 2560) (hops : ∀ k st, k < 512 → I k st → p_ops N st (I (k + 1))) : ∀ (n k : Nat) (st : QSt), k + n = 513 → 1 ≤ n → I k st → ∃ so, lawF_23 xs L N n (nI (5 * k)) st = some (1, so) := by
  intro n
  induction n with
  | zero => 
    intro k st hk h1 hI
    omega
  | succ n ih =>
    intro k st hk h1 hI
    rw [lawF_23]
    by_cases hend : (Int32.ofNat L - 5) < nI (5 * k)
    · rw [if_pos hend]; exact ⟨_, rfl⟩
    rw [if_neg hend]
    have hk5 : 5 * k + 5 ≤ L := by
      rcases Nat.lt_or_ge L (5 * k + 5) with h | h
      · exfalso
        apply hend
        rw [Int32.lt_iff_toInt_lt, nI_toInt (by omega)]
        have e5 : (5 : Int32) = nI 5 := rfl
        rw [e5]
        show (nI L - nI 5).toInt < _
        rw [pk_sub_toInt (by omega) (by omega)]
        omega
      · exact h
    have hk2 : k < 512 := by omega
    have g0 : q_vpb (nI (5 * k)) L = true := decide_eq_true (nI_in (by omega) (by omega))
    have g1 : q_vpb (nI (5 * k) + 1) L = true := p_vpb (j := 1) (by omega) hL
    have g2 : q_vpb (nI (5 * k) + 2) L = true := p_vpb (j := 2) (by omega) hL
    have g3 : q_vpb (nI (5 * k) + 3) L = true := p_vpb (j := 3) (by omega) hL
    have g4 : q_vpb (nI (5 * k) + 4) L = true := p_vpb (j := 4) (by omega) hL
    have e5 : nI (5 * k) + 5 = nI (5 * (k + 1)) := by
      rw [show (5 : Int32) = nI 5 from rfl, nI_add, show 5 * k + 5 = 5 * (k + 1) by omega]
    have next : ∀ s2, I (k + 1) s2 → ∃ so, lawF_23 xs L N n (nI (5 * k) + 5) s2 = some (1, so) := fun s2 h => by
      rw [e5]; exact ih (k + 1) s2 (by omega) (by omega) h
    obtain ⟨o0, o1, o2, o3, o4, o5, o6, o7, o8, o9, o10, o11, o12⟩ := hops k st hk2 hI
    simp only [q_lt, g0, g1, g2, g3, g4, q_grd_tt]
    generalize xs (nI (5 * k)).toNatClampNeg &&& 15 = w
    generalize ha1 : xs (nI (5 * k) + 1).toNatClampNeg = a1
    generalize ha2 : xs (nI (5 * k) + 2).toNatClampNeg = a2
    generalize xs (nI (5 * k) + 3).toNatClampNeg = a3
    generalize xs (nI (5 * k) + 4).toNatClampNeg = a4
    have wv : ∀ {x : Option (Int32 × QSt)} {m : QSt → Option QSt}, p_wv (I (k + 1)) x m → ∃ so, q_bm x (fun r44 sr44 => q_bv (m sr44) (fun sr49 => q_bn (xGlyphPositionsModel_thrown sr49) (fun r50 => if r50 = r44 then lawF_23 xs L N n (nI (5 * k) + 5) sr49 else some (0, sr49)))) = some (1, so) := by
      rintro x m ⟨c, s1, s2, h1, h2, h3, h4⟩
      rw [h1, q_bm_s, h2, q_bv_s, q_thrown, q_bn_s, if_pos h3]
      exact next s2 h4
    have ww : ∀ {x : Option (Int32 × QSt)} {m : QSt → Option (Int32 × QSt)}, p_w (I (k + 1)) x m → ∃ so, q_bm x (fun r60 sr60 => q_bm (m sr60) (fun r63 sr63 => q_bn (xGlyphPositionsModel_thrown sr63) (fun r64 => if r64 = r60 then (if r60 = 0 then (if lg_cmp (sr63.2 48 0).toInt64 r63.toInt64 = 0 then lawF_23 xs L N n (nI (5 * k) + 5) sr63 else some (0, sr63)) else lawF_23 xs L N n (nI (5 * k) + 5) sr63) else some (0, sr63)))) = some (1, so) := by
      rintro x m ⟨c, b, s1, s2, h1, h2, h3, h4, h5⟩
      rw [h1, q_bm_s, h2, q_bm_s, q_thrown, q_bn_s, if_pos h3]
      by_cases hc : c = 0
      · rw [if_pos hc, h4 hc, q_cmp0, if_pos rfl]; exact next s2 h5
      · rw [if_neg hc]; exact next s2 h5
    have wi : ∀ {x : Option (Int32 × QSt)} {m : QSt → Option (Int32 × QSt)}, p_i (I (k + 1)) x m → ∃ so, q_bm x (fun r38 sr38 => q_bm (m sr38) (fun r39 sr39 => if r38 = r39 then lawF_23 xs L N n (nI (5 * k) + 5) sr39 else some (0, sr39))) = some (1, so) := by
      rintro x m ⟨r, s1, s2, h1, h2, h3⟩
      rw [h1, q_bm_s, h2, q_bm_s, if_pos rfl]
      exact next s2 h3
    by_cases w0 : w = 0
    · rw [if_pos w0]; exact wi (o0 a1)
    rw [if_neg w0]
    by_cases w1 : w = 1
    · rw [if_pos w1]; exact ww (o1 a1 a2)
    rw [if_neg w1]
    by_cases w2 : w = 2
    · rw [if_pos w2]; exact ww (o2 a1)
    rw [if_neg w2]
    by_cases w3 : w = 3
    · rw [if_pos w3]; exact wi o3
    rw [if_neg w3]
    by_cases w4 : w = 4
    · rw [if_pos w4]; exact wv (o4 a1 a2 a3 a4)
    rw [if_neg w4]
    by_cases w5 : w = 5
    · rw [if_pos w5]; exact wi o5
    rw [if_neg w5]
    by_cases w6 : w = 6
    · rw [if_pos w6]
      obtain ⟨s1, s2, h1, h2, h3⟩ := o6 a1 a2
      rw [h1, q_bv_s, h2, q_bv_s]
      exact next s2 h3
    rw [if_neg w6]
    by_cases w7 : w = 7
    · rw [if_pos w7]
      by_cases z : a2 = 0
      · rw [if_pos z]
        unfold lawF_403
        simp only [q_lt, g1, g2, q_grd_tt, ha1, ha2, if_pos z]
        unfold lawF_429
        exact wv (o7 _ 0 (Or.inl rfl))
      · rw [if_neg z]
        unfold lawF_403
        simp only [q_lt, g1, g2, q_grd_tt, ha1, ha2, if_neg z]
        unfold lawF_429
        exact wv (o7 _ 1 (Or.inr rfl))
    rw [if_neg w7]
    by_cases w8 : w = 8
    · rw [if_pos w8]; exact ww (o8 a1 a2 a3)
    rw [if_neg w8]
    by_cases w9 : w = 9
    · rw [if_pos w9]; exact wi o9
    rw [if_neg w9]
    by_cases w10 : w = 10
    · rw [if_pos w10]
      by_cases z : a1 = 0
      · rw [if_pos z]
        unfold lawF_554
        simp only [q_lt, g1, q_grd_tt, ha1, if_pos z]
        unfold lawF_575
        exact ww (o10 0 (Or.inl rfl))
      · rw [if_neg z]
        unfold lawF_554
        simp only [q_lt, g1, q_grd_tt, ha1, if_neg z]
        unfold lawF_575
        exact ww (o10 1 (Or.inr rfl))
    rw [if_neg w10]
    by_cases w11 : w = 11
    · rw [if_pos w11]; exact ww (o11 a1 a2)
    rw [if_neg w11]
    exact next st o12
end PLaw
