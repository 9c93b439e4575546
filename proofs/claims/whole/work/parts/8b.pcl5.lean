section PCl5
variable {n N : Nat} {u : Nat → Fin 65536} {st : QSt}
theorem q_bng (c : Prop) (s : QSt) : q_bn (some (bI c)) (fun r => q_grd (q_isb r) (some (r, s))) = @ite _ c (Classical.propDecidable c) (some (1, s)) (some (0, s)) := by
  by_cases h : c
  · rw [bI_t h, if_pos h]; rfl
  · rw [bI_f h, if_neg h]; rfl
theorem c_covB {z : Int32} (h : cH n u st) {a L K' : Nat} {V' : Prop} {t : Option (Int32 × QSt)} {B : Int32 → QSt → Option (Int32 × QSt)} (hL : L ≤ 20000) (ha : a < 2 ^ 25) (hN : 70000 < N) (hbad : ∀ l : Nat, ∃ l' : Nat, B (-1) (q_ps st 5 (nI l)) = some (z, q_ps st 5 (nI l')))
    (hB : s_cov n u a → L + 1 ≤ 20000 → cT z st (L + 1) V' K' (B (nI (s_cv u a)) (q_ps st 5 (nI (L + 1)))) t) : cT z st L (s_cov n u a ∧ V') (1 + K') (q_bm (xLoader_covered N (nI a) (q_ps st 5 (nI L))) B) t := by
  have hc := c_covT (N := N) h hL ha hN
  by_cases g : s_cov n u a ∧ L + 1 ≤ 20000
  · rw [hc.1 g, q_bm_s]
    have h2 := hB g.1 g.2
    exact ⟨fun g2 => h2.1 ⟨g2.1.2, by have := g2.2; omega⟩, fun g2 => h2.2 (fun g3 => g2 ⟨⟨g.1, g3.1⟩, by have := g3.2; omega⟩)⟩
  · obtain ⟨l, hl⟩ := hc.2 g
    rw [hl, q_bm_s]
    exact ⟨fun g2 => absurd ⟨g2.1.1, by have := g2.2; omega⟩ g, fun _ => hbad l⟩
theorem c_single (h : cH n u st) {a L : Nat} (hL : L ≤ 20000) (ha : a < 2 ^ 23) (hN : 70000 < N) : cT 0 st L (s_single n u a) 1 (xLoader_singleAsSaid N (nI a) (q_ps st 5 (nI L))) (some (1, q_ps st 5 (nI (L + 1)))) := by
  have h5 := h.p5 (nI L)
  unfold xLoader_singleAsSaid
  rw [il6, il4, il255, c_lies h5 (by omega) (by omega), q_bnb, c_u16 h5 (by omega), q_bn_s, nI_add, c_u16 h5 (by omega), q_bn_s, il2, nI_add, c_u16 h5 (by omega), q_bn_s, nI_add]
  refine cT.to (V := a + 6 ≤ n ∧ (s_cov n u (a + (u (a + 2)).val) ∧ (¬ 255 < (u (a + 4)).val ∧ (((u a).val = 1 ∧ a + 6 + s_pop (u (a + 4)).val ≤ n) ∨ ((u a).val = 2 ∧ s_idx n u (a + 6) (s_cv u (a + (u (a + 2)).val)) (s_pop (u (a + 4)).val)))))) (K := 1 + 0) (cT.iff fun _ => c_covB h hL (by omega) hN (fun l => ?_) (fun hcov hL1 => ?_)) (by unfold s_single; simp only [Nat.not_lt]; constructor <;> (rintro ⟨g1, g2, g3, g4⟩; exact ⟨g1, g3, g2, g4⟩)) (fun _ => rfl) (fun _ => rfl)
  · refine ⟨l, ?_⟩
    by_cases c1 : nI 255 < nI (u (a + 4)).val
    · rw [if_pos c1]
    · rw [if_neg c1, if_pos rfl]
  · have hcv := s_cv_lt h.1 hcov
    have h6 := h.p5 (nI (L + 1))
    rw [if_neg (c_m1e (by omega))]
    simp (disch := omega) only [nI_ltI]
    refine cT.ifn fun hb => ?_
    have hp := s_pop_le (u (a + 4)).val
    rw [c_size _ (by omega), q_bn_s, q_bn_s, nI_add, c_lies h6 (by omega) (by omega), q_bng, c_idx h6 (by omega) (by omega) (by omega), q_bnb]
    by_cases f1 : (u a).val = 1
    · rw [if_pos (show nI (u a).val = 1 from congrArg nI f1)]
      exact cT.to (cT.iff fun _ => cT.z hL1 _) (by simp [f1]) (fun _ => rfl) (fun _ => rfl)
    · rw [if_neg (show ¬ nI (u a).val = 1 from fun g => f1 ((nI_eq (b := 1) (by omega) (by omega)).mp g))]
      by_cases f2 : (u a).val = 2
      · rw [if_pos (congrArg nI f2)]
        exact cT.to (cT.iff fun _ => cT.z hL1 _) (by simp [f2]) (fun _ => rfl) (fun _ => rfl)
      · rw [if_neg (fun g => f2 ((nI_eq (by omega) (by omega)).mp g))]
        exact ⟨fun g => by omega, fun _ => ⟨_, rfl⟩⟩
theorem c_pair (h : cH n u st) {a L : Nat} (hL : L ≤ 20000) (ha : a < 2 ^ 22) (hN : 70000 < N) : cT 0 st L (s_pair n u a) (s_pairK u a) (xLoader_pairAsSaid N (nI a) (q_ps st 5 (nI L))) (some (1, q_ps st 5 (nI (L + s_pairK u a)))) := by
  have h5 := h.p5 (nI L)
  unfold xLoader_pairAsSaid
  rw [il8, il6, il4, il255, c_lies h5 (by omega) (by omega), q_bnb, c_u16 h5 (by omega), q_bn_s, nI_add, c_u16 h5 (by omega), q_bn_s, nI_add, c_u16 h5 (by omega), q_bn_s, il2, nI_add, c_u16 h5 (by omega), q_bn_s, nI_add]
  refine cT.to (V := a + 8 ≤ n ∧ (s_cov n u (a + (u (a + 2)).val) ∧ (¬ 255 < (u (a + 4)).val ∧ (¬ 255 < (u (a + 6)).val ∧ (((u a).val = 1 ∧ s_idx n u (a + 8) (s_cv u (a + (u (a + 2)).val)) 2 ∧ ∀ k, k < (u (a + 8)).val → s_row n u (a + (u (a + 10 + 2 * k)).val) (2 + s_psz u a)) ∨ ((u a).val = 2 ∧ s_pc n u a (s_psz u a))))))) (K := 1 + (if (u a).val = 1 then (u (a + 8)).val else 2)) (cT.iff fun _ => c_covB h hL (by omega) hN (fun l => ?_) (fun hcov hL1 => ?_)) (by unfold s_pair; simp only [Nat.not_lt]; constructor <;> (rintro ⟨g1, g2, g3, g4, g5⟩; first | exact ⟨g1, g3, g4, g2, g5⟩ | exact ⟨g1, g4, g2, g3, g5⟩)) (fun _ => rfl) (fun _ => rfl)
  · refine ⟨l, ?_⟩
    by_cases c1 : nI 255 < nI (u (a + 4)).val
    · rw [if_pos c1]
    · rw [if_neg c1]
      by_cases c2 : nI 255 < nI (u (a + 6)).val
      · rw [if_pos c2]
      · rw [if_neg c2, if_pos rfl]
  · have hcv := s_cv_lt h.1 hcov
    rw [if_neg (c_m1e (by omega))]
    simp (disch := omega) only [nI_ltI]
    refine cT.ifn fun hb => cT.ifn fun hb2 => ?_
    have hp := s_pop_le (u (a + 4)).val
    have hp2 := s_pop_le (u (a + 6)).val
    have e : s_pop (u (a + 4)).val + s_pop (u (a + 6)).val = s_psz u a := rfl
    rw [c_size _ (by omega), q_bn_s, c_size _ (by omega), q_bn_s, q_lt, nI_add, nI_add, e]
    by_cases f1 : (u a).val = 1
    · rw [if_pos (show nI (u a).val = 1 from congrArg nI f1), if_pos f1]
      refine cT.to (cT.lastb (c_pr h hL1 (by omega) (by omega) (by omega) hN)) (by simp [f1]) (fun _ => rfl) (fun _ => ?_)
      unfold s_pairK
      rw [if_pos f1, Nat.add_assoc]
    · rw [if_neg (show ¬ nI (u a).val = 1 from fun g => f1 ((nI_eq (b := 1) (by omega) (by omega)).mp g)), if_neg f1]
      by_cases f2 : (u a).val = 2
      · rw [if_pos (congrArg nI f2)]
        refine cT.to (cT.last (c_pc h hL1 (by omega) (by omega) hN)) (by simp [f2]) (fun _ => rfl) (fun _ => ?_)
        unfold s_pairK
        rw [if_neg f1, Nat.add_assoc]
      · rw [if_neg (fun g => f2 ((nI_eq (by omega) (by omega)).mp g))]
        exact ⟨fun g => by omega, fun _ => ⟨_, rfl⟩⟩
theorem c_cur (h : cH n u st) {a L : Nat} (hL : L ≤ 20000) (ha : a < 2 ^ 22) (hN : 70000 < N) : cT 0 st L (s_cur n u a) (s_curK u a) (xLoader_cursiveAsSaid N (nI a) (q_ps st 5 (nI L))) (some (1, q_ps st 5 (nI (L + s_curK u a)))) := by
  have h5 := h.p5 (nI L)
  unfold xLoader_cursiveAsSaid
  rw [il4, il2, c_lies h5 (by omega) (by omega), q_bnb, c_u16 h5 (by omega), q_bn_s, nI_add, c_u16 h5 (by omega), q_bn_s, nI_add]
  refine cT.to (V := a + 4 ≤ n ∧ ((u a).val = 1 ∧ (s_cov n u (a + (u (a + 2)).val) ∧ (s_idx n u (a + 4) (s_cv u (a + (u (a + 2)).val)) 4 ∧ s_ancs n u a (a + 6) (2 * (u (a + 4)).val))))) (K := 1 + s_ancK u (a + 6) (2 * (u (a + 4)).val)) (cT.iff fun _ => ?_) Iff.rfl (fun _ => rfl) (fun _ => rfl)
  by_cases f1 : (u a).val = 1
  · rw [if_pos (show nI (u a).val = 1 from congrArg nI f1)]
    refine cT.to (c_covB h hL (by omega) hN (fun l => ⟨l, by rw [if_pos rfl]⟩) (fun hcov hL1 => ?_)) ⟨fun g => ⟨f1, g⟩, fun g => g.2⟩ (fun _ => rfl) (fun _ => rfl)
    have hcv := s_cv_lt h.1 hcov
    rw [if_neg (c_m1e (by omega)), nI_add, c_idx (h.p5 _) (by omega) (by omega) (by omega), q_bnb]
    refine cT.iff fun hi => ?_
    rw [← hi.2, il6, nI_add, pk_mul]
    have := hi.1.2.1
    refine cT.to (cT.last (c_ancs h hL1 (by omega) (by omega) (by omega) hN)) Iff.rfl (fun _ => rfl) (fun _ => ?_)
    unfold s_curK
    rw [Nat.add_assoc]
  · rw [if_neg (show ¬ nI (u a).val = 1 from fun g => f1 ((nI_eq (b := 1) (by omega) (by omega)).mp g))]
    exact ⟨fun g => absurd g.1.1 f1, fun _ => ⟨_, rfl⟩⟩
theorem c_mon (h : cH n u st) {t a L : Nat} (hL : L ≤ 20000) (ht : t < 65536) (ha : a < 2 ^ 22) (hN : 70000 < N) : cT 0 st L (s_mon n u t a) (s_monK u t a) (xLoader_marksOnAsSaid N (nI t) (nI a) (q_ps st 5 (nI L))) (some (1, q_ps st 5 (nI (L + s_monK u t a)))) := by
  have h5 := h.p5 (nI L)
  unfold xLoader_marksOnAsSaid
  rw [il12, il4, il2, il6, il8, il10, il16, il5, c_lies h5 (by omega) (by omega), q_bnb, c_u16 h5 (by omega), q_bn_s, nI_add, c_u16 h5 (by omega), q_bn_s, nI_add]
  generalize hA : a + (u (a + 2)).val = A
  unfold s_mon
  rw [hA]
  refine cT.to (V := a + 12 ≤ n ∧ ((u a).val = 1 ∧ (s_cov n u A ∧ (s_cov n u (a + (u (a + 4)).val) ∧ ((u (a + 6)).val ≤ 16 ∧ (s_marks n u (a + (u (a + 8)).val) (s_cv u A) (u (a + 6)).val ∧ ((t = 5 ∧ s_ligs n u (a + (u (a + 10)).val) (s_cv u (a + (u (a + 4)).val)) (u (a + 6)).val) ∨ (t ≠ 5 ∧ s_idx n u (a + (u (a + 10)).val) (s_cv u (a + (u (a + 4)).val)) (2 * (u (a + 6)).val) ∧ s_ancs n u (a + (u (a + 10)).val) (a + (u (a + 10)).val + 2) ((u (a + (u (a + 10)).val)).val * (u (a + 6)).val)))))))))
    (K := 1 + (1 + ((u (a + (u (a + 8)).val)).val + (if t = 5 then s_ligK u (a + (u (a + 10)).val) (u (a + 6)).val else s_ancK u (a + (u (a + 10)).val + 2) ((u (a + (u (a + 10)).val)).val * (u (a + 6)).val))))) (cT.iff fun _ => ?_) Iff.rfl (fun _ => by unfold s_monK; omega) (fun _ => rfl)
  by_cases f1 : (u a).val = 1
  · rw [if_pos (show nI (u a).val = 1 from congrArg nI f1)]
    refine cT.to (c_covB h hL (by omega) hN (fun l => ?_) (fun hcov hL1 => ?_)) ⟨fun g => ⟨f1, g⟩, fun g => g.2⟩ (fun _ => rfl) (fun _ => rfl)
    · rw [nI_add, c_u16 (h.p5 _) (by omega), q_bn_s, nI_add, c_cov h _ (by omega) hN, q_bm_s, nI_1, nI_add, c_u16 (h.p5 _) (by omega), q_bn_s, if_pos rfl]
      exact ⟨_, rfl⟩
    have hcv := s_cv_lt h.1 hcov
    rw [nI_add, c_u16 (h.p5 _) (by omega), q_bn_s, nI_add]
    refine c_covB h hL1 (by omega) hN (fun l => ?_) (fun hcov2 hL2 => ?_)
    · rw [nI_add, c_u16 (h.p5 _) (by omega), q_bn_s, if_neg (c_m1e (by omega)), if_pos rfl]
      exact ⟨_, rfl⟩
    have hcv2 := s_cv_lt h.1 hcov2
    rw [nI_add, c_u16 (h.p5 _) (by omega), q_bn_s, if_neg (c_m1e (by omega)), if_neg (c_m1e (by omega))]
    simp (disch := omega) only [nI_ltI]
    refine cT.to (V := ¬ 16 < (u (a + 6)).val ∧ _) (cT.ifn fun hc => ?_) (and_congr (Nat.not_lt) Iff.rfl) (fun _ => rfl) (fun _ => rfl)
    rw [nI_add, c_u16 (h.p5 _) (by omega), q_bn_s, nI_add]
    refine cT.bm (c_marks h hL2 (by omega) (by omega) (by omega) hN) (fun hmk hL3 => ?_)
    rw [nI_add, c_u16 (h.p5 _) (by omega), q_bn_s, q_lt, nI_add, nI_add, pk_mul]
    generalize hB : a + (u (a + 10)).val = B
    by_cases f5 : t = 5
    · rw [if_pos (congrArg nI f5), if_pos f5]
      refine cT.to (cT.lastb (c_ligs h hL3 (by omega) (by omega) (by omega) hN)) (by simp [f5]) (fun _ => rfl) (fun _ => ?_)
      congr 4
      unfold s_monK
      rw [if_pos f5, hB]
      omega
    · rw [if_neg (fun g => f5 ((nI_eq (by omega) (by omega)).mp g)), if_neg f5, c_idx (h.p5 _) (by omega) (by omega) (by omega), q_bnb]
      refine cT.to (V := s_idx n u B (s_cv u (a + (u (a + 4)).val)) (2 * (u (a + 6)).val) ∧ s_ancs n u B (B + 2) ((u B).val * (u (a + 6)).val)) (K := s_ancK u (B + 2) ((u B).val * (u (a + 6)).val)) (cT.iff fun hi => ?_) (by simp [f5]) (fun _ => rfl) (fun _ => rfl)
      rw [← hi.2, pk_mul]
      have hB2 := hi.1.2.1
      refine cT.to (cT.last (c_ancs h hL3 (by omega) (by omega) (Nat.lt_of_le_of_lt (Nat.mul_le_mul hB2 (by omega : (u (a + 6)).val ≤ 16)) (by decide)) hN)) Iff.rfl (fun _ => rfl) (fun _ => ?_)
      congr 4
      unfold s_monK
      rw [if_neg f5, hB]
      omega
  · rw [if_neg (show ¬ nI (u a).val = 1 from fun g => f1 ((nI_eq (b := 1) (by omega) (by omega)).mp g))]
    exact ⟨fun g => absurd g.1.1 f1, fun _ => ⟨_, rfl⟩⟩
end PCl5
