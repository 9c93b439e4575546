section PCl2
variable {n N : Nat} {u : Nat → Fin 65536} {st : QSt}
theorem c_min {x : Nat} (h : x < 2 ^ 32) : (nI x + (-2147483648)).toInt = (x : Int) - 2147483648 := by
  rw [Int32.toInt_add]
  have e1 : (nI x).toInt = Int.bmod x (2 ^ 32) := Int32.toInt_ofNat' ..
  have e2 : (-2147483648 : Int32).toInt = -2147483648 := by decide
  rw [e1, e2]
  simp only [Int.bmod_def]
  omega
theorem c_cmpu {x y : Nat} (hx : x < 2 ^ 32) (hy : y < 2 ^ 32) : xInteger_compareUnsigned (nI x) (nI y) = some (if x < y then -1 else if x = y then 0 else 1) := by
  unfold xInteger_compareUnsigned xInteger_compare
  have h1 : (nI y + (-2147483648) ≤ nI x + (-2147483648)) ↔ y ≤ x := by
    rw [Int32.le_iff_toInt_le, c_min hx, c_min hy]
    omega
  have h2 : (nI x + (-2147483648) = nI y + (-2147483648)) ↔ x = y := by
    rw [← Int32.toInt_inj, c_min hx, c_min hy]
    omega
  simp only [h1, h2]
  by_cases c1 : y ≤ x
  · rw [if_pos c1, if_neg (show ¬ x < y by omega)]
    by_cases c2 : x = y
    · rw [if_pos c2, if_pos c2]; rfl
    · rw [if_neg c2, if_neg c2]; rfl
  · rw [if_neg c1, if_pos (show x < y by omega)]; rfl
theorem s_4lt (a : Nat) : s_4 u a < 2 ^ 32 := by
  unfold s_4
  omega
theorem c_tags (h : cH n u st) {a : Nat} {x : Int32} {eq : Prop} (hx : x = 0 ↔ ¬ eq) (ha : a < 2 ^ 26) (hN : 70000 < N) : xLoader_tagsAsSaid N (nI a) x st = some (bI (s_tags n u a eq)) := by
  unfold xLoader_tagsAsSaid
  rw [il64, il6, c_list h (by omega) (by omega) (by omega), q_bnb, c_u16 h (by omega), q_bn_s]
  have hl := c_loop (fun f (_ : Unit) k => xLoader_tagsAsSaid_26 N st (nI a) x (nI (u a).val) f (nI (k + 1))) (fun _ => ()) ((u a).val - 1) (fun k => s_4 u (a + 2 + 6 * k) < s_4 u (a + 2 + 6 * (k + 1)) ∨ (eq ∧ s_4 u (a + 2 + 6 * k) = s_4 u (a + 2 + 6 * (k + 1)))) (fun f _ => by
      show xLoader_tagsAsSaid_26 N st (nI a) x (nI (u a).val) (f + 1) _ = _
      rw [xLoader_tagsAsSaid_26, if_pos (nI_le (by omega) (by omega))]) (fun f k hk => by
      have e1 : nI a + 2 + 6 * nI (k + 1) = nI (a + 2 + 6 * (k + 1)) := by rw [il2, il6, pk_mul, nI_add, nI_add]
      have e2 : nI a - 4 + 6 * nI (k + 1) = nI (a + 2 + 6 * k) := by
        rw [il6, pk_mul, show 6 * (k + 1) = 4 + (2 + 6 * k) by omega, ← nI_add, ← Int32.add_assoc, il4, Int32.sub_add_cancel, nI_add]
        congr 1
        omega
      have e3 := @s_4lt u (a + 2 + 6 * (k + 1))
      have e4 := @s_4lt u (a + 2 + 6 * k)
      show (_ → xLoader_tagsAsSaid_26 N st (nI a) x (nI (u a).val) (f + 1) _ = _) ∧ (_ → xLoader_tagsAsSaid_26 N st (nI a) x (nI (u a).val) (f + 1) _ = _)
      rw [xLoader_tagsAsSaid_26, if_neg (nI_ge (by omega) (by omega)), e1, e2, c_u32 h (by omega), q_bn_s, c_u32 h (by omega), q_bn_s, c_cmpu e3 e4, q_bn_s, nI_1]
      generalize s_4 u (a + 2 + 6 * (k + 1)) = p
      generalize s_4 u (a + 2 + 6 * k) = q
      by_cases c1 : p < q
      · rw [if_pos c1, if_pos (by decide)]
        exact ⟨fun g => by omega, fun _ => rfl⟩
      · rw [if_neg c1]
        by_cases c2 : p = q
        · rw [if_pos c2, if_neg (by decide), if_pos rfl]
          by_cases c3 : x = 0
          · rw [if_pos c3]
            exact ⟨fun g => by rcases g with g | g; exact absurd g (by omega); exact absurd g.1 (hx.mp c3), fun _ => rfl⟩
          · rw [if_neg c3]
            exact ⟨fun _ => rfl, fun g => absurd (Or.inr ⟨Classical.not_not.mp (fun g3 => c3 (hx.mpr g3)), c2.symm⟩) g⟩
        · rw [if_neg c2, if_neg (by decide), if_neg (by decide)]
          exact ⟨fun _ => rfl, fun g => absurd (Or.inl (by omega)) g⟩)
  have hl2 := hl N (by omega)
  have e0 : (1 : Int32) = nI (0 + 1) := rfl
  rw [e0]
  rw [hl2]
  simp only [bI_F, bI_if]
  congr 1
  apply bI_c
  unfold s_tags
  simp only [and_false, or_false]
  refine and_congr Iff.rfl (forall_congr' fun k => ?_)
  exact ⟨fun g h => g (by omega), fun g h => g (by omega)⟩
theorem c_nums (h : cH n u st) {a b : Nat} (ha : a < 2 ^ 26) (hb : b < 2 ^ 31) (hN : 70000 < N) : xLoader_numbersAsSaid N (nI a) (nI b) st = some (bI (s_nums n u a b)) := by
  unfold xLoader_numbersAsSaid
  rw [il64, il2, c_list h (by omega) (by omega) (by omega), q_bnb, c_u16 h (by omega), q_bn_s]
  have hl := c_loop (fun f (_ : Unit) k => xLoader_numbersAsSaid_25 N st (nI a) (nI b) (nI (u a).val) f (nI k)) (fun _ => ()) (u a).val (fun k => (u (a + 2 + 2 * k)).val < b) (fun f _ => by
      show xLoader_numbersAsSaid_25 N st (nI a) (nI b) (nI (u a).val) (f + 1) _ = _
      rw [xLoader_numbersAsSaid_25, if_pos (nI_le (by omega) (by omega))]) (fun f k hk => by
      show (_ → xLoader_numbersAsSaid_25 N st (nI a) (nI b) (nI (u a).val) (f + 1) _ = _) ∧ (_ → xLoader_numbersAsSaid_25 N st (nI a) (nI b) (nI (u a).val) (f + 1) _ = _)
      rw [xLoader_numbersAsSaid_25, if_neg (nI_ge (by omega) (by omega)), il2, pk_mul, nI_add, nI_add, c_u16 h (by omega), q_bn_s, nI_1]
      simp (disch := omega) only [nI_ltI]
      exact ⟨fun g => by rw [if_pos g], fun g => by rw [if_neg g]⟩)
  have hl2 := hl N (by omega)
  rw [il0, hl2, ← il0]
  simp only [bI_F, bI_if]
  congr 1
  apply bI_c
  unfold s_nums
  simp only [and_false, or_false]
theorem c_lang (h : cH n u st) {a : Nat} (ha : a < 2 ^ 25) (hN : 70000 < N) : xLoader_languageAsSaid N (nI a) st = some (bI (s_lang n u a)) := by
  unfold xLoader_languageAsSaid xLoader_languageAsSaid_53
  rw [il6, c_u16 h (by omega), q_bn_s, c_u16 h (by omega), q_bn_s, il4, c_lies h (by omega) (by omega), q_bnb, il2, nI_add, c_u16 h (by omega), q_bn_s, nI_add, c_nums h (by omega) (by omega) hN, q_bnb, il65535]
  simp (disch := omega) only [nI_eq, nI_leI]
  simp only [bI_T, bI_F, bI_if]
  congr 1
  apply bI_c
  unfold s_lang
  simp only [and_true, and_false, or_false, false_or]
  by_cases c1 : (u (a + 2)).val = 65535
  · simp [c1]
  · simp [c1, Nat.not_le]
theorem c_script (h : cH n u st) {a : Nat} (ha : a < 2 ^ 24) (hN : 70000 < N) : xLoader_scriptAsSaid N (nI a) st = some (bI (s_script n u a)) := by
  have hl := c_loop (fun f (_ : Unit) k => xLoader_scriptAsSaid_64 N st (nI a) (nI (u (a + 2)).val) f (nI k)) (fun _ => ()) (u (a + 2)).val (fun k => s_lang n u (a + (u (a + 8 + 6 * k)).val)) (fun f _ => by
      show xLoader_scriptAsSaid_64 N st (nI a) (nI (u (a + 2)).val) (f + 1) _ = _
      rw [xLoader_scriptAsSaid_64, if_pos (nI_le (by omega) (by omega))]) (fun f k hk => by
      show (_ → xLoader_scriptAsSaid_64 N st (nI a) (nI (u (a + 2)).val) (f + 1) _ = _) ∧ (_ → xLoader_scriptAsSaid_64 N st (nI a) (nI (u (a + 2)).val) (f + 1) _ = _)
      rw [xLoader_scriptAsSaid_64, if_neg (nI_ge (by omega) (by omega)), il8, il6, pk_mul, nI_add, nI_add, c_u16 h (by omega), q_bn_s, nI_add, c_lang h (by omega) hN, q_bnb, nI_1]
      exact ⟨fun g => by rw [if_pos g], fun g => by rw [if_neg g]⟩)
  have hl2 := hl N (by omega)
  have hl3 : xLoader_scriptAsSaid_50 N st (nI a) = some (bI (∀ k, k < (u (a + 2)).val → s_lang n u (a + (u (a + 8 + 6 * k)).val))) := by
    unfold xLoader_scriptAsSaid_50
    rw [il2, nI_add, c_u16 h (by omega), q_bn_s]
    exact hl2
  unfold xLoader_scriptAsSaid
  rw [hl3, il2, c_lies h (by omega) (by omega), q_bnb, nI_add, c_tags h (eq := False) (by simp) (by omega) hN, q_bnb, c_u16 h (by omega), q_bn_s, nI_add, c_lang h (by omega) hN, q_bnb, il0]
  simp (disch := omega) only [nI_eq]
  rw [← il0]
  simp only [bI_F, bI_if]
  congr 1
  apply bI_c
  unfold s_script
  simp only [and_true, and_false, or_false, false_or]
  by_cases c1 : (u a).val = 0
  · simp [c1]
  · simp [c1]
theorem c_scripts (h : cH n u st) (hN : 70000 < N) : xLoader_scriptsAsSaid N st = some (bI (s_scripts n u)) := by
  have hl := c_loop (fun f (_ : Unit) k => xLoader_scriptsAsSaid_31 N st (nI (u 4).val) (nI (u (u 4).val).val) f (nI k)) (fun _ => ()) (u (u 4).val).val (fun k => s_script n u ((u 4).val + (u ((u 4).val + 6 + 6 * k)).val)) (fun f _ => by
      show xLoader_scriptsAsSaid_31 N st _ _ (f + 1) _ = _
      rw [xLoader_scriptsAsSaid_31, if_pos (nI_le (by omega) (by omega))]) (fun f k hk => by
      show (_ → xLoader_scriptsAsSaid_31 N st _ _ (f + 1) _ = _) ∧ (_ → xLoader_scriptsAsSaid_31 N st _ _ (f + 1) _ = _)
      rw [xLoader_scriptsAsSaid_31, if_neg (nI_ge (by omega) (by omega)), il6, pk_mul, nI_add, nI_add, c_u16 h (by omega), q_bn_s, nI_add, c_script h (by omega) hN, q_bnb, nI_1]
      exact ⟨fun g => by rw [if_pos g], fun g => by rw [if_neg g]⟩)
  have hl2 := hl N (by omega)
  unfold xLoader_scriptsAsSaid
  rw [il4, c_u16 h (by omega), q_bn_s, c_tags h (eq := False) (by simp) (by omega) hN, q_bnb, c_u16 h (by omega), q_bn_s, il0, hl2, ← il0]
  simp only [bI_F, bI_if]
  congr 1
  apply bI_c
  unfold s_scripts
  simp only [and_true, and_false, or_false, false_or]
theorem c_features (h : cH n u st) (hN : 70000 < N) : xLoader_featuresAsSaid N st = some (bI (s_features n u)) := by
  have hl := c_loop (fun f (_ : Unit) k => xLoader_featuresAsSaid_50 N st (nI (u 6).val) (nI (u (u 8).val).val) (nI (u (u 6).val).val) f (nI k)) (fun _ => ()) (u (u 6).val).val (fun k => s_nums n u ((u 6).val + (u ((u 6).val + 6 + 6 * k)).val + 2) (u (u 8).val).val) (fun f _ => by
      show xLoader_featuresAsSaid_50 N st _ _ _ (f + 1) _ = _
      rw [xLoader_featuresAsSaid_50, if_pos (nI_le (by omega) (by omega))]) (fun f k hk => by
      show (_ → xLoader_featuresAsSaid_50 N st _ _ _ (f + 1) _ = _) ∧ (_ → xLoader_featuresAsSaid_50 N st _ _ _ (f + 1) _ = _)
      rw [xLoader_featuresAsSaid_50, if_neg (nI_ge (by omega) (by omega)), il6, pk_mul, nI_add, nI_add, c_u16 h (by omega), q_bn_s, q_lt, nI_add, il2, nI_add, c_nums h (by omega) (by omega) hN, q_bnb, nI_1]
      exact ⟨fun g => by rw [if_pos g], fun g => by rw [if_neg g]⟩)
  have hl2 := hl N (by omega)
  unfold xLoader_featuresAsSaid
  rw [il6, c_u16 h (by omega), q_bn_s, c_tags h (eq := True) (by simp) (by omega) hN, q_bnb, il8, c_u16 h (by omega), q_bn_s, c_u16 h (by omega), q_bn_s, c_u16 h (by omega), q_bn_s, il0, hl2, ← il0]
  simp only [bI_F, bI_if]
  congr 1
  apply bI_c
  unfold s_features
  simp only [and_true, and_false, or_false, false_or]
theorem c_head (h : cH n u st) : xLoader_headAsSaid st = some (bI (s_head n u)) := by
  unfold xLoader_headAsSaid
  rw [il0, il1, il2, il4, il6, il8, il10, c_lies h (by omega) (by omega), ← il0, q_bnb, il0, c_u16 h (by omega), q_bn_s, c_u16 h (by omega), q_bn_s, c_u16 h (by omega), q_bn_s, c_u16 h (by omega), q_bn_s, c_u16 h (by omega), q_bn_s]
  simp (disch := omega) only [nI_eq]
  rw [← il0, ← il1]
  simp only [bI_F, bI_T, bI_if]
  congr 1
  apply bI_c
  unfold s_head
  simp only [and_true, and_false, or_false, false_or, Nat.zero_add, ne_eq]
end PCl2
