section PCl
theorem c_loop {σ : Type} (F : Nat → σ → Nat → Option Int32) (c : Nat → σ) (q : Nat) (V : Nat → Prop)
    (hx : ∀ f x, F (f + 1) x q = some 1)
    (hs : ∀ f k, k < q → (V k → F (f + 1) (c k) k = F f (c (k + 1)) (k + 1)) ∧ (¬ V k → F (f + 1) (c k) k = some 0)) :
    ∀ f, q < f → F f (c 0) 0 = some (bI (∀ j, j < q → V j)) := by
  have key : ∀ d k f, k + d = q → d < f → (∀ j, j < k → V j) → F f (c k) k = some (bI (∀ j, j < q → V j)) := by
    intro d
    induction d with
    | zero =>
      intro k f hk hf hv
      obtain ⟨f, rfl⟩ : ∃ g, f = g + 1 := ⟨f - 1, by omega⟩
      have e : k = q := by omega
      subst e
      rw [hx, bI_t hv]
    | succ d ih =>
      intro k f hk hf hv
      obtain ⟨f, rfl⟩ : ∃ g, f = g + 1 := ⟨f - 1, by omega⟩
      obtain ⟨h1, h2⟩ := hs f k (by omega)
      by_cases hV : V k
      · rw [h1 hV]
        exact ih (k + 1) f (by omega) (by omega) (lt_s hv hV)
      · rw [h2 hV, bI_f (fun h => hV (h k (by omega)))]
  intro f hf
  exact key q 0 f (by omega) hf (fun j hj => absurd hj (by omega))
def cT (z : Int32) (st : QSt) (L : Nat) (V : Prop) (K : Nat) (o t : Option (Int32 × QSt)) : Prop :=
  ((V ∧ L + K ≤ 20000) → o = t) ∧ (¬ (V ∧ L + K ≤ 20000) → ∃ l, o = some (z, q_ps st 5 (nI l)))
theorem c_loopS {σ : Type} {st : QSt} (F : Nat → σ → Nat → QSt → Option (Int32 × QSt)) (E : QSt → Option (Int32 × QSt)) (c : Nat → σ) (q : Nat) (V : Nat → Prop) (K : Nat → Nat)
    (hx : ∀ f x s, F (f + 1) x q s = E s)
    (hs : ∀ f k L, k < q → L ≤ 20000 → cT 0 st L (V k) (K k) (F (f + 1) (c k) k (q_ps st 5 (nI L))) (F f (c (k + 1)) (k + 1) (q_ps st 5 (nI (L + K k))))) :
    ∀ f L, q < f → L ≤ 20000 → cT 0 st L (∀ j, j < q → V j) (s_sum K q) (F f (c 0) 0 (q_ps st 5 (nI L))) (E (q_ps st 5 (nI (L + s_sum K q)))) := by
  have key : ∀ d k f L, k + d = q → d < f → L + s_sum K k ≤ 20000 → (∀ j, j < k → V j) → cT 0 st L (∀ j, j < q → V j) (s_sum K q) (F f (c k) k (q_ps st 5 (nI (L + s_sum K k)))) (E (q_ps st 5 (nI (L + s_sum K q)))) := by
    intro d
    induction d with
    | zero =>
      intro k f L hk hf hL hv
      obtain ⟨f, rfl⟩ : ∃ g, f = g + 1 := ⟨f - 1, by omega⟩
      have e : k = q := by omega
      subst e
      rw [hx]
      exact ⟨fun _ => rfl, fun h => absurd ⟨hv, hL⟩ h⟩
    | succ d ih =>
      intro k f L hk hf hL hv
      obtain ⟨f, rfl⟩ : ∃ g, f = g + 1 := ⟨f - 1, by omega⟩
      obtain ⟨h1, h2⟩ := hs f k _ (by omega) hL
      by_cases hV : V k ∧ L + s_sum K k + K k ≤ 20000
      · rw [h1 hV]
        have := ih (k + 1) f L (by omega) (by omega) (by have := hV.2; show L + (s_sum K k + K k) ≤ 20000; omega) (lt_s hv hV.1)
        rw [show L + s_sum K k + K k = L + s_sum K (k + 1) from Nat.add_assoc _ _ _]
        exact this
      · obtain ⟨l, hl⟩ := h2 hV
        have hmono : ∀ m, k + 1 ≤ m → s_sum K (k + 1) ≤ s_sum K m := by
          intro m hm
          induction m with
          | zero => omega
          | succ m ih2 =>
            by_cases hmk : k + 1 ≤ m
            · have := ih2 hmk
              show s_sum K (k + 1) ≤ s_sum K m + K m
              omega
            · have : m = k := by omega
              subst this
              exact Nat.le_refl _
        have hno : ¬ ((∀ j, j < q → V j) ∧ L + s_sum K q ≤ 20000) := by
          rintro ⟨g1, g2⟩
          have h3 := hmono q (by omega)
          have h4 : s_sum K (k + 1) = s_sum K k + K k := rfl
          exact hV ⟨g1 k (by omega), by omega⟩
        exact ⟨fun h => absurd h hno, fun _ => ⟨l, hl⟩⟩
  intro f L hf hL
  have := key q 0 f L (by omega) hf (by show L + 0 ≤ 20000; omega) (fun j hj => absurd hj (by omega))
  exact this
theorem cT.to {z : Int32} {st : QSt} {L K K' : Nat} {V V' : Prop} {o t t' : Option (Int32 × QSt)} (h : cT z st L V K o t) (hV : V ↔ V') (hK : V → K = K') (ht : V → t = t') : cT z st L V' K' o t' := by
  refine ⟨fun g => ?_, fun g => ?_⟩
  · have hv := hV.mpr g.1
    rw [← ht hv]
    exact h.1 ⟨hv, by rw [hK hv]; exact g.2⟩
  · refine h.2 (fun g2 => g ⟨hV.mp g2.1, by rw [← hK g2.1]; exact g2.2⟩)
theorem cT.z {z : Int32} {st : QSt} {L : Nat} (hL : L ≤ 20000) (t : Option (Int32 × QSt)) : cT z st L True 0 t t := ⟨fun _ => rfl, fun h => absurd ⟨trivial, hL⟩ h⟩
theorem cT.iff {z : Int32} {st : QSt} {L l K : Nat} {V c : Prop} {dc : Decidable c} {o t : Option (Int32 × QSt)} (h : c → cT z st L V K o t) : cT z st L (c ∧ V) K (if c then o else some (z, q_ps st 5 (nI l))) t := by
  by_cases hc : c
  · rw [if_pos hc]
    exact ⟨fun g => (h hc).1 ⟨g.1.2, g.2⟩, fun g => (h hc).2 (fun g2 => g ⟨⟨hc, g2.1⟩, g2.2⟩)⟩
  · rw [if_neg hc]
    exact ⟨fun g => absurd g.1.1 hc, fun _ => ⟨l, rfl⟩⟩
theorem cT.ifn {z : Int32} {st : QSt} {L l K : Nat} {V c : Prop} {dc : Decidable c} {o t : Option (Int32 × QSt)} (h : ¬ c → cT z st L V K o t) : cT z st L (¬ c ∧ V) K (if c then some (z, q_ps st 5 (nI l)) else o) t := by
  by_cases hc : c
  · rw [if_pos hc]
    exact ⟨fun g => absurd hc g.1.1, fun _ => ⟨l, rfl⟩⟩
  · rw [if_neg hc]
    exact ⟨fun g => (h hc).1 ⟨g.1.2, g.2⟩, fun g => (h hc).2 (fun g2 => g ⟨⟨hc, g2.1⟩, g2.2⟩)⟩
theorem cT.bm {z : Int32} {st : QSt} {L K K' : Nat} {V V' : Prop} {o t : Option (Int32 × QSt)} {B : QSt → Option (Int32 × QSt)} (h : cT 0 st L V K o (some (1, q_ps st 5 (nI (L + K))))) (hB : V → L + K ≤ 20000 → cT z st (L + K) V' K' (B (q_ps st 5 (nI (L + K)))) t) :
    cT z st L (V ∧ V') (K + K') (q_bm o (fun r s => if r = 0 then some (z, s) else B s)) t := by
  by_cases g : V ∧ L + K ≤ 20000
  · rw [h.1 g, q_bm_s, if_neg (by decide)]
    have h2 := hB g.1 g.2
    exact ⟨fun g2 => h2.1 ⟨g2.1.2, by have := g2.2; omega⟩, fun g2 => h2.2 (fun g3 => g2 ⟨⟨g.1, g3.1⟩, by have := g3.2; omega⟩)⟩
  · obtain ⟨l, hl⟩ := h.2 g
    rw [hl, q_bm_s, if_pos rfl]
    exact ⟨fun g2 => absurd ⟨g2.1.1, by have := g2.2; omega⟩ g, fun _ => ⟨l, rfl⟩⟩
theorem cT.last {st : QSt} {L K : Nat} {V : Prop} {o : Option (Int32 × QSt)} (h : cT 0 st L V K o (some (1, q_ps st 5 (nI (L + K))))) : cT 0 st L V K (q_bm o (fun r s => if r = 0 then some (0, s) else some (1, s))) (some (1, q_ps st 5 (nI (L + K)))) := by
  by_cases g : V ∧ L + K ≤ 20000
  · rw [h.1 g, q_bm_s, if_neg (by decide)]
    exact ⟨fun _ => rfl, fun g2 => absurd g g2⟩
  · obtain ⟨l, hl⟩ := h.2 g
    rw [hl, q_bm_s, if_pos rfl]
    exact ⟨fun g2 => absurd g2 g, fun _ => ⟨l, rfl⟩⟩
theorem cT.lastb {st : QSt} {L K : Nat} {V : Prop} {o : Option (Int32 × QSt)} (h : cT 0 st L V K o (some (1, q_ps st 5 (nI (L + K))))) : cT 0 st L V K (q_bm o (fun r s => q_grd (q_isb r) (some (r, s)))) (some (1, q_ps st 5 (nI (L + K)))) := by
  by_cases g : V ∧ L + K ≤ 20000
  · rw [h.1 g, q_bm_s]
    exact ⟨fun _ => rfl, fun g2 => absurd g g2⟩
  · obtain ⟨l, hl⟩ := h.2 g
    rw [hl, q_bm_s]
    exact ⟨fun g2 => absurd g2 g, fun _ => ⟨l, rfl⟩⟩
theorem c_p55 (st : QSt) (a b : Int32) : q_ps (q_ps st 5 a) 5 b = q_ps st 5 b := by
  unfold q_ps
  congr 1
  funext j
  unfold va_up
  by_cases h : j = 5 <;> simp [h]
theorem c_looks (st : QSt) {L : Nat} (hL : L ≤ 20000) : cT 0 st L True 1 (xLoader_looksAtOneMore (q_ps st 5 (nI L))) (some (1, q_ps st 5 (nI (L + 1)))) := by
  unfold xLoader_looksAtOneMore
  simp only [q_lt, c_p55, p_s1, if_true]
  rw [nI_1, il20000]
  by_cases h : L + 1 ≤ 20000
  · rw [if_neg (nI_nlt h (by omega))]
    exact ⟨fun _ => rfl, fun g => absurd ⟨trivial, h⟩ g⟩
  · rw [if_pos (nI_lt (by omega) (by omega))]
    exact ⟨fun g => absurd g.2 h, fun _ => ⟨_, rfl⟩⟩
variable {n N : Nat} {u : Nat → Fin 65536} {st : QSt}
theorem c_list (h : cH n u st) {a m sz : Nat} (ha : a < 2 ^ 27) (hm : m < 2 ^ 16) (hsz : sz ≤ 64) : xLoader_listLies (nI a) (nI m) (nI sz) st = some (bI (s_list n u a m sz)) := by
  have hb : (u a).val * sz < 2 ^ 29 := Nat.lt_of_le_of_lt (Nat.mul_le_mul (Nat.le_of_lt (u a).isLt) hsz) (by decide)
  unfold xLoader_listLies
  rw [il2, c_lies h (by omega) (by omega), q_bnb, c_u16 h (by omega), q_bn_s, nI_add, pk_mul, c_lies h (by omega) hb, q_bnb]
  simp (disch := omega) only [nI_ltI]
  simp only [bI_T, bI_F, bI_if]
  congr 1
  apply bI_c
  unfold s_list
  simp only [and_true, and_false, or_false, false_or, Nat.not_lt]
theorem c_idx (h : cH n u st) {a c sz : Nat} (ha : a < 2 ^ 27) (hc : c < 2 ^ 31) (hsz : sz ≤ 64) : xLoader_listByIndexLies (nI a) (nI c) (nI sz) st = some (bI (s_idx n u a c sz)) := by
  unfold xLoader_listByIndexLies
  rw [il256, c_list h ha (by omega) hsz, q_bnb, c_u16 h (by omega), q_bn_s]
  simp (disch := omega) only [nI_eq]
  simp only [bI_T, bI_F, bI_if]
  congr 1
  apply bI_c
  unfold s_idx
  simp only [and_true, and_false, or_false, false_or]
end PCl
