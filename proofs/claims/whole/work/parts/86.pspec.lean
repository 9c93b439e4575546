section PSpec
noncomputable def bI (p : Prop) : Int32 := @ite _ p (Classical.propDecidable p) 1 0
theorem bI_t {p : Prop} (h : p) : bI p = 1 := by unfold bI; exact if_pos h
theorem bI_f {p : Prop} (h : ¬ p) : bI p = 0 := by unfold bI; exact if_neg h
theorem bI_c {p q : Prop} (h : p ↔ q) : bI p = bI q := by rw [propext h]
theorem bI_T : some (1 : Int32) = some (bI True) := by rw [bI_t trivial]
theorem bI_F : some (0 : Int32) = some (bI False) := by rw [bI_f (fun h => h)]
theorem bI_01 (p : Prop) : bI p = 0 ∨ bI p = 1 := by
  by_cases h : p
  · exact Or.inr (bI_t h)
  · exact Or.inl (bI_f h)
theorem bI_b (p : Prop) : q_isb (bI p) = true := decide_eq_true (bI_01 p)
theorem bI_if {c : Prop} [Decidable c] (V W : Prop) : (if c then some (bI V) else some (bI W)) = some (bI ((c ∧ V) ∨ (¬ c ∧ W))) := by
  by_cases h : c
  · rw [if_pos h]; congr 1; exact bI_c (by simp [h])
  · rw [if_neg h]; congr 1; exact bI_c (by simp [h])
theorem q_bnb {α : Type} (c : Prop) (A B : Option α) : q_bn (some (bI c)) (fun r => if r = 0 then A else B) = @ite _ c (Classical.propDecidable c) B A := by
  by_cases h : c
  · rw [bI_t h, if_pos h]; rfl
  · rw [bI_f h, if_neg h]; rfl
theorem il0 : (0 : Int32) = nI 0 := rfl
theorem il1 : (1 : Int32) = nI 1 := rfl
theorem il2 : (2 : Int32) = nI 2 := rfl
theorem il3 : (3 : Int32) = nI 3 := rfl
theorem il4 : (4 : Int32) = nI 4 := rfl
theorem il5 : (5 : Int32) = nI 5 := rfl
theorem il6 : (6 : Int32) = nI 6 := rfl
theorem il8 : (8 : Int32) = nI 8 := rfl
theorem il9 : (9 : Int32) = nI 9 := rfl
theorem il10 : (10 : Int32) = nI 10 := rfl
theorem il12 : (12 : Int32) = nI 12 := rfl
theorem il14 : (14 : Int32) = nI 14 := rfl
theorem il16 : (16 : Int32) = nI 16 := rfl
theorem il64 : (64 : Int32) = nI 64 := rfl
theorem il255 : (255 : Int32) = nI 255 := rfl
theorem il256 : (256 : Int32) = nI 256 := rfl
theorem il8192 : (8192 : Int32) = nI 8192 := rfl
theorem il20000 : (20000 : Int32) = nI 20000 := rfl
theorem il65535 : (65535 : Int32) = nI 65535 := rfl
theorem il65536 : (65536 : Int32) = nI 65536 := rfl
theorem ll0 : (0 : Int64) = lN 0 := rfl
theorem ll2 : (2 : Int64) = lN 2 := rfl
theorem ll4 : (4 : Int64) = lN 4 := rfl
theorem ll6 : (6 : Int64) = lN 6 := rfl
theorem ll8 : (8 : Int64) = lN 8 := rfl
theorem ll10 : (10 : Int64) = lN 10 := rfl
theorem ll12 : (12 : Int64) = lN 12 := rfl
theorem ll14 : (14 : Int64) = lN 14 := rfl
theorem ll16 : (16 : Int64) = lN 16 := rfl
theorem ll65536 : (65536 : Int64) = lN 65536 := rfl
/-- a table: u a is the number that stands at a, 0 outside of the n bytes -/
def s_4 (u : Nat → Fin 65536) (a : Nat) : Nat := 65536 * (u a).val + (u (a + 2)).val
def s_list (n : Nat) (u : Nat → Fin 65536) (a most sz : Nat) : Prop := a + 2 ≤ n ∧ (u a).val ≤ most ∧ a + 2 + (u a).val * sz ≤ n
def s_tags (n : Nat) (u : Nat → Fin 65536) (a : Nat) (eq : Prop) : Prop := s_list n u a 64 6 ∧ ∀ k, k + 1 < (u a).val → s_4 u (a + 2 + 6 * k) < s_4 u (a + 2 + 6 * (k + 1)) ∨ (eq ∧ s_4 u (a + 2 + 6 * k) = s_4 u (a + 2 + 6 * (k + 1)))
def s_nums (n : Nat) (u : Nat → Fin 65536) (a below : Nat) : Prop := s_list n u a 64 2 ∧ ∀ k, k < (u a).val → (u (a + 2 + 2 * k)).val < below
def s_lang (n : Nat) (u : Nat → Fin 65536) (a : Nat) : Prop := a + 4 ≤ n ∧ ((u (a + 2)).val = 65535 ∨ (u (a + 2)).val < (u (u 6).val).val) ∧ s_nums n u (a + 4) (u (u 6).val).val
def s_script (n : Nat) (u : Nat → Fin 65536) (a : Nat) : Prop := a + 2 ≤ n ∧ s_tags n u (a + 2) False ∧ ((u a).val ≠ 0 → s_lang n u (a + (u a).val)) ∧ ∀ k, k < (u (a + 2)).val → s_lang n u (a + (u (a + 8 + 6 * k)).val)
def s_scripts (n : Nat) (u : Nat → Fin 65536) : Prop := s_tags n u (u 4).val False ∧ ∀ k, k < (u (u 4).val).val → s_script n u ((u 4).val + (u ((u 4).val + 6 + 6 * k)).val)
def s_features (n : Nat) (u : Nat → Fin 65536) : Prop := s_tags n u (u 6).val True ∧ ∀ k, k < (u (u 6).val).val → s_nums n u ((u 6).val + (u ((u 6).val + 6 + 6 * k)).val + 2) (u (u 8).val).val
def s_head (n : Nat) (u : Nat → Fin 65536) : Prop := 10 ≤ n ∧ (u 0).val = 1 ∧ (u 2).val = 0 ∧ (u 4).val ≠ 0 ∧ (u 6).val ≠ 0 ∧ (u 8).val ≠ 0
def s_sum (f : Nat → Nat) : Nat → Nat
  | 0 => 0
  | m + 1 => s_sum f m + f m
def s_rise (u : Nat → Fin 65536) (a m step : Nat) : Prop := ∀ k, k + 1 < m → (u (a + step * k)).val < (u (a + step * (k + 1))).val
def s_rr (u : Nat → Fin 65536) (a m : Nat) : Prop := ∀ k, k < m → (u (a + 6 * k)).val ≤ (u (a + 6 * k + 2)).val ∧ (0 < k → (u (a + 6 * (k - 1) + 2)).val < (u (a + 6 * k)).val)
def s_cnt (u : Nat → Fin 65536) (a k : Nat) : Nat := s_sum (fun j => (u (a + 6 * j + 2)).val - (u (a + 6 * j)).val + 1) k
def s_cov (n : Nat) (u : Nat → Fin 65536) (a : Nat) : Prop := a + 4 ≤ n ∧ (((u a).val = 1 ∧ a + 4 + 2 * (u (a + 2)).val ≤ n ∧ s_rise u (a + 4) (u (a + 2)).val 2) ∨ ((u a).val = 2 ∧ a + 4 + 6 * (u (a + 2)).val ≤ n ∧ s_rr u (a + 4) (u (a + 2)).val ∧ ∀ k, k < (u (a + 2)).val → (u (a + 4 + 6 * k + 4)).val = s_cnt u (a + 4) k))
def s_cv (u : Nat → Fin 65536) (a : Nat) : Nat := if (u a).val = 1 then (u (a + 2)).val else s_cnt u (a + 4) (u (a + 2)).val
def s_idx (n : Nat) (u : Nat → Fin 65536) (a c sz : Nat) : Prop := s_list n u a 256 sz ∧ (u a).val = c
def s_pop (b : Nat) : Nat := s_sum (fun k => 2 * (b / 2 ^ k % 2)) 8
def s_single (n : Nat) (u : Nat → Fin 65536) (a : Nat) : Prop := a + 6 ≤ n ∧ (u (a + 4)).val ≤ 255 ∧ s_cov n u (a + (u (a + 2)).val) ∧ (((u a).val = 1 ∧ a + 6 + s_pop (u (a + 4)).val ≤ n) ∨ ((u a).val = 2 ∧ s_idx n u (a + 6) (s_cv u (a + (u (a + 2)).val)) (s_pop (u (a + 4)).val)))
def s_row (n : Nat) (u : Nat → Fin 65536) (r step : Nat) : Prop := s_list n u r 256 step ∧ s_rise u (r + 2) (u r).val step
def s_cls (n : Nat) (u : Nat → Fin 65536) (a : Nat) : Prop := a + 4 ≤ n ∧ (((u a).val = 1 ∧ a + 6 + 2 * (u (a + 4)).val ≤ n ∧ (u (a + 2)).val + (u (a + 4)).val ≤ 65536) ∨ ((u a).val = 2 ∧ a + 4 + 6 * (u (a + 2)).val ≤ n ∧ s_rr u (a + 4) (u (a + 2)).val))
def s_pc (n : Nat) (u : Nat → Fin 65536) (a sz : Nat) : Prop := a + 16 ≤ n ∧ (u (a + 12)).val ≤ 256 ∧ (u (a + 14)).val ≤ 256 ∧ a + 16 + (u (a + 12)).val * (u (a + 14)).val * sz ≤ n ∧ s_cls n u (a + (u (a + 8)).val) ∧ s_cls n u (a + (u (a + 10)).val)
def s_psz (u : Nat → Fin 65536) (a : Nat) : Nat := s_pop (u (a + 4)).val + s_pop (u (a + 6)).val
def s_pair (n : Nat) (u : Nat → Fin 65536) (a : Nat) : Prop := a + 8 ≤ n ∧ (u (a + 4)).val ≤ 255 ∧ (u (a + 6)).val ≤ 255 ∧ s_cov n u (a + (u (a + 2)).val) ∧ (((u a).val = 1 ∧ s_idx n u (a + 8) (s_cv u (a + (u (a + 2)).val)) 2 ∧ ∀ k, k < (u (a + 8)).val → s_row n u (a + (u (a + 10 + 2 * k)).val) (2 + s_psz u a)) ∨ ((u a).val = 2 ∧ s_pc n u a (s_psz u a)))
def s_pairK (u : Nat → Fin 65536) (a : Nat) : Nat := 1 + if (u a).val = 1 then (u (a + 8)).val else 2
def s_anc (n : Nat) (u : Nat → Fin 65536) (a : Nat) : Prop := a + 6 ≤ n ∧ 1 ≤ (u a).val ∧ (u a).val ≤ 3
def s_ancs (n : Nat) (u : Nat → Fin 65536) (p a m : Nat) : Prop := ∀ k, k < m → (u (a + 2 * k)).val ≠ 0 → s_anc n u (p + (u (a + 2 * k)).val)
def s_ancK (u : Nat → Fin 65536) (a m : Nat) : Nat := s_sum (fun k => if (u (a + 2 * k)).val = 0 then 0 else 1) m
def s_cur (n : Nat) (u : Nat → Fin 65536) (a : Nat) : Prop := a + 4 ≤ n ∧ (u a).val = 1 ∧ s_cov n u (a + (u (a + 2)).val) ∧ s_idx n u (a + 4) (s_cv u (a + (u (a + 2)).val)) 4 ∧ s_ancs n u a (a + 6) (2 * (u (a + 4)).val)
def s_curK (u : Nat → Fin 65536) (a : Nat) : Nat := 1 + s_ancK u (a + 6) (2 * (u (a + 4)).val)
def s_marks (n : Nat) (u : Nat → Fin 65536) (a m c : Nat) : Prop := s_idx n u a m 4 ∧ ∀ k, k < (u a).val → (u (a + 2 + 4 * k)).val < c ∧ s_anc n u (a + (u (a + 4 + 4 * k)).val)
def s_lig (n : Nat) (u : Nat → Fin 65536) (l c : Nat) : Prop := s_list n u l 16 (2 * c) ∧ (u l).val ≠ 0 ∧ s_ancs n u l (l + 2) ((u l).val * c)
def s_ligs (n : Nat) (u : Nat → Fin 65536) (a m c : Nat) : Prop := s_idx n u a m 2 ∧ ∀ k, k < (u a).val → s_lig n u (a + (u (a + 2 + 2 * k)).val) c
def s_ligK (u : Nat → Fin 65536) (a c : Nat) : Nat := s_sum (fun k => 1 + s_ancK u (a + (u (a + 2 + 2 * k)).val + 2) ((u (a + (u (a + 2 + 2 * k)).val)).val * c)) (u a).val
def s_mon (n : Nat) (u : Nat → Fin 65536) (t a : Nat) : Prop := a + 12 ≤ n ∧ (u a).val = 1 ∧ s_cov n u (a + (u (a + 2)).val) ∧ s_cov n u (a + (u (a + 4)).val) ∧ (u (a + 6)).val ≤ 16 ∧ s_marks n u (a + (u (a + 8)).val) (s_cv u (a + (u (a + 2)).val)) (u (a + 6)).val ∧
  ((t = 5 ∧ s_ligs n u (a + (u (a + 10)).val) (s_cv u (a + (u (a + 4)).val)) (u (a + 6)).val) ∨ (t ≠ 5 ∧ s_idx n u (a + (u (a + 10)).val) (s_cv u (a + (u (a + 4)).val)) (2 * (u (a + 6)).val) ∧ s_ancs n u (a + (u (a + 10)).val) (a + (u (a + 10)).val + 2) ((u (a + (u (a + 10)).val)).val * (u (a + 6)).val)))
def s_monK (u : Nat → Fin 65536) (t a : Nat) : Nat := 2 + (u (a + (u (a + 8)).val)).val + if t = 5 then s_ligK u (a + (u (a + 10)).val) (u (a + 6)).val else s_ancK u (a + (u (a + 10)).val + 2) ((u (a + (u (a + 10)).val)).val * (u (a + 6)).val)
def s_sub (n : Nat) (u : Nat → Fin 65536) (t a : Nat) : Prop := (t = 1 ∧ s_single n u a) ∨ (t = 2 ∧ s_pair n u a) ∨ (t = 3 ∧ s_cur n u a) ∨ ((t = 4 ∨ t = 5 ∨ t = 6) ∧ s_mon n u t a)
def s_subK (u : Nat → Fin 65536) (t a : Nat) : Nat := if t = 1 then 1 else if t = 2 then s_pairK u a else if t = 3 then s_curK u a else s_monK u t a
def s_ext (n : Nat) (u : Nat → Fin 65536) (e t : Nat) : Prop := e + 8 ≤ n ∧ (u e).val = 1 ∧ (u (e + 2)).val = t ∧ s_4 u (e + 4) ≤ 8192 ∧ s_sub n u t (e + s_4 u (e + 4))
def s_lo (n : Nat) (u : Nat → Fin 65536) (l : Nat) : Prop := l + 4 ≤ n ∧ ((1 ≤ (u l).val ∧ (u l).val ≤ 6) ∨ (u l).val = 9) ∧ (u (l + 2)).val / 16 % 2 = 0 ∧ s_list n u (l + 4) 16 2
def s_st (n : Nat) (u : Nat → Fin 65536) (l k : Nat) : Prop := ((u l).val ≠ 9 ∧ s_sub n u (u l).val (l + (u (l + 6 + 2 * k)).val)) ∨ ((u l).val = 9 ∧ s_ext n u (l + (u (l + 6 + 2 * k)).val) (u (l + (u (l + 6)).val + 2)).val)
def s_stK (u : Nat → Fin 65536) (l k : Nat) : Nat := if (u l).val = 9 then s_subK u (u (l + (u (l + 6)).val + 2)).val (l + (u (l + 6 + 2 * k)).val + s_4 u (l + (u (l + 6 + 2 * k)).val + 4)) else s_subK u (u l).val (l + (u (l + 6 + 2 * k)).val)
def s_lk (n : Nat) (u : Nat → Fin 65536) (l : Nat) : Prop := s_lo n u l ∧ ∀ k, k < (u (l + 4)).val → s_st n u l k
def s_lkK (u : Nat → Fin 65536) (l : Nat) : Nat := s_sum (fun k => s_stK u l k) (u (l + 4)).val
def s_lks (n : Nat) (u : Nat → Fin 65536) : Prop := s_list n u (u 8).val 64 2 ∧ ∀ k, k < (u (u 8).val).val → s_lk n u ((u 8).val + (u ((u 8).val + 2 + 2 * k)).val)
def s_lksK (u : Nat → Fin 65536) : Nat := s_sum (fun k => s_lkK u ((u 8).val + (u ((u 8).val + 2 + 2 * k)).val)) (u (u 8).val).val
/-- the class's half: n bytes were fed -/
def cH (n : Nat) (u : Nat → Fin 65536) (st : QSt) : Prop := n ≤ 2048 ∧ st.1 3 = nI n ∧ (∀ a, a + 2 ≤ n → ((st.2 0 a &&& 255) <<< ((8 : Int32) &&& 31)) ||| (st.2 0 (a + 1) &&& 255) = nI (u a).val) ∧ ∀ a, n < a + 2 → u a = 0
theorem cH.p5 {n : Nat} {u : Nat → Fin 65536} {st : QSt} (h : cH n u st) (v : Int32) : cH n u (q_ps st 5 v) := h
theorem c_le {n a b : Nat} (hn : n ≤ 2048) (ha : a < 2 ^ 29) (hb : b < 2 ^ 29) : (nI n - nI b < nI a) ↔ ¬ a + b ≤ n := by
  rw [Int32.lt_iff_toInt_lt, nI_toInt (by omega), pk_sub_toInt (by omega) (by omega)]
  omega
theorem c_le2 {n a b : Nat} (hn : n ≤ 2048) (ha : a < 2 ^ 29) (hb : b < 2 ^ 29) : (nI a ≤ nI n - nI b) ↔ a + b ≤ n := by
  rw [Int32.le_iff_toInt_le, nI_toInt (by omega), pk_sub_toInt (by omega) (by omega)]
  omega
theorem c_lies {n : Nat} {u : Nat → Fin 65536} {st : QSt} (h : cH n u st) {a b : Nat} (ha : a < 2 ^ 29) (hb : b < 2 ^ 29) : xTable_lies (nI a) (nI b) st = some (bI (a + b ≤ n)) := by
  unfold xTable_lies
  rw [if_neg (nI_pos (by omega)), if_neg (nI_pos (by omega)), h.2.1]
  by_cases hc : a + b ≤ n
  · rw [if_neg (by rw [c_le h.1 ha hb]; omega), bI_t hc]
  · rw [if_pos (by rw [c_le h.1 ha hb]; omega), bI_f hc]
theorem c_u16 {n : Nat} {u : Nat → Fin 65536} {st : QSt} (h : cH n u st) {a : Nat} (ha : a < 2 ^ 29) : xTable_u16 (nI a) st = some (nI (u a).val) := by
  obtain ⟨h1, h2, h3, h4⟩ := h
  unfold xTable_u16
  rw [if_neg (nI_pos (by omega)), h2]
  by_cases hc : a + 2 ≤ n
  · have e := h3 a hc
    rw [if_pos (by rw [il2, c_le2 h1 ha (by omega)]; exact hc), nI_1, nI_clamp (by omega), nI_clamp (by omega)]
    rw [show q_vpb (nI a) 8192 = true from decide_eq_true (nI_in (by omega) (by omega)), show q_vpb (nI (a + 1)) 8192 = true from decide_eq_true (nI_in (by omega) (by omega))]
    simp only [q_grd_tt, q_lt]
    rw [e]
  · rw [if_neg (by rw [il2, c_le2 h1 ha (by omega)]; exact hc), h4 a (by omega)]
    rfl
theorem c_u32 {n : Nat} {u : Nat → Fin 65536} {st : QSt} (h : cH n u st) {a : Nat} (ha : a < 2 ^ 28) : xTable_u32 (nI a) st = some (nI (s_4 u a)) := by
  unfold xTable_u32
  rw [c_u16 h (by omega), q_bn_s, il2, nI_add, c_u16 h (by omega), q_bn_s]
  congr 1
  apply Int32.toBitVec_inj.mp
  apply BitVec.eq_of_toNat_eq
  have h1 := (u a).isLt
  have h2 := (u (a + 2)).isLt
  rw [Int32.toBitVec_or, BitVec.toNat_or, pk_shl _ _ 16 (by decide), pk_tn (by omega), pk_tn (by omega), pk_tn (by unfold s_4; omega)]
  rw [Nat.mod_eq_of_lt (by omega), Nat.mul_comm, ← Nat.two_pow_add_eq_or_of_lt (by omega)]
  unfold s_4
  omega
end PSpec
