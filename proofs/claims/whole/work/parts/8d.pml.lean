section PMl
def mS (st : QSt) (b l : Int32) : QSt := q_ps (q_ps st 14 b) 15 l
/-- the reference while it looks: all was well so far (G), and L parts were looked at; or it is bad -/
def mQ (st : QSt) (G : Prop) (L : Nat) (s : QSt) : Prop := (G → L ≤ 20000 ∧ s = mS st 0 (nI L)) ∧ (¬ G → ∃ l, s = mS st 1 l)
def m1 (st : QSt) (o : Option QSt) (G : Prop) (L : Nat) : Prop := ∃ s, o = some s ∧ mQ st G L s
def mr {α : Type} (st : QSt) (o : Option (α × QSt)) (r : α) (G : Prop) (L : Nat) : Prop := ∃ s, o = some (r, s) ∧ mQ st G L s
def mH (n : Nat) (u : Nat → Fin 65536) (st : QSt) : Prop := n ≤ 2048 ∧ st.1 12 = nI n ∧ (∀ a, a + 2 ≤ n → 256 * st.2 26 a + st.2 26 (a + 1) = nI (u a).val) ∧ ∀ a, n < a + 2 → u a = 0
theorem mS14 (st : QSt) (b l v : Int32) : q_ps (mS st b l) 14 v = mS st v l := by
  unfold mS q_ps
  congr 1
  funext j
  unfold va_up
  by_cases h : j = 14
  · subst h; simp
  · simp [h]
theorem mS15 (st : QSt) (b l v : Int32) : q_ps (mS st b l) 15 v = mS st b v := by
  unfold mS q_ps
  congr 1
  funext j
  unfold va_up
  by_cases h : j = 15
  · subst h; simp
  · simp [h]
theorem mS_b (st : QSt) (b l : Int32) : (mS st b l).1 14 = b := rfl
theorem mS_l (st : QSt) (b l : Int32) : (mS st b l).1 15 = l := rfl
theorem mS_n (st : QSt) (b l : Int32) : (mS st b l).1 12 = st.1 12 := rfl
theorem mS_2 (st : QSt) (b l : Int32) : (mS st b l).2 = st.2 := rfl
theorem m_1ne : ¬ (1 : Int32) = 0 := by decide
variable {st : QSt}
theorem mQ.cases {G : Prop} {L : Nat} {s : QSt} (q : mQ st G L s) {P : Prop} (h1 : G → L ≤ 20000 → s = mS st 0 (nI L) → P) (h2 : ∀ l, ¬ G → s = mS st 1 l → P) : P := by
  by_cases g : G
  · exact h1 g (q.1 g).1 (q.1 g).2
  · obtain ⟨l, hl⟩ := q.2 g
    exact h2 l g hl
theorem mQ.n12 {G : Prop} {L : Nat} {s : QSt} (q : mQ st G L s) : s.1 12 = st.1 12 := q.cases (fun _ _ h => by rw [h, mS_n]) (fun l _ h => by rw [h, mS_n])
theorem mQ.n2 {G : Prop} {L : Nat} {s : QSt} (q : mQ st G L s) : s.2 = st.2 := q.cases (fun _ _ h => by rw [h, mS_2]) (fun l _ h => by rw [h, mS_2])
theorem mQ.b0 {G : Prop} {L : Nat} {s : QSt} (q : mQ st G L s) : s.1 14 = 0 ↔ G := q.cases (fun g _ h => by rw [h, mS_b]; simp [g]) (fun l g h => by rw [h, mS_b]; simp [g])
theorem mQ.to {G G' : Prop} {L L' : Nat} {s : QSt} (q : mQ st G L s) (hG : G ↔ G') (hL : G → L = L') : mQ st G' L' s := ⟨fun g => by rw [← hL (hG.mpr g)]; exact q.1 (hG.mpr g), fun g => q.2 (fun g2 => g (hG.mp g2))⟩
theorem mQ.good {L : Nat} (hL : L ≤ 20000) : mQ st True L (mS st 0 (nI L)) := ⟨fun _ => ⟨hL, rfl⟩, fun g => absurd trivial g⟩
theorem m_need {G : Prop} {L : Nat} {s : QSt} (q : mQ st G L s) {w : Int32} {c : Prop} (hw : w = 0 ↔ ¬ c) : m1 st (xGlyphPositionsModel_need w s) (G ∧ c) L := by
  unfold xGlyphPositionsModel_need xGlyphPositionsModel_need_12 xGlyphPositionsModel_need_17
  refine q.cases (fun g hL e => ?_) (fun l g e => ?_)
  · subst e
    rw [if_pos (mS_b ..)]
    by_cases hc : c
    · rw [if_neg (fun e => hw.mp e hc)]
      exact ⟨mS st 0 (nI L), by rw [show q_isb 0 = true from rfl, q_grd_tt, q_lt, mS14], fun _ => ⟨hL, rfl⟩, fun h => absurd ⟨g, hc⟩ h⟩
    · rw [if_pos (hw.mpr hc)]
      exact ⟨mS st 1 (nI L), by rw [show q_isb 1 = true from rfl, q_grd_tt, q_lt, mS14], fun h => absurd h.2 hc, fun _ => ⟨_, rfl⟩⟩
  · subst e
    rw [if_neg (by rw [mS_b]; exact m_1ne)]
    exact ⟨mS st 1 l, by rw [show q_isb 1 = true from rfl, q_grd_tt, q_lt, mS14], fun h => absurd h.1 g, fun _ => ⟨_, rfl⟩⟩
theorem m_need1 {G : Prop} {L : Nat} {s : QSt} (q : mQ st G L s) : m1 st (xGlyphPositionsModel_need 1 s) G L := by
  obtain ⟨s', e, q'⟩ := m_need q (w := 1) (c := True) (by simp)
  exact ⟨s', e, q'.to (by simp) (fun _ => rfl)⟩
theorem m_need0 {G : Prop} {L : Nat} {s : QSt} (q : mQ st G L s) : m1 st (xGlyphPositionsModel_need 0 s) False L := by
  obtain ⟨s', e, q'⟩ := m_need q (w := 0) (c := False) (by simp)
  exact ⟨s', e, q'.to (by simp) (fun _ => rfl)⟩
theorem m_cmp {a b : Nat} (ha : a < 2 ^ 63) (hb : b < 2 ^ 63) : lg_cmp (lN a) (lN b) = if a < b then -1 else if a = b then 0 else 1 := by
  unfold lg_cmp
  simp only [pk_lLT ha hb, pk_lEQ ha hb, pk_lLT hb ha]
  by_cases h1 : a < b
  · rw [if_pos h1, if_neg (by omega), if_neg (by omega)]
  · by_cases h2 : a = b
    · rw [if_neg h1, if_pos h2, if_neg (by omega), if_pos h2]
    · rw [if_neg h1, if_pos (show b < a by omega), if_neg h2]
variable {n N : Nat} {u : Nat → Fin 65536}
theorem m_u16 (hm : mH n u st) {G : Prop} {L : Nat} {s : QSt} (q : mQ st G L s) (a : Nat) (ha : a < 2 ^ 60) : mr st (xGlyphPositionsModel_u16 (lN a) s) (nI (u a).val) (G ∧ a + 2 ≤ n) L := by
  obtain ⟨h1, h2, h3, h4⟩ := hm
  unfold xGlyphPositionsModel_u16 xGlyphPositionsModel_u16_24 xGlyphPositionsModel_u16_25
  rw [ll0, ll2, lN_add, q.n12, h2, nI_l (by omega), m_cmp (by omega) (by omega), m_cmp (by omega) (by omega), if_neg (show ¬ a < 0 by omega)]
  have e0 : ¬ ((if a = 0 then (0 : Int32) else 1) < 0) := by
    by_cases h : a = 0 <;> simp [h]
  rw [if_neg e0]
  by_cases c : a + 2 ≤ n
  · have e1 : ¬ ((0 : Int32) < if a + 2 < n then -1 else if a + 2 = n then 0 else 1) := by
      by_cases h : a + 2 < n
      · rw [if_pos h]; decide
      · rw [if_neg h, if_pos (by omega)]; decide
    rw [if_neg e1]
    obtain ⟨s1, e2, q1⟩ := m_need1 q
    rw [e2, q_bv_s]
    rw [if_neg m_1ne, lN_i, nI_1, nI_clamp (by omega), nI_clamp (by omega), q1.n2, show q_vpb (nI a) 8192 = true from decide_eq_true (nI_in (by omega) (by omega)), show q_vpb (nI (a + 1)) 8192 = true from decide_eq_true (nI_in (by omega) (by omega))]
    simp only [q_grd_tt, q_lt]
    rw [h3 a c]
    exact ⟨s1, rfl, q1.to (by simp [c]) (fun _ => rfl)⟩
  · have e1 : ((0 : Int32) < if a + 2 < n then -1 else if a + 2 = n then 0 else 1) := by
      rw [if_neg (by omega), if_neg (by omega)]; decide
    rw [if_pos e1]
    obtain ⟨s1, e2, q1⟩ := m_need0 q
    rw [e2, q_bv_s]
    rw [if_pos rfl, h4 a (by omega)]
    exact ⟨s1, rfl, q1.to (by simp [c]) (fun h => h.elim)⟩
theorem m_u32 (hm : mH n u st) {G : Prop} {L : Nat} {s : QSt} (q : mQ st G L s) (a : Nat) (ha : a < 2 ^ 59) : mr st (xGlyphPositionsModel_u32 (lN a) s) (lN (s_4 u a)) (G ∧ a + 4 ≤ n) L := by
  unfold xGlyphPositionsModel_u32
  obtain ⟨s1, e1, q1⟩ := m_u16 hm q a (by omega)
  rw [e1, q_bm_s, ll2, lN_add]
  obtain ⟨s2, e2, q2⟩ := m_u16 hm q1 (a + 2) (by omega)
  rw [e2, q_bm_s]
  rw [ll65536, nI_l (by omega), nI_l (by omega), lN_mul, lN_add]
  exact ⟨s2, rfl, q2.to (by constructor; rintro ⟨⟨g1, g2⟩, g3⟩; exact ⟨g1, by omega⟩; rintro ⟨g1, g2⟩; exact ⟨⟨g1, by omega⟩, by omega⟩) (fun _ => rfl)⟩
/-- answers that are 0 when all is not well -/
def mo (st : QSt) (o : Option (Int32 × QSt)) (v : Nat) (G : Prop) (L : Nat) : Prop := ∃ (w : Nat) (s : QSt), o = some (nI w, s) ∧ mQ st G L s ∧ w < 2 ^ 29 ∧ (G → w = v) ∧ (¬ G → w = 0)
theorem mo.of {x : Nat} {G : Prop} {L : Nat} {s : QSt} (q : mQ st G L s) (hx : G → x < 2 ^ 29) {o : Option (Int32 × QSt)} (ho : o = if s.1 14 = 0 then some (nI x, s) else some (0, s)) : mo st o x G L := by
  by_cases g : G
  · rw [if_pos (q.b0.mpr g)] at ho
    exact ⟨x, s, ho, q, hx g, fun _ => rfl, fun h => absurd g h⟩
  · rw [if_neg (fun h => g (q.b0.mp h))] at ho
    exact ⟨0, s, ho, q, by omega, fun h => absurd h g, fun _ => rfl⟩
theorem m_most (hm : mH n u st) {G : Prop} {L m : Nat} {s : QSt} (q : mQ st G L s) (a : Nat) (ha : a < 2 ^ 60) (hm2 : m < 65536) : mo st (xGlyphPositionsModel_atMost (lN a) (nI m) s) (u a).val (G ∧ a + 2 ≤ n ∧ (u a).val ≤ m) L := by
  unfold xGlyphPositionsModel_atMost xGlyphPositionsModel_atMost_19
  obtain ⟨s1, e1, q1⟩ := m_u16 hm q a (by omega)
  rw [e1, q_bm_s]
  simp (disch := omega) only [nI_ltI]
  by_cases c : m < (u a).val
  · rw [if_pos c]
    obtain ⟨s2, e2, q2⟩ := m_need0 q1
    rw [e2, q_bv_s]
    exact mo.of (q2.to (by constructor; exact fun h => h.elim; rintro ⟨-, -, g⟩; omega) (fun h => h.elim)) (fun _ => by omega) rfl
  · rw [if_neg c]
    obtain ⟨s2, e2, q2⟩ := m_need1 q1
    rw [e2, q_bv_s]
    exact mo.of (q2.to (by constructor; exact fun h => ⟨h.1, h.2, by omega⟩; exact fun h => ⟨h.1, h.2.1⟩) (fun _ => rfl)) (fun _ => by omega) rfl
theorem m_look {G : Prop} {L : Nat} {s : QSt} (q : mQ st G L s) : m1 st (xGlyphPositionsModel_look s) (G ∧ L + 1 ≤ 20000) (L + 1) := by
  unfold xGlyphPositionsModel_look xGlyphPositionsModel_look_26
  rw [q_lt]
  refine q.cases (fun g hL e => ?_) (fun l g e => ?_)
  · subst e
    rw [mS_l, mS15, mS_l, nI_1, il20000]
    by_cases c : L + 1 ≤ 20000
    · rw [if_neg (nI_nlt c (by omega))]
      obtain ⟨s1, e2, q1⟩ := m_need1 (mQ.good (st := st) c)
      rw [e2, q_bv_s]
      exact ⟨s1, rfl, q1.to (by simp [g, c]) (fun _ => rfl)⟩
    · rw [if_pos (nI_lt (by omega) (by omega))]
      have q0 : mQ st False (L + 1) (mS st 1 (nI (L + 1))) := ⟨fun h => h.elim, fun _ => ⟨_, rfl⟩⟩
      unfold xGlyphPositionsModel_need xGlyphPositionsModel_need_12 xGlyphPositionsModel_need_17
      rw [if_pos (mS_b ..), if_pos rfl, show q_isb 1 = true from rfl, q_grd_tt, q_lt, mS14, q_bv_s]
      exact ⟨_, rfl, q0.to (by constructor; exact fun h => h.elim; rintro ⟨-, h⟩; omega) (fun h => h.elim)⟩
  · subst e
    rw [mS_l, mS15, mS_l]
    have q0 : mQ st False (L + 1) (mS st 1 (l + 1)) := ⟨fun h => h.elim, fun _ => ⟨_, rfl⟩⟩
    by_cases c : 20000 < l + 1
    · rw [if_pos c]
      obtain ⟨s1, e2, q1⟩ := m_need0 q0
      rw [e2, q_bv_s]
      exact ⟨s1, rfl, q1.to (by simp [g]) (fun _ => rfl)⟩
    · rw [if_neg c]
      obtain ⟨s1, e2, q1⟩ := m_need1 q0
      rw [e2, q_bv_s]
      exact ⟨s1, rfl, q1.to (by simp [g]) (fun _ => rfl)⟩
theorem m_loop {α σ : Type} (F : Nat → σ → Nat → QSt → Option α) (E : σ → QSt → Option α) (c : Nat → σ) (q : Nat) (V : Nat → Prop) (K : Nat → Nat)
    (hx : ∀ f x s, F (f + 1) x q s = E x s)
    (hb : ∀ f x k l, k < q → F (f + 1) x k (mS st 1 l) = E x (mS st 1 l))
    (hs : ∀ f k L, k < q → L ≤ 20000 → (∀ j, j < k → V j) → ∃ x' s', F (f + 1) (c k) k (mS st 0 (nI L)) = F f x' (k + 1) s' ∧ mQ st (V k ∧ L + K k ≤ 20000) (L + K k) s' ∧ (V k → x' = c (k + 1))) :
    ∀ f s G L, q < f → mQ st G L s → ∃ x s', F f (c 0) 0 s = E x s' ∧ mQ st (G ∧ (∀ j, j < q → V j) ∧ L + s_sum K q ≤ 20000) (L + s_sum K q) s' ∧ (G ∧ (∀ j, j < q → V j) ∧ L + s_sum K q ≤ 20000 → x = c q) := by
  have hbad : ∀ f x k l, k ≤ q → 0 < f → F f x k (mS st 1 l) = E x (mS st 1 l) := by
    intro f x k l hk hf
    obtain ⟨f, rfl⟩ : ∃ g, f = g + 1 := ⟨f - 1, by omega⟩
    by_cases e : k = q
    · subst e; exact hx ..
    · exact hb f x k l (by omega)
  have hmono : ∀ k m, k + 1 ≤ m → s_sum K k + K k ≤ s_sum K m := by
    intro k m hm
    induction m with
    | zero => omega
    | succ m ih2 =>
      by_cases hmk : k + 1 ≤ m
      · have := ih2 hmk
        show _ ≤ s_sum K m + K m
        omega
      · have : m = k := by omega
        subst this
        exact Nat.le_refl _
  have key : ∀ d k f L, k + d = q → d < f → L + s_sum K k ≤ 20000 → (∀ j, j < k → V j) → ∃ x s', F f (c k) k (mS st 0 (nI (L + s_sum K k))) = E x s' ∧ mQ st ((∀ j, j < q → V j) ∧ L + s_sum K q ≤ 20000) (L + s_sum K q) s' ∧ ((∀ j, j < q → V j) ∧ L + s_sum K q ≤ 20000 → x = c q) := by
    intro d
    induction d with
    | zero =>
      intro k f L hk hf hL hv
      obtain ⟨f, rfl⟩ : ∃ g, f = g + 1 := ⟨f - 1, by omega⟩
      have e : k = q := by omega
      subst e
      exact ⟨c k, _, hx .., (mQ.good hL).to (by simp [hL]; exact hv) (fun _ => rfl), fun _ => rfl⟩
    | succ d ih =>
      intro k f L hk hf hL hv
      obtain ⟨f, rfl⟩ : ∃ g, f = g + 1 := ⟨f - 1, by omega⟩
      obtain ⟨x', s', h1, h2, h3⟩ := hs f k _ (by omega) hL hv
      rw [h1]
      refine h2.cases (fun g hL2 e => ?_) (fun l g e => ?_)
      · rw [h3 g.1, e, Nat.add_assoc]
        exact ih (k + 1) f L (by omega) (by omega) (by rw [Nat.add_assoc] at hL2; exact hL2) (lt_s hv g.1)
      · rw [e, hbad f x' (k + 1) l (by omega) (by omega)]
        have hno : ¬ ((∀ j, j < q → V j) ∧ L + s_sum K q ≤ 20000) := by
          rintro ⟨g1, g2⟩
          have := hmono k q (by omega)
          exact g ⟨g1 k (by omega), by omega⟩
        exact ⟨x', _, rfl, ⟨fun h => absurd h hno, fun _ => ⟨l, rfl⟩⟩, fun h => absurd h hno⟩
  intro f s G L hf hq
  refine hq.cases (fun g hL e => ?_) (fun l g e => ?_)
  · subst e
    obtain ⟨x, s', h1, h2, h3⟩ := key q 0 f L (by omega) hf (by show L + 0 ≤ _; omega) (fun j hj => absurd hj (by omega))
    exact ⟨x, s', h1, h2.to (by simp [g]) (fun _ => rfl), fun h => h3 h.2⟩
  · subst e
    exact ⟨c 0, _, hbad f _ 0 l (by omega) (by omega), ⟨fun h => absurd h.1 g, fun _ => ⟨l, rfl⟩⟩, fun h => absurd h.1 g⟩
theorem m_loop1 {σ : Type} (F : Nat → σ → Nat → QSt → Option QSt) (c : Nat → σ) (q : Nat) (V : Nat → Prop) (K : Nat → Nat)
    (hx : ∀ f x s, F (f + 1) x q s = some s)
    (hb : ∀ f x k l, k < q → F (f + 1) x k (mS st 1 l) = some (mS st 1 l))
    (hs : ∀ f k L, k < q → L ≤ 20000 → (∀ j, j < k → V j) → ∃ x' s', F (f + 1) (c k) k (mS st 0 (nI L)) = F f x' (k + 1) s' ∧ mQ st (V k ∧ L + K k ≤ 20000) (L + K k) s' ∧ (V k → x' = c (k + 1)))
    {f : Nat} {s : QSt} {G : Prop} {L : Nat} (hf : q < f) (hq : mQ st G L s) : m1 st (F f (c 0) 0 s) (G ∧ (∀ j, j < q → V j) ∧ L + s_sum K q ≤ 20000) (L + s_sum K q) := by
  obtain ⟨x, s', h1, h2, -⟩ := m_loop F (fun _ s => some s) c q V K hx hb hs f s G L hf hq
  exact ⟨s', h1, h2⟩
theorem s_sum0 (q : Nat) : s_sum (fun _ => 0) q = 0 := by
  induction q with
  | zero => rfl
  | succ q ih => show s_sum _ q + 0 = 0; rw [ih]
theorem s_sum1 (q : Nat) : s_sum (fun _ => 1) q = q := by
  induction q with
  | zero => rfl
  | succ q ih => show s_sum _ q + 1 = _; rw [ih]
end PMl
