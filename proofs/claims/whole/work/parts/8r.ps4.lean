section PS4
/-- what never changes while a run is set: c ranges of kinds F 1 .. F 4; m glyphs D 0, their parts D 1, kinds D 2, marks D 3 -/
def kG (c : Nat) (F : Nat → Nat → Int32) (t : QSt) : Prop := t.1 16 = nI c ∧ ∀ q, q < c → t.2 28 q = F 1 q ∧ t.2 29 q = F 2 q ∧ t.2 30 q = F 3 q ∧ t.2 31 q = F 4 q
def gl (N m c : Nat) (F : Nat → Nat → Int32) (D : Nat → Nat → Nat) : Prop := m ≤ 512 ∧ ∀ j, j < m → D 0 j < 65536 ∧ D 1 j ≤ 16 ∧ D 2 j ≤ 3 ∧ D 3 j ≤ 255 ∧ ∀ t, kG c F t → xGlyphPositionsModel_kindOfGlyph N (nI (D 0 j)) t = some (nI (D 2 j)) ∧ ∀ flag, flag < 65536 → xGlyphPositionsModel_isPassed N (nI flag) (nI (D 0 j)) t = some (bI (k_ps flag (D 2 j) (D 3 j)))
def eS (n m : Nat) (u : Nat → Fin 65536) (D : Nat → Nat → Nat) (bk : Int32) (s : QSt) : Prop := fH n u s ∧ s.1 9 = nI m ∧ s.1 10 = bk ∧ ∀ j, j < m → s.2 8 j = nI (D 0 j) ∧ s.2 10 j = nI (D 1 j) ∧ s.2 20 j = nI (D 2 j) ∧ s.2 21 j = nI (D 3 j) ∧ bf (fun q => D 2 q = 3) j (s.2 22 j)
def eP (m : Nat) (D : Nat → Nat → Nat) (flag : Nat) (s : QSt) : Prop := ∀ j, j < m → s.2 23 j = bI (k_ps flag (D 2 j) (D 3 j)) ∧ bf (fun q => k_ps flag (D 2 q) (D 3 q)) j (s.2 24 j) ∧ nx (fun q => k_ps flag (D 2 q) (D 3 q)) m (j + 1) (s.2 25 j)
def eT (n m c : Nat) (u : Nat → Fin 65536) (F : Nat → Nat → Int32) (D : Nat → Nat → Nat) (bk : Int32) (t : QSt) : Prop := gH n u t ∧ kG c F t ∧ t.1 21 = nI m ∧ t.1 22 = bk ∧ ∀ j, j < m → t.2 38 j = nI (D 0 j) ∧ t.2 39 j = nI (D 1 j)
def hg (j : Nat) (s t : QSt) : Prop := s.2 16 j = -1 ∨ ∃ p, p < j ∧ s.2 16 j = nI p ∧ t.2 45 j = s.2 17 j ∧ t.2 47 j = s.2 19 j ∧ ((s.2 17 j = 0 ∧ t.2 46 j = s.2 18 j) ∨ s.2 17 j = 1)
def r1 (j : Nat) (s t : QSt) : Prop := t.2 40 j = s.2 12 j ∧ t.2 41 j = s.2 13 j ∧ t.2 42 j = s.2 14 j ∧ t.2 43 j = s.2 15 j ∧ t.2 44 j = s.2 16 j ∧ hg j s t
def sC (s s' : QSt) : Prop := s'.1 = s.1 ∧ ∀ j, (j < 12 ∨ 19 < j) → s'.2 j = s.2 j
def sM (t t' : QSt) : Prop := t'.1 = t.1 ∧ ∀ j, (j < 40 ∨ 47 < j) → t'.2 j = t.2 j
theorem sC.rfl' (s : QSt) : sC s s := ⟨rfl, fun _ _ => rfl⟩
theorem sM.rfl' (s : QSt) : sM s s := ⟨rfl, fun _ _ => rfl⟩
theorem sC.tr {a b c : QSt} (h : sC a b) (g : sC b c) : sC a c := ⟨g.1.trans h.1, fun j hj => (g.2 j hj).trans (h.2 j hj)⟩
theorem sM.tr {a b c : QSt} (h : sM a b) (g : sM b c) : sM a c := ⟨g.1.trans h.1, fun j hj => (g.2 j hj).trans (h.2 j hj)⟩
theorem sC.pa {s : QSt} {k i : Nat} {v : Int32} (h1 : 12 ≤ k) (h2 : k ≤ 19) : sC s (q_pa s k i v) := ⟨rfl, fun j hj => by rw [p_a2, if_neg (by omega)]⟩
theorem sM.pa {s : QSt} {k i : Nat} {v : Int32} (h1 : 40 ≤ k) (h2 : k ≤ 47) : sM s (q_pa s k i v) := ⟨rfl, fun j hj => by rw [p_a2, if_neg (by omega)]⟩
variable {n N m c : Nat} {u : Nat → Fin 65536} {F : Nat → Nat → Int32} {D : Nat → Nat → Nat} {bk : Int32} {flag : Nat} {s s' t t' : QSt}
theorem eS.to (h : eS n m u D bk s) (g : sC s s') : eS n m u D bk s' := by
  obtain ⟨⟨h1, h2, h3, h4⟩, h5, h6, h7⟩ := h
  refine ⟨⟨h1, by rw [g.1]; exact h2, fun a ha => by rw [g.2 1 (by omega)]; exact h3 a ha, h4⟩, by rw [g.1]; exact h5, by rw [g.1]; exact h6, fun j hj => ?_⟩
  rw [g.2 8 (by omega), g.2 10 (by omega), g.2 20 (by omega), g.2 21 (by omega), g.2 22 (by omega)]
  exact h7 j hj
theorem eP.to (h : eP m D flag s) (g : sC s s') : eP m D flag s' := by
  intro j hj
  rw [g.2 23 (by omega), g.2 24 (by omega), g.2 25 (by omega)]
  exact h j hj
theorem eT.to (h : eT n m c u F D bk t) (g : sM t t') : eT n m c u F D bk t' := by
  obtain ⟨⟨h1, h2⟩, ⟨h3, h4⟩, h5, h6, h7⟩ := h
  refine ⟨⟨h1, fun a ha => by rw [g.2 27 (by omega)]; exact h2 a ha⟩, ⟨by rw [g.1]; exact h3, fun q hq => by rw [g.2 28 (by omega), g.2 29 (by omega), g.2 30 (by omega), g.2 31 (by omega)]; exact h4 q hq⟩, by rw [g.1]; exact h5, by rw [g.1]; exact h6, fun j hj => by rw [g.2 38 (by omega), g.2 39 (by omega)]; exact h7 j hj⟩
/-- class and reference, while a lookup with this flag is carried out -/
def wW (n m c : Nat) (u : Nat → Fin 65536) (F : Nat → Nat → Int32) (D : Nat → Nat → Nat) (bk : Int32) (flag : Nat) (s t : QSt) : Prop := eS n m u D bk s ∧ eP m D flag s ∧ eT n m c u F D bk t ∧ ∀ j, j < m → r1 j s t
theorem wW.to (h : wW n m c u F D bk flag s t) (g1 : sC s s') (g2 : sM t t') (h4 : ∀ j, j < m → r1 j s' t') : wW n m c u F D bk flag s' t' := ⟨h.1.to g1, h.2.1.to g1, h.2.2.1.to g2, h4⟩
/-- a step that both do -/
def wS (n m c : Nat) (u : Nat → Fin 65536) (F : Nat → Nat → Int32) (D : Nat → Nat → Nat) (bk : Int32) (flag : Nat) (s t s' t' : QSt) : Prop := wW n m c u F D bk flag s' t' ∧ sC s s' ∧ sM t t'
theorem wS.tr {s'' t'' : QSt} (h : wS n m c u F D bk flag s t s' t') (g : wS n m c u F D bk flag s' t' s'' t'') : wS n m c u F D bk flag s t s'' t'' := ⟨g.1, h.2.1.tr g.2.1, h.2.2.tr g.2.2⟩
theorem r1_pa {i : Nat} {v : Int32} {x : Nat} (hx : x = 0 ∨ x = 1 ∨ x = 2 ∨ x = 3) (h : ∀ j, j < m → r1 j s t) : ∀ j, j < m → r1 j (q_pa s (12 + x) i v) (q_pa t (40 + x) i v) := by
  intro j hj
  obtain ⟨h1, h2, h3, h4, h5, h6⟩ := h j hj
  unfold r1 hg
  unfold hg at h6
  rcases hx with rfl | rfl | rfl | rfl <;>
  · simp only [p_a2]
    by_cases e : j = i
    · subst e
      simp [p_upd]
      simp [h1, h2, h3, h4, h5]
      exact h6
    · simp [p_upd, e]
      simp [h1, h2, h3, h4, h5]
      exact h6
theorem r1_mre {i : Nat} {v : Int32} {x : Nat} (hx : x = 0 ∨ x = 1 ∨ x = 2 ∨ x = 3) (hv : v = t.2 (40 + x) i) (h : ∀ j, j < m → r1 j s t) : ∀ j, j < m → r1 j s (q_pa t (40 + x) i v) := by
  intro j hj
  obtain ⟨h1, h2, h3, h4, h5, h6⟩ := h j hj
  unfold r1 hg
  unfold hg at h6
  subst hv
  rcases hx with rfl | rfl | rfl | rfl <;>
  · simp only [p_a2]
    by_cases e : j = i
    · subst e
      simp [p_upd]
      simp [h1, h2, h3, h4, h5]
      exact h6
    · simp [p_upd, e]
      simp [h1, h2, h3, h4, h5]
      exact h6
def s_off (b k : Nat) : Nat := s_sum (fun k => 2 * (b / 2 ^ k % 2)) k
theorem s_off_s (b k : Nat) : s_off b (k + 1) = s_off b k + 2 * (b / 2 ^ k % 2) := rfl
theorem bit_k {b k : Nat} (hb : b < 256) (hk : k < 8) : (nI b >>> (nI k &&& 31)) &&& 1 = nI (b / 2 ^ k % 2) := by
  have hs : ∀ k, k < 8 → ((nI k &&& 31).toBitVec.smod 32).toNat = k := by decide
  rw [pk_shrN (by omega) _ k (hs k hk), pk_andN (Nat.lt_of_le_of_lt (Nat.div_le_self _ _) (by omega)) 1 (by decide)]
/-- the reference's step for a bit that is set -/
theorem m_give1 (hgm : gH n u t) {b k x i f : Nat} (hb : b < 256) (hk : k < 8) (hi : i < 512) (hset : b / 2 ^ k % 2 = 1) (hx : x + 2 ≤ n) :
    xGlyphPositionsModel_give_6 N (nI i) (nI b) (f + 1) (nI x) (nI k) t = xGlyphPositionsModel_give_6 N (nI i) (nI b) f (nI (x + 2)) (nI (k + 1)) (q_pa (q_pa (q_pa (q_pa t 42 i (if k = 0 then t.2 42 i + sv u x else t.2 42 i)) 43 i (if k = 1 then t.2 43 i + sv u x else t.2 43 i)) 40 i (if k = 2 then t.2 40 i + sv u x else t.2 40 i)) 41 i (if k = 3 then t.2 41 i + sv u x else t.2 41 i)) := by
  have hn := hgm.1
  have hv : q_vpb (nI i) 800 = true := decide_eq_true (nI_in (by omega) (by omega))
  rw [xGlyphPositionsModel_give_6, show (8 : Int32) = nI 8 from rfl, if_neg (nI_ge (by omega) (by omega)), bit_k hb hk, hset, if_pos (show nI 1 = 1 from rfl), g_s16 hgm hx, q_bn_s, q_lt, il2, nI_add]
  unfold xGlyphPositionsModel_give_65 xGlyphPositionsModel_give_95 xGlyphPositionsModel_give_125 xGlyphPositionsModel_give_155
  simp (disch := omega) only [hv, q_grd_tt, q_lt, nI_clamp, nI_1, m_eq0, m_eq1, m_eq2, nI_eq, show (3 : Int32) = nI 3 from rfl]
  have hk8 : k = 0 ∨ k = 1 ∨ k = 2 ∨ k = 3 ∨ 4 ≤ k := by omega
  rcases hk8 with rfl | rfl | rfl | rfl | hk4
  · simp [p_a2]
  · simp [p_a2]
  · simp [p_a2]
  · simp [p_a2]
  · have e0 : ¬ k = 0 := by omega
    have e1 : ¬ k = 1 := by omega
    have e2 : ¬ k = 2 := by omega
    have e3 : ¬ k = 3 := by omega
    simp [p_a2, e0, e1, e2, e3]
theorem m_give0 {b k x i f : Nat} (hb : b < 256) (hk : k < 8) (hset : ¬ b / 2 ^ k % 2 = 1) : xGlyphPositionsModel_give_6 N (nI i) (nI b) (f + 1) (nI x) (nI k) t = xGlyphPositionsModel_give_6 N (nI i) (nI b) f (nI x) (nI (k + 1)) t := by
  rw [xGlyphPositionsModel_give_6, show (8 : Int32) = nI 8 from rfl, if_neg (nI_ge (by omega) (by omega)), bit_k hb hk, if_neg (by rw [m_eq1 (by omega)]; exact hset), nI_1]
theorem w_give1 (w : wW n m c u F D bk flag s t) {k i : Nat} (v : Int32) (hi : i < m) : wS n m c u F D bk flag s t (if k = 0 then q_pa s 14 i (s.2 14 i + v) else if k = 1 then q_pa s 15 i (s.2 15 i + v) else if k = 2 then q_pa s 12 i (s.2 12 i + v) else if k = 3 then q_pa s 13 i (s.2 13 i + v) else s)
    (q_pa (q_pa (q_pa (q_pa t 42 i (if k = 0 then t.2 42 i + v else t.2 42 i)) 43 i (if k = 1 then t.2 43 i + v else t.2 43 i)) 40 i (if k = 2 then t.2 40 i + v else t.2 40 i)) 41 i (if k = 3 then t.2 41 i + v else t.2 41 i)) := by
  obtain ⟨a1, a2, a3, a4, a5, a6⟩ := w.2.2.2 i hi
  have hM : sM t (q_pa (q_pa (q_pa (q_pa t 42 i (if k = 0 then t.2 42 i + v else t.2 42 i)) 43 i (if k = 1 then t.2 43 i + v else t.2 43 i)) 40 i (if k = 2 then t.2 40 i + v else t.2 40 i)) 41 i (if k = 3 then t.2 41 i + v else t.2 41 i)) := (((sM.pa (by omega) (by omega)).tr (sM.pa (by omega) (by omega))).tr (sM.pa (by omega) (by omega))).tr (sM.pa (by omega) (by omega))
  have hC : sC s (if k = 0 then q_pa s 14 i (s.2 14 i + v) else if k = 1 then q_pa s 15 i (s.2 15 i + v) else if k = 2 then q_pa s 12 i (s.2 12 i + v) else if k = 3 then q_pa s 13 i (s.2 13 i + v) else s) := by
    by_cases e0 : k = 0
    · rw [if_pos e0]; exact sC.pa (by omega) (by omega)
    rw [if_neg e0]
    by_cases e1 : k = 1
    · rw [if_pos e1]; exact sC.pa (by omega) (by omega)
    rw [if_neg e1]
    by_cases e2 : k = 2
    · rw [if_pos e2]; exact sC.pa (by omega) (by omega)
    rw [if_neg e2]
    by_cases e3 : k = 3
    · rw [if_pos e3]; exact sC.pa (by omega) (by omega)
    rw [if_neg e3]; exact sC.rfl' s
  refine ⟨w.to hC hM (fun j hj => ?_), hC, hM⟩
  obtain ⟨h1, h2, h3, h4, h5, h6⟩ := w.2.2.2 j hj
  have hk8 : k = 0 ∨ k = 1 ∨ k = 2 ∨ k = 3 ∨ 4 ≤ k := by omega
  unfold r1 hg
  unfold hg at h6
  rcases hk8 with rfl | rfl | rfl | rfl | hk4
  · by_cases e : j = i
    · subst e; simp [p_a2, p_upd, h1, h2, h3, h4, h5]; exact h6
    · simp [p_a2, p_upd, e, h1, h2, h3, h4, h5]; exact h6
  · by_cases e : j = i
    · subst e; simp [p_a2, p_upd, h1, h2, h3, h4, h5]; exact h6
    · simp [p_a2, p_upd, e, h1, h2, h3, h4, h5]; exact h6
  · by_cases e : j = i
    · subst e; simp [p_a2, p_upd, h1, h2, h3, h4, h5]; exact h6
    · simp [p_a2, p_upd, e, h1, h2, h3, h4, h5]; exact h6
  · by_cases e : j = i
    · subst e; simp [p_a2, p_upd, h1, h2, h3, h4, h5]; exact h6
    · simp [p_a2, p_upd, e, h1, h2, h3, h4, h5]; exact h6
  · have e0 : ¬ k = 0 := by omega
    have e1 : ¬ k = 1 := by omega
    have e2 : ¬ k = 2 := by omega
    have e3 : ¬ k = 3 := by omega
    by_cases e : j = i
    · subst e; simp [p_a2, p_upd, e0, e1, e2, e3, h1, h2, h3, h4, h5]; exact h6
    · simp [p_a2, p_upd, e0, e1, e2, e3, e, h1, h2, h3, h4, h5]; exact h6
end PS4
