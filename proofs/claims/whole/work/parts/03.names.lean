section QN
def q_tbl : List Cond := lw_tbl.filter goodWord
theorem q_intab {w : Cond} (h : w ∈ tables_1) (hg : goodWord w = true) : w ∈ q_tbl := List.mem_filter.mpr ⟨List.mem_append_right _ h, hg⟩
theorem q_selp {w : Cond} (h : w ∈ k2_sels lw_privs) (hg : goodWord w = true) : w ∈ q_tbl := List.mem_filter.mpr ⟨List.mem_append_left _ h, hg⟩
def q_isN : Cond → Bool
  | .fieldLinkNest .. => true
  | .methodLinkNest .. => true
  | _ => false
def q_ntbl : List Cond := lw_tbl.filter q_isN
theorem q_inntab {w : Cond} (h : w ∈ tables_1) (hg : q_isN w = true) : w ∈ q_ntbl := List.mem_filter.mpr ⟨List.mem_append_right _ h, hg⟩
theorem q_tab1 {w : Cond} (h : w ∈ tables_1_1) (hg : goodWord w = true) : w ∈ q_tbl := q_intab (show w ∈ tables_1 from (List.mem_append_left _ h)) hg
theorem q_ntab1 {w : Cond} (h : w ∈ tables_1_1) (hg : q_isN w = true) : w ∈ q_ntbl := q_inntab (show w ∈ tables_1 from (List.mem_append_left _ h)) hg
theorem q_tab2 {w : Cond} (h : w ∈ tables_1_2) (hg : goodWord w = true) : w ∈ q_tbl := q_intab (show w ∈ tables_1 from (List.mem_append_right _ (List.mem_append_left _ h))) hg
theorem q_ntab2 {w : Cond} (h : w ∈ tables_1_2) (hg : q_isN w = true) : w ∈ q_ntbl := q_inntab (show w ∈ tables_1 from (List.mem_append_right _ (List.mem_append_left _ h))) hg
theorem q_tab3 {w : Cond} (h : w ∈ tables_1_3) (hg : goodWord w = true) : w ∈ q_tbl := q_intab (show w ∈ tables_1 from (List.mem_append_right _ (List.mem_append_right _ (List.mem_append_left _ h)))) hg
theorem q_ntab3 {w : Cond} (h : w ∈ tables_1_3) (hg : q_isN w = true) : w ∈ q_ntbl := q_inntab (show w ∈ tables_1 from (List.mem_append_right _ (List.mem_append_right _ (List.mem_append_left _ h)))) hg
theorem q_tab4 {w : Cond} (h : w ∈ tables_1_4) (hg : goodWord w = true) : w ∈ q_tbl := q_intab (show w ∈ tables_1 from (List.mem_append_right _ (List.mem_append_right _ (List.mem_append_right _ (List.mem_append_left _ h))))) hg
theorem q_ntab4 {w : Cond} (h : w ∈ tables_1_4) (hg : q_isN w = true) : w ∈ q_ntbl := q_inntab (show w ∈ tables_1 from (List.mem_append_right _ (List.mem_append_right _ (List.mem_append_right _ (List.mem_append_left _ h))))) hg
theorem q_tab5 {w : Cond} (h : w ∈ tables_1_5) (hg : goodWord w = true) : w ∈ q_tbl := q_intab (show w ∈ tables_1 from (List.mem_append_right _ (List.mem_append_right _ (List.mem_append_right _ (List.mem_append_right _ h))))) hg
theorem q_ntab5 {w : Cond} (h : w ∈ tables_1_5) (hg : q_isN w = true) : w ∈ q_ntbl := q_inntab (show w ∈ tables_1 from (List.mem_append_right _ (List.mem_append_right _ (List.mem_append_right _ (List.mem_append_right _ h))))) hg
theorem q_inr {big : List Cond} (ws : List Cond) (ps : List Nat) (hp : ws = ps.filterMap (fun i => big[i]?)) : ∀ w ∈ ws, w ∈ big := by
  intro w hw
  rw [hp] at hw
  obtain ⟨i, -, hi⟩ := List.mem_filterMap.mp hw
  exact List.mem_of_getElem? hi
theorem q_good : GoodIn q_tbl q_tbl := fun w h => ⟨h, good_of_word (List.mem_filter.mp h).2⟩
def T_GP : u_T := fun k => match k with
  | 0 => ("GlyphPositions", "fed", "LGlyphPositions$Table;", true)
  | 1 => ("GlyphPositions", "font", "LGlyphPositions$Table;", true)
  | 2 => ("GlyphPositions", "loader", "LGlyphPositions$Loader;", true)
  | 3 => ("GlyphPositions", "kinds", "LGlyphPositions$Kinds;", true)
  | 4 => ("GlyphPositions", "tags", "LGlyphPositions$Tags;", true)
  | 5 => ("GlyphPositions", "told", "LGlyphPositions$Told;", true)
  | 6 => ("GlyphPositions", "choice", "LGlyphPositions$Choice;", true)
  | 7 => ("GlyphPositions", "run", "LGlyphPositions$Run;", true)
  | 8 => ("GlyphPositions", "setter", "LGlyphPositions$Setter;", true)
  | 9 => ("GlyphPositions", "loaded", "Z", false)
  | 10 => ("GlyphPositions", "script", "I", false)
  | _ => ("GlyphPositions", "language", "I", false)
def ty_GP : Nat → FieldType := fun k => match k with
  | 0 => .object "GlyphPositions$Table"
  | 1 => .object "GlyphPositions$Table"
  | 2 => .object "GlyphPositions$Loader"
  | 3 => .object "GlyphPositions$Kinds"
  | 4 => .object "GlyphPositions$Tags"
  | 5 => .object "GlyphPositions$Told"
  | 6 => .object "GlyphPositions$Choice"
  | 7 => .object "GlyphPositions$Run"
  | 8 => .object "GlyphPositions$Setter"
  | 9 => .boolean
  | 10 => .int
  | _ => .int
theorem nm_GP : ∀ a, a < 12 → ∀ b, b < 12 → a ≠ b → (T_GP a).2.1 ≠ (T_GP b).2.1 := by decide +kernel
theorem tyok_GP : ∀ k, k < 12 → parseFieldDescriptor (T_GP k).2.2.1 = some (ty_GP k) := by decide +kernel
theorem in_GP : ∀ w ∈ u_ws R_GP T_GP 12, w ∈ q_tbl := fun w h => q_intab (q_inr _ [232, 234, 236, 238, 240, 242, 244, 246, 248, 250, 252, 254] (by decide +kernel) w h) (List.all_eq_true.mp (show (u_ws R_GP T_GP 12).all goodWord = true by decide +kernel) w h)
def T_Choice : u_T := fun k => match k with
  | 0 => ("GlyphPositions$Choice", "font", "LGlyphPositions$Table;", true)
  | 1 => ("GlyphPositions$Choice", "tags", "LGlyphPositions$Tags;", true)
  | _ => ("GlyphPositions$Choice", "wanted", "[Z", true)
def ty_Choice : Nat → FieldType := fun k => match k with
  | 0 => .object "GlyphPositions$Table"
  | 1 => .object "GlyphPositions$Tags"
  | _ => .array .boolean
theorem nm_Choice : ∀ a, a < 3 → ∀ b, b < 3 → a ≠ b → (T_Choice a).2.1 ≠ (T_Choice b).2.1 := by decide +kernel
theorem tyok_Choice : ∀ k, k < 3 → parseFieldDescriptor (T_Choice k).2.2.1 = some (ty_Choice k) := by decide +kernel
theorem in_Choice : ∀ w ∈ u_ws R_Choice T_Choice 3, w ∈ q_tbl := fun w h => q_intab (q_inr _ [132, 134, 136] (by decide +kernel) w h) (List.all_eq_true.mp (show (u_ws R_Choice T_Choice 3).all goodWord = true by decide +kernel) w h)
def T_Kinds : u_T := fun k => match k with
  | 0 => ("GlyphPositions$Kinds", "first", "[I", true)
  | 1 => ("GlyphPositions$Kinds", "last", "[I", true)
  | 2 => ("GlyphPositions$Kinds", "kind", "[I", true)
  | 3 => ("GlyphPositions$Kinds", "marks", "[I", true)
  | _ => ("GlyphPositions$Kinds", "count", "I", false)
def ty_Kinds : Nat → FieldType := fun k => match k with
  | 0 => .array .int
  | 1 => .array .int
  | 2 => .array .int
  | 3 => .array .int
  | _ => .int
theorem nm_Kinds : ∀ a, a < 5 → ∀ b, b < 5 → a ≠ b → (T_Kinds a).2.1 ≠ (T_Kinds b).2.1 := by decide +kernel
theorem tyok_Kinds : ∀ k, k < 5 → parseFieldDescriptor (T_Kinds k).2.2.1 = some (ty_Kinds k) := by decide +kernel
theorem in_Kinds : ∀ w ∈ u_ws R_Kinds T_Kinds 5, w ∈ q_tbl := fun w h => q_intab (q_inr _ [69, 71, 73, 75, 77] (by decide +kernel) w h) (List.all_eq_true.mp (show (u_ws R_Kinds T_Kinds 5).all goodWord = true by decide +kernel) w h)
def T_Loader : u_T := fun k => match k with
  | 0 => ("GlyphPositions$Loader", "table", "LGlyphPositions$Table;", true)
  | _ => ("GlyphPositions$Loader", "lookedAt", "I", false)
def ty_Loader : Nat → FieldType := fun k => match k with
  | 0 => .object "GlyphPositions$Table"
  | _ => .int
theorem nm_Loader : ∀ a, a < 2 → ∀ b, b < 2 → a ≠ b → (T_Loader a).2.1 ≠ (T_Loader b).2.1 := by decide +kernel
theorem tyok_Loader : ∀ k, k < 2 → parseFieldDescriptor (T_Loader k).2.2.1 = some (ty_Loader k) := by decide +kernel
theorem in_Loader : ∀ w ∈ u_ws R_Loader T_Loader 2, w ∈ q_tbl := fun w h => q_intab (q_inr _ [51, 53] (by decide +kernel) w h) (List.all_eq_true.mp (show (u_ws R_Loader T_Loader 2).all goodWord = true by decide +kernel) w h)
def T_Run : u_T := fun k => match k with
  | 0 => ("GlyphPositions$Run", "width", "[I", true)
  | 1 => ("GlyphPositions$Run", "higher", "[I", true)
  | 2 => ("GlyphPositions$Run", "right", "[I", true)
  | 3 => ("GlyphPositions$Run", "up", "[I", true)
  | 4 => ("GlyphPositions$Run", "hangsOn", "[I", true)
  | 5 => ("GlyphPositions$Run", "hangsByCursive", "[Z", true)
  | 6 => ("GlyphPositions$Run", "hangsRight", "[I", true)
  | 7 => ("GlyphPositions$Run", "hangsUp", "[I", true)
  | _ => ("GlyphPositions$Run", "count", "I", false)
def ty_Run : Nat → FieldType := fun k => match k with
  | 0 => .array .int
  | 1 => .array .int
  | 2 => .array .int
  | 3 => .array .int
  | 4 => .array .int
  | 5 => .array .boolean
  | 6 => .array .int
  | 7 => .array .int
  | _ => .int
theorem nm_Run : ∀ a, a < 9 → ∀ b, b < 9 → a ≠ b → (T_Run a).2.1 ≠ (T_Run b).2.1 := by decide +kernel
theorem tyok_Run : ∀ k, k < 9 → parseFieldDescriptor (T_Run k).2.2.1 = some (ty_Run k) := by decide +kernel
theorem in_Run : ∀ w ∈ u_ws R_Run T_Run 9, w ∈ q_tbl := fun w h => q_intab (q_inr _ [161, 163, 165, 167, 169, 171, 173, 175, 177] (by decide +kernel) w h) (List.all_eq_true.mp (show (u_ws R_Run T_Run 9).all goodWord = true by decide +kernel) w h)
def T_Setter : u_T := fun k => match k with
  | 0 => ("GlyphPositions$Setter", "font", "LGlyphPositions$Table;", true)
  | 1 => ("GlyphPositions$Setter", "told", "LGlyphPositions$Told;", true)
  | 2 => ("GlyphPositions$Setter", "kinds", "LGlyphPositions$Kinds;", true)
  | 3 => ("GlyphPositions$Setter", "run", "LGlyphPositions$Run;", true)
  | 4 => ("GlyphPositions$Setter", "kind", "[I", true)
  | 5 => ("GlyphPositions$Setter", "marks", "[I", true)
  | 6 => ("GlyphPositions$Setter", "noMarkBefore", "[I", true)
  | 7 => ("GlyphPositions$Setter", "passedOver", "[Z", true)
  | 8 => ("GlyphPositions$Setter", "before", "[I", true)
  | 9 => ("GlyphPositions$Setter", "next", "[I", true)
  | _ => ("GlyphPositions$Setter", "back", "Z", false)
def ty_Setter : Nat → FieldType := fun k => match k with
  | 0 => .object "GlyphPositions$Table"
  | 1 => .object "GlyphPositions$Told"
  | 2 => .object "GlyphPositions$Kinds"
  | 3 => .object "GlyphPositions$Run"
  | 4 => .array .int
  | 5 => .array .int
  | 6 => .array .int
  | 7 => .array .boolean
  | 8 => .array .int
  | 9 => .array .int
  | _ => .boolean
theorem nm_Setter : ∀ a, a < 11 → ∀ b, b < 11 → a ≠ b → (T_Setter a).2.1 ≠ (T_Setter b).2.1 := by decide +kernel
theorem tyok_Setter : ∀ k, k < 11 → parseFieldDescriptor (T_Setter k).2.2.1 = some (ty_Setter k) := by decide +kernel
theorem in_Setter : ∀ w ∈ u_ws R_Setter T_Setter 11, w ∈ q_tbl := fun w h => q_intab (q_inr _ [197, 199, 201, 203, 205, 207, 209, 211, 213, 215, 217] (by decide +kernel) w h) (List.all_eq_true.mp (show (u_ws R_Setter T_Setter 11).all goodWord = true by decide +kernel) w h)
def T_Table : u_T := fun k => match k with
  | 0 => ("GlyphPositions$Table", "bytes", "[B", true)
  | _ => ("GlyphPositions$Table", "size", "I", false)
def ty_Table : Nat → FieldType := fun k => match k with
  | 0 => .array .byte
  | _ => .int
theorem nm_Table : ∀ a, a < 2 → ∀ b, b < 2 → a ≠ b → (T_Table a).2.1 ≠ (T_Table b).2.1 := by decide +kernel
theorem tyok_Table : ∀ k, k < 2 → parseFieldDescriptor (T_Table k).2.2.1 = some (ty_Table k) := by decide +kernel
theorem in_Table : ∀ w ∈ u_ws R_Table T_Table 2, w ∈ q_tbl := fun w h => q_intab (q_inr _ [37, 39] (by decide +kernel) w h) (List.all_eq_true.mp (show (u_ws R_Table T_Table 2).all goodWord = true by decide +kernel) w h)
def T_Tags : u_T := fun k => match k with
  | 0 => ("GlyphPositions$Tags", "tag", "[I", true)
  | 1 => ("GlyphPositions$Tags", "on", "[Z", true)
  | _ => ("GlyphPositions$Tags", "count", "I", false)
def ty_Tags : Nat → FieldType := fun k => match k with
  | 0 => .array .int
  | 1 => .array .boolean
  | _ => .int
theorem nm_Tags : ∀ a, a < 3 → ∀ b, b < 3 → a ≠ b → (T_Tags a).2.1 ≠ (T_Tags b).2.1 := by decide +kernel
theorem tyok_Tags : ∀ k, k < 3 → parseFieldDescriptor (T_Tags k).2.2.1 = some (ty_Tags k) := by decide +kernel
theorem in_Tags : ∀ w ∈ u_ws R_Tags T_Tags 3, w ∈ q_tbl := fun w h => q_intab (q_inr _ [90, 92, 94] (by decide +kernel) w h) (List.all_eq_true.mp (show (u_ws R_Tags T_Tags 3).all goodWord = true by decide +kernel) w h)
def T_Told : u_T := fun k => match k with
  | 0 => ("GlyphPositions$Told", "glyph", "[I", true)
  | 1 => ("GlyphPositions$Told", "width", "[I", true)
  | 2 => ("GlyphPositions$Told", "part", "[I", true)
  | _ => ("GlyphPositions$Told", "count", "I", false)
def ty_Told : Nat → FieldType := fun k => match k with
  | 0 => .array .int
  | 1 => .array .int
  | 2 => .array .int
  | _ => .int
theorem nm_Told : ∀ a, a < 4 → ∀ b, b < 4 → a ≠ b → (T_Told a).2.1 ≠ (T_Told b).2.1 := by decide +kernel
theorem tyok_Told : ∀ k, k < 4 → parseFieldDescriptor (T_Told k).2.2.1 = some (ty_Told k) := by decide +kernel
theorem in_Told : ∀ w ∈ u_ws R_Told T_Told 4, w ∈ q_tbl := fun w h => q_intab (q_inr _ [113, 115, 117, 119] (by decide +kernel) w h) (List.all_eq_true.mp (show (u_ws R_Told T_Told 4).all goodWord = true by decide +kernel) w h)
def T_GlyphPositionsModel : u_T := fun k => match k with
  | 0 => ("GlyphPositionsModel", "fault", "I", false)
  | 1 => ("GlyphPositionsModel", "size", "I", false)
  | 2 => ("GlyphPositionsModel", "tape", "[I", true)
  | 3 => ("GlyphPositionsModel", "isFont", "Z", false)
  | 4 => ("GlyphPositionsModel", "font", "[I", true)
  | 5 => ("GlyphPositionsModel", "bad", "Z", false)
  | 6 => ("GlyphPositionsModel", "looked", "I", false)
  | 7 => ("GlyphPositionsModel", "ranges", "I", false)
  | 8 => ("GlyphPositionsModel", "firsts", "[I", true)
  | 9 => ("GlyphPositionsModel", "lasts", "[I", true)
  | 10 => ("GlyphPositionsModel", "kinds", "[I", true)
  | 11 => ("GlyphPositionsModel", "marks", "[I", true)
  | 12 => ("GlyphPositionsModel", "script", "I", false)
  | 13 => ("GlyphPositionsModel", "language", "I", false)
  | 14 => ("GlyphPositionsModel", "tags", "I", false)
  | 15 => ("GlyphPositionsModel", "tag", "[I", true)
  | 16 => ("GlyphPositionsModel", "isOn", "[Z", true)
  | 17 => ("GlyphPositionsModel", "told", "I", false)
  | 18 => ("GlyphPositionsModel", "toldGlyph", "[I", true)
  | 19 => ("GlyphPositionsModel", "toldWidth", "[I", true)
  | 20 => ("GlyphPositionsModel", "toldPart", "[I", true)
  | 21 => ("GlyphPositionsModel", "chosen", "[Z", true)
  | 22 => ("GlyphPositionsModel", "many", "I", false)
  | 23 => ("GlyphPositionsModel", "isBack", "Z", false)
  | 24 => ("GlyphPositionsModel", "glyphs", "[I", true)
  | 25 => ("GlyphPositionsModel", "parts", "[I", true)
  | 26 => ("GlyphPositionsModel", "widths", "[I", true)
  | 27 => ("GlyphPositionsModel", "heights", "[I", true)
  | 28 => ("GlyphPositionsModel", "rights", "[I", true)
  | 29 => ("GlyphPositionsModel", "ups", "[I", true)
  | 30 => ("GlyphPositionsModel", "hangs", "[I", true)
  | 31 => ("GlyphPositionsModel", "isJoined", "[Z", true)
  | 32 => ("GlyphPositionsModel", "hangRight", "[I", true)
  | _ => ("GlyphPositionsModel", "hangUp", "[I", true)
def ty_GlyphPositionsModel : Nat → FieldType := fun k => match k with
  | 0 => .int
  | 1 => .int
  | 2 => .array .int
  | 3 => .boolean
  | 4 => .array .int
  | 5 => .boolean
  | 6 => .int
  | 7 => .int
  | 8 => .array .int
  | 9 => .array .int
  | 10 => .array .int
  | 11 => .array .int
  | 12 => .int
  | 13 => .int
  | 14 => .int
  | 15 => .array .int
  | 16 => .array .boolean
  | 17 => .int
  | 18 => .array .int
  | 19 => .array .int
  | 20 => .array .int
  | 21 => .array .boolean
  | 22 => .int
  | 23 => .boolean
  | 24 => .array .int
  | 25 => .array .int
  | 26 => .array .int
  | 27 => .array .int
  | 28 => .array .int
  | 29 => .array .int
  | 30 => .array .int
  | 31 => .array .boolean
  | 32 => .array .int
  | _ => .array .int
theorem nm_GlyphPositionsModel : ∀ a, a < 34 → ∀ b, b < 34 → a ≠ b → (T_GlyphPositionsModel a).2.1 ≠ (T_GlyphPositionsModel b).2.1 := by decide +kernel
theorem tyok_GlyphPositionsModel : ∀ k, k < 34 → parseFieldDescriptor (T_GlyphPositionsModel k).2.2.1 = some (ty_GlyphPositionsModel k) := by decide +kernel
theorem in_GlyphPositionsModel : ∀ w ∈ u_ws R_GlyphPositionsModel T_GlyphPositionsModel 34, w ∈ q_tbl := fun w h => q_intab (q_inr _ [806, 808, 810, 812, 814, 816, 818, 820, 822, 824, 826, 828, 830, 832, 834, 836, 838, 840, 842, 844, 846, 848, 850, 852, 854, 856, 858, 860, 862, 864, 866, 868, 870, 872] (by decide +kernel) w h) (List.all_eq_true.mp (show (u_ws R_GlyphPositionsModel T_GlyphPositionsModel 34).all goodWord = true by decide +kernel) w h)
abbrev vwCl : List vw_C := [(R_GP, T_GP, 12), (R_Choice, T_Choice, 3), (R_Kinds, T_Kinds, 5), (R_Loader, T_Loader, 2), (R_Run, T_Run, 9), (R_Setter, T_Setter, 11), (R_Table, T_Table, 2), (R_Tags, T_Tags, 3), (R_Told, T_Told, 4), (R_GlyphPositionsModel, T_GlyphPositionsModel, 34)]
end QN
