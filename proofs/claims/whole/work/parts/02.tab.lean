/-- words that hold in every state: those of the tables that calls may hand on -/
def am_all : List Cond := lw_tbl.filter goodWord
theorem am_mem {w : Cond} (h : w ∈ lw_tbl) (hg : goodWord w = true) : w ∈ am_all := List.mem_filter.mpr ⟨h, hg⟩
theorem am_allgood : ∀ w ∈ am_all, (w.onTables && w.keeps) = true ∨ ∃ ty, w = .arrayClass ty := fun w h => good_of_word (List.mem_filter.mp h).2
theorem am_all_lw : ∀ w ∈ am_all, w ∈ lw_tbl := fun w h => (List.mem_filter.mp h).1
theorem tb0 {w : Cond} (i : Nat) (h : (k2_sels lw_privs)[i]? = some w) : w ∈ lw_tbl := List.mem_append_left _ (List.mem_of_getElem? h)
theorem tb1 {w : Cond} (i : Nat) (h : tables_1_1[i]? = some w) : w ∈ lw_tbl := List.mem_append_right _ (List.mem_append_left _ (List.mem_of_getElem? h))
theorem tb2 {w : Cond} (i : Nat) (h : tables_1_2[i]? = some w) : w ∈ lw_tbl := List.mem_append_right _ (List.mem_append_right _ (List.mem_append_left _ (List.mem_of_getElem? h)))
theorem tb3 {w : Cond} (i : Nat) (h : tables_1_3[i]? = some w) : w ∈ lw_tbl := List.mem_append_right _ (List.mem_append_right _ (List.mem_append_right _ (List.mem_append_left _ (List.mem_of_getElem? h))))
theorem tb4 {w : Cond} (i : Nat) (h : tables_1_4[i]? = some w) : w ∈ lw_tbl := List.mem_append_right _ (List.mem_append_right _ (List.mem_append_right _ (List.mem_append_right _ (List.mem_append_left _ (List.mem_of_getElem? h)))))
theorem tb5 {w : Cond} (i : Nat) (h : tables_1_5[i]? = some w) : w ∈ lw_tbl := List.mem_append_right _ (List.mem_append_right _ (List.mem_append_right _ (List.mem_append_right _ (List.mem_append_right _ (List.mem_of_getElem? h)))))
theorem am_lt {N : Nat} {p : Nat → Prop} (h : ∀ k, k < N → p k) : ∀ w ∈ (List.range N), p w := fun w hw => h w (List.mem_range.mp hw)
def T_SL : u_T := fun k => match k with
  | 0 => ("SpanLinker", "modules", "[LSpanLinker$SourceModule;", true)
  | 1 => ("SpanLinker", "archive", "LSpanLinker$Row;", true)
  | 2 => ("SpanLinker", "line", "LSpanLinker$Row;", true)
  | 3 => ("SpanLinker", "inclusion", "LSpanLinker$Inclusion;", true)
  | 4 => ("SpanLinker", "image", "LSpanLinker$Image;", true)
  | _ => ("SpanLinker", "machine", "LSpanLinker$Machine;", true)
def ty_SL : Nat → FieldType := fun k => match k with
  | 0 => .array (.object "SpanLinker$SourceModule")
  | 1 => .object "SpanLinker$Row"
  | 2 => .object "SpanLinker$Row"
  | 3 => .object "SpanLinker$Inclusion"
  | 4 => .object "SpanLinker$Image"
  | _ => .object "SpanLinker$Machine"
theorem nm_SL : ∀ a, a < 6 → ∀ b, b < 6 → a ≠ b → (T_SL a).2.1 ≠ (T_SL b).2.1 := by decide +kernel
theorem to_SL : ∀ k, k < 6 → parseFieldDescriptor (T_SL k).2.2.1 = some (ty_SL k) := by decide +kernel
theorem in_SL : ∀ w ∈ u_ws "SpanLinker" T_SL 6, w ∈ am_all := by
  have h : ∀ k, k < 6 → u_lay "SpanLinker" T_SL k ∈ am_all := by
    intro k hk
    match k, hk with
    | 0, _ => exact (am_mem (tb1 200 rfl) rfl)
    | 1, _ => exact (am_mem (tb1 202 rfl) rfl)
    | 2, _ => exact (am_mem (tb1 204 rfl) rfl)
    | 3, _ => exact (am_mem (tb1 206 rfl) rfl)
    | 4, _ => exact (am_mem (tb1 208 rfl) rfl)
    | 5, _ => exact (am_mem (tb1 210 rfl) rfl)
    | k + 6, hk => exact absurd hk (by omega)
  intro w hw
  obtain ⟨k, hk, rfl⟩ := List.mem_map.mp hw
  exact h k (List.mem_range.mp hk)
def T_Mod : u_T := fun k => match k with
  | 0 => ("SpanLinker$SourceModule", "kinds", "[I", true)
  | 1 => ("SpanLinker$SourceModule", "firsts", "[I", true)
  | 2 => ("SpanLinker$SourceModule", "seconds", "[I", true)
  | 3 => ("SpanLinker$SourceModule", "sections", "[I", true)
  | 4 => ("SpanLinker$SourceModule", "places", "[I", true)
  | 5 => ("SpanLinker$SourceModule", "longs", "[Z", true)
  | 6 => ("SpanLinker$SourceModule", "lengths", "[I", true)
  | 7 => ("SpanLinker$SourceModule", "holders", "[I", true)
  | 8 => ("SpanLinker$SourceModule", "count", "I", false)
  | 9 => ("SpanLinker$SourceModule", "definedNames", "I", false)
  | 10 => ("SpanLinker$SourceModule", "commonNames", "I", false)
  | 11 => ("SpanLinker$SourceModule", "globalNames", "I", false)
  | _ => ("SpanLinker$SourceModule", "usedNames", "I", false)
def ty_Mod : Nat → FieldType := fun k => match k with
  | 0 => .array .int
  | 1 => .array .int
  | 2 => .array .int
  | 3 => .array .int
  | 4 => .array .int
  | 5 => .array .boolean
  | 6 => .array .int
  | 7 => .array .int
  | 8 => .int
  | 9 => .int
  | 10 => .int
  | 11 => .int
  | _ => .int
theorem nm_Mod : ∀ a, a < 13 → ∀ b, b < 13 → a ≠ b → (T_Mod a).2.1 ≠ (T_Mod b).2.1 := by decide +kernel
theorem to_Mod : ∀ k, k < 13 → parseFieldDescriptor (T_Mod k).2.2.1 = some (ty_Mod k) := by decide +kernel
theorem in_Mod : ∀ w ∈ u_ws "SpanLinker$SourceModule" T_Mod 13, w ∈ am_all := by
  have h : ∀ k, k < 13 → u_lay "SpanLinker$SourceModule" T_Mod k ∈ am_all := by
    intro k hk
    match k, hk with
    | 0, _ => exact (am_mem (tb1 40 rfl) rfl)
    | 1, _ => exact (am_mem (tb1 42 rfl) rfl)
    | 2, _ => exact (am_mem (tb1 44 rfl) rfl)
    | 3, _ => exact (am_mem (tb1 46 rfl) rfl)
    | 4, _ => exact (am_mem (tb1 48 rfl) rfl)
    | 5, _ => exact (am_mem (tb1 50 rfl) rfl)
    | 6, _ => exact (am_mem (tb1 52 rfl) rfl)
    | 7, _ => exact (am_mem (tb1 54 rfl) rfl)
    | 8, _ => exact (am_mem (tb1 56 rfl) rfl)
    | 9, _ => exact (am_mem (tb1 58 rfl) rfl)
    | 10, _ => exact (am_mem (tb1 60 rfl) rfl)
    | 11, _ => exact (am_mem (tb1 62 rfl) rfl)
    | 12, _ => exact (am_mem (tb1 64 rfl) rfl)
    | k + 13, hk => exact absurd hk (by omega)
  intro w hw
  obtain ⟨k, hk, rfl⟩ := List.mem_map.mp hw
  exact h k (List.mem_range.mp hk)
def T_Inc : u_T := fun k => match k with
  | 0 => ("SpanLinker$Inclusion", "modules", "[LSpanLinker$SourceModule;", true)
  | 1 => ("SpanLinker$Inclusion", "order", "LSpanLinker$Row;", true)
  | 2 => ("SpanLinker$Inclusion", "soughtNames", "I", false)
  | 3 => ("SpanLinker$Inclusion", "exportedNames", "I", false)
  | 4 => ("SpanLinker$Inclusion", "commonNames", "I", false)
  | _ => ("SpanLinker$Inclusion", "doubleNames", "I", false)
def ty_Inc : Nat → FieldType := fun k => match k with
  | 0 => .array (.object "SpanLinker$SourceModule")
  | 1 => .object "SpanLinker$Row"
  | 2 => .int
  | 3 => .int
  | 4 => .int
  | _ => .int
theorem nm_Inc : ∀ a, a < 6 → ∀ b, b < 6 → a ≠ b → (T_Inc a).2.1 ≠ (T_Inc b).2.1 := by decide +kernel
theorem to_Inc : ∀ k, k < 6 → parseFieldDescriptor (T_Inc k).2.2.1 = some (ty_Inc k) := by decide +kernel
theorem in_Inc : ∀ w ∈ u_ws "SpanLinker$Inclusion" T_Inc 6, w ∈ am_all := by
  have h : ∀ k, k < 6 → u_lay "SpanLinker$Inclusion" T_Inc k ∈ am_all := by
    intro k hk
    match k, hk with
    | 0, _ => exact (am_mem (tb1 94 rfl) rfl)
    | 1, _ => exact (am_mem (tb1 96 rfl) rfl)
    | 2, _ => exact (am_mem (tb1 98 rfl) rfl)
    | 3, _ => exact (am_mem (tb1 100 rfl) rfl)
    | 4, _ => exact (am_mem (tb1 102 rfl) rfl)
    | 5, _ => exact (am_mem (tb1 104 rfl) rfl)
    | k + 6, hk => exact absurd hk (by omega)
  intro w hw
  obtain ⟨k, hk, rfl⟩ := List.mem_map.mp hw
  exact h k (List.mem_range.mp hk)
def T_Row : u_T := fun k => match k with
  | 0 => ("SpanLinker$Row", "numbers", "[I", true)
  | _ => ("SpanLinker$Row", "count", "I", false)
def ty_Row : Nat → FieldType := fun k => match k with
  | 0 => .array .int
  | _ => .int
theorem nm_Row : ∀ a, a < 2 → ∀ b, b < 2 → a ≠ b → (T_Row a).2.1 ≠ (T_Row b).2.1 := by decide +kernel
theorem to_Row : ∀ k, k < 2 → parseFieldDescriptor (T_Row k).2.2.1 = some (ty_Row k) := by decide +kernel
theorem in_Row : ∀ w ∈ u_ws "SpanLinker$Row" T_Row 2, w ∈ am_all := by
  have h : ∀ k, k < 2 → u_lay "SpanLinker$Row" T_Row k ∈ am_all := by
    intro k hk
    match k, hk with
    | 0, _ => exact (am_mem (tb1 83 rfl) rfl)
    | 1, _ => exact (am_mem (tb1 85 rfl) rfl)
    | k + 2, hk => exact absurd hk (by omega)
  intro w hw
  obtain ⟨k, hk, rfl⟩ := List.mem_map.mp hw
  exact h k (List.mem_range.mp hk)
def T_Img : u_T := fun k => match k with
  | 0 => ("SpanLinker$Image", "modules", "[LSpanLinker$SourceModule;", true)
  | 1 => ("SpanLinker$Image", "inclusion", "LSpanLinker$Inclusion;", true)
  | 2 => ("SpanLinker$Image", "bases", "[[I", true)
  | 3 => ("SpanLinker$Image", "words", "[I", true)
  | 4 => ("SpanLinker$Image", "sizes", "[I", true)
  | 5 => ("SpanLinker$Image", "values", "[I", true)
  | 6 => ("SpanLinker$Image", "total", "I", false)
  | 7 => ("SpanLinker$Image", "entry", "I", false)
  | 8 => ("SpanLinker$Image", "there", "Z", false)
  | _ => ("SpanLinker$Image", "stripped", "Z", false)
def ty_Img : Nat → FieldType := fun k => match k with
  | 0 => .array (.object "SpanLinker$SourceModule")
  | 1 => .object "SpanLinker$Inclusion"
  | 2 => .array (.array .int)
  | 3 => .array .int
  | 4 => .array .int
  | 5 => .array .int
  | 6 => .int
  | 7 => .int
  | 8 => .boolean
  | _ => .boolean
theorem nm_Img : ∀ a, a < 10 → ∀ b, b < 10 → a ≠ b → (T_Img a).2.1 ≠ (T_Img b).2.1 := by decide +kernel
theorem to_Img : ∀ k, k < 10 → parseFieldDescriptor (T_Img k).2.2.1 = some (ty_Img k) := by decide +kernel
theorem in_Img : ∀ w ∈ u_ws "SpanLinker$Image" T_Img 10, w ∈ am_all := by
  have h : ∀ k, k < 10 → u_lay "SpanLinker$Image" T_Img k ∈ am_all := by
    intro k hk
    match k, hk with
    | 0, _ => exact (am_mem (tb1 127 rfl) rfl)
    | 1, _ => exact (am_mem (tb1 129 rfl) rfl)
    | 2, _ => exact (am_mem (tb1 131 rfl) rfl)
    | 3, _ => exact (am_mem (tb1 133 rfl) rfl)
    | 4, _ => exact (am_mem (tb1 135 rfl) rfl)
    | 5, _ => exact (am_mem (tb1 137 rfl) rfl)
    | 6, _ => exact (am_mem (tb1 139 rfl) rfl)
    | 7, _ => exact (am_mem (tb1 141 rfl) rfl)
    | 8, _ => exact (am_mem (tb1 143 rfl) rfl)
    | 9, _ => exact (am_mem (tb1 145 rfl) rfl)
    | k + 10, hk => exact absurd hk (by omega)
  intro w hw
  obtain ⟨k, hk, rfl⟩ := List.mem_map.mp hw
  exact h k (List.mem_range.mp hk)
def T_Mac : u_T := fun k => match k with
  | 0 => ("SpanLinker$Machine", "words", "[I", true)
  | 1 => ("SpanLinker$Machine", "tape", "[I", true)
  | 2 => ("SpanLinker$Machine", "latest", "[I", true)
  | 3 => ("SpanLinker$Machine", "total", "I", false)
  | 4 => ("SpanLinker$Machine", "textWords", "I", false)
  | 5 => ("SpanLinker$Machine", "registerA", "I", false)
  | 6 => ("SpanLinker$Machine", "registerR", "I", false)
  | 7 => ("SpanLinker$Machine", "pc", "I", false)
  | 8 => ("SpanLinker$Machine", "state", "I", false)
  | 9 => ("SpanLinker$Machine", "fed", "I", false)
  | 10 => ("SpanLinker$Machine", "taken", "I", false)
  | 11 => ("SpanLinker$Machine", "putOut", "I", false)
  | _ => ("SpanLinker$Machine", "there", "Z", false)
def ty_Mac : Nat → FieldType := fun k => match k with
  | 0 => .array .int
  | 1 => .array .int
  | 2 => .array .int
  | 3 => .int
  | 4 => .int
  | 5 => .int
  | 6 => .int
  | 7 => .int
  | 8 => .int
  | 9 => .int
  | 10 => .int
  | 11 => .int
  | _ => .boolean
theorem nm_Mac : ∀ a, a < 13 → ∀ b, b < 13 → a ≠ b → (T_Mac a).2.1 ≠ (T_Mac b).2.1 := by decide +kernel
theorem to_Mac : ∀ k, k < 13 → parseFieldDescriptor (T_Mac k).2.2.1 = some (ty_Mac k) := by decide +kernel
theorem in_Mac : ∀ w ∈ u_ws "SpanLinker$Machine" T_Mac 13, w ∈ am_all := by
  have h : ∀ k, k < 13 → u_lay "SpanLinker$Machine" T_Mac k ∈ am_all := by
    intro k hk
    match k, hk with
    | 0, _ => exact (am_mem (tb1 167 rfl) rfl)
    | 1, _ => exact (am_mem (tb1 169 rfl) rfl)
    | 2, _ => exact (am_mem (tb1 171 rfl) rfl)
    | 3, _ => exact (am_mem (tb1 173 rfl) rfl)
    | 4, _ => exact (am_mem (tb1 175 rfl) rfl)
    | 5, _ => exact (am_mem (tb1 177 rfl) rfl)
    | 6, _ => exact (am_mem (tb1 179 rfl) rfl)
    | 7, _ => exact (am_mem (tb1 181 rfl) rfl)
    | 8, _ => exact (am_mem (tb1 183 rfl) rfl)
    | 9, _ => exact (am_mem (tb1 185 rfl) rfl)
    | 10, _ => exact (am_mem (tb1 187 rfl) rfl)
    | 11, _ => exact (am_mem (tb1 189 rfl) rfl)
    | 12, _ => exact (am_mem (tb1 191 rfl) rfl)
    | k + 13, hk => exact absurd hk (by omega)
  intro w hw
  obtain ⟨k, hk, rfl⟩ := List.mem_map.mp hw
  exact h k (List.mem_range.mp hk)
def T_Ref : u_T := fun k => match k with
  | 0 => ("SpanLinkerModel", "count", "[I", false)
  | 1 => ("SpanLinkerModel", "kind", "[I", false)
  | 2 => ("SpanLinkerModel", "one", "[I", false)
  | 3 => ("SpanLinkerModel", "two", "[I", false)
  | 4 => ("SpanLinkerModel", "part", "[I", false)
  | 5 => ("SpanLinkerModel", "wide", "[Z", false)
  | 6 => ("SpanLinkerModel", "members", "I", false)
  | 7 => ("SpanLinkerModel", "archive", "[I", false)
  | 8 => ("SpanLinkerModel", "items", "I", false)
  | 9 => ("SpanLinkerModel", "line", "[I", false)
  | 10 => ("SpanLinkerModel", "wish", "I", false)
  | 11 => ("SpanLinkerModel", "chosen", "I", false)
  | 12 => ("SpanLinkerModel", "order", "[I", false)
  | 13 => ("SpanLinkerModel", "lacking", "I", false)
  | 14 => ("SpanLinkerModel", "image", "Z", false)
  | 15 => ("SpanLinkerModel", "stripped", "Z", false)
  | 16 => ("SpanLinkerModel", "words", "[I", false)
  | 17 => ("SpanLinkerModel", "sizes", "[I", false)
  | 18 => ("SpanLinkerModel", "total", "I", false)
  | 19 => ("SpanLinkerModel", "known", "[I", false)
  | 20 => ("SpanLinkerModel", "entry", "I", false)
  | 21 => ("SpanLinkerModel", "machine", "Z", false)
  | 22 => ("SpanLinkerModel", "memory", "[I", false)
  | 23 => ("SpanLinkerModel", "regA", "I", false)
  | 24 => ("SpanLinkerModel", "regR", "I", false)
  | 25 => ("SpanLinkerModel", "regPc", "I", false)
  | 26 => ("SpanLinkerModel", "state", "I", false)
  | 27 => ("SpanLinkerModel", "outs", "I", false)
  | 28 => ("SpanLinkerModel", "out", "[I", false)
  | 29 => ("SpanLinkerModel", "tape", "[I", false)
  | 30 => ("SpanLinkerModel", "fed", "I", false)
  | _ => ("SpanLinkerModel", "taken", "I", false)
def ty_Ref : Nat → FieldType := fun k => match k with
  | 0 => .array .int
  | 1 => .array .int
  | 2 => .array .int
  | 3 => .array .int
  | 4 => .array .int
  | 5 => .array .boolean
  | 6 => .int
  | 7 => .array .int
  | 8 => .int
  | 9 => .array .int
  | 10 => .int
  | 11 => .int
  | 12 => .array .int
  | 13 => .int
  | 14 => .boolean
  | 15 => .boolean
  | 16 => .array .int
  | 17 => .array .int
  | 18 => .int
  | 19 => .array .int
  | 20 => .int
  | 21 => .boolean
  | 22 => .array .int
  | 23 => .int
  | 24 => .int
  | 25 => .int
  | 26 => .int
  | 27 => .int
  | 28 => .array .int
  | 29 => .array .int
  | 30 => .int
  | _ => .int
theorem nm_Ref : ∀ a, a < 32 → ∀ b, b < 32 → a ≠ b → (T_Ref a).2.1 ≠ (T_Ref b).2.1 := by decide +kernel
theorem to_Ref : ∀ k, k < 32 → parseFieldDescriptor (T_Ref k).2.2.1 = some (ty_Ref k) := by decide +kernel
theorem in_Ref : ∀ w ∈ u_ws "SpanLinkerModel" T_Ref 32, w ∈ am_all := by
  have h : ∀ k, k < 32 → u_lay "SpanLinkerModel" T_Ref k ∈ am_all := by
    intro k hk
    match k, hk with
    | 0, _ => exact (am_mem (tb4 11 rfl) rfl)
    | 1, _ => exact (am_mem (tb4 13 rfl) rfl)
    | 2, _ => exact (am_mem (tb4 15 rfl) rfl)
    | 3, _ => exact (am_mem (tb4 17 rfl) rfl)
    | 4, _ => exact (am_mem (tb4 19 rfl) rfl)
    | 5, _ => exact (am_mem (tb4 21 rfl) rfl)
    | 6, _ => exact (am_mem (tb4 23 rfl) rfl)
    | 7, _ => exact (am_mem (tb4 25 rfl) rfl)
    | 8, _ => exact (am_mem (tb4 27 rfl) rfl)
    | 9, _ => exact (am_mem (tb4 29 rfl) rfl)
    | 10, _ => exact (am_mem (tb4 31 rfl) rfl)
    | 11, _ => exact (am_mem (tb4 33 rfl) rfl)
    | 12, _ => exact (am_mem (tb4 35 rfl) rfl)
    | 13, _ => exact (am_mem (tb4 37 rfl) rfl)
    | 14, _ => exact (am_mem (tb4 39 rfl) rfl)
    | 15, _ => exact (am_mem (tb4 41 rfl) rfl)
    | 16, _ => exact (am_mem (tb4 43 rfl) rfl)
    | 17, _ => exact (am_mem (tb4 45 rfl) rfl)
    | 18, _ => exact (am_mem (tb4 47 rfl) rfl)
    | 19, _ => exact (am_mem (tb4 49 rfl) rfl)
    | 20, _ => exact (am_mem (tb4 51 rfl) rfl)
    | 21, _ => exact (am_mem (tb4 53 rfl) rfl)
    | 22, _ => exact (am_mem (tb4 55 rfl) rfl)
    | 23, _ => exact (am_mem (tb4 57 rfl) rfl)
    | 24, _ => exact (am_mem (tb4 59 rfl) rfl)
    | 25, _ => exact (am_mem (tb4 61 rfl) rfl)
    | 26, _ => exact (am_mem (tb4 63 rfl) rfl)
    | 27, _ => exact (am_mem (tb4 65 rfl) rfl)
    | 28, _ => exact (am_mem (tb4 67 rfl) rfl)
    | 29, _ => exact (am_mem (tb4 69 rfl) rfl)
    | 30, _ => exact (am_mem (tb4 71 rfl) rfl)
    | 31, _ => exact (am_mem (tb4 73 rfl) rfl)
    | k + 32, hk => exact absurd hk (by omega)
  intro w hw
  obtain ⟨k, hk, rfl⟩ := List.mem_map.mp hw
  exact h k (List.mem_range.mp hk)
abbrev classes : List vw_C := [("SpanLinker", T_SL, 6), ("SpanLinker$SourceModule", T_Mod, 13), ("SpanLinker$Inclusion", T_Inc, 6), ("SpanLinker$Row", T_Row, 2), ("SpanLinker$Image", T_Img, 10), ("SpanLinker$Machine", T_Mac, 13), ("SpanLinkerModel", T_Ref, 32)]
theorem am_mx1 : Cond.static Lib.Math.max.name ∈ am_all := (am_mem (tb2 235 rfl) rfl)
theorem am_mx2 : Cond.initialized "java/lang/Math" ∈ am_all := (am_mem (tb1 8 rfl) rfl)
theorem am_mx3 : Cond.code Lib.Math.max.name Lib.Math.max.code 2 (some .int) ∈ am_all := (am_mem (tb2 236 rfl) rfl)
def am_nl : List (String × Nat × MethodName × String) := [("SpanLinker", 164, ⟨"SpanLinker$SourceModule", "<init>", "()V"⟩, "SpanLinker"), ("SpanLinker", 49, ⟨"SpanLinker$Machine", "<init>", "()V"⟩, "SpanLinker"), ("SpanLinker$SourceModule", 79, ⟨"SpanLinker", "isName", "(I)Z"⟩, "SpanLinker"), ("SpanLinker$SourceModule", 82, ⟨"SpanLinker", "isSection", "(I)Z"⟩, "SpanLinker"), ("SpanLinker$SourceModule", 85, ⟨"SpanLinker", "isWord", "(I)Z"⟩, "SpanLinker"), ("SpanLinker$SourceModule", 88, ⟨"SpanLinker", "isWithin", "(III)Z"⟩, "SpanLinker"), ("SpanLinker$SourceModule", 76, ⟨"SpanLinker", "hasName", "(II)Z"⟩, "SpanLinker"), ("SpanLinker$SourceModule", 94, ⟨"SpanLinker", "setOf", "(I)I"⟩, "SpanLinker"), ("SpanLinker$Inclusion", 27, ⟨"SpanLinker", "setOf", "(I)I"⟩, "SpanLinker"), ("SpanLinker$Inclusion", 58, ⟨"SpanLinker", "hasName", "(II)Z"⟩, "SpanLinker"), ("SpanLinker$Image", 108, ⟨"SpanLinker", "hasName", "(II)Z"⟩, "SpanLinker"), ("SpanLinker$Image", 140, ⟨"SpanLinker", "toWord", "(I)I"⟩, "SpanLinker"), ("SpanLinker$Image", 74, ⟨"SpanLinker", "isSection", "(I)Z"⟩, "SpanLinker"), ("SpanLinker$Image", 78, ⟨"SpanLinker", "isWithin", "(III)Z"⟩, "SpanLinker"), ("SpanLinker$Image", 82, ⟨"SpanLinker", "isName", "(I)Z"⟩, "SpanLinker"), ("SpanLinker$Machine", 68, ⟨"SpanLinker", "isWord", "(I)Z"⟩, "SpanLinker"), ("SpanLinker$Machine", 81, ⟨"SpanLinker", "isWithin", "(III)Z"⟩, "SpanLinker"), ("SpanLinker$Machine", 99, ⟨"SpanLinker", "toWord", "(I)I"⟩, "SpanLinker")]
def am_nest : List Cond := am_nl.map (fun q => Cond.methodLinkNest q.1 q.2.1 q.2.2.1 q.2.2.2)
