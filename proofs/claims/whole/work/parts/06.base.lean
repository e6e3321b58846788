/-! classes, cells of the world, words (by program) -/
def Rn_G : String := "ReadGraph"
def Tn_G : u_T := fun k => match k with
  | 0 => ("ReadGraph", "reads", "LReadGraph$Reads;", true)
  | 1 => ("ReadGraph", "edges", "LReadGraph$Edges;", true)
  | _ => ("ReadGraph", "greatest", "LReadGraph$Walks;", true)
def ty_G : Nat → FieldType := fun k => match k with
  | 0 => .object "ReadGraph$Reads"
  | 1 => .object "ReadGraph$Edges"
  | _ => .object "ReadGraph$Walks"
theorem nm_G : ∀ a, a < 3 → ∀ b, b < 3 → a ≠ b → (Tn_G a).2.1 ≠ (Tn_G b).2.1 := by decide +kernel
theorem ty_G_ok : ∀ k, k < 3 → parseFieldDescriptor (Tn_G k).2.2.1 = some (ty_G k) := by decide +kernel
def Rn_R : String := "ReadGraph$Reads"
def Tn_R : u_T := fun k => match k with
  | 0 => ("ReadGraph$Reads", "packed", "[I", true)
  | 1 => ("ReadGraph$Reads", "lengths", "[I", true)
  | _ => ("ReadGraph$Reads", "count", "I", false)
def ty_R : Nat → FieldType := fun k => match k with
  | 0 => .array .int
  | 1 => .array .int
  | _ => .int
theorem nm_R : ∀ a, a < 3 → ∀ b, b < 3 → a ≠ b → (Tn_R a).2.1 ≠ (Tn_R b).2.1 := by decide +kernel
theorem ty_R_ok : ∀ k, k < 3 → parseFieldDescriptor (Tn_R k).2.2.1 = some (ty_R k) := by decide +kernel
def Rn_E : String := "ReadGraph$Edges"
def Tn_E : u_T := fun k => match k with
  | 0 => ("ReadGraph$Edges", "hangs", "[I", true)
  | 1 => ("ReadGraph$Edges", "from", "[I", true)
  | 2 => ("ReadGraph$Edges", "to", "[I", true)
  | 3 => ("ReadGraph$Edges", "hang", "[I", true)
  | 4 => ("ReadGraph$Edges", "firstOut", "[I", true)
  | 5 => ("ReadGraph$Edges", "after", "[I", true)
  | 6 => ("ReadGraph$Edges", "before", "[I", true)
  | 7 => ("ReadGraph$Edges", "reached", "[I", true)
  | 8 => ("ReadGraph$Edges", "nodes", "I", false)
  | 9 => ("ReadGraph$Edges", "laid", "I", false)
  | _ => ("ReadGraph$Edges", "count", "I", false)
def ty_E : Nat → FieldType := fun k => match k with
  | 0 => .array .int
  | 1 => .array .int
  | 2 => .array .int
  | 3 => .array .int
  | 4 => .array .int
  | 5 => .array .int
  | 6 => .array .int
  | 7 => .array .int
  | 8 => .int
  | 9 => .int
  | _ => .int
theorem nm_E : ∀ a, a < 11 → ∀ b, b < 11 → a ≠ b → (Tn_E a).2.1 ≠ (Tn_E b).2.1 := by decide +kernel
theorem ty_E_ok : ∀ k, k < 11 → parseFieldDescriptor (Tn_E k).2.2.1 = some (ty_E k) := by decide +kernel
def Rn_W : String := "ReadGraph$Walks"
def Tn_W : u_T := fun k => match k with
  | 0 => ("ReadGraph$Walks", "edges", "LReadGraph$Edges;", true)
  | 1 => ("ReadGraph$Walks", "rows", "[I", true)
  | 2 => ("ReadGraph$Walks", "lengths", "[I", true)
  | 3 => ("ReadGraph$Walks", "count", "I", false)
  | 4 => ("ReadGraph$Walks", "trail", "[I", true)
  | 5 => ("ReadGraph$Walks", "next", "[I", true)
  | _ => ("ReadGraph$Walks", "length", "I", false)
def ty_W : Nat → FieldType := fun k => match k with
  | 0 => .object "ReadGraph$Edges"
  | 1 => .array .int
  | 2 => .array .int
  | 3 => .int
  | 4 => .array .int
  | 5 => .array .int
  | _ => .int
theorem nm_W : ∀ a, a < 7 → ∀ b, b < 7 → a ≠ b → (Tn_W a).2.1 ≠ (Tn_W b).2.1 := by decide +kernel
theorem ty_W_ok : ∀ k, k < 7 → parseFieldDescriptor (Tn_W k).2.2.1 = some (ty_W k) := by decide +kernel
def Rn_M : String := "ReadGraphModel"
def Tn_M : u_T := fun k => match k with
  | 0 => ("ReadGraphModel", "thrown", "I", false)
  | 1 => ("ReadGraphModel", "reads", "I", false)
  | 2 => ("ReadGraphModel", "size", "[I", true)
  | 3 => ("ReadGraphModel", "letters", "[I", true)
  | 4 => ("ReadGraphModel", "contained", "[Z", true)
  | 5 => ("ReadGraphModel", "every", "I", false)
  | 6 => ("ReadGraphModel", "everyFrom", "[I", true)
  | 7 => ("ReadGraphModel", "everyTo", "[I", true)
  | 8 => ("ReadGraphModel", "everyOverlap", "[I", true)
  | 9 => ("ReadGraphModel", "edges", "I", false)
  | 10 => ("ReadGraphModel", "from", "[I", true)
  | 11 => ("ReadGraphModel", "to", "[I", true)
  | 12 => ("ReadGraphModel", "overlap", "[I", true)
  | 13 => ("ReadGraphModel", "reached", "[Z", true)
  | 14 => ("ReadGraphModel", "known", "[I", true)
  | 15 => ("ReadGraphModel", "path", "[I", true)
  | 16 => ("ReadGraphModel", "tried", "[I", true)
  | 17 => ("ReadGraphModel", "walks", "I", false)
  | 18 => ("ReadGraphModel", "walkSize", "[I", true)
  | _ => ("ReadGraphModel", "walkEdges", "[I", true)
def ty_M : Nat → FieldType := fun k => match k with
  | 0 => .int
  | 1 => .int
  | 2 => .array .int
  | 3 => .array .int
  | 4 => .array .boolean
  | 5 => .int
  | 6 => .array .int
  | 7 => .array .int
  | 8 => .array .int
  | 9 => .int
  | 10 => .array .int
  | 11 => .array .int
  | 12 => .array .int
  | 13 => .array .boolean
  | 14 => .array .int
  | 15 => .array .int
  | 16 => .array .int
  | 17 => .int
  | 18 => .array .int
  | _ => .array .int
theorem nm_M : ∀ a, a < 20 → ∀ b, b < 20 → a ≠ b → (Tn_M a).2.1 ≠ (Tn_M b).2.1 := by decide +kernel
theorem ty_M_ok : ∀ k, k < 20 → parseFieldDescriptor (Tn_M k).2.2.1 = some (ty_M k) := by decide +kernel
abbrev rg_cl : List vw_C := [(Rn_G, Tn_G, 3), (Rn_R, Tn_R, 3), (Rn_E, Tn_E, 11), (Rn_W, Tn_W, 7), (Rn_M, Tn_M, 20)]
abbrev rg_K : Type := (Nat × Nat) ⊕ (Nat × List (Option Nat))
/-- the cells: 0 ReadGraph, 1 Reads, 4 Edges, 13 Walks, 18 the reference, 34 the law's out; the others their arrays -/
def rg_lay : List rg_K := [.inr (0, [some 1, some 4, some 13]), .inr (1, [some 2, some 3, none]), .inl (0, 9), .inl (0, 9), .inr (2, [some 5, some 6, some 7, some 8, some 9, some 10, some 11, some 12, none, none, none]), .inl (0, 81), .inl (0, 72), .inl (0, 72), .inl (0, 72), .inl (0, 10), .inl (0, 9), .inl (0, 9), .inl (0, 9), .inr (3, [some 4, some 14, some 15, none, some 16, some 17, none]), .inl (0, 2000), .inl (0, 50), .inl (0, 40), .inl (0, 40), .inr (4, [none, none, some 19, some 20, some 21, none, some 22, some 23, some 24, none, some 25, some 26, some 27, some 28, some 29, some 30, some 31, none, some 32, some 33]), .inl (0, 9), .inl (0, 108), .inl (1, 9), .inl (0, 81), .inl (0, 81), .inl (0, 81), .inl (0, 81), .inl (0, 81), .inl (0, 81), .inl (1, 81), .inl (0, 6561), .inl (0, 44), .inl (0, 44), .inl (0, 50), .inl (0, 2000), .inl (2, 1)]
def rg_isN : Cond → Bool
  | .fieldLinkNest .. => true
  | .methodLinkNest .. => true
  | _ => false
/-- the tables' words that a callee may ask of its caller's; those of nest mates -/
def rg_TS : List Cond := lw_tbl.filter goodWord
def rg_NW : List Cond := tables_1.filter rg_isN
theorem rg_TS_ok : ∀ w ∈ rg_TS, goodWord w = true := fun w h => (List.mem_filter.mp h).2
theorem rg_NW_ok : ∀ w ∈ rg_NW, rg_isN w = true := fun w h => (List.mem_filter.mp h).2
theorem rg_in {w : Cond} (g : goodWord w = true) (h : w ∈ tables_1) : w ∈ rg_TS := List.mem_filter.mpr ⟨List.mem_append_right _ h, g⟩
theorem rg_inS {w : Cond} (g : goodWord w = true) (h : w ∈ k2_sels lw_privs) : w ∈ rg_TS := List.mem_filter.mpr ⟨List.mem_append_left _ h, g⟩
theorem rg_inN {w : Cond} (g : rg_isN w = true) (h : w ∈ tables_1) : w ∈ rg_NW := List.mem_filter.mpr ⟨h, g⟩
theorem us_G : ∀ w ∈ u_ws Rn_G Tn_G 3, w ∈ rg_TS := by
  intro w hw
  obtain ⟨k, hk, rfl⟩ := List.mem_map.mp hw
  have hk := List.mem_range.mp hk
  have h : ∀ k, k < 3 → goodWord (u_lay Rn_G Tn_G k) = true ∧ u_lay Rn_G Tn_G k ∈ tables_1 := by decide +kernel
  exact rg_in (h k hk).1 (h k hk).2
theorem us_R : ∀ w ∈ u_ws Rn_R Tn_R 3, w ∈ rg_TS := by
  intro w hw
  obtain ⟨k, hk, rfl⟩ := List.mem_map.mp hw
  have hk := List.mem_range.mp hk
  have h : ∀ k, k < 3 → goodWord (u_lay Rn_R Tn_R k) = true ∧ u_lay Rn_R Tn_R k ∈ tables_1 := by decide +kernel
  exact rg_in (h k hk).1 (h k hk).2
theorem us_E : ∀ w ∈ u_ws Rn_E Tn_E 11, w ∈ rg_TS := by
  intro w hw
  obtain ⟨k, hk, rfl⟩ := List.mem_map.mp hw
  have hk := List.mem_range.mp hk
  have h : ∀ k, k < 11 → goodWord (u_lay Rn_E Tn_E k) = true ∧ u_lay Rn_E Tn_E k ∈ tables_1 := by decide +kernel
  exact rg_in (h k hk).1 (h k hk).2
theorem us_W : ∀ w ∈ u_ws Rn_W Tn_W 7, w ∈ rg_TS := by
  intro w hw
  obtain ⟨k, hk, rfl⟩ := List.mem_map.mp hw
  have hk := List.mem_range.mp hk
  have h : ∀ k, k < 7 → goodWord (u_lay Rn_W Tn_W k) = true ∧ u_lay Rn_W Tn_W k ∈ tables_1 := by decide +kernel
  exact rg_in (h k hk).1 (h k hk).2
theorem us_M : ∀ w ∈ u_ws Rn_M Tn_M 20, w ∈ rg_TS := by
  intro w hw
  obtain ⟨k, hk, rfl⟩ := List.mem_map.mp hw
  have hk := List.mem_range.mp hk
  have h : ∀ k, k < 20 → goodWord (u_lay Rn_M Tn_M k) = true ∧ u_lay Rn_M Tn_M k ∈ tables_1 := by decide +kernel
  exact rg_in (h k hk).1 (h k hk).2
theorem rg_cls_ok : ∀ (ci : Nat) (C : String) (T : u_T) (N : Nat), rg_cl[ci]? = some (C, T, N) → (∀ w ∈ u_ws C T N, w ∈ rg_TS) ∧ ∃ ty0 : Nat → FieldType, (∀ k, k < N → parseFieldDescriptor (T k).2.2.1 = some (ty0 k)) ∧ ∀ a, a < N → ∀ b, b < N → a ≠ b → (T a).2.1 ≠ (T b).2.1
  | 0, _, _, _, h => by cases h; exact ⟨us_G, ty_G, ty_G_ok, nm_G⟩
  | 1, _, _, _, h => by cases h; exact ⟨us_R, ty_R, ty_R_ok, nm_R⟩
  | 2, _, _, _, h => by cases h; exact ⟨us_E, ty_E, ty_E_ok, nm_E⟩
  | 3, _, _, _, h => by cases h; exact ⟨us_W, ty_W, ty_W_ok, nm_W⟩
  | 4, _, _, _, h => by cases h; exact ⟨us_M, ty_M, ty_M_ok, nm_M⟩
  | _ + 5, _, _, _, h => by cases h
theorem rg_int_chk : (rg_lay.all fun q => match q with
    | .inl _ => true
    | .inr (ci, fs) => match rg_cl[ci]? with
      | none => true
      | some (_, T, _) => (List.range fs.length).all fun j => match fs[j]? with
        | some none => (T j).2.2.2 == false && (T j).2.2.1 == "I"
        | _ => true) = true := by decide +kernel
theorem rg_int_ok (o ci : Nat) (fs : List (Option Nat)) (j : Nat) (C : String) (T : u_T) (N : Nat) (h1 : rg_lay[o]? = some (.inr (ci, fs))) (h2 : fs[j]? = some none) (h3 : rg_cl[ci]? = some (C, T, N)) : (T j).2.2.2 = false ∧ (T j).2.2.1 = "I" := by
  have h := List.all_eq_true.mp rg_int_chk _ (List.mem_of_getElem? h1)
  simp only [h3] at h
  have hj : j < fs.length := (List.getElem?_eq_some_iff.mp h2).1
  have h := List.all_eq_true.mp h j (List.mem_range.mpr hj)
  simp only [h2, Bool.and_eq_true, beq_iff_eq] at h
  exact h
