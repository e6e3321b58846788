/-! field tables and call words (by program) -/
def rg_F_G : List (Nat × Nat × Nat) := [(12, 0, 0), (19, 0, 1), (28, 0, 2), (39, 1, 2), (61, 1, 1), (91, 2, 10), (92, 2, 9), (103, 2, 1), (106, 2, 2), (109, 2, 3), (114, 2, 7), (140, 3, 3), (146, 3, 2)]
theorem rg_F_G_ok : ∀ q ∈ rg_F_G, rg_FOk "ReadGraph" q :=
  List.forall_mem_cons.mpr ⟨⟨Rn_G, Tn_G, 3, rfl, by decide, Or.inl (rg_in rfl (by decide +kernel))⟩,
  List.forall_mem_cons.mpr ⟨⟨Rn_G, Tn_G, 3, rfl, by decide, Or.inl (rg_in rfl (by decide +kernel))⟩,
  List.forall_mem_cons.mpr ⟨⟨Rn_G, Tn_G, 3, rfl, by decide, Or.inl (rg_in rfl (by decide +kernel))⟩,
  List.forall_mem_cons.mpr ⟨⟨Rn_R, Tn_R, 3, rfl, by decide, Or.inr ⟨"ReadGraph", rg_inN rfl (by decide +kernel)⟩⟩,
  List.forall_mem_cons.mpr ⟨⟨Rn_R, Tn_R, 3, rfl, by decide, Or.inr ⟨"ReadGraph", rg_inN rfl (by decide +kernel)⟩⟩,
  List.forall_mem_cons.mpr ⟨⟨Rn_E, Tn_E, 11, rfl, by decide, Or.inr ⟨"ReadGraph", rg_inN rfl (by decide +kernel)⟩⟩,
  List.forall_mem_cons.mpr ⟨⟨Rn_E, Tn_E, 11, rfl, by decide, Or.inr ⟨"ReadGraph", rg_inN rfl (by decide +kernel)⟩⟩,
  List.forall_mem_cons.mpr ⟨⟨Rn_E, Tn_E, 11, rfl, by decide, Or.inr ⟨"ReadGraph", rg_inN rfl (by decide +kernel)⟩⟩,
  List.forall_mem_cons.mpr ⟨⟨Rn_E, Tn_E, 11, rfl, by decide, Or.inr ⟨"ReadGraph", rg_inN rfl (by decide +kernel)⟩⟩,
  List.forall_mem_cons.mpr ⟨⟨Rn_E, Tn_E, 11, rfl, by decide, Or.inr ⟨"ReadGraph", rg_inN rfl (by decide +kernel)⟩⟩,
  List.forall_mem_cons.mpr ⟨⟨Rn_E, Tn_E, 11, rfl, by decide, Or.inr ⟨"ReadGraph", rg_inN rfl (by decide +kernel)⟩⟩,
  List.forall_mem_cons.mpr ⟨⟨Rn_W, Tn_W, 7, rfl, by decide, Or.inr ⟨"ReadGraph", rg_inN rfl (by decide +kernel)⟩⟩,
  List.forall_mem_cons.mpr ⟨⟨Rn_W, Tn_W, 7, rfl, by decide, Or.inr ⟨"ReadGraph", rg_inN rfl (by decide +kernel)⟩⟩,
  fun _ h => absurd h List.not_mem_nil⟩⟩⟩⟩⟩⟩⟩⟩⟩⟩⟩⟩⟩
def rg_F_R : List (Nat × Nat × Nat) := [(9, 1, 0), (15, 1, 1), (18, 1, 2)]
theorem rg_F_R_ok : ∀ q ∈ rg_F_R, rg_FOk "ReadGraph$Reads" q :=
  List.forall_mem_cons.mpr ⟨⟨Rn_R, Tn_R, 3, rfl, by decide, Or.inl (rg_in rfl (by decide +kernel))⟩,
  List.forall_mem_cons.mpr ⟨⟨Rn_R, Tn_R, 3, rfl, by decide, Or.inl (rg_in rfl (by decide +kernel))⟩,
  List.forall_mem_cons.mpr ⟨⟨Rn_R, Tn_R, 3, rfl, by decide, Or.inl (rg_in rfl (by decide +kernel))⟩,
  fun _ h => absurd h List.not_mem_nil⟩⟩⟩
def rg_F_E : List (Nat × Nat × Nat) := [(9, 2, 0), (15, 2, 1), (18, 2, 2), (21, 2, 3), (24, 2, 4), (27, 2, 5), (30, 2, 6), (33, 2, 7), (36, 2, 10), (40, 2, 8), (43, 2, 9), (75, 1, 1)]
theorem rg_F_E_ok : ∀ q ∈ rg_F_E, rg_FOk "ReadGraph$Edges" q :=
  List.forall_mem_cons.mpr ⟨⟨Rn_E, Tn_E, 11, rfl, by decide, Or.inl (rg_in rfl (by decide +kernel))⟩,
  List.forall_mem_cons.mpr ⟨⟨Rn_E, Tn_E, 11, rfl, by decide, Or.inl (rg_in rfl (by decide +kernel))⟩,
  List.forall_mem_cons.mpr ⟨⟨Rn_E, Tn_E, 11, rfl, by decide, Or.inl (rg_in rfl (by decide +kernel))⟩,
  List.forall_mem_cons.mpr ⟨⟨Rn_E, Tn_E, 11, rfl, by decide, Or.inl (rg_in rfl (by decide +kernel))⟩,
  List.forall_mem_cons.mpr ⟨⟨Rn_E, Tn_E, 11, rfl, by decide, Or.inl (rg_in rfl (by decide +kernel))⟩,
  List.forall_mem_cons.mpr ⟨⟨Rn_E, Tn_E, 11, rfl, by decide, Or.inl (rg_in rfl (by decide +kernel))⟩,
  List.forall_mem_cons.mpr ⟨⟨Rn_E, Tn_E, 11, rfl, by decide, Or.inl (rg_in rfl (by decide +kernel))⟩,
  List.forall_mem_cons.mpr ⟨⟨Rn_E, Tn_E, 11, rfl, by decide, Or.inl (rg_in rfl (by decide +kernel))⟩,
  List.forall_mem_cons.mpr ⟨⟨Rn_E, Tn_E, 11, rfl, by decide, Or.inl (rg_in rfl (by decide +kernel))⟩,
  List.forall_mem_cons.mpr ⟨⟨Rn_E, Tn_E, 11, rfl, by decide, Or.inl (rg_in rfl (by decide +kernel))⟩,
  List.forall_mem_cons.mpr ⟨⟨Rn_E, Tn_E, 11, rfl, by decide, Or.inl (rg_in rfl (by decide +kernel))⟩,
  List.forall_mem_cons.mpr ⟨⟨Rn_R, Tn_R, 3, rfl, by decide, Or.inr ⟨"ReadGraph", rg_inN rfl (by decide +kernel)⟩⟩,
  fun _ h => absurd h List.not_mem_nil⟩⟩⟩⟩⟩⟩⟩⟩⟩⟩⟩⟩
def rg_F_W : List (Nat × Nat × Nat) := [(9, 3, 1), (15, 3, 2), (18, 3, 4), (21, 3, 5), (24, 3, 0), (28, 3, 3), (33, 2, 10), (36, 3, 6), (58, 2, 4), (61, 2, 2), (72, 2, 1)]
theorem rg_F_W_ok : ∀ q ∈ rg_F_W, rg_FOk "ReadGraph$Walks" q :=
  List.forall_mem_cons.mpr ⟨⟨Rn_W, Tn_W, 7, rfl, by decide, Or.inl (rg_in rfl (by decide +kernel))⟩,
  List.forall_mem_cons.mpr ⟨⟨Rn_W, Tn_W, 7, rfl, by decide, Or.inl (rg_in rfl (by decide +kernel))⟩,
  List.forall_mem_cons.mpr ⟨⟨Rn_W, Tn_W, 7, rfl, by decide, Or.inl (rg_in rfl (by decide +kernel))⟩,
  List.forall_mem_cons.mpr ⟨⟨Rn_W, Tn_W, 7, rfl, by decide, Or.inl (rg_in rfl (by decide +kernel))⟩,
  List.forall_mem_cons.mpr ⟨⟨Rn_W, Tn_W, 7, rfl, by decide, Or.inl (rg_in rfl (by decide +kernel))⟩,
  List.forall_mem_cons.mpr ⟨⟨Rn_W, Tn_W, 7, rfl, by decide, Or.inl (rg_in rfl (by decide +kernel))⟩,
  List.forall_mem_cons.mpr ⟨⟨Rn_E, Tn_E, 11, rfl, by decide, Or.inr ⟨"ReadGraph", rg_inN rfl (by decide +kernel)⟩⟩,
  List.forall_mem_cons.mpr ⟨⟨Rn_W, Tn_W, 7, rfl, by decide, Or.inl (rg_in rfl (by decide +kernel))⟩,
  List.forall_mem_cons.mpr ⟨⟨Rn_E, Tn_E, 11, rfl, by decide, Or.inr ⟨"ReadGraph", rg_inN rfl (by decide +kernel)⟩⟩,
  List.forall_mem_cons.mpr ⟨⟨Rn_E, Tn_E, 11, rfl, by decide, Or.inr ⟨"ReadGraph", rg_inN rfl (by decide +kernel)⟩⟩,
  List.forall_mem_cons.mpr ⟨⟨Rn_E, Tn_E, 11, rfl, by decide, Or.inr ⟨"ReadGraph", rg_inN rfl (by decide +kernel)⟩⟩,
  fun _ h => absurd h List.not_mem_nil⟩⟩⟩⟩⟩⟩⟩⟩⟩⟩⟩
def rg_F_M : List (Nat × Nat × Nat) := [(7, 4, 2), (13, 4, 3), (16, 4, 4), (20, 4, 6), (23, 4, 7), (26, 4, 8), (29, 4, 10), (32, 4, 11), (35, 4, 12), (38, 4, 13), (41, 4, 14), (44, 4, 15), (47, 4, 16), (50, 4, 18), (53, 4, 19), (56, 4, 0), (60, 4, 5), (63, 4, 9), (66, 4, 17), (77, 4, 1)]
theorem rg_F_M_ok : ∀ q ∈ rg_F_M, rg_FOk "ReadGraphModel" q :=
  List.forall_mem_cons.mpr ⟨⟨Rn_M, Tn_M, 20, rfl, by decide, Or.inl (rg_in rfl (by decide +kernel))⟩,
  List.forall_mem_cons.mpr ⟨⟨Rn_M, Tn_M, 20, rfl, by decide, Or.inl (rg_in rfl (by decide +kernel))⟩,
  List.forall_mem_cons.mpr ⟨⟨Rn_M, Tn_M, 20, rfl, by decide, Or.inl (rg_in rfl (by decide +kernel))⟩,
  List.forall_mem_cons.mpr ⟨⟨Rn_M, Tn_M, 20, rfl, by decide, Or.inl (rg_in rfl (by decide +kernel))⟩,
  List.forall_mem_cons.mpr ⟨⟨Rn_M, Tn_M, 20, rfl, by decide, Or.inl (rg_in rfl (by decide +kernel))⟩,
  List.forall_mem_cons.mpr ⟨⟨Rn_M, Tn_M, 20, rfl, by decide, Or.inl (rg_in rfl (by decide +kernel))⟩,
  List.forall_mem_cons.mpr ⟨⟨Rn_M, Tn_M, 20, rfl, by decide, Or.inl (rg_in rfl (by decide +kernel))⟩,
  List.forall_mem_cons.mpr ⟨⟨Rn_M, Tn_M, 20, rfl, by decide, Or.inl (rg_in rfl (by decide +kernel))⟩,
  List.forall_mem_cons.mpr ⟨⟨Rn_M, Tn_M, 20, rfl, by decide, Or.inl (rg_in rfl (by decide +kernel))⟩,
  List.forall_mem_cons.mpr ⟨⟨Rn_M, Tn_M, 20, rfl, by decide, Or.inl (rg_in rfl (by decide +kernel))⟩,
  List.forall_mem_cons.mpr ⟨⟨Rn_M, Tn_M, 20, rfl, by decide, Or.inl (rg_in rfl (by decide +kernel))⟩,
  List.forall_mem_cons.mpr ⟨⟨Rn_M, Tn_M, 20, rfl, by decide, Or.inl (rg_in rfl (by decide +kernel))⟩,
  List.forall_mem_cons.mpr ⟨⟨Rn_M, Tn_M, 20, rfl, by decide, Or.inl (rg_in rfl (by decide +kernel))⟩,
  List.forall_mem_cons.mpr ⟨⟨Rn_M, Tn_M, 20, rfl, by decide, Or.inl (rg_in rfl (by decide +kernel))⟩,
  List.forall_mem_cons.mpr ⟨⟨Rn_M, Tn_M, 20, rfl, by decide, Or.inl (rg_in rfl (by decide +kernel))⟩,
  List.forall_mem_cons.mpr ⟨⟨Rn_M, Tn_M, 20, rfl, by decide, Or.inl (rg_in rfl (by decide +kernel))⟩,
  List.forall_mem_cons.mpr ⟨⟨Rn_M, Tn_M, 20, rfl, by decide, Or.inl (rg_in rfl (by decide +kernel))⟩,
  List.forall_mem_cons.mpr ⟨⟨Rn_M, Tn_M, 20, rfl, by decide, Or.inl (rg_in rfl (by decide +kernel))⟩,
  List.forall_mem_cons.mpr ⟨⟨Rn_M, Tn_M, 20, rfl, by decide, Or.inl (rg_in rfl (by decide +kernel))⟩,
  List.forall_mem_cons.mpr ⟨⟨Rn_M, Tn_M, 20, rfl, by decide, Or.inl (rg_in rfl (by decide +kernel))⟩,
  fun _ h => absurd h List.not_mem_nil⟩⟩⟩⟩⟩⟩⟩⟩⟩⟩⟩⟩⟩⟩⟩⟩⟩⟩⟩⟩
def rg_F_J : List (Nat × Nat × Nat) := []
def rg_F_L : List (Nat × Nat × Nat) := []
set_option maxRecDepth 20000 in
theorem cw_G_48 {l : Launch} {T : rg_T} {lv lv2 : Nat} (hG : rg_Good l y_G_forgetGraph c_G_forgetGraph 1 none lv2 T) (h : lv2 + 1 ≤ lv) (hr : ∀ as w K, T as w K → ∃ r, as = .ref 0 :: r) : rg_CallOk l "ReadGraph" lv (97, 1, 0, T) :=
  Or.inl ⟨y_G_forgetGraph, c_G_forgetGraph, 1, none, lv2, 48, 0, hG, rfl, h, by decide, rg_in rfl (List.mem_of_getElem? (i := 140) rfl), rg_in rfl (by decide +kernel), ⟨by decide, by decide, by decide +kernel⟩, Or.inl (rg_in rfl (by decide +kernel)), Or.inr ⟨rfl, rfl, rg_in rfl (by decide +kernel), rg_inS rfl (by decide +kernel), fun as w K h => by obtain ⟨r, rfl⟩ := hr as w K h; exact ⟨0, 0, _, Tn_G, 3, r, rfl, rfl, rfl⟩⟩⟩
set_option maxRecDepth 20000 in
theorem cw_G_51 {l : Launch} {T : rg_T} {lv lv2 : Nat} (hG : rg_Good l y_R_add c_R_add 3 (some .int) lv2 T) (h : lv2 + 1 ≤ lv) (hr : ∀ as w K, T as w K → ∃ r, as = .ref 1 :: r) : rg_CallOk l "ReadGraph" lv (103, 3, 0, T) :=
  Or.inl ⟨y_R_add, c_R_add, 3, (some .int), lv2, 51, 2, hG, rfl, h, by decide, rg_in rfl (List.mem_of_getElem? (i := 263) rfl), rg_in rfl (by decide +kernel), ⟨by decide, by decide, by decide +kernel⟩, Or.inr ⟨"ReadGraph", rg_inN rfl (by decide +kernel)⟩, Or.inr ⟨rfl, rfl, rg_in rfl (by decide +kernel), rg_inS rfl (by decide +kernel), fun as w K h => by obtain ⟨r, rfl⟩ := hr as w K h; exact ⟨1, 1, _, Tn_R, 3, r, rfl, rfl, rfl⟩⟩⟩
set_option maxRecDepth 20000 in
theorem cw_G_55 {l : Launch} {T : rg_T} {lv lv2 : Nat} (hG : rg_Good l y_R_has c_R_has 2 (some .boolean) lv2 T) (h : lv2 + 1 ≤ lv) (hr : ∀ as w K, T as w K → ∃ r, as = .ref 1 :: r) : rg_CallOk l "ReadGraph" lv (111, 2, 0, T) :=
  Or.inl ⟨y_R_has, c_R_has, 2, (some .boolean), lv2, 55, 1, hG, rfl, h, by decide, rg_in rfl (List.mem_of_getElem? (i := 278) rfl), rg_in rfl (by decide +kernel), ⟨by decide, by decide, by decide +kernel⟩, Or.inr ⟨"ReadGraph", rg_inN rfl (by decide +kernel)⟩, Or.inr ⟨rfl, rfl, rg_in rfl (by decide +kernel), rg_inS rfl (by decide +kernel), fun as w K h => by obtain ⟨r, rfl⟩ := hr as w K h; exact ⟨1, 1, _, Tn_R, 3, r, rfl, rfl, rfl⟩⟩⟩
set_option maxRecDepth 20000 in
theorem cw_G_70 {l : Launch} {T : rg_T} {lv lv2 : Nat} (hG : rg_Good l y_R_letterAt c_R_letterAt 3 (some .int) lv2 T) (h : lv2 + 1 ≤ lv) (hr : ∀ as w K, T as w K → ∃ r, as = .ref 1 :: r) : rg_CallOk l "ReadGraph" lv (141, 3, 0, T) :=
  Or.inl ⟨y_R_letterAt, c_R_letterAt, 3, (some .int), lv2, 70, 2, hG, rfl, h, by decide, rg_in rfl (List.mem_of_getElem? (i := 299) rfl), rg_in rfl (by decide +kernel), ⟨by decide, by decide, by decide +kernel⟩, Or.inr ⟨"ReadGraph", rg_inN rfl (by decide +kernel)⟩, Or.inr ⟨rfl, rfl, rg_in rfl (by decide +kernel), rg_inS rfl (by decide +kernel), fun as w K h => by obtain ⟨r, rfl⟩ := hr as w K h; exact ⟨1, 1, _, Tn_R, 3, r, rfl, rfl, rfl⟩⟩⟩
set_option maxRecDepth 20000 in
theorem cw_G_73 {l : Launch} {T : rg_T} {lv lv2 : Nat} (hG : rg_Good l y_R_isNode c_R_isNode 3 (some .boolean) lv2 T) (h : lv2 + 1 ≤ lv) (hr : ∀ as w K, T as w K → ∃ r, as = .ref 1 :: r) : rg_CallOk l "ReadGraph" lv (147, 2, 0, T) :=
  Or.inl ⟨y_R_isNode, c_R_isNode, 3, (some .boolean), lv2, 73, 1, hG, rfl, h, by decide, rg_in rfl (List.mem_of_getElem? (i := 310) rfl), rg_in rfl (by decide +kernel), ⟨by decide, by decide, by decide +kernel⟩, Or.inr ⟨"ReadGraph", rg_inN rfl (by decide +kernel)⟩, Or.inr ⟨rfl, rfl, rg_in rfl (by decide +kernel), rg_inS rfl (by decide +kernel), fun as w K h => by obtain ⟨r, rfl⟩ := hr as w K h; exact ⟨1, 1, _, Tn_R, 3, r, rfl, rfl, rfl⟩⟩⟩
set_option maxRecDepth 20000 in
theorem cw_G_78 {l : Launch} {T : rg_T} {lv lv2 : Nat} (hG : rg_Good l y_G_isLeast c_G_isLeast 1 (some .boolean) lv2 T) (h : lv2 + 1 ≤ lv) : rg_CallOk l "ReadGraph" lv (156, 1, 0, T) :=
  Or.inl ⟨y_G_isLeast, c_G_isLeast, 1, (some .boolean), lv2, 78, 1, hG, rfl, h, by decide, rg_in rfl (List.mem_of_getElem? (i := 326) rfl), rg_in rfl (by decide +kernel), ⟨by decide, by decide, by decide +kernel⟩, Or.inl (rg_in rfl (by decide +kernel)), Or.inl ⟨rfl, rfl, rg_in rfl (by decide +kernel)⟩⟩
set_option maxRecDepth 20000 in
theorem cw_G_83 {l : Launch} {T : rg_T} {lv lv2 : Nat} (hG : rg_Good l y_R_lettersShared c_R_lettersShared 5 (some .int) lv2 T) (h : lv2 + 1 ≤ lv) (hr : ∀ as w K, T as w K → ∃ r, as = .ref 1 :: r) : rg_CallOk l "ReadGraph" lv (167, 4, 0, T) :=
  Or.inl ⟨y_R_lettersShared, c_R_lettersShared, 5, (some .int), lv2, 83, 3, hG, rfl, h, by decide, rg_in rfl (List.mem_of_getElem? (i := 331) rfl), rg_in rfl (by decide +kernel), ⟨by decide, by decide, by decide +kernel⟩, Or.inr ⟨"ReadGraph", rg_inN rfl (by decide +kernel)⟩, Or.inr ⟨rfl, rfl, rg_in rfl (by decide +kernel), rg_inS rfl (by decide +kernel), fun as w K h => by obtain ⟨r, rfl⟩ := hr as w K h; exact ⟨1, 1, _, Tn_R, 3, r, rfl, rfl, rfl⟩⟩⟩
set_option maxRecDepth 20000 in
theorem cw_G_87 {l : Launch} {T : rg_T} {lv lv2 : Nat} (hG : rg_Good l y_E_make c_E_make 4 none lv2 T) (h : lv2 + 1 ≤ lv) (hr : ∀ as w K, T as w K → ∃ r, as = .ref 4 :: r) : rg_CallOk l "ReadGraph" lv (175, 3, 0, T) :=
  Or.inl ⟨y_E_make, c_E_make, 4, none, lv2, 87, 2, hG, rfl, h, by decide, rg_in rfl (List.mem_of_getElem? (i := 345) rfl), rg_in rfl (by decide +kernel), ⟨by decide, by decide, by decide +kernel⟩, Or.inr ⟨"ReadGraph", rg_inN rfl (by decide +kernel)⟩, Or.inr ⟨rfl, rfl, rg_in rfl (by decide +kernel), rg_inS rfl (by decide +kernel), fun as w K h => by obtain ⟨r, rfl⟩ := hr as w K h; exact ⟨4, 2, _, Tn_E, 11, r, rfl, rfl, rfl⟩⟩⟩
set_option maxRecDepth 20000 in
theorem cw_G_97 {l : Launch} {T : rg_T} {lv lv2 : Nat} (hG : rg_Good l y_E_has c_E_has 2 (some .boolean) lv2 T) (h : lv2 + 1 ≤ lv) (hr : ∀ as w K, T as w K → ∃ r, as = .ref 4 :: r) : rg_CallOk l "ReadGraph" lv (195, 2, 0, T) :=
  Or.inl ⟨y_E_has, c_E_has, 2, (some .boolean), lv2, 97, 1, hG, rfl, h, by decide, rg_in rfl (List.mem_of_getElem? (i := 380) rfl), rg_in rfl (by decide +kernel), ⟨by decide, by decide, by decide +kernel⟩, Or.inr ⟨"ReadGraph", rg_inN rfl (by decide +kernel)⟩, Or.inr ⟨rfl, rfl, rg_in rfl (by decide +kernel), rg_inS rfl (by decide +kernel), fun as w K h => by obtain ⟨r, rfl⟩ := hr as w K h; exact ⟨4, 2, _, Tn_E, 11, r, rfl, rfl, rfl⟩⟩⟩
set_option maxRecDepth 20000 in
theorem cw_G_117 {l : Launch} {T : rg_T} {lv lv2 : Nat} (hG : rg_Good l y_G_holds c_G_holds 2 (some .boolean) lv2 T) (h : lv2 + 1 ≤ lv) : rg_CallOk l "ReadGraph" lv (234, 2, 0, T) :=
  Or.inl ⟨y_G_holds, c_G_holds, 2, (some .boolean), lv2, 117, 2, hG, rfl, h, by decide, rg_in rfl (List.mem_of_getElem? (i := 159) rfl), rg_in rfl (by decide +kernel), ⟨by decide, by decide, by decide +kernel⟩, Or.inl (rg_in rfl (by decide +kernel)), Or.inl ⟨rfl, rfl, rg_in rfl (by decide +kernel)⟩⟩
set_option maxRecDepth 20000 in
theorem cw_G_121 {l : Launch} {T : rg_T} {lv lv2 : Nat} (hG : rg_Good l y_E_shape c_E_shape 2 (some .int) lv2 T) (h : lv2 + 1 ≤ lv) (hr : ∀ as w K, T as w K → ∃ r, as = .ref 4 :: r) : rg_CallOk l "ReadGraph" lv (243, 1, 0, T) :=
  Or.inl ⟨y_E_shape, c_E_shape, 2, (some .int), lv2, 121, 0, hG, rfl, h, by decide, rg_in rfl (List.mem_of_getElem? (i := 156) rfl), rg_in rfl (by decide +kernel), ⟨by decide, by decide, by decide +kernel⟩, Or.inr ⟨"ReadGraph", rg_inN rfl (by decide +kernel)⟩, Or.inr ⟨rfl, rfl, rg_in rfl (by decide +kernel), rg_inS rfl (by decide +kernel), fun as w K h => by obtain ⟨r, rfl⟩ := hr as w K h; exact ⟨4, 2, _, Tn_E, 11, r, rfl, rfl, rfl⟩⟩⟩
set_option maxRecDepth 20000 in
theorem cw_G_127 {l : Launch} {T : rg_T} {lv lv2 : Nat} (hG : rg_Good l y_G_isPackedWalk c_G_isPackedWalk 6 (some .boolean) lv2 T) (h : lv2 + 1 ≤ lv) (hr : ∀ as w K, T as w K → ∃ r, as = .ref 0 :: r) : rg_CallOk l "ReadGraph" lv (255, 3, 0, T) :=
  Or.inl ⟨y_G_isPackedWalk, c_G_isPackedWalk, 6, (some .boolean), lv2, 127, 2, hG, rfl, h, by decide, rg_in rfl (List.mem_of_getElem? (i := 417) rfl), rg_in rfl (by decide +kernel), ⟨by decide, by decide, by decide +kernel⟩, Or.inl (rg_in rfl (by decide +kernel)), Or.inr ⟨rfl, rfl, rg_in rfl (by decide +kernel), rg_inS rfl (by decide +kernel), fun as w K h => by obtain ⟨r, rfl⟩ := hr as w K h; exact ⟨0, 0, _, Tn_G, 3, r, rfl, rfl, rfl⟩⟩⟩
set_option maxRecDepth 20000 in
theorem cw_G_133 {l : Launch} {T : rg_T} {lv lv2 : Nat} (hG : rg_Good l y_G_isPackedWalkSafe c_G_isPackedWalkSafe 6 (some .boolean) lv2 T) (h : lv2 + 1 ≤ lv) (hr : ∀ as w K, T as w K → ∃ r, as = .ref 0 :: r) : rg_CallOk l "ReadGraph" lv (267, 3, 0, T) :=
  Or.inl ⟨y_G_isPackedWalkSafe, c_G_isPackedWalkSafe, 6, (some .boolean), lv2, 133, 2, hG, rfl, h, by decide, rg_in rfl (List.mem_of_getElem? (i := 425) rfl), rg_in rfl (by decide +kernel), ⟨by decide, by decide, by decide +kernel⟩, Or.inl (rg_in rfl (by decide +kernel)), Or.inr ⟨rfl, rfl, rg_in rfl (by decide +kernel), rg_inS rfl (by decide +kernel), fun as w K h => by obtain ⟨r, rfl⟩ := hr as w K h; exact ⟨0, 0, _, Tn_G, 3, r, rfl, rfl, rfl⟩⟩⟩
set_option maxRecDepth 20000 in
theorem cw_G_136 {l : Launch} {T : rg_T} {lv lv2 : Nat} (hG : rg_Good l y_W_find c_W_find 3 (some .boolean) lv2 T) (h : lv2 + 1 ≤ lv) (hr : ∀ as w K, T as w K → ∃ r, as = .ref 13 :: r) : rg_CallOk l "ReadGraph" lv (273, 1, 0, T) :=
  Or.inl ⟨y_W_find, c_W_find, 3, (some .boolean), lv2, 136, 0, hG, rfl, h, by decide, rg_in rfl (List.mem_of_getElem? (i := 440) rfl), rg_in rfl (by decide +kernel), ⟨by decide, by decide, by decide +kernel⟩, Or.inr ⟨"ReadGraph", rg_inN rfl (by decide +kernel)⟩, Or.inr ⟨rfl, rfl, rg_in rfl (by decide +kernel), rg_inS rfl (by decide +kernel), fun as w K h => by obtain ⟨r, rfl⟩ := hr as w K h; exact ⟨13, 3, _, Tn_W, 7, r, rfl, rfl, rfl⟩⟩⟩
set_option maxRecDepth 20000 in
theorem cw_G_143 {l : Launch} {T : rg_T} {lv lv2 : Nat} (hG : rg_Good l y_W_has c_W_has 2 (some .boolean) lv2 T) (h : lv2 + 1 ≤ lv) (hr : ∀ as w K, T as w K → ∃ r, as = .ref 13 :: r) : rg_CallOk l "ReadGraph" lv (287, 2, 0, T) :=
  Or.inl ⟨y_W_has, c_W_has, 2, (some .boolean), lv2, 143, 1, hG, rfl, h, by decide, rg_in rfl (List.mem_of_getElem? (i := 482) rfl), rg_in rfl (by decide +kernel), ⟨by decide, by decide, by decide +kernel⟩, Or.inr ⟨"ReadGraph", rg_inN rfl (by decide +kernel)⟩, Or.inr ⟨rfl, rfl, rg_in rfl (by decide +kernel), rg_inS rfl (by decide +kernel), fun as w K h => by obtain ⟨r, rfl⟩ := hr as w K h; exact ⟨13, 3, _, Tn_W, 7, r, rfl, rfl, rfl⟩⟩⟩
set_option maxRecDepth 20000 in
theorem cw_G_147 {l : Launch} {T : rg_T} {lv lv2 : Nat} (hG : rg_Good l y_W_edgeAt c_W_edgeAt 3 (some .int) lv2 T) (h : lv2 + 1 ≤ lv) (hr : ∀ as w K, T as w K → ∃ r, as = .ref 13 :: r) : rg_CallOk l "ReadGraph" lv (295, 3, 0, T) :=
  Or.inl ⟨y_W_edgeAt, c_W_edgeAt, 3, (some .int), lv2, 147, 2, hG, rfl, h, by decide, rg_in rfl (List.mem_of_getElem? (i := 487) rfl), rg_in rfl (by decide +kernel), ⟨by decide, by decide, by decide +kernel⟩, Or.inr ⟨"ReadGraph", rg_inN rfl (by decide +kernel)⟩, Or.inr ⟨rfl, rfl, rg_in rfl (by decide +kernel), rg_inS rfl (by decide +kernel), fun as w K h => by obtain ⟨r, rfl⟩ := hr as w K h; exact ⟨13, 3, _, Tn_W, 7, r, rfl, rfl, rfl⟩⟩⟩
set_option maxRecDepth 20000 in
theorem cw_G_150 {l : Launch} {T : rg_T} {lv lv2 : Nat} (hG : rg_Good l y_G_spelledLength c_G_spelledLength 4 (some .int) lv2 T) (h : lv2 + 1 ≤ lv) (hr : ∀ as w K, T as w K → ∃ r, as = .ref 0 :: r) : rg_CallOk l "ReadGraph" lv (301, 2, 0, T) :=
  Or.inl ⟨y_G_spelledLength, c_G_spelledLength, 4, (some .int), lv2, 150, 1, hG, rfl, h, by decide, rg_in rfl (List.mem_of_getElem? (i := 498) rfl), rg_in rfl (by decide +kernel), ⟨by decide, by decide, by decide +kernel⟩, Or.inl (rg_in rfl (by decide +kernel)), Or.inr ⟨rfl, rfl, rg_in rfl (by decide +kernel), rg_inS rfl (by decide +kernel), fun as w K h => by obtain ⟨r, rfl⟩ := hr as w K h; exact ⟨0, 0, _, Tn_G, 3, r, rfl, rfl, rfl⟩⟩⟩
set_option maxRecDepth 20000 in
theorem cw_G_154 {l : Launch} {T : rg_T} {lv lv2 : Nat} (hG : rg_Good l y_G_spelledLetter c_G_spelledLetter 8 (some .int) lv2 T) (h : lv2 + 1 ≤ lv) (hr : ∀ as w K, T as w K → ∃ r, as = .ref 0 :: r) : rg_CallOk l "ReadGraph" lv (309, 3, 0, T) :=
  Or.inl ⟨y_G_spelledLetter, c_G_spelledLetter, 8, (some .int), lv2, 154, 2, hG, rfl, h, by decide, rg_in rfl (List.mem_of_getElem? (i := 502) rfl), rg_in rfl (by decide +kernel), ⟨by decide, by decide, by decide +kernel⟩, Or.inl (rg_in rfl (by decide +kernel)), Or.inr ⟨rfl, rfl, rg_in rfl (by decide +kernel), rg_inS rfl (by decide +kernel), fun as w K h => by obtain ⟨r, rfl⟩ := hr as w K h; exact ⟨0, 0, _, Tn_G, 3, r, rfl, rfl, rfl⟩⟩⟩
set_option maxRecDepth 20000 in
theorem cw_G_157 {l : Launch} {T : rg_T} {lv lv2 : Nat} (hG : rg_Good l y_E_forget c_E_forget 2 none lv2 T) (h : lv2 + 1 ≤ lv) (hr : ∀ as w K, T as w K → ∃ r, as = .ref 4 :: r) : rg_CallOk l "ReadGraph" lv (315, 1, 0, T) :=
  Or.inl ⟨y_E_forget, c_E_forget, 2, none, lv2, 157, 0, hG, rfl, h, by decide, rg_in rfl (List.mem_of_getElem? (i := 144) rfl), rg_in rfl (by decide +kernel), ⟨by decide, by decide, by decide +kernel⟩, Or.inr ⟨"ReadGraph", rg_inN rfl (by decide +kernel)⟩, Or.inr ⟨rfl, rfl, rg_in rfl (by decide +kernel), rg_inS rfl (by decide +kernel), fun as w K h => by obtain ⟨r, rfl⟩ := hr as w K h; exact ⟨4, 2, _, Tn_E, 11, r, rfl, rfl, rfl⟩⟩⟩
set_option maxRecDepth 20000 in
theorem cw_G_160 {l : Launch} {T : rg_T} {lv lv2 : Nat} (hG : rg_Good l y_G_packedEdge c_G_packedEdge 4 (some .int) lv2 T) (h : lv2 + 1 ≤ lv) : rg_CallOk l "ReadGraph" lv (320, 3, 0, T) :=
  Or.inl ⟨y_G_packedEdge, c_G_packedEdge, 4, (some .int), lv2, 160, 3, hG, rfl, h, by decide, rg_in rfl (List.mem_of_getElem? (i := 420) rfl), rg_in rfl (by decide +kernel), ⟨by decide, by decide, by decide +kernel⟩, Or.inl (rg_in rfl (by decide +kernel)), Or.inl ⟨rfl, rfl, rg_in rfl (by decide +kernel)⟩⟩
set_option maxRecDepth 20000 in
theorem cw_G_164 {l : Launch} {T : rg_T} {lv lv2 : Nat} (hG : rg_Good l y_E_isPassedBy c_E_isPassedBy 6 (some .boolean) lv2 T) (h : lv2 + 1 ≤ lv) (hr : ∀ as w K, T as w K → ∃ r, as = .ref 4 :: r) : rg_CallOk l "ReadGraph" lv (329, 3, 0, T) :=
  Or.inl ⟨y_E_isPassedBy, c_E_isPassedBy, 6, (some .boolean), lv2, 164, 2, hG, rfl, h, by decide, rg_in rfl (List.mem_of_getElem? (i := 429) rfl), rg_in rfl (by decide +kernel), ⟨by decide, by decide, by decide +kernel⟩, Or.inr ⟨"ReadGraph", rg_inN rfl (by decide +kernel)⟩, Or.inr ⟨rfl, rfl, rg_in rfl (by decide +kernel), rg_inS rfl (by decide +kernel), fun as w K h => by obtain ⟨r, rfl⟩ := hr as w K h; exact ⟨4, 2, _, Tn_E, 11, r, rfl, rfl, rfl⟩⟩⟩
set_option maxRecDepth 20000 in
theorem cw_R_22 {l : Launch} {T : rg_T} {lv lv2 : Nat} (hG : rg_Good l y_R_lowest c_R_lowest 2 (some .int) lv2 T) (h : lv2 + 1 ≤ lv) : rg_CallOk l "ReadGraph$Reads" lv (44, 2, 0, T) :=
  Or.inl ⟨y_R_lowest, c_R_lowest, 2, (some .int), lv2, 22, 2, hG, rfl, h, by decide, rg_in rfl (List.mem_of_getElem? (i := 266) rfl), rg_in rfl (by decide +kernel), ⟨by decide, by decide, by decide +kernel⟩, Or.inl (rg_in rfl (by decide +kernel)), Or.inl ⟨rfl, rfl, rg_in rfl (by decide +kernel)⟩⟩
set_option maxRecDepth 20000 in
theorem cw_R_26 {l : Launch} {T : rg_T} {lv lv2 : Nat} (hG : rg_Good l y_R_has c_R_has 2 (some .boolean) lv2 T) (h : lv2 + 1 ≤ lv) (hr : ∀ as w K, T as w K → ∃ r, as = .ref 1 :: r) : rg_CallOk l "ReadGraph$Reads" lv (53, 2, 0, T) :=
  Or.inl ⟨y_R_has, c_R_has, 2, (some .boolean), lv2, 26, 1, hG, rfl, h, by decide, rg_in rfl (List.mem_of_getElem? (i := 278) rfl), rg_in rfl (by decide +kernel), ⟨by decide, by decide, by decide +kernel⟩, Or.inl (rg_in rfl (by decide +kernel)), Or.inr ⟨rfl, rfl, rg_in rfl (by decide +kernel), rg_inS rfl (by decide +kernel), fun as w K h => by obtain ⟨r, rfl⟩ := hr as w K h; exact ⟨1, 1, _, Tn_R, 3, r, rfl, rfl, rfl⟩⟩⟩
set_option maxRecDepth 20000 in
theorem cw_R_30 {l : Launch} {T : rg_T} {lv lv2 : Nat} (hG : rg_Good l y_R_isSaidBy c_R_isSaidBy 4 (some .boolean) lv2 T) (h : lv2 + 1 ≤ lv) (hr : ∀ as w K, T as w K → ∃ r, as = .ref 1 :: r) : rg_CallOk l "ReadGraph$Reads" lv (61, 3, 0, T) :=
  Or.inl ⟨y_R_isSaidBy, c_R_isSaidBy, 4, (some .boolean), lv2, 30, 2, hG, rfl, h, by decide, rg_in rfl (List.mem_of_getElem? (i := 315) rfl), rg_in rfl (by decide +kernel), ⟨by decide, by decide, by decide +kernel⟩, Or.inl (rg_in rfl (by decide +kernel)), Or.inr ⟨rfl, rfl, rg_in rfl (by decide +kernel), rg_inS rfl (by decide +kernel), fun as w K h => by obtain ⟨r, rfl⟩ := hr as w K h; exact ⟨1, 1, _, Tn_R, 3, r, rfl, rfl, rfl⟩⟩⟩
theorem cw_R_34 {l : Launch} {lv : Nat} (h : 1 ≤ lv) : rg_CallOk l "ReadGraph$Reads" lv (68, 2, 0, T_J_min) := Or.inr ⟨34, rfl, rfl, rfl, rfl, h, rg_in rfl (by decide +kernel), rg_in rfl (by decide +kernel), rg_in rfl (by decide +kernel), rg_in rfl (by decide +kernel)⟩
set_option maxRecDepth 20000 in
theorem cw_E_46 {l : Launch} {T : rg_T} {lv lv2 : Nat} (hG : rg_Good l y_E_findNodes c_E_findNodes 3 none lv2 T) (h : lv2 + 1 ≤ lv) (hr : ∀ as w K, T as w K → ∃ r, as = .ref 4 :: r) : rg_CallOk l "ReadGraph$Edges" lv (93, 2, 0, T) :=
  Or.inl ⟨y_E_findNodes, c_E_findNodes, 3, none, lv2, 46, 1, hG, rfl, h, by decide, rg_in rfl (List.mem_of_getElem? (i := 349) rfl), rg_in rfl (by decide +kernel), ⟨by decide, by decide, by decide +kernel⟩, Or.inl (rg_in rfl (by decide +kernel)), Or.inr ⟨rfl, rfl, rg_in rfl (by decide +kernel), rg_inS rfl (by decide +kernel), fun as w K h => by obtain ⟨r, rfl⟩ := hr as w K h; exact ⟨4, 2, _, Tn_E, 11, r, rfl, rfl, rfl⟩⟩⟩
set_option maxRecDepth 20000 in
theorem cw_E_50 {l : Launch} {T : rg_T} {lv lv2 : Nat} (hG : rg_Good l y_E_layAll c_E_layAll 6 none lv2 T) (h : lv2 + 1 ≤ lv) (hr : ∀ as w K, T as w K → ∃ r, as = .ref 4 :: r) : rg_CallOk l "ReadGraph$Edges" lv (101, 3, 0, T) :=
  Or.inl ⟨y_E_layAll, c_E_layAll, 6, none, lv2, 50, 2, hG, rfl, h, by decide, rg_in rfl (List.mem_of_getElem? (i := 354) rfl), rg_in rfl (by decide +kernel), ⟨by decide, by decide, by decide +kernel⟩, Or.inl (rg_in rfl (by decide +kernel)), Or.inr ⟨rfl, rfl, rg_in rfl (by decide +kernel), rg_inS rfl (by decide +kernel), fun as w K h => by obtain ⟨r, rfl⟩ := hr as w K h; exact ⟨4, 2, _, Tn_E, 11, r, rfl, rfl, rfl⟩⟩⟩
set_option maxRecDepth 20000 in
theorem cw_E_54 {l : Launch} {T : rg_T} {lv lv2 : Nat} (hG : rg_Good l y_E_keepUnsaid c_E_keepUnsaid 4 none lv2 T) (h : lv2 + 1 ≤ lv) (hr : ∀ as w K, T as w K → ∃ r, as = .ref 4 :: r) : rg_CallOk l "ReadGraph$Edges" lv (109, 2, 0, T) :=
  Or.inl ⟨y_E_keepUnsaid, c_E_keepUnsaid, 4, none, lv2, 54, 1, hG, rfl, h, by decide, rg_in rfl (List.mem_of_getElem? (i := 359) rfl), rg_in rfl (by decide +kernel), ⟨by decide, by decide, by decide +kernel⟩, Or.inl (rg_in rfl (by decide +kernel)), Or.inr ⟨rfl, rfl, rg_in rfl (by decide +kernel), rg_inS rfl (by decide +kernel), fun as w K h => by obtain ⟨r, rfl⟩ := hr as w K h; exact ⟨4, 2, _, Tn_E, 11, r, rfl, rfl, rfl⟩⟩⟩
set_option maxRecDepth 20000 in
theorem cw_E_58 {l : Launch} {T : rg_T} {lv lv2 : Nat} (hG : rg_Good l y_E_findReached c_E_findReached 3 none lv2 T) (h : lv2 + 1 ≤ lv) (hr : ∀ as w K, T as w K → ∃ r, as = .ref 4 :: r) : rg_CallOk l "ReadGraph$Edges" lv (117, 1, 0, T) :=
  Or.inl ⟨y_E_findReached, c_E_findReached, 3, none, lv2, 58, 0, hG, rfl, h, by decide, rg_in rfl (List.mem_of_getElem? (i := 367) rfl), rg_in rfl (by decide +kernel), ⟨by decide, by decide, by decide +kernel⟩, Or.inl (rg_in rfl (by decide +kernel)), Or.inr ⟨rfl, rfl, rg_in rfl (by decide +kernel), rg_inS rfl (by decide +kernel), fun as w K h => by obtain ⟨r, rfl⟩ := hr as w K h; exact ⟨4, 2, _, Tn_E, 11, r, rfl, rfl, rfl⟩⟩⟩
set_option maxRecDepth 20000 in
theorem cw_E_61 {l : Launch} {T : rg_T} {lv lv2 : Nat} (hG : rg_Good l y_R_isNode c_R_isNode 3 (some .boolean) lv2 T) (h : lv2 + 1 ≤ lv) (hr : ∀ as w K, T as w K → ∃ r, as = .ref 1 :: r) : rg_CallOk l "ReadGraph$Edges" lv (123, 2, 0, T) :=
  Or.inl ⟨y_R_isNode, c_R_isNode, 3, (some .boolean), lv2, 61, 1, hG, rfl, h, by decide, rg_in rfl (List.mem_of_getElem? (i := 310) rfl), rg_in rfl (by decide +kernel), ⟨by decide, by decide, by decide +kernel⟩, Or.inr ⟨"ReadGraph", rg_inN rfl (by decide +kernel)⟩, Or.inr ⟨rfl, rfl, rg_in rfl (by decide +kernel), rg_inS rfl (by decide +kernel), fun as w K h => by obtain ⟨r, rfl⟩ := hr as w K h; exact ⟨1, 1, _, Tn_R, 3, r, rfl, rfl, rfl⟩⟩⟩
set_option maxRecDepth 20000 in
theorem cw_E_67 {l : Launch} {T : rg_T} {lv lv2 : Nat} (hG : rg_Good l y_G_holds c_G_holds 2 (some .boolean) lv2 T) (h : lv2 + 1 ≤ lv) : rg_CallOk l "ReadGraph$Edges" lv (134, 2, 0, T) :=
  Or.inl ⟨y_G_holds, c_G_holds, 2, (some .boolean), lv2, 67, 2, hG, rfl, h, by decide, rg_in rfl (List.mem_of_getElem? (i := 159) rfl), rg_in rfl (by decide +kernel), ⟨by decide, by decide, by decide +kernel⟩, Or.inr ⟨"ReadGraph", rg_inN rfl (by decide +kernel)⟩, Or.inl ⟨rfl, rfl, rg_in rfl (by decide +kernel)⟩⟩
set_option maxRecDepth 20000 in
theorem cw_E_71 {l : Launch} {T : rg_T} {lv lv2 : Nat} (hG : rg_Good l y_R_lettersShared c_R_lettersShared 5 (some .int) lv2 T) (h : lv2 + 1 ≤ lv) (hr : ∀ as w K, T as w K → ∃ r, as = .ref 1 :: r) : rg_CallOk l "ReadGraph$Edges" lv (143, 4, 0, T) :=
  Or.inl ⟨y_R_lettersShared, c_R_lettersShared, 5, (some .int), lv2, 71, 3, hG, rfl, h, by decide, rg_in rfl (List.mem_of_getElem? (i := 331) rfl), rg_in rfl (by decide +kernel), ⟨by decide, by decide, by decide +kernel⟩, Or.inr ⟨"ReadGraph", rg_inN rfl (by decide +kernel)⟩, Or.inr ⟨rfl, rfl, rg_in rfl (by decide +kernel), rg_inS rfl (by decide +kernel), fun as w K h => by obtain ⟨r, rfl⟩ := hr as w K h; exact ⟨1, 1, _, Tn_R, 3, r, rfl, rfl, rfl⟩⟩⟩
set_option maxRecDepth 20000 in
theorem cw_E_78 {l : Launch} {T : rg_T} {lv lv2 : Nat} (hG : rg_Good l y_E_isSaid c_E_isSaid 7 (some .boolean) lv2 T) (h : lv2 + 1 ≤ lv) (hr : ∀ as w K, T as w K → ∃ r, as = .ref 4 :: r) : rg_CallOk l "ReadGraph$Edges" lv (157, 4, 0, T) :=
  Or.inl ⟨y_E_isSaid, c_E_isSaid, 7, (some .boolean), lv2, 78, 3, hG, rfl, h, by decide, rg_in rfl (List.mem_of_getElem? (i := 363) rfl), rg_in rfl (by decide +kernel), ⟨by decide, by decide, by decide +kernel⟩, Or.inl (rg_in rfl (by decide +kernel)), Or.inr ⟨rfl, rfl, rg_in rfl (by decide +kernel), rg_inS rfl (by decide +kernel), fun as w K h => by obtain ⟨r, rfl⟩ := hr as w K h; exact ⟨4, 2, _, Tn_E, 11, r, rfl, rfl, rfl⟩⟩⟩
set_option maxRecDepth 20000 in
theorem cw_E_82 {l : Launch} {T : rg_T} {lv lv2 : Nat} (hG : rg_Good l y_J_bitCount c_J_bitCount 1 (some .int) lv2 T) (h : lv2 + 1 ≤ lv) : rg_CallOk l "ReadGraph$Edges" lv (164, 1, 0, T) :=
  Or.inl ⟨y_J_bitCount, c_J_bitCount, 1, (some .int), lv2, 82, 1, hG, rfl, h, by decide, rg_in rfl (List.mem_of_getElem? (i := 162) rfl), rg_in rfl (by decide +kernel), ⟨by decide, by decide, by decide +kernel⟩, Or.inl (rg_in rfl (by decide +kernel)), Or.inl ⟨rfl, rfl, rg_in rfl (by decide +kernel)⟩⟩
set_option maxRecDepth 20000 in
theorem cw_W_39 {l : Launch} {T : rg_T} {lv lv2 : Nat} (hG : rg_Good l y_W_stepOn c_W_stepOn 2 none lv2 T) (h : lv2 + 1 ≤ lv) (hr : ∀ as w K, T as w K → ∃ r, as = .ref 13 :: r) : rg_CallOk l "ReadGraph$Walks" lv (79, 2, 0, T) :=
  Or.inl ⟨y_W_stepOn, c_W_stepOn, 2, none, lv2, 39, 1, hG, rfl, h, by decide, rg_in rfl (List.mem_of_getElem? (i := 445) rfl), rg_in rfl (by decide +kernel), ⟨by decide, by decide, by decide +kernel⟩, Or.inl (rg_in rfl (by decide +kernel)), Or.inr ⟨rfl, rfl, rg_in rfl (by decide +kernel), rg_inS rfl (by decide +kernel), fun as w K h => by obtain ⟨r, rfl⟩ := hr as w K h; exact ⟨13, 3, _, Tn_W, 7, r, rfl, rfl, rfl⟩⟩⟩
set_option maxRecDepth 20000 in
theorem cw_W_43 {l : Launch} {T : rg_T} {lv lv2 : Nat} (hG : rg_Good l y_W_findFrom c_W_findFrom 5 (some .int) lv2 T) (h : lv2 + 1 ≤ lv) (hr : ∀ as w K, T as w K → ∃ r, as = .ref 13 :: r) : rg_CallOk l "ReadGraph$Walks" lv (87, 2, 0, T) :=
  Or.inl ⟨y_W_findFrom, c_W_findFrom, 5, (some .int), lv2, 43, 1, hG, rfl, h, by decide, rg_in rfl (List.mem_of_getElem? (i := 449) rfl), rg_in rfl (by decide +kernel), ⟨by decide, by decide, by decide +kernel⟩, Or.inl (rg_in rfl (by decide +kernel)), Or.inr ⟨rfl, rfl, rg_in rfl (by decide +kernel), rg_inS rfl (by decide +kernel), fun as w K h => by obtain ⟨r, rfl⟩ := hr as w K h; exact ⟨13, 3, _, Tn_W, 7, r, rfl, rfl, rfl⟩⟩⟩
set_option maxRecDepth 20000 in
theorem cw_W_47 {l : Launch} {T : rg_T} {lv lv2 : Nat} (hG : rg_Good l y_W_nextBehind c_W_nextBehind 3 (some .int) lv2 T) (h : lv2 + 1 ≤ lv) (hr : ∀ as w K, T as w K → ∃ r, as = .ref 13 :: r) : rg_CallOk l "ReadGraph$Walks" lv (95, 1, 0, T) :=
  Or.inl ⟨y_W_nextBehind, c_W_nextBehind, 3, (some .int), lv2, 47, 0, hG, rfl, h, by decide, rg_in rfl (List.mem_of_getElem? (i := 453) rfl), rg_in rfl (by decide +kernel), ⟨by decide, by decide, by decide +kernel⟩, Or.inl (rg_in rfl (by decide +kernel)), Or.inr ⟨rfl, rfl, rg_in rfl (by decide +kernel), rg_inS rfl (by decide +kernel), fun as w K h => by obtain ⟨r, rfl⟩ := hr as w K h; exact ⟨13, 3, _, Tn_W, 7, r, rfl, rfl, rfl⟩⟩⟩
set_option maxRecDepth 20000 in
theorem cw_W_51 {l : Launch} {T : rg_T} {lv lv2 : Nat} (hG : rg_Good l y_W_hasBefore c_W_hasBefore 2 (some .boolean) lv2 T) (h : lv2 + 1 ≤ lv) (hr : ∀ as w K, T as w K → ∃ r, as = .ref 13 :: r) : rg_CallOk l "ReadGraph$Walks" lv (103, 1, 0, T) :=
  Or.inl ⟨y_W_hasBefore, c_W_hasBefore, 2, (some .boolean), lv2, 51, 0, hG, rfl, h, by decide, rg_in rfl (List.mem_of_getElem? (i := 462) rfl), rg_in rfl (by decide +kernel), ⟨by decide, by decide, by decide +kernel⟩, Or.inl (rg_in rfl (by decide +kernel)), Or.inr ⟨rfl, rfl, rg_in rfl (by decide +kernel), rg_inS rfl (by decide +kernel), fun as w K h => by obtain ⟨r, rfl⟩ := hr as w K h; exact ⟨13, 3, _, Tn_W, 7, r, rfl, rfl, rfl⟩⟩⟩
set_option maxRecDepth 20000 in
theorem cw_W_55 {l : Launch} {T : rg_T} {lv lv2 : Nat} (hG : rg_Good l y_W_keepTrail c_W_keepTrail 2 (some .boolean) lv2 T) (h : lv2 + 1 ≤ lv) (hr : ∀ as w K, T as w K → ∃ r, as = .ref 13 :: r) : rg_CallOk l "ReadGraph$Walks" lv (111, 1, 0, T) :=
  Or.inl ⟨y_W_keepTrail, c_W_keepTrail, 2, (some .boolean), lv2, 55, 0, hG, rfl, h, by decide, rg_in rfl (List.mem_of_getElem? (i := 470) rfl), rg_in rfl (by decide +kernel), ⟨by decide, by decide, by decide +kernel⟩, Or.inl (rg_in rfl (by decide +kernel)), Or.inr ⟨rfl, rfl, rg_in rfl (by decide +kernel), rg_inS rfl (by decide +kernel), fun as w K h => by obtain ⟨r, rfl⟩ := hr as w K h; exact ⟨13, 3, _, Tn_W, 7, r, rfl, rfl, rfl⟩⟩⟩
set_option maxRecDepth 20000 in
theorem cw_W_64 {l : Launch} {T : rg_T} {lv lv2 : Nat} (hG : rg_Good l y_W_staysSafeBehind c_W_staysSafeBehind 3 (some .boolean) lv2 T) (h : lv2 + 1 ≤ lv) (hr : ∀ as w K, T as w K → ∃ r, as = .ref 13 :: r) : rg_CallOk l "ReadGraph$Walks" lv (129, 2, 0, T) :=
  Or.inl ⟨y_W_staysSafeBehind, c_W_staysSafeBehind, 3, (some .boolean), lv2, 64, 1, hG, rfl, h, by decide, rg_in rfl (List.mem_of_getElem? (i := 457) rfl), rg_in rfl (by decide +kernel), ⟨by decide, by decide, by decide +kernel⟩, Or.inl (rg_in rfl (by decide +kernel)), Or.inr ⟨rfl, rfl, rg_in rfl (by decide +kernel), rg_inS rfl (by decide +kernel), fun as w K h => by obtain ⟨r, rfl⟩ := hr as w K h; exact ⟨13, 3, _, Tn_W, 7, r, rfl, rfl, rfl⟩⟩⟩
set_option maxRecDepth 20000 in
theorem cw_W_68 {l : Launch} {T : rg_T} {lv lv2 : Nat} (hG : rg_Good l y_E_isPassedBy c_E_isPassedBy 6 (some .boolean) lv2 T) (h : lv2 + 1 ≤ lv) (hr : ∀ as w K, T as w K → ∃ r, as = .ref 4 :: r) : rg_CallOk l "ReadGraph$Walks" lv (137, 3, 0, T) :=
  Or.inl ⟨y_E_isPassedBy, c_E_isPassedBy, 6, (some .boolean), lv2, 68, 2, hG, rfl, h, by decide, rg_in rfl (List.mem_of_getElem? (i := 429) rfl), rg_in rfl (by decide +kernel), ⟨by decide, by decide, by decide +kernel⟩, Or.inr ⟨"ReadGraph", rg_inN rfl (by decide +kernel)⟩, Or.inr ⟨rfl, rfl, rg_in rfl (by decide +kernel), rg_inS rfl (by decide +kernel), fun as w K h => by obtain ⟨r, rfl⟩ := hr as w K h; exact ⟨4, 2, _, Tn_E, 11, r, rfl, rfl, rfl⟩⟩⟩
set_option maxRecDepth 20000 in
theorem cw_W_75 {l : Launch} {T : rg_T} {lv lv2 : Nat} (hG : rg_Good l y_W_staysSafeBefore c_W_staysSafeBefore 3 (some .boolean) lv2 T) (h : lv2 + 1 ≤ lv) (hr : ∀ as w K, T as w K → ∃ r, as = .ref 13 :: r) : rg_CallOk l "ReadGraph$Walks" lv (151, 2, 0, T) :=
  Or.inl ⟨y_W_staysSafeBefore, c_W_staysSafeBefore, 3, (some .boolean), lv2, 75, 1, hG, rfl, h, by decide, rg_in rfl (List.mem_of_getElem? (i := 466) rfl), rg_in rfl (by decide +kernel), ⟨by decide, by decide, by decide +kernel⟩, Or.inl (rg_in rfl (by decide +kernel)), Or.inr ⟨rfl, rfl, rg_in rfl (by decide +kernel), rg_inS rfl (by decide +kernel), fun as w K h => by obtain ⟨r, rfl⟩ := hr as w K h; exact ⟨13, 3, _, Tn_W, 7, r, rfl, rfl, rfl⟩⟩⟩
set_option maxRecDepth 20000 in
theorem cw_M_69 {l : Launch} {T : rg_T} {lv lv2 : Nat} (hG : rg_Good l y_M_same c_M_same 8 (some .boolean) lv2 T) (h : lv2 + 1 ≤ lv) (hr : ∀ as w K, T as w K → ∃ r, as = .ref 18 :: r) : rg_CallOk l "ReadGraphModel" lv (139, 6, 0, T) :=
  Or.inl ⟨y_M_same, c_M_same, 8, (some .boolean), lv2, 69, 5, hG, rfl, h, by decide, rg_in rfl (List.mem_of_getElem? (i := 597) rfl), rg_in rfl (by decide +kernel), ⟨by decide, by decide, by decide +kernel⟩, Or.inl (rg_in rfl (by decide +kernel)), Or.inr ⟨rfl, rfl, rg_in rfl (by decide +kernel), rg_inS rfl (by decide +kernel), fun as w K h => by obtain ⟨r, rfl⟩ := hr as w K h; exact ⟨18, 4, _, Tn_M, 20, r, rfl, rfl, rfl⟩⟩⟩
set_option maxRecDepth 20000 in
theorem cw_M_73 {l : Launch} {T : rg_T} {lv lv2 : Nat} (hG : rg_Good l y_M_out c_M_out 2 (some .boolean) lv2 T) (h : lv2 + 1 ≤ lv) : rg_CallOk l "ReadGraphModel" lv (146, 2, 0, T) :=
  Or.inl ⟨y_M_out, c_M_out, 2, (some .boolean), lv2, 73, 2, hG, rfl, h, by decide, rg_in rfl (List.mem_of_getElem? (i := 581) rfl), rg_in rfl (by decide +kernel), ⟨by decide, by decide, by decide +kernel⟩, Or.inl (rg_in rfl (by decide +kernel)), Or.inl ⟨rfl, rfl, rg_in rfl (by decide +kernel)⟩⟩
set_option maxRecDepth 20000 in
theorem cw_M_80 {l : Launch} {T : rg_T} {lv lv2 : Nat} (hG : rg_Good l y_M_throwing c_M_throwing 3 (some .boolean) lv2 T) (h : lv2 + 1 ≤ lv) (hr : ∀ as w K, T as w K → ∃ r, as = .ref 18 :: r) : rg_CallOk l "ReadGraphModel" lv (161, 3, 0, T) :=
  Or.inl ⟨y_M_throwing, c_M_throwing, 3, (some .boolean), lv2, 80, 2, hG, rfl, h, by decide, rg_in rfl (List.mem_of_getElem? (i := 585) rfl), rg_in rfl (by decide +kernel), ⟨by decide, by decide, by decide +kernel⟩, Or.inl (rg_in rfl (by decide +kernel)), Or.inr ⟨rfl, rfl, rg_in rfl (by decide +kernel), rg_inS rfl (by decide +kernel), fun as w K h => by obtain ⟨r, rfl⟩ := hr as w K h; exact ⟨18, 4, _, Tn_M, 20, r, rfl, rfl, rfl⟩⟩⟩
set_option maxRecDepth 20000 in
theorem cw_M_84 {l : Launch} {T : rg_T} {lv lv2 : Nat} (hG : rg_Good l y_M_again c_M_again 2 none lv2 T) (h : lv2 + 1 ≤ lv) (hr : ∀ as w K, T as w K → ∃ r, as = .ref 18 :: r) : rg_CallOk l "ReadGraphModel" lv (169, 1, 0, T) :=
  Or.inl ⟨y_M_again, c_M_again, 2, none, lv2, 84, 0, hG, rfl, h, by decide, rg_in rfl (List.mem_of_getElem? (i := 589) rfl), rg_in rfl (by decide +kernel), ⟨by decide, by decide, by decide +kernel⟩, Or.inl (rg_in rfl (by decide +kernel)), Or.inr ⟨rfl, rfl, rg_in rfl (by decide +kernel), rg_inS rfl (by decide +kernel), fun as w K h => by obtain ⟨r, rfl⟩ := hr as w K h; exact ⟨18, 4, _, Tn_M, 20, r, rfl, rfl, rfl⟩⟩⟩
set_option maxRecDepth 20000 in
theorem cw_M_87 {l : Launch} {T : rg_T} {lv lv2 : Nat} (hG : rg_Good l y_M_isIn c_M_isIn 5 (some .boolean) lv2 T) (h : lv2 + 1 ≤ lv) (hr : ∀ as w K, T as w K → ∃ r, as = .ref 18 :: r) : rg_CallOk l "ReadGraphModel" lv (175, 3, 0, T) :=
  Or.inl ⟨y_M_isIn, c_M_isIn, 5, (some .boolean), lv2, 87, 2, hG, rfl, h, by decide, rg_in rfl (List.mem_of_getElem? (i := 593) rfl), rg_in rfl (by decide +kernel), ⟨by decide, by decide, by decide +kernel⟩, Or.inl (rg_in rfl (by decide +kernel)), Or.inr ⟨rfl, rfl, rg_in rfl (by decide +kernel), rg_inS rfl (by decide +kernel), fun as w K h => by obtain ⟨r, rfl⟩ := hr as w K h; exact ⟨18, 4, _, Tn_M, 20, r, rfl, rfl, rfl⟩⟩⟩
set_option maxRecDepth 20000 in
theorem cw_M_90 {l : Launch} {T : rg_T} {lv lv2 : Nat} (hG : rg_Good l y_M_isNode c_M_isNode 2 (some .boolean) lv2 T) (h : lv2 + 1 ≤ lv) (hr : ∀ as w K, T as w K → ∃ r, as = .ref 18 :: r) : rg_CallOk l "ReadGraphModel" lv (181, 2, 0, T) :=
  Or.inl ⟨y_M_isNode, c_M_isNode, 2, (some .boolean), lv2, 90, 1, hG, rfl, h, by decide, rg_in rfl (List.mem_of_getElem? (i := 617) rfl), rg_in rfl (by decide +kernel), ⟨by decide, by decide, by decide +kernel⟩, Or.inl (rg_in rfl (by decide +kernel)), Or.inr ⟨rfl, rfl, rg_in rfl (by decide +kernel), rg_inS rfl (by decide +kernel), fun as w K h => by obtain ⟨r, rfl⟩ := hr as w K h; exact ⟨18, 4, _, Tn_M, 20, r, rfl, rfl, rfl⟩⟩⟩
set_option maxRecDepth 20000 in
theorem cw_M_94 {l : Launch} {T : rg_T} {lv lv2 : Nat} (hG : rg_Good l y_M_overlapOf c_M_overlapOf 6 (some .int) lv2 T) (h : lv2 + 1 ≤ lv) (hr : ∀ as w K, T as w K → ∃ r, as = .ref 18 :: r) : rg_CallOk l "ReadGraphModel" lv (189, 4, 0, T) :=
  Or.inl ⟨y_M_overlapOf, c_M_overlapOf, 6, (some .int), lv2, 94, 3, hG, rfl, h, by decide, rg_in rfl (List.mem_of_getElem? (i := 621) rfl), rg_in rfl (by decide +kernel), ⟨by decide, by decide, by decide +kernel⟩, Or.inl (rg_in rfl (by decide +kernel)), Or.inr ⟨rfl, rfl, rg_in rfl (by decide +kernel), rg_inS rfl (by decide +kernel), fun as w K h => by obtain ⟨r, rfl⟩ := hr as w K h; exact ⟨18, 4, _, Tn_M, 20, r, rfl, rfl, rfl⟩⟩⟩
set_option maxRecDepth 20000 in
theorem cw_M_98 {l : Launch} {T : rg_T} {lv lv2 : Nat} (hG : rg_Good l y_M_between c_M_between 4 (some .int) lv2 T) (h : lv2 + 1 ≤ lv) (hr : ∀ as w K, T as w K → ∃ r, as = .ref 18 :: r) : rg_CallOk l "ReadGraphModel" lv (197, 3, 0, T) :=
  Or.inl ⟨y_M_between, c_M_between, 4, (some .int), lv2, 98, 2, hG, rfl, h, by decide, rg_in rfl (List.mem_of_getElem? (i := 633) rfl), rg_in rfl (by decide +kernel), ⟨by decide, by decide, by decide +kernel⟩, Or.inl (rg_in rfl (by decide +kernel)), Or.inr ⟨rfl, rfl, rg_in rfl (by decide +kernel), rg_inS rfl (by decide +kernel), fun as w K h => by obtain ⟨r, rfl⟩ := hr as w K h; exact ⟨18, 4, _, Tn_M, 20, r, rfl, rfl, rfl⟩⟩⟩
set_option maxRecDepth 20000 in
theorem cw_M_102 {l : Launch} {T : rg_T} {lv lv2 : Nat} (hG : rg_Good l y_M_isSaid c_M_isSaid 9 (some .boolean) lv2 T) (h : lv2 + 1 ≤ lv) (hr : ∀ as w K, T as w K → ∃ r, as = .ref 18 :: r) : rg_CallOk l "ReadGraphModel" lv (205, 2, 0, T) :=
  Or.inl ⟨y_M_isSaid, c_M_isSaid, 9, (some .boolean), lv2, 102, 1, hG, rfl, h, by decide, rg_in rfl (List.mem_of_getElem? (i := 629) rfl), rg_in rfl (by decide +kernel), ⟨by decide, by decide, by decide +kernel⟩, Or.inl (rg_in rfl (by decide +kernel)), Or.inr ⟨rfl, rfl, rg_in rfl (by decide +kernel), rg_inS rfl (by decide +kernel), fun as w K h => by obtain ⟨r, rfl⟩ := hr as w K h; exact ⟨18, 4, _, Tn_M, 20, r, rfl, rfl, rfl⟩⟩⟩
set_option maxRecDepth 20000 in
theorem cw_M_105 {l : Launch} {T : rg_T} {lv lv2 : Nat} (hG : rg_Good l y_M_spread c_M_spread 4 none lv2 T) (h : lv2 + 1 ≤ lv) (hr : ∀ as w K, T as w K → ∃ r, as = .ref 18 :: r) : rg_CallOk l "ReadGraphModel" lv (211, 1, 0, T) :=
  Or.inl ⟨y_M_spread, c_M_spread, 4, none, lv2, 105, 0, hG, rfl, h, by decide, rg_in rfl (List.mem_of_getElem? (i := 637) rfl), rg_in rfl (by decide +kernel), ⟨by decide, by decide, by decide +kernel⟩, Or.inl (rg_in rfl (by decide +kernel)), Or.inr ⟨rfl, rfl, rg_in rfl (by decide +kernel), rg_inS rfl (by decide +kernel), fun as w K h => by obtain ⟨r, rfl⟩ := hr as w K h; exact ⟨18, 4, _, Tn_M, 20, r, rfl, rfl, rfl⟩⟩⟩
set_option maxRecDepth 20000 in
theorem cw_M_108 {l : Launch} {T : rg_T} {lv lv2 : Nat} (hG : rg_Good l y_M_escapes c_M_escapes 7 (some .boolean) lv2 T) (h : lv2 + 1 ≤ lv) (hr : ∀ as w K, T as w K → ∃ r, as = .ref 18 :: r) : rg_CallOk l "ReadGraphModel" lv (217, 3, 0, T) :=
  Or.inl ⟨y_M_escapes, c_M_escapes, 7, (some .boolean), lv2, 108, 2, hG, rfl, h, by decide, rg_in rfl (List.mem_of_getElem? (i := 666) rfl), rg_in rfl (by decide +kernel), ⟨by decide, by decide, by decide +kernel⟩, Or.inl (rg_in rfl (by decide +kernel)), Or.inr ⟨rfl, rfl, rg_in rfl (by decide +kernel), rg_inS rfl (by decide +kernel), fun as w K h => by obtain ⟨r, rfl⟩ := hr as w K h; exact ⟨18, 4, _, Tn_M, 20, r, rfl, rfl, rfl⟩⟩⟩
set_option maxRecDepth 20000 in
theorem cw_M_113 {l : Launch} {T : rg_T} {lv lv2 : Nat} (hG : rg_Good l y_M_isSafe c_M_isSafe 5 (some .boolean) lv2 T) (h : lv2 + 1 ≤ lv) (hr : ∀ as w K, T as w K → ∃ r, as = .ref 18 :: r) : rg_CallOk l "ReadGraphModel" lv (227, 3, 0, T) :=
  Or.inl ⟨y_M_isSafe, c_M_isSafe, 5, (some .boolean), lv2, 113, 2, hG, rfl, h, by decide, rg_in rfl (List.mem_of_getElem? (i := 662) rfl), rg_in rfl (by decide +kernel), ⟨by decide, by decide, by decide +kernel⟩, Or.inl (rg_in rfl (by decide +kernel)), Or.inr ⟨rfl, rfl, rg_in rfl (by decide +kernel), rg_inS rfl (by decide +kernel), fun as w K h => by obtain ⟨r, rfl⟩ := hr as w K h; exact ⟨18, 4, _, Tn_M, 20, r, rfl, rfl, rfl⟩⟩⟩
set_option maxRecDepth 20000 in
theorem cw_M_116 {l : Launch} {T : rg_T} {lv lv2 : Nat} (hG : rg_Good l y_M_hasEnd c_M_hasEnd 3 (some .boolean) lv2 T) (h : lv2 + 1 ≤ lv) (hr : ∀ as w K, T as w K → ∃ r, as = .ref 18 :: r) : rg_CallOk l "ReadGraphModel" lv (233, 2, 0, T) :=
  Or.inl ⟨y_M_hasEnd, c_M_hasEnd, 3, (some .boolean), lv2, 116, 1, hG, rfl, h, by decide, rg_in rfl (List.mem_of_getElem? (i := 683) rfl), rg_in rfl (by decide +kernel), ⟨by decide, by decide, by decide +kernel⟩, Or.inl (rg_in rfl (by decide +kernel)), Or.inr ⟨rfl, rfl, rg_in rfl (by decide +kernel), rg_inS rfl (by decide +kernel), fun as w K h => by obtain ⟨r, rfl⟩ := hr as w K h; exact ⟨18, 4, _, Tn_M, 20, r, rfl, rfl, rfl⟩⟩⟩
set_option maxRecDepth 20000 in
theorem cw_M_119 {l : Launch} {T : rg_T} {lv lv2 : Nat} (hG : rg_Good l y_M_hasBeginning c_M_hasBeginning 3 (some .boolean) lv2 T) (h : lv2 + 1 ≤ lv) (hr : ∀ as w K, T as w K → ∃ r, as = .ref 18 :: r) : rg_CallOk l "ReadGraphModel" lv (239, 2, 0, T) :=
  Or.inl ⟨y_M_hasBeginning, c_M_hasBeginning, 3, (some .boolean), lv2, 119, 1, hG, rfl, h, by decide, rg_in rfl (List.mem_of_getElem? (i := 687) rfl), rg_in rfl (by decide +kernel), ⟨by decide, by decide, by decide +kernel⟩, Or.inl (rg_in rfl (by decide +kernel)), Or.inr ⟨rfl, rfl, rg_in rfl (by decide +kernel), rg_inS rfl (by decide +kernel), fun as w K h => by obtain ⟨r, rfl⟩ := hr as w K h; exact ⟨18, 4, _, Tn_M, 20, r, rfl, rfl, rfl⟩⟩⟩
set_option maxRecDepth 20000 in
theorem cw_M_122 {l : Launch} {T : rg_T} {lv lv2 : Nat} (hG : rg_Good l y_M_keep c_M_keep 3 (some .boolean) lv2 T) (h : lv2 + 1 ≤ lv) (hr : ∀ as w K, T as w K → ∃ r, as = .ref 18 :: r) : rg_CallOk l "ReadGraphModel" lv (245, 2, 0, T) :=
  Or.inl ⟨y_M_keep, c_M_keep, 3, (some .boolean), lv2, 122, 1, hG, rfl, h, by decide, rg_in rfl (List.mem_of_getElem? (i := 679) rfl), rg_in rfl (by decide +kernel), ⟨by decide, by decide, by decide +kernel⟩, Or.inl (rg_in rfl (by decide +kernel)), Or.inr ⟨rfl, rfl, rg_in rfl (by decide +kernel), rg_inS rfl (by decide +kernel), fun as w K h => by obtain ⟨r, rfl⟩ := hr as w K h; exact ⟨18, 4, _, Tn_M, 20, r, rfl, rfl, rfl⟩⟩⟩
set_option maxRecDepth 20000 in
theorem cw_M_125 {l : Launch} {T : rg_T} {lv lv2 : Nat} (hG : rg_Good l y_M_kind c_M_kind 5 (some .int) lv2 T) (h : lv2 + 1 ≤ lv) (hr : ∀ as w K, T as w K → ∃ r, as = .ref 18 :: r) : rg_CallOk l "ReadGraphModel" lv (251, 1, 0, T) :=
  Or.inl ⟨y_M_kind, c_M_kind, 5, (some .int), lv2, 125, 0, hG, rfl, h, by decide, rg_in rfl (List.mem_of_getElem? (i := 653) rfl), rg_in rfl (by decide +kernel), ⟨by decide, by decide, by decide +kernel⟩, Or.inl (rg_in rfl (by decide +kernel)), Or.inr ⟨rfl, rfl, rg_in rfl (by decide +kernel), rg_in rfl (by decide +kernel), fun as w K h => by obtain ⟨r, rfl⟩ := hr as w K h; exact ⟨18, 4, _, Tn_M, 20, r, rfl, rfl, rfl⟩⟩⟩
set_option maxRecDepth 20000 in
theorem cw_M_129 {l : Launch} {T : rg_T} {lv lv2 : Nat} (hG : rg_Good l y_M_find c_M_find 3 (some .boolean) lv2 T) (h : lv2 + 1 ≤ lv) (hr : ∀ as w K, T as w K → ∃ r, as = .ref 18 :: r) : rg_CallOk l "ReadGraphModel" lv (259, 1, 0, T) :=
  Or.inl ⟨y_M_find, c_M_find, 3, (some .boolean), lv2, 129, 0, hG, rfl, h, by decide, rg_in rfl (List.mem_of_getElem? (i := 675) rfl), rg_in rfl (by decide +kernel), ⟨by decide, by decide, by decide +kernel⟩, Or.inl (rg_in rfl (by decide +kernel)), Or.inr ⟨rfl, rfl, rg_in rfl (by decide +kernel), rg_inS rfl (by decide +kernel), fun as w K h => by obtain ⟨r, rfl⟩ := hr as w K h; exact ⟨18, 4, _, Tn_M, 20, r, rfl, rfl, rfl⟩⟩⟩
set_option maxRecDepth 20000 in
theorem cw_M_133 {l : Launch} {T : rg_T} {lv lv2 : Nat} (hG : rg_Good l y_M_spell c_M_spell 8 (some .int) lv2 T) (h : lv2 + 1 ≤ lv) (hr : ∀ as w K, T as w K → ∃ r, as = .ref 18 :: r) : rg_CallOk l "ReadGraphModel" lv (267, 3, 0, T) :=
  Or.inl ⟨y_M_spell, c_M_spell, 8, (some .int), lv2, 133, 2, hG, rfl, h, by decide, rg_in rfl (List.mem_of_getElem? (i := 699) rfl), rg_in rfl (by decide +kernel), ⟨by decide, by decide, by decide +kernel⟩, Or.inl (rg_in rfl (by decide +kernel)), Or.inr ⟨rfl, rfl, rg_in rfl (by decide +kernel), rg_inS rfl (by decide +kernel), fun as w K h => by obtain ⟨r, rfl⟩ := hr as w K h; exact ⟨18, 4, _, Tn_M, 20, r, rfl, rfl, rfl⟩⟩⟩
theorem rg_kb_8 : (Int8.ofInt 8).toInt32 = (nI 8) := by decide +kernel
theorem rg_kb_9 : (Int8.ofInt 9).toInt32 = (nI 9) := by decide +kernel
theorem rg_kb_10 : (Int8.ofInt 10).toInt32 = (nI 10) := by decide +kernel
theorem rg_kb_12 : (Int8.ofInt 12).toInt32 = (nI 12) := by decide +kernel
theorem rg_kb_15 : (Int8.ofInt 15).toInt32 = (nI 15) := by decide +kernel
theorem rg_kb_16 : (Int8.ofInt 16).toInt32 = (nI 16) := by decide +kernel
theorem rg_kb_32 : (Int8.ofInt 32).toInt32 = (nI 32) := by decide +kernel
theorem rg_kb_40 : (Int8.ofInt 40).toInt32 = (nI 40) := by decide +kernel
theorem rg_kb_44 : (Int8.ofInt 44).toInt32 = (nI 44) := by decide +kernel
theorem rg_kb_50 : (Int8.ofInt 50).toInt32 = (nI 50) := by decide +kernel
theorem rg_kb_63 : (Int8.ofInt 63).toInt32 = (nI 63) := by decide +kernel
theorem rg_kb_72 : (Int8.ofInt 72).toInt32 = (nI 72) := by decide +kernel
theorem rg_kb_81 : (Int8.ofInt 81).toInt32 = (nI 81) := by decide +kernel
theorem rg_kb_108 : (Int8.ofInt 108).toInt32 = (nI 108) := by decide +kernel
theorem rg_ki_m1 : Int32.ofInt (-1) = (-1) := by decide +kernel
theorem rg_ki_0 : Int32.ofInt 0 = (nI 0) := by decide +kernel
theorem rg_ki_1 : Int32.ofInt 1 = (nI 1) := by decide +kernel
theorem rg_ki_2 : Int32.ofInt 2 = (nI 2) := by decide +kernel
theorem rg_ki_3 : Int32.ofInt 3 = (nI 3) := by decide +kernel
theorem rg_ki_4 : Int32.ofInt 4 = (nI 4) := by decide +kernel
theorem rg_ks_255 : (Int16.ofInt 255).toInt32 = (nI 255) := by decide +kernel
theorem rg_ks_2000 : (Int16.ofInt 2000).toInt32 = (nI 2000) := by decide +kernel
theorem rg_ks_6561 : (Int16.ofInt 6561).toInt32 = (nI 6561) := by decide +kernel
