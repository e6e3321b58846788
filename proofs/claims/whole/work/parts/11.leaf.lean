/-! booleans as ints; leaf methods -/
def zI (b : Bool) : Int32 := if b then nI 1 else nI 0
theorem zI_t : zI true = nI 1 := rfl
theorem zI_f : zI false = nI 0 := rfl
theorem zI_eq (b : Bool) : (zI b = 0) = (b = false) := by cases b <;> decide +kernel
theorem rg_fit_b (b : Bool) : rg_fit (some .boolean) (some (.int (zI b))) := by
  refine rg_fit_z ?_
  cases b
  · left; decide +kernel
  · right; decide +kernel
theorem rg_fit_1 : rg_fit (some .boolean) (some (.int (nI 1))) := rg_fit_b true
theorem rg_fit_0 : rg_fit (some .boolean) (some (.int (nI 0))) := rg_fit_b false
theorem rg_rt_e (ret : Option FieldType) (K : Option Value → rg_W → Prop) (r : Option Value) (w : rg_W) (b : Nat) : rg_rt ret K r w b = (rg_fit ret r ∧ K r w) := rfl
theorem rg_fit_ie (v : Int32) : rg_fit (some .int) (some (.int v)) = True := propext ⟨fun _ => trivial, fun _ => rg_fit_i v⟩
theorem rg_fit_ve : rg_fit none none = True := propext ⟨fun _ => trivial, fun _ => rfl⟩
theorem rg_fit_1e : rg_fit (some .boolean) (some (.int (nI 1))) = True := propext ⟨fun _ => trivial, fun _ => rg_fit_1⟩
theorem rg_fit_0e : rg_fit (some .boolean) (some (.int (nI 0))) = True := propext ⟨fun _ => trivial, fun _ => rg_fit_0⟩
theorem rg_fit_be (b : Bool) : rg_fit (some .boolean) (some (.int (zI b))) = True := propext ⟨fun _ => trivial, fun _ => rg_fit_b b⟩
theorem rg_pok {l : Launch} {own : String} {lv : Nat} {F : List (Nat × Nat × Nat)} {C : List (Nat × Nat × Nat × rg_T)} (hF : ∀ q ∈ F, rg_FOk own q) (hC : ∀ q ∈ C, rg_CallOk l own lv q) : rg_POk l own lv (F, C, [], [], [], [], 0) :=
  ⟨hF, hC, fun _ h => absurd h List.not_mem_nil, fun _ h => absurd h List.not_mem_nil, rfl⟩
theorem rg_nil {l : Launch} {own : String} {lv : Nat} : ∀ q ∈ ([] : List (Nat × Nat × Nat × rg_T)), rg_CallOk l own lv q := fun _ h => absurd h List.not_mem_nil
theorem rg_cons {l : Launch} {own : String} {lv : Nat} {q0 : Nat × Nat × Nat × rg_T} {C : List (Nat × Nat × Nat × rg_T)} (h : rg_CallOk l own lv q0) (t : ∀ q ∈ C, rg_CallOk l own lv q) : ∀ q ∈ q0 :: C, rg_CallOk l own lv q := List.forall_mem_cons.mpr ⟨h, t⟩
theorem rg_lp1 {A : Type} (Zh : A → Prop) (I : A → Prop) (μ : A → Nat) (step : ∀ a, I a → (∀ a', I a' → μ a' < μ a → Zh a') → Zh a) : ∀ a, I a → Zh a := by
  have key : ∀ (n : Nat) (a : A), μ a < n → I a → Zh a := by
    intro n
    induction n with
    | zero => intro a h; omega
    | succ n ih => intro a h hI; exact step a hI (fun a' h1 h2 => ih a' (by omega) h1)
  exact fun a h => key (μ a + 1) a (by omega) h
theorem rg_lp2 {A B : Type} (Zh : A → B → Prop) (I : A → B → Prop) (μ : A → B → Nat) (step : ∀ a b, I a b → (∀ a' b', I a' b' → μ a' b' < μ a b → Zh a' b') → Zh a b) : ∀ a b, I a b → Zh a b := by
  have key : ∀ (n : Nat) (a : A) (b : B), μ a b < n → I a b → Zh a b := by
    intro n
    induction n with
    | zero => intro a b h; omega
    | succ n ih => intro a b h hI; exact step a b hI (fun a' b' h1 h2 => ih a' b' (by omega) h1)
  exact fun a b h => key (μ a b + 1) a b (by omega) h
theorem rg_lp3 {A B C : Type} (Zh : A → B → C → Prop) (I : A → B → C → Prop) (μ : A → B → C → Nat) (step : ∀ a b c, I a b c → (∀ a' b' c', I a' b' c' → μ a' b' c' < μ a b c → Zh a' b' c') → Zh a b c) : ∀ a b c, I a b c → Zh a b c := by
  have key : ∀ (n : Nat) (a : A) (b : B) (c : C), μ a b c < n → I a b c → Zh a b c := by
    intro n
    induction n with
    | zero => intro a b c h; omega
    | succ n ih => intro a b c h hI; exact step a b c hI (fun a' b' c' h1 h2 => ih a' b' c' (by omega) h1)
  exact fun a b c h => key (μ a b c + 1) a b c (by omega) h
theorem rg_lp4 {A B C D : Type} (Zh : A → B → C → D → Prop) (I : A → B → C → D → Prop) (μ : A → B → C → D → Nat) (step : ∀ a b c d, I a b c d → (∀ a' b' c' d', I a' b' c' d' → μ a' b' c' d' < μ a b c d → Zh a' b' c' d') → Zh a b c d) : ∀ a b c d, I a b c d → Zh a b c d := by
  have key : ∀ (n : Nat) (a : A) (b : B) (c : C) (d : D), μ a b c d < n → I a b c d → Zh a b c d := by
    intro n
    induction n with
    | zero => intro a b c d h; omega
    | succ n ih => intro a b c d h hI; exact step a b c d hI (fun a' b' c' d' h1 h2 => ih a' b' c' d' (by omega) h1)
  exact fun a b c d h => key (μ a b c d + 1) a b c d (by omega) h
theorem rg_lp5 {A B C D E : Type} (Zh : A → B → C → D → E → Prop) (I : A → B → C → D → E → Prop) (μ : A → B → C → D → E → Nat) (step : ∀ a b c d e, I a b c d e → (∀ a' b' c' d' e', I a' b' c' d' e' → μ a' b' c' d' e' < μ a b c d e → Zh a' b' c' d' e') → Zh a b c d e) : ∀ a b c d e, I a b c d e → Zh a b c d e := by
  have key : ∀ (n : Nat) (a : A) (b : B) (c : C) (d : D) (e : E), μ a b c d e < n → I a b c d e → Zh a b c d e := by
    intro n
    induction n with
    | zero => intro a b c d e h; omega
    | succ n ih => intro a b c d e h hI; exact step a b c d e hI (fun a' b' c' d' e' h1 h2 => ih a' b' c' d' e' (by omega) h1)
  exact fun a b c d e h => key (μ a b c d e + 1) a b c d e (by omega) h
theorem rg_up_ss (w : rg_W) (k j : Nat) (x : Int32) : (rg_up w k j x).1 k j = x := by rw [rg_up_s]; exact if_pos rfl

def hbt (a b : Int32) : Bool := !decide ((a >>> (b &&& 31)) &&& nI 1 = 0)
def lowI (x n : Int32) : Int32 := x &&& ((nI 1 <<< ((nI 2 * n) &&& 31)) - nI 1)
-- R.has
def P_R_has : rg_P := (rg_F_R, [], [], [], [], [], 0)
def T_R_has : rg_T := fun as w K => match as with
  | [.ref 1, .int x] => K (some (.int (zI (!decide (x < 0) && !decide (w.1 1 2 ≤ x))))) w
  | _ => False
theorem Te_R_has (x : Int32) (w : rg_W) (K : Option Value → rg_W → Prop) : T_R_has [.ref 1, .int x] w K = (K (some (.int (zI (!decide (x < 0) && !decide (w.1 1 2 ≤ x))))) w) := rfl
theorem r_R_has : ∀ as w K, T_R_has as w K → ∃ r, as = .ref 1 :: r := by
  intro as w K h
  unfold T_R_has at h
  split at h
  · exact ⟨_, rfl⟩
  · exact h.elim
theorem G_R_has (l : Launch) : rg_Good l y_R_has c_R_has 2 (some .boolean) 0 T_R_has := by
  refine rg_good_of (P := P_R_has) (by decide) (rg_pok rg_F_R_ok rg_nil) ?_
  intro as w K Z hT hZ
  unfold T_R_has at hT
  split at hT
  rotate_left
  · exact hT.elim
  rename_i x
  refine ⟨Nat.le_of_ble_eq_true rfl, ?_⟩
  show Z 0 [.ref 1, .int x] [] w 0
  refine hZ (rg_cut []) 400 0 _ _ _ ?_; simp only [rg_e_iload_1 (cut := rg_cut []) (f := true) d_R_has_0 rfl 1 rfl, rg_e_if_lt (cut := rg_cut []) (f := false) d_R_has_1 rfl 4 rfl 16 rfl, rg_e_iload_1 (cut := rg_cut []) (f := false) d_R_has_4 rfl 5 rfl, rg_e_aload_0 (cut := rg_cut []) (f := false) d_R_has_5 rfl 6 rfl, rg_e_geti (P := P_R_has) (cut := rg_cut []) (f := false) d_R_has_6 rfl 9 rfl 1 1 2 rfl (fun _ => rfl), rg_e_icmp_ge (cut := rg_cut []) (f := false) d_R_has_9 rfl 12 rfl 16 rfl, rg_e_iconst (cut := rg_cut []) (f := false) d_R_has_12 rfl 13 rfl (nI 1) rg_ki_1, rg_e_goto (cut := rg_cut []) (f := false) d_R_has_13 rfl 17 rfl, rg_e_iconst (cut := rg_cut []) (f := false) d_R_has_16 rfl 17 rfl (nI 0) rg_ki_0, rg_e_iret (cut := rg_cut []) (f := false) d_R_has_17 rfl, rg_nx_i, rg_nx_v, rg_wd_n, rg_wd_i, rg_wd_l, rg_wd_r, rg_clr_i, rg_clr_l, rg_clr_r, rg_clr_a, rg_clr_n, true_and, and_true, Nat.reduceAdd, Nat.reduceLeDiff, rg_rt_e, rg_fit_ie, rg_fit_ve, rg_fit_1e, rg_fit_0e, rg_fit_be]
  refine ⟨fun h1 => ?_, fun h1 => ⟨fun h2 => ?_, fun h2 => ?_⟩⟩ <;> simpa [zI, h1, *] using hT
-- E.has
def P_E_has : rg_P := (rg_F_E, [], [], [], [], [], 0)
def T_E_has : rg_T := fun as w K => match as with
  | [.ref 4, .int x] => K (some (.int (zI (!decide (x < 0) && !decide (w.1 4 10 ≤ x))))) w
  | _ => False
theorem Te_E_has (x : Int32) (w : rg_W) (K : Option Value → rg_W → Prop) : T_E_has [.ref 4, .int x] w K = (K (some (.int (zI (!decide (x < 0) && !decide (w.1 4 10 ≤ x))))) w) := rfl
theorem r_E_has : ∀ as w K, T_E_has as w K → ∃ r, as = .ref 4 :: r := by
  intro as w K h
  unfold T_E_has at h
  split at h
  · exact ⟨_, rfl⟩
  · exact h.elim
theorem G_E_has (l : Launch) : rg_Good l y_E_has c_E_has 2 (some .boolean) 0 T_E_has := by
  refine rg_good_of (P := P_E_has) (by decide) (rg_pok rg_F_E_ok rg_nil) ?_
  intro as w K Z hT hZ
  unfold T_E_has at hT
  split at hT
  rotate_left
  · exact hT.elim
  rename_i x
  refine ⟨Nat.le_of_ble_eq_true rfl, ?_⟩
  show Z 0 [.ref 4, .int x] [] w 0
  refine hZ (rg_cut []) 400 0 _ _ _ ?_; simp only [rg_e_iload_1 (cut := rg_cut []) (f := true) d_E_has_0 rfl 1 rfl, rg_e_if_lt (cut := rg_cut []) (f := false) d_E_has_1 rfl 4 rfl 16 rfl, rg_e_iload_1 (cut := rg_cut []) (f := false) d_E_has_4 rfl 5 rfl, rg_e_aload_0 (cut := rg_cut []) (f := false) d_E_has_5 rfl 6 rfl, rg_e_geti (P := P_E_has) (cut := rg_cut []) (f := false) d_E_has_6 rfl 9 rfl 4 2 10 rfl (fun _ => rfl), rg_e_icmp_ge (cut := rg_cut []) (f := false) d_E_has_9 rfl 12 rfl 16 rfl, rg_e_iconst (cut := rg_cut []) (f := false) d_E_has_12 rfl 13 rfl (nI 1) rg_ki_1, rg_e_goto (cut := rg_cut []) (f := false) d_E_has_13 rfl 17 rfl, rg_e_iconst (cut := rg_cut []) (f := false) d_E_has_16 rfl 17 rfl (nI 0) rg_ki_0, rg_e_iret (cut := rg_cut []) (f := false) d_E_has_17 rfl, rg_nx_i, rg_nx_v, rg_wd_n, rg_wd_i, rg_wd_l, rg_wd_r, rg_clr_i, rg_clr_l, rg_clr_r, rg_clr_a, rg_clr_n, true_and, and_true, Nat.reduceAdd, Nat.reduceLeDiff, rg_rt_e, rg_fit_ie, rg_fit_ve, rg_fit_1e, rg_fit_0e, rg_fit_be]
  refine ⟨fun h1 => ?_, fun h1 => ⟨fun h2 => ?_, fun h2 => ?_⟩⟩ <;> simpa [zI, h1, *] using hT
-- W.has
def P_W_has : rg_P := (rg_F_W, [], [], [], [], [], 0)
def T_W_has : rg_T := fun as w K => match as with
  | [.ref 13, .int x] => K (some (.int (zI (!decide (x < 0) && !decide (w.1 13 3 ≤ x))))) w
  | _ => False
theorem Te_W_has (x : Int32) (w : rg_W) (K : Option Value → rg_W → Prop) : T_W_has [.ref 13, .int x] w K = (K (some (.int (zI (!decide (x < 0) && !decide (w.1 13 3 ≤ x))))) w) := rfl
theorem r_W_has : ∀ as w K, T_W_has as w K → ∃ r, as = .ref 13 :: r := by
  intro as w K h
  unfold T_W_has at h
  split at h
  · exact ⟨_, rfl⟩
  · exact h.elim
theorem G_W_has (l : Launch) : rg_Good l y_W_has c_W_has 2 (some .boolean) 0 T_W_has := by
  refine rg_good_of (P := P_W_has) (by decide) (rg_pok rg_F_W_ok rg_nil) ?_
  intro as w K Z hT hZ
  unfold T_W_has at hT
  split at hT
  rotate_left
  · exact hT.elim
  rename_i x
  refine ⟨Nat.le_of_ble_eq_true rfl, ?_⟩
  show Z 0 [.ref 13, .int x] [] w 0
  refine hZ (rg_cut []) 400 0 _ _ _ ?_; simp only [rg_e_iload_1 (cut := rg_cut []) (f := true) d_W_has_0 rfl 1 rfl, rg_e_if_lt (cut := rg_cut []) (f := false) d_W_has_1 rfl 4 rfl 16 rfl, rg_e_iload_1 (cut := rg_cut []) (f := false) d_W_has_4 rfl 5 rfl, rg_e_aload_0 (cut := rg_cut []) (f := false) d_W_has_5 rfl 6 rfl, rg_e_geti (P := P_W_has) (cut := rg_cut []) (f := false) d_W_has_6 rfl 9 rfl 13 3 3 rfl (fun _ => rfl), rg_e_icmp_ge (cut := rg_cut []) (f := false) d_W_has_9 rfl 12 rfl 16 rfl, rg_e_iconst (cut := rg_cut []) (f := false) d_W_has_12 rfl 13 rfl (nI 1) rg_ki_1, rg_e_goto (cut := rg_cut []) (f := false) d_W_has_13 rfl 17 rfl, rg_e_iconst (cut := rg_cut []) (f := false) d_W_has_16 rfl 17 rfl (nI 0) rg_ki_0, rg_e_iret (cut := rg_cut []) (f := false) d_W_has_17 rfl, rg_nx_i, rg_nx_v, rg_wd_n, rg_wd_i, rg_wd_l, rg_wd_r, rg_clr_i, rg_clr_l, rg_clr_r, rg_clr_a, rg_clr_n, true_and, and_true, Nat.reduceAdd, Nat.reduceLeDiff, rg_rt_e, rg_fit_ie, rg_fit_ve, rg_fit_1e, rg_fit_0e, rg_fit_be]
  refine ⟨fun h1 => ?_, fun h1 => ⟨fun h2 => ?_, fun h2 => ?_⟩⟩ <;> simpa [zI, h1, *] using hT
-- W.edgeAt
def P_W_edgeAt : rg_P := (rg_F_W, [], [], [], [], [], 0)
def T_W_edgeAt : rg_T := fun as w K => match as with
  | [.ref 13, .int k, .int i] => vp_in (k * nI 40 + i) 2000 ∧ K (some (.int (w.1 14 (k * nI 40 + i).toNatClampNeg))) w
  | _ => False
theorem Te_W_edgeAt (k : Int32) (i : Int32) (w : rg_W) (K : Option Value → rg_W → Prop) : T_W_edgeAt [.ref 13, .int k, .int i] w K = (vp_in (k * nI 40 + i) 2000 ∧ K (some (.int (w.1 14 (k * nI 40 + i).toNatClampNeg))) w) := rfl
theorem r_W_edgeAt : ∀ as w K, T_W_edgeAt as w K → ∃ r, as = .ref 13 :: r := by
  intro as w K h
  unfold T_W_edgeAt at h
  split at h
  · exact ⟨_, rfl⟩
  · exact h.elim
theorem G_W_edgeAt (l : Launch) : rg_Good l y_W_edgeAt c_W_edgeAt 3 (some .int) 0 T_W_edgeAt := by
  refine rg_good_of (P := P_W_edgeAt) (by decide) (rg_pok rg_F_W_ok rg_nil) ?_
  intro as w K Z hT hZ
  unfold T_W_edgeAt at hT
  split at hT
  rotate_left
  · exact hT.elim
  rename_i k i
  refine ⟨Nat.le_of_ble_eq_true rfl, ?_⟩
  show Z 0 [.ref 13, .int k, .int i] [] w 0
  refine hZ (rg_cut []) 400 0 _ _ _ ?_; simp only [rg_e_aload_0 (cut := rg_cut []) (f := true) d_W_edgeAt_0 rfl 1 rfl, rg_e_getr (P := P_W_edgeAt) (cut := rg_cut []) (f := false) d_W_edgeAt_1 rfl 4 rfl 13 3 1 14 rfl (fun _ => rfl), rg_e_iload_1 (cut := rg_cut []) (f := false) d_W_edgeAt_4 rfl 5 rfl, rg_e_bipush (cut := rg_cut []) (f := false) d_W_edgeAt_5 rfl 7 rfl (nI 40) rg_kb_40, rg_e_imul (cut := rg_cut []) (f := false) d_W_edgeAt_7 rfl 8 rfl, rg_e_iload_2 (cut := rg_cut []) (f := false) d_W_edgeAt_8 rfl 9 rfl, rg_e_iadd (cut := rg_cut []) (f := false) d_W_edgeAt_9 rfl 10 rfl, rg_e_iald (cut := rg_cut []) (f := false) d_W_edgeAt_10 rfl 11 rfl 14 2000 rfl, rg_e_iret (cut := rg_cut []) (f := false) d_W_edgeAt_11 rfl, rg_nx_i, rg_nx_v, rg_wd_n, rg_wd_i, rg_wd_l, rg_wd_r, rg_clr_i, rg_clr_l, rg_clr_r, rg_clr_a, rg_clr_n, true_and, and_true, Nat.reduceAdd, Nat.reduceLeDiff, rg_rt_e, rg_fit_ie, rg_fit_ve, rg_fit_1e, rg_fit_0e, rg_fit_be]
  exact hT
-- G.holds
def P_G_holds : rg_P := (rg_F_G, [], [], [], [], [], 0)
def T_G_holds : rg_T := fun as w K => match as with
  | [.int a, .int b] => K (some (.int (zI (hbt a b)))) w
  | _ => False
theorem Te_G_holds (a : Int32) (b : Int32) (w : rg_W) (K : Option Value → rg_W → Prop) : T_G_holds [.int a, .int b] w K = (K (some (.int (zI (hbt a b)))) w) := rfl
theorem G_G_holds (l : Launch) : rg_Good l y_G_holds c_G_holds 2 (some .boolean) 0 T_G_holds := by
  refine rg_good_of (P := P_G_holds) (by decide) (rg_pok rg_F_G_ok rg_nil) ?_
  intro as w K Z hT hZ
  unfold T_G_holds at hT
  split at hT
  rotate_left
  · exact hT.elim
  rename_i a b
  refine ⟨Nat.le_of_ble_eq_true rfl, ?_⟩
  show Z 0 [.int a, .int b] [] w 0
  refine hZ (rg_cut []) 400 0 _ _ _ ?_; simp only [rg_e_iload_0 (cut := rg_cut []) (f := true) d_G_holds_0 rfl 1 rfl, rg_e_iload_1 (cut := rg_cut []) (f := false) d_G_holds_1 rfl 2 rfl, rg_e_ishr (cut := rg_cut []) (f := false) d_G_holds_2 rfl 3 rfl, rg_e_iconst (cut := rg_cut []) (f := false) d_G_holds_3 rfl 4 rfl (nI 1) rg_ki_1, rg_e_iand (cut := rg_cut []) (f := false) d_G_holds_4 rfl 5 rfl, rg_e_if_eq (cut := rg_cut []) (f := false) d_G_holds_5 rfl 8 rfl 12 rfl, rg_e_iconst (cut := rg_cut []) (f := false) d_G_holds_8 rfl 9 rfl (nI 1) rg_ki_1, rg_e_goto (cut := rg_cut []) (f := false) d_G_holds_9 rfl 13 rfl, rg_e_iconst (cut := rg_cut []) (f := false) d_G_holds_12 rfl 13 rfl (nI 0) rg_ki_0, rg_e_iret (cut := rg_cut []) (f := false) d_G_holds_13 rfl, rg_nx_i, rg_nx_v, rg_wd_n, rg_wd_i, rg_wd_l, rg_wd_r, rg_clr_i, rg_clr_l, rg_clr_r, rg_clr_a, rg_clr_n, true_and, and_true, Nat.reduceAdd, Nat.reduceLeDiff, rg_rt_e, rg_fit_ie, rg_fit_ve, rg_fit_1e, rg_fit_0e, rg_fit_be]
  refine ⟨fun h1 => ?_, fun h1 => ?_⟩ <;> simpa [zI, hbt, h1] using hT
-- G.isLeast
def P_G_isLeast : rg_P := (rg_F_G, [], [], [], [], [], 0)
def T_G_isLeast : rg_T := fun as w K => match as with
  | [.int x] => K (some (.int (zI (!decide (x < nI 1) && !decide (nI 12 < x))))) w
  | _ => False
theorem Te_G_isLeast (x : Int32) (w : rg_W) (K : Option Value → rg_W → Prop) : T_G_isLeast [.int x] w K = (K (some (.int (zI (!decide (x < nI 1) && !decide (nI 12 < x))))) w) := rfl
theorem G_G_isLeast (l : Launch) : rg_Good l y_G_isLeast c_G_isLeast 1 (some .boolean) 0 T_G_isLeast := by
  refine rg_good_of (P := P_G_isLeast) (by decide) (rg_pok rg_F_G_ok rg_nil) ?_
  intro as w K Z hT hZ
  unfold T_G_isLeast at hT
  split at hT
  rotate_left
  · exact hT.elim
  rename_i x
  refine ⟨Nat.le_of_ble_eq_true rfl, ?_⟩
  show Z 0 [.int x] [] w 0
  refine hZ (rg_cut []) 400 0 _ _ _ ?_; simp only [rg_e_iload_0 (cut := rg_cut []) (f := true) d_G_isLeast_0 rfl 1 rfl, rg_e_iconst (cut := rg_cut []) (f := false) d_G_isLeast_1 rfl 2 rfl (nI 1) rg_ki_1, rg_e_icmp_lt (cut := rg_cut []) (f := false) d_G_isLeast_2 rfl 5 rfl 15 rfl, rg_e_iload_0 (cut := rg_cut []) (f := false) d_G_isLeast_5 rfl 6 rfl, rg_e_bipush (cut := rg_cut []) (f := false) d_G_isLeast_6 rfl 8 rfl (nI 12) rg_kb_12, rg_e_icmp_gt (cut := rg_cut []) (f := false) d_G_isLeast_8 rfl 11 rfl 15 rfl, rg_e_iconst (cut := rg_cut []) (f := false) d_G_isLeast_11 rfl 12 rfl (nI 1) rg_ki_1, rg_e_goto (cut := rg_cut []) (f := false) d_G_isLeast_12 rfl 16 rfl, rg_e_iconst (cut := rg_cut []) (f := false) d_G_isLeast_15 rfl 16 rfl (nI 0) rg_ki_0, rg_e_iret (cut := rg_cut []) (f := false) d_G_isLeast_16 rfl, rg_nx_i, rg_nx_v, rg_wd_n, rg_wd_i, rg_wd_l, rg_wd_r, rg_clr_i, rg_clr_l, rg_clr_r, rg_clr_a, rg_clr_n, true_and, and_true, Nat.reduceAdd, Nat.reduceLeDiff, rg_rt_e, rg_fit_ie, rg_fit_ve, rg_fit_1e, rg_fit_0e, rg_fit_be]
  refine ⟨fun h1 => ?_, fun h1 => ⟨fun h2 => ?_, fun h2 => ?_⟩⟩ <;> simpa [zI, h1, *] using hT
-- G.packedEdge
def P_G_packedEdge : rg_P := (rg_F_G, [], [], [], [], [], 0)
def T_G_packedEdge : rg_T := fun as w K => match as with
  | [.long p, .int n, .int i] => K (some (.int ((p.toUInt64 >>> ((nI 8 * (n - nI 1 - i)).toInt64.toUInt64 &&& Int64.toUInt64 63)).toInt64.toInt32 &&& nI 255))) w
  | _ => False
theorem Te_G_packedEdge (p : Int64) (n : Int32) (i : Int32) (w : rg_W) (K : Option Value → rg_W → Prop) : T_G_packedEdge [.long p, .int n, .int i] w K = (K (some (.int ((p.toUInt64 >>> ((nI 8 * (n - nI 1 - i)).toInt64.toUInt64 &&& Int64.toUInt64 63)).toInt64.toInt32 &&& nI 255))) w) := rfl
theorem G_G_packedEdge (l : Launch) : rg_Good l y_G_packedEdge c_G_packedEdge 4 (some .int) 0 T_G_packedEdge := by
  refine rg_good_of (P := P_G_packedEdge) (by decide) (rg_pok rg_F_G_ok rg_nil) ?_
  intro as w K Z hT hZ
  unfold T_G_packedEdge at hT
  split at hT
  rotate_left
  · exact hT.elim
  rename_i p n i
  refine ⟨Nat.le_of_ble_eq_true rfl, ?_⟩
  show Z 0 [.long p, .null, .int n, .int i] [] w 0
  refine hZ (rg_cut []) 400 0 _ _ _ ?_; simp only [rg_e_lload_0 (cut := rg_cut []) (f := true) d_G_packedEdge_0 rfl 1 rfl, rg_e_bipush (cut := rg_cut []) (f := false) d_G_packedEdge_1 rfl 3 rfl (nI 8) rg_kb_8, rg_e_iload_2 (cut := rg_cut []) (f := false) d_G_packedEdge_3 rfl 4 rfl, rg_e_iconst (cut := rg_cut []) (f := false) d_G_packedEdge_4 rfl 5 rfl (nI 1) rg_ki_1, rg_e_isub (cut := rg_cut []) (f := false) d_G_packedEdge_5 rfl 6 rfl, rg_e_iload_3 (cut := rg_cut []) (f := false) d_G_packedEdge_6 rfl 7 rfl, rg_e_isub (cut := rg_cut []) (f := false) d_G_packedEdge_7 rfl 8 rfl, rg_e_imul (cut := rg_cut []) (f := false) d_G_packedEdge_8 rfl 9 rfl, rg_e_lushr (cut := rg_cut []) (f := false) d_G_packedEdge_9 rfl 10 rfl, rg_e_l2i (cut := rg_cut []) (f := false) d_G_packedEdge_10 rfl 11 rfl, rg_e_sipush (cut := rg_cut []) (f := false) d_G_packedEdge_11 rfl 14 rfl (nI 255) rg_ks_255, rg_e_iand (cut := rg_cut []) (f := false) d_G_packedEdge_14 rfl 15 rfl, rg_e_iret (cut := rg_cut []) (f := false) d_G_packedEdge_15 rfl, rg_nx_i, rg_nx_v, rg_wd_n, rg_wd_i, rg_wd_l, rg_wd_r, rg_clr_i, rg_clr_l, rg_clr_r, rg_clr_a, rg_clr_n, true_and, and_true, Nat.reduceAdd, Nat.reduceLeDiff, rg_rt_e, rg_fit_ie, rg_fit_ve, rg_fit_1e, rg_fit_0e, rg_fit_be]
  exact hT
-- R.lowest
def P_R_lowest : rg_P := (rg_F_R, [], [], [], [], [], 0)
def T_R_lowest : rg_T := fun as w K => match as with
  | [.int x, .int n] => K (some (.int (lowI x n))) w
  | _ => False
theorem Te_R_lowest (x : Int32) (n : Int32) (w : rg_W) (K : Option Value → rg_W → Prop) : T_R_lowest [.int x, .int n] w K = (K (some (.int (lowI x n))) w) := rfl
theorem G_R_lowest (l : Launch) : rg_Good l y_R_lowest c_R_lowest 2 (some .int) 0 T_R_lowest := by
  refine rg_good_of (P := P_R_lowest) (by decide) (rg_pok rg_F_R_ok rg_nil) ?_
  intro as w K Z hT hZ
  unfold T_R_lowest at hT
  split at hT
  rotate_left
  · exact hT.elim
  rename_i x n
  refine ⟨Nat.le_of_ble_eq_true rfl, ?_⟩
  show Z 0 [.int x, .int n] [] w 0
  refine hZ (rg_cut []) 400 0 _ _ _ ?_; simp only [rg_e_iload_0 (cut := rg_cut []) (f := true) d_R_lowest_0 rfl 1 rfl, rg_e_iconst (cut := rg_cut []) (f := false) d_R_lowest_1 rfl 2 rfl (nI 1) rg_ki_1, rg_e_iconst (cut := rg_cut []) (f := false) d_R_lowest_2 rfl 3 rfl (nI 2) rg_ki_2, rg_e_iload_1 (cut := rg_cut []) (f := false) d_R_lowest_3 rfl 4 rfl, rg_e_imul (cut := rg_cut []) (f := false) d_R_lowest_4 rfl 5 rfl, rg_e_ishl (cut := rg_cut []) (f := false) d_R_lowest_5 rfl 6 rfl, rg_e_iconst (cut := rg_cut []) (f := false) d_R_lowest_6 rfl 7 rfl (nI 1) rg_ki_1, rg_e_isub (cut := rg_cut []) (f := false) d_R_lowest_7 rfl 8 rfl, rg_e_iand (cut := rg_cut []) (f := false) d_R_lowest_8 rfl 9 rfl, rg_e_iret (cut := rg_cut []) (f := false) d_R_lowest_9 rfl, rg_nx_i, rg_nx_v, rg_wd_n, rg_wd_i, rg_wd_l, rg_wd_r, rg_clr_i, rg_clr_l, rg_clr_r, rg_clr_a, rg_clr_n, true_and, and_true, Nat.reduceAdd, Nat.reduceLeDiff, rg_rt_e, rg_fit_ie, rg_fit_ve, rg_fit_1e, rg_fit_0e, rg_fit_be]
  exact hT
-- R.letterAt
def P_R_letterAt : rg_P := (rg_F_R, [], [], [], [], [], 0)
def T_R_letterAt : rg_T := fun as w K => match as with
  | [.ref 1, .int r, .int k] => vp_in r 9 ∧ K (some (.int ((w.1 2 r.toNatClampNeg >>> ((nI 2 * (w.1 3 r.toNatClampNeg - nI 1 - k)) &&& 31)) &&& nI 3))) w
  | _ => False
theorem Te_R_letterAt (r : Int32) (k : Int32) (w : rg_W) (K : Option Value → rg_W → Prop) : T_R_letterAt [.ref 1, .int r, .int k] w K = (vp_in r 9 ∧ K (some (.int ((w.1 2 r.toNatClampNeg >>> ((nI 2 * (w.1 3 r.toNatClampNeg - nI 1 - k)) &&& 31)) &&& nI 3))) w) := rfl
theorem r_R_letterAt : ∀ as w K, T_R_letterAt as w K → ∃ r, as = .ref 1 :: r := by
  intro as w K h
  unfold T_R_letterAt at h
  split at h
  · exact ⟨_, rfl⟩
  · exact h.elim
theorem G_R_letterAt (l : Launch) : rg_Good l y_R_letterAt c_R_letterAt 3 (some .int) 0 T_R_letterAt := by
  refine rg_good_of (P := P_R_letterAt) (by decide) (rg_pok rg_F_R_ok rg_nil) ?_
  intro as w K Z hT hZ
  unfold T_R_letterAt at hT
  split at hT
  rotate_left
  · exact hT.elim
  rename_i r k
  refine ⟨Nat.le_of_ble_eq_true rfl, ?_⟩
  show Z 0 [.ref 1, .int r, .int k] [] w 0
  refine hZ (rg_cut []) 400 0 _ _ _ ?_; simp only [rg_e_aload_0 (cut := rg_cut []) (f := true) d_R_letterAt_0 rfl 1 rfl, rg_e_getr (P := P_R_letterAt) (cut := rg_cut []) (f := false) d_R_letterAt_1 rfl 4 rfl 1 1 0 2 rfl (fun _ => rfl), rg_e_iload_1 (cut := rg_cut []) (f := false) d_R_letterAt_4 rfl 5 rfl, rg_e_iald (cut := rg_cut []) (f := false) d_R_letterAt_5 rfl 6 rfl 2 9 rfl, rg_e_iconst (cut := rg_cut []) (f := false) d_R_letterAt_6 rfl 7 rfl (nI 2) rg_ki_2, rg_e_aload_0 (cut := rg_cut []) (f := false) d_R_letterAt_7 rfl 8 rfl, rg_e_getr (P := P_R_letterAt) (cut := rg_cut []) (f := false) d_R_letterAt_8 rfl 11 rfl 1 1 1 3 rfl (fun _ => rfl), rg_e_iload_1 (cut := rg_cut []) (f := false) d_R_letterAt_11 rfl 12 rfl, rg_e_iald (cut := rg_cut []) (f := false) d_R_letterAt_12 rfl 13 rfl 3 9 rfl, rg_e_iconst (cut := rg_cut []) (f := false) d_R_letterAt_13 rfl 14 rfl (nI 1) rg_ki_1, rg_e_isub (cut := rg_cut []) (f := false) d_R_letterAt_14 rfl 15 rfl, rg_e_iload_2 (cut := rg_cut []) (f := false) d_R_letterAt_15 rfl 16 rfl, rg_e_isub (cut := rg_cut []) (f := false) d_R_letterAt_16 rfl 17 rfl, rg_e_imul (cut := rg_cut []) (f := false) d_R_letterAt_17 rfl 18 rfl, rg_e_ishr (cut := rg_cut []) (f := false) d_R_letterAt_18 rfl 19 rfl, rg_e_iconst (cut := rg_cut []) (f := false) d_R_letterAt_19 rfl 20 rfl (nI 3) rg_ki_3, rg_e_iand (cut := rg_cut []) (f := false) d_R_letterAt_20 rfl 21 rfl, rg_e_iret (cut := rg_cut []) (f := false) d_R_letterAt_21 rfl, rg_nx_i, rg_nx_v, rg_wd_n, rg_wd_i, rg_wd_l, rg_wd_r, rg_clr_i, rg_clr_l, rg_clr_r, rg_clr_a, rg_clr_n, true_and, and_true, Nat.reduceAdd, Nat.reduceLeDiff, rg_rt_e, rg_fit_ie, rg_fit_ve, rg_fit_1e, rg_fit_0e, rg_fit_be]
  exact ⟨hT.1, hT.1, hT.2⟩
-- R.add
def P_R_add : rg_P := (rg_F_R, [(44, 2, 0, T_R_lowest)], [], [], [], [], 0)
def T_R_add : rg_T := fun as w K => match as with
  | [.ref 1, .int x, .int n] => vp_in (w.1 1 2) 9 ∧ K (some (.int (w.1 1 2 + nI 1 - nI 1))) (rg_up (rg_up (rg_up w 2 (w.1 1 2).toNatClampNeg (lowI x n)) 3 (w.1 1 2).toNatClampNeg n) 1 2 (w.1 1 2 + nI 1))
  | _ => False
theorem Te_R_add (x : Int32) (n : Int32) (w : rg_W) (K : Option Value → rg_W → Prop) : T_R_add [.ref 1, .int x, .int n] w K = (vp_in (w.1 1 2) 9 ∧ K (some (.int (w.1 1 2 + nI 1 - nI 1))) (rg_up (rg_up (rg_up w 2 (w.1 1 2).toNatClampNeg (lowI x n)) 3 (w.1 1 2).toNatClampNeg n) 1 2 (w.1 1 2 + nI 1))) := rfl
theorem r_R_add : ∀ as w K, T_R_add as w K → ∃ r, as = .ref 1 :: r := by
  intro as w K h
  unfold T_R_add at h
  split at h
  · exact ⟨_, rfl⟩
  · exact h.elim
theorem G_R_add (l : Launch) : rg_Good l y_R_add c_R_add 3 (some .int) 1 T_R_add := by
  refine rg_good_of (P := P_R_add) (by decide) (rg_pok rg_F_R_ok (rg_cons (cw_R_22 (G_R_lowest l) (by decide)) rg_nil)) ?_
  intro as w K Z hT hZ
  unfold T_R_add at hT
  split at hT
  rotate_left
  · exact hT.elim
  rename_i x n
  refine ⟨Nat.le_of_ble_eq_true rfl, ?_⟩
  show Z 0 [.ref 1, .int x, .int n] [] w 0
  refine hZ (rg_cut []) 400 0 _ _ _ ?_; simp only [rg_e_aload_0 (cut := rg_cut []) (f := true) d_R_add_0 rfl 1 rfl, rg_e_getr (P := P_R_add) (cut := rg_cut []) (f := false) d_R_add_1 rfl 4 rfl 1 1 0 2 rfl (fun _ => rfl), rg_e_aload_0 (cut := rg_cut []) (f := false) d_R_add_4 rfl 5 rfl, rg_e_geti (P := P_R_add) (cut := rg_cut []) (f := false) d_R_add_5 rfl 8 rfl 1 1 2 rfl (fun _ => rfl), rg_e_iload_1 (cut := rg_cut []) (f := false) d_R_add_8 rfl 9 rfl, rg_e_iload_2 (cut := rg_cut []) (f := false) d_R_add_9 rfl 10 rfl, rg_e_cs2 (P := P_R_add) (cut := rg_cut []) (f := false) d_R_add_10 rfl T_R_lowest rfl, rg_e_iast (cut := rg_cut []) (f := false) d_R_add_13 rfl 14 rfl 2 9 rfl, rg_e_aload_0 (cut := rg_cut []) (f := false) d_R_add_14 rfl 15 rfl, rg_e_getr (P := P_R_add) (cut := rg_cut []) (f := false) d_R_add_15 rfl 18 rfl 1 1 1 3 rfl (fun _ => rfl), rg_e_aload_0 (cut := rg_cut []) (f := false) d_R_add_18 rfl 19 rfl, rg_e_geti (P := P_R_add) (cut := rg_cut []) (f := false) d_R_add_19 rfl 22 rfl 1 1 2 rfl (fun _ => rfl), rg_e_iload_2 (cut := rg_cut []) (f := false) d_R_add_22 rfl 23 rfl, rg_e_iast (cut := rg_cut []) (f := false) d_R_add_23 rfl 24 rfl 3 9 rfl, rg_e_aload_0 (cut := rg_cut []) (f := false) d_R_add_24 rfl 25 rfl, rg_e_dupr (cut := rg_cut []) (f := false) d_R_add_25 rfl 26 rfl, rg_e_geti (P := P_R_add) (cut := rg_cut []) (f := false) d_R_add_26 rfl 29 rfl 1 1 2 rfl (fun _ => rfl), rg_e_iconst (cut := rg_cut []) (f := false) d_R_add_29 rfl 30 rfl (nI 1) rg_ki_1, rg_e_iadd (cut := rg_cut []) (f := false) d_R_add_30 rfl 31 rfl, rg_e_put (P := P_R_add) (cut := rg_cut []) (f := false) d_R_add_31 rfl 34 rfl 1 1 2 rfl rfl, rg_e_aload_0 (cut := rg_cut []) (f := false) d_R_add_34 rfl 35 rfl, rg_e_geti (P := P_R_add) (cut := rg_cut []) (f := false) d_R_add_35 rfl 38 rfl 1 1 2 rfl (fun _ => rfl), rg_e_iconst (cut := rg_cut []) (f := false) d_R_add_38 rfl 39 rfl (nI 1) rg_ki_1, rg_e_isub (cut := rg_cut []) (f := false) d_R_add_39 rfl 40 rfl, rg_e_iret (cut := rg_cut []) (f := false) d_R_add_40 rfl, rg_nx_i, rg_nx_v, rg_wd_n, rg_wd_i, rg_wd_l, rg_wd_r, rg_clr_i, rg_clr_l, rg_clr_r, rg_clr_a, rg_clr_n, true_and, and_true, Nat.reduceAdd, Nat.reduceLeDiff, ↓Te_R_lowest, rg_rt_e, rg_fit_ie, rg_fit_ve, rg_fit_1e, rg_fit_0e, rg_fit_be]
  refine ⟨hT.1, hT.1, ?_⟩
  exact hT.2
-- M.thrown
def P_M_thrown : rg_P := (rg_F_M, [], [], [], [], [], 0)
def T_M_thrown : rg_T := fun as w K => match as with
  | [.ref 18] => K (some (.int (w.1 18 0))) w
  | _ => False
theorem Te_M_thrown  (w : rg_W) (K : Option Value → rg_W → Prop) : T_M_thrown [.ref 18] w K = (K (some (.int (w.1 18 0))) w) := rfl
theorem r_M_thrown : ∀ as w K, T_M_thrown as w K → ∃ r, as = .ref 18 :: r := by
  intro as w K h
  unfold T_M_thrown at h
  split at h
  · exact ⟨_, rfl⟩
  · exact h.elim
theorem G_M_thrown (l : Launch) : rg_Good l y_M_thrown c_M_thrown 1 (some .int) 0 T_M_thrown := by
  refine rg_good_of (P := P_M_thrown) (by decide) (rg_pok rg_F_M_ok rg_nil) ?_
  intro as w K Z hT hZ
  unfold T_M_thrown at hT
  split at hT
  rotate_left
  · exact hT.elim
  refine ⟨Nat.le_of_ble_eq_true rfl, ?_⟩
  show Z 0 [.ref 18] [] w 0
  refine hZ (rg_cut []) 400 0 _ _ _ ?_; simp only [rg_e_aload_0 (cut := rg_cut []) (f := true) d_M_thrown_0 rfl 1 rfl, rg_e_geti (P := P_M_thrown) (cut := rg_cut []) (f := false) d_M_thrown_1 rfl 4 rfl 18 4 0 rfl (fun _ => rfl), rg_e_iret (cut := rg_cut []) (f := false) d_M_thrown_4 rfl, rg_nx_i, rg_nx_v, rg_wd_n, rg_wd_i, rg_wd_l, rg_wd_r, rg_clr_i, rg_clr_l, rg_clr_r, rg_clr_a, rg_clr_n, true_and, and_true, Nat.reduceAdd, Nat.reduceLeDiff, rg_rt_e, rg_fit_ie, rg_fit_ve, rg_fit_1e, rg_fit_0e, rg_fit_be]
  exact hT
-- M.throwing
def P_M_throwing : rg_P := (rg_F_M, [], [], [], [], [], 0)
def T_M_throwing : rg_T := fun as w K => match as with
  | [.ref 18, .int a, .int b] => K (some (.int (zI (!decide (a = 0) || !decide (b = 0))))) (rg_up w 18 0 (if a = 0 then (if b = 0 then nI 0 else nI 2) else nI 1))
  | _ => False
theorem Te_M_throwing (a : Int32) (b : Int32) (w : rg_W) (K : Option Value → rg_W → Prop) : T_M_throwing [.ref 18, .int a, .int b] w K = (K (some (.int (zI (!decide (a = 0) || !decide (b = 0))))) (rg_up w 18 0 (if a = 0 then (if b = 0 then nI 0 else nI 2) else nI 1))) := rfl
theorem r_M_throwing : ∀ as w K, T_M_throwing as w K → ∃ r, as = .ref 18 :: r := by
  intro as w K h
  unfold T_M_throwing at h
  split at h
  · exact ⟨_, rfl⟩
  · exact h.elim
theorem G_M_throwing (l : Launch) : rg_Good l y_M_throwing c_M_throwing 3 (some .boolean) 0 T_M_throwing := by
  refine rg_good_of (P := P_M_throwing) (by decide) (rg_pok rg_F_M_ok rg_nil) ?_
  intro as w K Z hT hZ
  unfold T_M_throwing at hT
  split at hT
  rotate_left
  · exact hT.elim
  rename_i a b
  refine ⟨Nat.le_of_ble_eq_true rfl, ?_⟩
  show Z 0 [.ref 18, .int a, .int b] [] w 0
  refine hZ (rg_cut []) 400 0 _ _ _ ?_; simp only [rg_e_aload_0 (cut := rg_cut []) (f := true) d_M_throwing_0 rfl 1 rfl, rg_e_iload_1 (cut := rg_cut []) (f := false) d_M_throwing_1 rfl 2 rfl, rg_e_if_eq (cut := rg_cut []) (f := false) d_M_throwing_2 rfl 5 rfl 9 rfl, rg_e_iconst (cut := rg_cut []) (f := false) d_M_throwing_5 rfl 6 rfl (nI 1) rg_ki_1, rg_e_goto (cut := rg_cut []) (f := false) d_M_throwing_6 rfl 18 rfl, rg_e_iload_2 (cut := rg_cut []) (f := false) d_M_throwing_9 rfl 10 rfl, rg_e_if_eq (cut := rg_cut []) (f := false) d_M_throwing_10 rfl 13 rfl 17 rfl, rg_e_iconst (cut := rg_cut []) (f := false) d_M_throwing_13 rfl 14 rfl (nI 2) rg_ki_2, rg_e_goto (cut := rg_cut []) (f := false) d_M_throwing_14 rfl 18 rfl, rg_e_iconst (cut := rg_cut []) (f := false) d_M_throwing_17 rfl 18 rfl (nI 0) rg_ki_0, rg_e_put (P := P_M_throwing) (cut := rg_cut []) (f := false) d_M_throwing_18 rfl 21 rfl 18 4 0 rfl rfl, rg_e_aload_0 (cut := rg_cut []) (f := false) d_M_throwing_21 rfl 22 rfl, rg_e_geti (P := P_M_throwing) (cut := rg_cut []) (f := false) d_M_throwing_22 rfl 25 rfl 18 4 0 rfl (fun _ => rfl), rg_e_if_le (cut := rg_cut []) (f := false) d_M_throwing_25 rfl 28 rfl 32 rfl, rg_e_iconst (cut := rg_cut []) (f := false) d_M_throwing_28 rfl 29 rfl (nI 1) rg_ki_1, rg_e_goto (cut := rg_cut []) (f := false) d_M_throwing_29 rfl 33 rfl, rg_e_iconst (cut := rg_cut []) (f := false) d_M_throwing_32 rfl 33 rfl (nI 0) rg_ki_0, rg_e_iret (cut := rg_cut []) (f := false) d_M_throwing_33 rfl, rg_nx_i, rg_nx_v, rg_wd_n, rg_wd_i, rg_wd_l, rg_wd_r, rg_clr_i, rg_clr_l, rg_clr_r, rg_clr_a, rg_clr_n, true_and, and_true, Nat.reduceAdd, Nat.reduceLeDiff, rg_rt_e, rg_fit_ie, rg_fit_ve, rg_fit_1e, rg_fit_0e, rg_fit_be, rg_up_ss]
  refine ⟨fun h1 => ⟨fun h2 => ⟨fun h3 => ?_, fun h3 => absurd (by decide +kernel) h3⟩, fun h2 => ⟨fun h3 => absurd h3 (by decide +kernel), fun h3 => ?_⟩⟩, fun h1 => ⟨fun h3 => absurd h3 (by decide +kernel), fun h3 => ?_⟩⟩
  · simpa [zI, h1, h2] using hT
  · simpa [zI, h1, h2] using hT
  · simpa [zI, h1] using hT
-- M.out
def P_M_out : rg_P := (rg_F_M, [], [], [], [], [], 0)
def T_M_out : rg_T := fun as w K => match as with
  | [.int k, .int n] => K (some (.int (zI (decide (k < 0) || !decide (k < n))))) w
  | _ => False
theorem Te_M_out (k : Int32) (n : Int32) (w : rg_W) (K : Option Value → rg_W → Prop) : T_M_out [.int k, .int n] w K = (K (some (.int (zI (decide (k < 0) || !decide (k < n))))) w) := rfl
theorem G_M_out (l : Launch) : rg_Good l y_M_out c_M_out 2 (some .boolean) 0 T_M_out := by
  refine rg_good_of (P := P_M_out) (by decide) (rg_pok rg_F_M_ok rg_nil) ?_
  intro as w K Z hT hZ
  unfold T_M_out at hT
  split at hT
  rotate_left
  · exact hT.elim
  rename_i k n
  refine ⟨Nat.le_of_ble_eq_true rfl, ?_⟩
  show Z 0 [.int k, .int n] [] w 0
  refine hZ (rg_cut []) 400 0 _ _ _ ?_; simp only [rg_e_iload_0 (cut := rg_cut []) (f := true) d_M_out_0 rfl 1 rfl, rg_e_if_lt (cut := rg_cut []) (f := false) d_M_out_1 rfl 4 rfl 9 rfl, rg_e_iload_0 (cut := rg_cut []) (f := false) d_M_out_4 rfl 5 rfl, rg_e_iload_1 (cut := rg_cut []) (f := false) d_M_out_5 rfl 6 rfl, rg_e_icmp_lt (cut := rg_cut []) (f := false) d_M_out_6 rfl 9 rfl 13 rfl, rg_e_iconst (cut := rg_cut []) (f := false) d_M_out_9 rfl 10 rfl (nI 1) rg_ki_1, rg_e_goto (cut := rg_cut []) (f := false) d_M_out_10 rfl 14 rfl, rg_e_iconst (cut := rg_cut []) (f := false) d_M_out_13 rfl 14 rfl (nI 0) rg_ki_0, rg_e_iret (cut := rg_cut []) (f := false) d_M_out_14 rfl, rg_nx_i, rg_nx_v, rg_wd_n, rg_wd_i, rg_wd_l, rg_wd_r, rg_clr_i, rg_clr_l, rg_clr_r, rg_clr_a, rg_clr_n, true_and, and_true, Nat.reduceAdd, Nat.reduceLeDiff, rg_rt_e, rg_fit_ie, rg_fit_ve, rg_fit_1e, rg_fit_0e, rg_fit_be]
  refine ⟨fun h1 => ?_, fun h1 => ⟨fun h2 => ?_, fun h2 => ?_⟩⟩
  · rw [decide_eq_true h1] at hT; exact hT
  · rw [decide_eq_false h1, decide_eq_true h2] at hT; exact hT
  · rw [decide_eq_false h1, decide_eq_false h2] at hT; exact hT
/-- only the cells ks changed -/
def rg_fr (ks : List Nat) (w w' : rg_W) : Prop := (∀ k, k ∉ ks → w'.1 k = w.1 k) ∧ w'.2 = w.2
theorem rg_fr_rf (ks : List Nat) (w : rg_W) : rg_fr ks w w := ⟨fun _ _ => rfl, rfl⟩
theorem rg_fr_up {ks : List Nat} {w w' : rg_W} (h : rg_fr ks w w') {k : Nat} (hk : k ∈ ks) (j : Nat) (x : Int32) : rg_fr ks w (rg_up w' k j x) :=
  ⟨fun a ha => by rw [rg_up_n (fun e : a = k => ha (by rw [e]; exact hk))]; exact h.1 a ha, h.2⟩
theorem rg_fr_tr {ks : List Nat} {w w1 w2 : rg_W} (h : rg_fr ks w w1) (h2 : rg_fr ks w1 w2) : rg_fr ks w w2 := ⟨fun a ha => (h2.1 a ha).trans (h.1 a ha), h2.2.trans h.2⟩
theorem rg_fr_sub {ks js : List Nat} {w w1 : rg_W} (h : rg_fr js w w1) (hs : ∀ k ∈ js, k ∈ ks) : rg_fr ks w w1 := ⟨fun a ha => h.1 a (fun z => ha (hs a z)), h.2⟩
theorem upd_s (f : Nat → Int32) (k : Nat) (x : Int32) : upd f k x k = x := if_pos rfl
theorem upd_n {f : Nat → Int32} {k j : Nat} {x : Int32} (h : j ≠ k) : upd f k x j = f j := if_neg h
/-- Edges.forget -/
def FgR (w w' : rg_W) : Prop := rg_fr [4, 10, 11, 12] w w' ∧ (∀ i, i < 9 → w'.1 10 i = nI 0 ∧ w'.1 11 i = nI 0 ∧ w'.1 12 i = nI 0) ∧ w'.1 4 8 = nI 0 ∧ w'.1 4 9 = nI 0 ∧ w'.1 4 10 = nI 0
-- E.forget
def P_E_forget : rg_P := (rg_F_E, [], [], [], [], [], 0)
def T_E_forget : rg_T := fun as w K => match as with
  | [.ref 4] => ∀ w', FgR w w' → K none w'
  | _ => False
theorem Te_E_forget  (w : rg_W) (K : Option Value → rg_W → Prop) : T_E_forget [.ref 4] w K = (∀ w', FgR w w' → K none w') := rfl
theorem r_E_forget : ∀ as w K, T_E_forget as w K → ∃ r, as = .ref 4 :: r := by
  intro as w K h
  unfold T_E_forget at h
  split at h
  · exact ⟨_, rfl⟩
  · exact h.elim
theorem G_E_forget (l : Launch) : rg_Good l y_E_forget c_E_forget 2 none 0 T_E_forget := by
  refine rg_good_of (P := P_E_forget) (by decide) (rg_pok rg_F_E_ok rg_nil) ?_
  intro as w K Z hT hZ
  unfold T_E_forget at hT
  split at hT
  rotate_left
  · exact hT.elim
  refine ⟨Nat.le_of_ble_eq_true rfl, ?_⟩
  show Z 0 [.ref 4, .null] [] w 0
  have loop : ∀ (i : Nat) (w1 : rg_W), (i ≤ 9 ∧ rg_fr [4, 10, 11, 12] w w1 ∧ ∀ j, j < i → w1.1 10 j = nI 0 ∧ w1.1 11 j = nI 0 ∧ w1.1 12 j = nI 0) → Z 2 [.ref 4, .int (nI i)] [] w1 0 := by
    refine rg_lp2 _ _ (fun i _ => 9 - i) ?_
    intro i w1 ⟨hi, hf, hj⟩ ih
    refine hZ (rg_cut [2]) 400 2 _ _ _ ?_; simp only [rg_e_iload_1 (cut := rg_cut [2]) (f := true) d_E_forget_2 rfl 3 rfl, rg_e_bipush (cut := rg_cut [2]) (f := false) d_E_forget_3 rfl 5 rfl (nI 9) rg_kb_9, rg_e_icmp_ge (cut := rg_cut [2]) (f := false) d_E_forget_5 rfl 8 rfl 35 rfl, rg_e_aload_0 (cut := rg_cut [2]) (f := false) d_E_forget_8 rfl 9 rfl, rg_e_getr (P := P_E_forget) (cut := rg_cut [2]) (f := false) d_E_forget_9 rfl 12 rfl 4 2 5 10 rfl (fun _ => rfl), rg_e_iload_1 (cut := rg_cut [2]) (f := false) d_E_forget_12 rfl 13 rfl, rg_e_iconst (cut := rg_cut [2]) (f := false) d_E_forget_13 rfl 14 rfl (nI 0) rg_ki_0, rg_e_iast (cut := rg_cut [2]) (f := false) d_E_forget_14 rfl 15 rfl 10 9 rfl, rg_e_aload_0 (cut := rg_cut [2]) (f := false) d_E_forget_15 rfl 16 rfl, rg_e_getr (P := P_E_forget) (cut := rg_cut [2]) (f := false) d_E_forget_16 rfl 19 rfl 4 2 6 11 rfl (fun _ => rfl), rg_e_iload_1 (cut := rg_cut [2]) (f := false) d_E_forget_19 rfl 20 rfl, rg_e_iconst (cut := rg_cut [2]) (f := false) d_E_forget_20 rfl 21 rfl (nI 0) rg_ki_0, rg_e_iast (cut := rg_cut [2]) (f := false) d_E_forget_21 rfl 22 rfl 11 9 rfl, rg_e_aload_0 (cut := rg_cut [2]) (f := false) d_E_forget_22 rfl 23 rfl, rg_e_getr (P := P_E_forget) (cut := rg_cut [2]) (f := false) d_E_forget_23 rfl 26 rfl 4 2 7 12 rfl (fun _ => rfl), rg_e_iload_1 (cut := rg_cut [2]) (f := false) d_E_forget_26 rfl 27 rfl, rg_e_iconst (cut := rg_cut [2]) (f := false) d_E_forget_27 rfl 28 rfl (nI 0) rg_ki_0, rg_e_iast (cut := rg_cut [2]) (f := false) d_E_forget_28 rfl 29 rfl 12 9 rfl, rg_e_iinc_1 (cut := rg_cut [2]) (f := false) d_E_forget_29 rfl 32 rfl (nI 1) rg_ki_1, rg_e_goto (cut := rg_cut [2]) (f := false) d_E_forget_32 rfl 2 rfl, rg_e_aload_0 (cut := rg_cut [2]) (f := false) d_E_forget_35 rfl 36 rfl, rg_e_iconst (cut := rg_cut [2]) (f := false) d_E_forget_36 rfl 37 rfl (nI 0) rg_ki_0, rg_e_put (P := P_E_forget) (cut := rg_cut [2]) (f := false) d_E_forget_37 rfl 40 rfl 4 2 8 rfl rfl, rg_e_aload_0 (cut := rg_cut [2]) (f := false) d_E_forget_40 rfl 41 rfl, rg_e_iconst (cut := rg_cut [2]) (f := false) d_E_forget_41 rfl 42 rfl (nI 0) rg_ki_0, rg_e_put (P := P_E_forget) (cut := rg_cut [2]) (f := false) d_E_forget_42 rfl 45 rfl 4 2 9 rfl rfl, rg_e_aload_0 (cut := rg_cut [2]) (f := false) d_E_forget_45 rfl 46 rfl, rg_e_iconst (cut := rg_cut [2]) (f := false) d_E_forget_46 rfl 47 rfl (nI 0) rg_ki_0, rg_e_put (P := P_E_forget) (cut := rg_cut [2]) (f := false) d_E_forget_47 rfl 50 rfl 4 2 10 rfl rfl, rg_e_vret (cut := rg_cut [2]) (f := false) d_E_forget_50 rfl, rg_e_cut (cut := rg_cut [2]) 2 rfl, rg_nx_i, rg_nx_v, rg_wd_n, rg_wd_i, rg_wd_l, rg_wd_r, rg_clr_i, rg_clr_l, rg_clr_r, rg_clr_a, rg_clr_n, true_and, and_true, Nat.reduceAdd, Nat.reduceLeDiff, rg_rt_e, rg_fit_ie, rg_fit_ve, rg_fit_1e, rg_fit_0e, rg_fit_be]
    refine ⟨fun h => ?_, fun h => ?_⟩
    · have hi9 : i = 9 := by
        have := (nI_leI (a := 9) (b := i) (by omega) (by omega)).mp h
        omega
      subst hi9
      refine hT _ ⟨rg_fr_up (rg_fr_up (rg_fr_up hf (by decide) _ _) (by decide) _ _) (by decide) _ _, fun j hj9 => ?_, ?_, ?_, ?_⟩
      · simpa [rg_up_n] using hj j hj9
      · simp [rg_up_s, upd]
      · simp [rg_up_s, upd]
      · simp [rg_up_s, upd]
    · have hi9 : i < 9 := by
        rcases Nat.lt_or_ge i 9 with q | q
        · exact q
        · exact absurd (nI_le q (by omega)) h
      have hv : vp_in (nI i) 9 := vp_in_nI hi9 (by omega)
      have hc : (nI i).toNatClampNeg = i := nI_clamp (by omega)
      refine ⟨hv, hv, hv, ?_⟩
      rw [nI_add, hc]
      refine ih (i + 1) _ ⟨by omega, rg_fr_up (rg_fr_up (rg_fr_up hf (by decide) _ _) (by decide) _ _) (by decide) _ _, fun j hj1 => ?_⟩ (by omega)
      by_cases hji : j = i
      · subst hji
        simp [rg_up_s, rg_up_n, upd]
      · have := hj j (by omega)
        simpa [rg_up_s, rg_up_n, upd, hji] using this
  refine hZ (rg_cut [2]) 400 0 _ _ _ ?_; simp only [rg_e_iconst (cut := rg_cut [2]) (f := true) d_E_forget_0 rfl 1 rfl (nI 0) rg_ki_0, rg_e_istore_1 (cut := rg_cut [2]) (f := false) d_E_forget_1 rfl 2 rfl, rg_e_cut (cut := rg_cut [2]) 2 rfl, rg_nx_i, rg_nx_v, rg_wd_n, rg_wd_i, rg_wd_l, rg_wd_r, rg_clr_i, rg_clr_l, rg_clr_r, rg_clr_a, rg_clr_n, true_and, and_true, Nat.reduceAdd, Nat.reduceLeDiff, rg_rt_e, rg_fit_ie, rg_fit_ve, rg_fit_1e, rg_fit_0e, rg_fit_be]
  exact loop 0 w ⟨by omega, rg_fr_rf _ _, fun j hj => absurd hj (by omega)⟩
