/-! Edges: those that are left -/
def sdE (hg : Nat → Nat → Nat) (i k its : Nat) : Bool := (List.range 9).any (fun j => !decide (hg i j = 0) && !decide (hg j k = 0) && decide (hg i j + hg j k = its))
/-- place t = 9 i + j is an edge that is left -/
def kp (hg : Nat → Nat → Nat) (t : Nat) : Bool := !decide (hg (t / 9) (t % 9) = 0) && !sdE hg (t / 9) (t % 9) (hg (t / 9) (t % 9))
def esT (hg : Nat → Nat → Nat) (t : Nat) : List Nat := (List.range t).filter (kp hg)
theorem esT_s (hg : Nat → Nat → Nat) (t : Nat) : esT hg (t + 1) = esT hg t ++ (if kp hg t = true then [t] else []) := by
  unfold esT
  rw [List.range_succ, List.filter_append]
  congr 1
  by_cases h : kp hg t = true <;> simp [h]
theorem esT_t {hg : Nat → Nat → Nat} {t : Nat} (h : kp hg t = true) : esT hg (t + 1) = esT hg t ++ [t] := by rw [esT_s, if_pos h]
theorem esT_f {hg : Nat → Nat → Nat} {t : Nat} (h : kp hg t = false) : esT hg (t + 1) = esT hg t := by
  rw [esT_s, if_neg (by rw [h]; decide), List.append_nil]
theorem esT_len {hg : Nat → Nat → Nat} (h0 : ∀ i, hg i i = 0) : ∀ t, t ≤ 81 → (esT hg t).length + (t + 9) / 10 ≤ t := by
  intro t
  induction t with
  | zero => intro _; exact Nat.le_of_ble_eq_true rfl
  | succ t ih =>
    intro ht
    have := ih (by omega)
    by_cases hk : kp hg t = true
    · rw [esT_t hk, List.length_append, List.length_singleton]
      have hne : t / 9 ≠ t % 9 := by
        intro e
        unfold kp at hk
        rw [← e, h0] at hk
        simp at hk
      omega
    · rw [esT_f (by simpa using hk)]
      omega
theorem getD_l {α : Type} {l m : List α} {k : Nat} {d : α} (h : k < l.length) : (l ++ m).getD k d = l.getD k d := by
  simp [List.getD_eq_getElem?_getD, List.getElem?_append_left h]
theorem getD_e {α : Type} {l : List α} {x d : α} : (l ++ [x]).getD l.length d = x := by
  simp [List.getD_eq_getElem?_getD]
/-- what hangs says -/
def Hg (hg : Nat → Nat → Nat) (w : rg_W) : Prop := (∀ t, t < 81 → w.1 5 t = nI (hg (t / 9) (t % 9))) ∧ (∀ a b, hg a b ≤ 12) ∧ ∀ i, hg i i = 0
theorem Hg.at {hg : Nat → Nat → Nat} {w : rg_W} (h : Hg hg w) {i j : Nat} (hi : i < 9) (hj : j < 9) : w.1 5 (9 * i + j) = nI (hg i j) := by
  rw [h.1 _ (by omega), show (9 * i + j) / 9 = i by omega, show (9 * i + j) % 9 = j by omega]
-- E.isSaid
def P_E_isSaid : rg_P := (rg_F_E, [], [], [], [], [], 0)
def T_E_isSaid : rg_T := fun as w K => match as with
  | [.ref 4, .int i, .int k, .int its] => ∃ hg i' k' its', Hg hg w ∧ i = nI i' ∧ k = nI k' ∧ its = nI its' ∧ i' < 9 ∧ k' < 9 ∧ its' ≤ 12 ∧ K (some (.int (zI (sdE hg i' k' its')))) w
  | _ => False
theorem Te_E_isSaid (i : Int32) (k : Int32) (its : Int32) (w : rg_W) (K : Option Value → rg_W → Prop) : T_E_isSaid [.ref 4, .int i, .int k, .int its] w K = (∃ hg i' k' its', Hg hg w ∧ i = nI i' ∧ k = nI k' ∧ its = nI its' ∧ i' < 9 ∧ k' < 9 ∧ its' ≤ 12 ∧ K (some (.int (zI (sdE hg i' k' its')))) w) := rfl
theorem r_E_isSaid : ∀ as w K, T_E_isSaid as w K → ∃ r, as = .ref 4 :: r := by
  intro as w K h
  unfold T_E_isSaid at h
  split at h
  · exact ⟨_, rfl⟩
  · exact h.elim
theorem G_E_isSaid (l : Launch) : rg_Good l y_E_isSaid c_E_isSaid 7 (some .boolean) 0 T_E_isSaid := by
  refine rg_good_of (P := P_E_isSaid) (by decide) (rg_pok rg_F_E_ok rg_nil) ?_
  intro as w K Z hT hZ
  unfold T_E_isSaid at hT
  split at hT
  rotate_left
  · exact hT.elim
  rename_i i k its
  refine ⟨Nat.le_of_ble_eq_true rfl, ?_⟩
  show Z 0 [.ref 4, .int i, .int k, .int its, .null, .null, .null] [] w 0
  obtain ⟨hg, i', k', its', hH, rfl, rfl, rfl, hi, hk, hs, hK⟩ := hT
  have loop : ∀ (j : Nat) (a5 a6 : Value), (j ≤ 9 ∧ ∀ b, b < j → (!decide (hg i' b = 0) && !decide (hg b k' = 0) && decide (hg i' b + hg b k' = its')) = false) → Z 3 [.ref 4, .int (nI i'), .int (nI k'), .int (nI its'), .int (nI j), a5, a6] [] w 0 := by
    refine rg_lp3 _ _ (fun j _ _ => 9 - j) ?_
    intro j a5 a6 ⟨hj, hno⟩ ih
    rcases Nat.lt_or_ge j 9 with hj9 | hj9
    · have x1 : nI i' * nI 9 + nI j = nI (9 * i' + j) := by rw [pk_mul, nI_add, Nat.mul_comm]
      have x2 : nI j * nI 9 + nI k' = nI (9 * j + k') := by rw [pk_mul, nI_add, Nat.mul_comm]
      have v1 : vp_in (nI (9 * i' + j)) 81 := vp_in_nI (by omega) (by omega)
      have v2 : vp_in (nI (9 * j + k')) 81 := vp_in_nI (by omega) (by omega)
      have c1 : (nI (9 * i' + j)).toNatClampNeg = 9 * i' + j := nI_clamp (by omega)
      have c2 : (nI (9 * j + k')).toNatClampNeg = 9 * j + k' := nI_clamp (by omega)
      have e1 := hH.at hi hj9
      have e2 := hH.at hj9 hk
      have b1 := hH.2.1 i' j
      have b2 := hH.2.1 j k'
      have next : (!decide (hg i' j = 0) && !decide (hg j k' = 0) && decide (hg i' j + hg j k' = its')) = false → ∀ a5 a6 : Value, Z 3 [.ref 4, .int (nI i'), .int (nI k'), .int (nI its'), .int (nI (j + 1)), a5, a6] [] w 0 := by
        intro h a5 a6
        refine ih (j + 1) a5 a6 ⟨by omega, fun b hb => ?_⟩ (by omega)
        by_cases hbj : b = j
        · subst hbj; exact h
        · exact hno b (by omega)
      refine hZ (rg_cut [3]) 400 3 _ _ _ ?_; simp only [rg_e_iload_4 (cut := rg_cut [3]) (f := true) d_E_isSaid_3 rfl 5 rfl, rg_e_bipush (cut := rg_cut [3]) (f := false) d_E_isSaid_5 rfl 7 rfl (nI 9) rg_kb_9, rg_e_icmp_ge (cut := rg_cut [3]) (f := false) d_E_isSaid_7 rfl 10 rfl 65 rfl, rg_e_aload_0 (cut := rg_cut [3]) (f := false) d_E_isSaid_10 rfl 11 rfl, rg_e_getr (P := P_E_isSaid) (cut := rg_cut [3]) (f := false) d_E_isSaid_11 rfl 14 rfl 4 2 0 5 rfl (fun _ => rfl), rg_e_iload_1 (cut := rg_cut [3]) (f := false) d_E_isSaid_14 rfl 15 rfl, rg_e_bipush (cut := rg_cut [3]) (f := false) d_E_isSaid_15 rfl 17 rfl (nI 9) rg_kb_9, rg_e_imul (cut := rg_cut [3]) (f := false) d_E_isSaid_17 rfl 18 rfl, rg_e_iload_4 (cut := rg_cut [3]) (f := false) d_E_isSaid_18 rfl 20 rfl, rg_e_iadd (cut := rg_cut [3]) (f := false) d_E_isSaid_20 rfl 21 rfl, rg_e_iald (cut := rg_cut [3]) (f := false) d_E_isSaid_21 rfl 22 rfl 5 81 rfl, rg_e_istore_5 (cut := rg_cut [3]) (f := false) d_E_isSaid_22 rfl 24 rfl, rg_e_aload_0 (cut := rg_cut [3]) (f := false) d_E_isSaid_24 rfl 25 rfl, rg_e_getr (P := P_E_isSaid) (cut := rg_cut [3]) (f := false) d_E_isSaid_25 rfl 28 rfl 4 2 0 5 rfl (fun _ => rfl), rg_e_iload_4 (cut := rg_cut [3]) (f := false) d_E_isSaid_28 rfl 30 rfl, rg_e_bipush (cut := rg_cut [3]) (f := false) d_E_isSaid_30 rfl 32 rfl (nI 9) rg_kb_9, rg_e_imul (cut := rg_cut [3]) (f := false) d_E_isSaid_32 rfl 33 rfl, rg_e_iload_2 (cut := rg_cut [3]) (f := false) d_E_isSaid_33 rfl 34 rfl, rg_e_iadd (cut := rg_cut [3]) (f := false) d_E_isSaid_34 rfl 35 rfl, rg_e_iald (cut := rg_cut [3]) (f := false) d_E_isSaid_35 rfl 36 rfl 5 81 rfl, rg_e_istore_6 (cut := rg_cut [3]) (f := false) d_E_isSaid_36 rfl 38 rfl, rg_e_iload_5 (cut := rg_cut [3]) (f := false) d_E_isSaid_38 rfl 40 rfl, rg_e_if_eq (cut := rg_cut [3]) (f := false) d_E_isSaid_40 rfl 43 rfl 59 rfl, rg_e_iload_6 (cut := rg_cut [3]) (f := false) d_E_isSaid_43 rfl 45 rfl, rg_e_if_eq (cut := rg_cut [3]) (f := false) d_E_isSaid_45 rfl 48 rfl 59 rfl, rg_e_iload_5 (cut := rg_cut [3]) (f := false) d_E_isSaid_48 rfl 50 rfl, rg_e_iload_6 (cut := rg_cut [3]) (f := false) d_E_isSaid_50 rfl 52 rfl, rg_e_iadd (cut := rg_cut [3]) (f := false) d_E_isSaid_52 rfl 53 rfl, rg_e_iload_3 (cut := rg_cut [3]) (f := false) d_E_isSaid_53 rfl 54 rfl, rg_e_icmp_ne (cut := rg_cut [3]) (f := false) d_E_isSaid_54 rfl 57 rfl 59 rfl, rg_e_iconst (cut := rg_cut [3]) (f := false) d_E_isSaid_57 rfl 58 rfl (nI 1) rg_ki_1, rg_e_iret (cut := rg_cut [3]) (f := false) d_E_isSaid_58 rfl, rg_e_iinc_4 (cut := rg_cut [3]) (f := false) d_E_isSaid_59 rfl 62 rfl (nI 1) rg_ki_1, rg_e_goto (cut := rg_cut [3]) (f := false) d_E_isSaid_62 rfl 3 rfl, rg_e_iconst (cut := rg_cut [3]) (f := false) d_E_isSaid_65 rfl 66 rfl (nI 0) rg_ki_0, rg_e_iret (cut := rg_cut [3]) (f := false) d_E_isSaid_66 rfl, rg_e_cut (cut := rg_cut [3]) 3 rfl, rg_nx_i, rg_nx_v, rg_wd_n, rg_wd_i, rg_wd_l, rg_wd_r, rg_clr_i, rg_clr_l, rg_clr_r, rg_clr_a, rg_clr_n, true_and, and_true, Nat.reduceAdd, Nat.reduceLeDiff, rg_rt_e, rg_fit_ie, rg_fit_ve, rg_fit_1e, rg_fit_0e, rg_fit_be, x1, x2, v1, v2, c1, c2, e1, e2, nI_add]
      rw [nI_lep (by omega) (by omega), nI_eq0 (by omega), nI_eq0 (by omega), nI_eqp (by omega) (by omega)]
      refine ⟨fun h => by omega, fun _ => ⟨fun h => next (by simp [h]) _ _, fun h => ⟨fun h1 => next (by simp [h1]) _ _, fun h1 => ⟨fun h2 => next (by simp [h2]) _ _, fun h2 => ?_⟩⟩⟩⟩
      have h2 := Classical.not_not.mp h2
      have : sdE hg i' k' its' = true := List.any_eq_true.mpr ⟨j, List.mem_range.mpr hj9, by simp [h, h1, h2]⟩
      rw [this] at hK
      exact hK
    · obtain rfl : j = 9 := by omega
      refine hZ (rg_cut [3]) 400 3 _ _ _ ?_; simp only [rg_e_iload_4 (cut := rg_cut [3]) (f := true) d_E_isSaid_3 rfl 5 rfl, rg_e_bipush (cut := rg_cut [3]) (f := false) d_E_isSaid_5 rfl 7 rfl (nI 9) rg_kb_9, rg_e_icmp_ge (cut := rg_cut [3]) (f := false) d_E_isSaid_7 rfl 10 rfl 65 rfl, rg_e_aload_0 (cut := rg_cut [3]) (f := false) d_E_isSaid_10 rfl 11 rfl, rg_e_getr (P := P_E_isSaid) (cut := rg_cut [3]) (f := false) d_E_isSaid_11 rfl 14 rfl 4 2 0 5 rfl (fun _ => rfl), rg_e_iload_1 (cut := rg_cut [3]) (f := false) d_E_isSaid_14 rfl 15 rfl, rg_e_bipush (cut := rg_cut [3]) (f := false) d_E_isSaid_15 rfl 17 rfl (nI 9) rg_kb_9, rg_e_imul (cut := rg_cut [3]) (f := false) d_E_isSaid_17 rfl 18 rfl, rg_e_iload_4 (cut := rg_cut [3]) (f := false) d_E_isSaid_18 rfl 20 rfl, rg_e_iadd (cut := rg_cut [3]) (f := false) d_E_isSaid_20 rfl 21 rfl, rg_e_iald (cut := rg_cut [3]) (f := false) d_E_isSaid_21 rfl 22 rfl 5 81 rfl, rg_e_istore_5 (cut := rg_cut [3]) (f := false) d_E_isSaid_22 rfl 24 rfl, rg_e_aload_0 (cut := rg_cut [3]) (f := false) d_E_isSaid_24 rfl 25 rfl, rg_e_getr (P := P_E_isSaid) (cut := rg_cut [3]) (f := false) d_E_isSaid_25 rfl 28 rfl 4 2 0 5 rfl (fun _ => rfl), rg_e_iload_4 (cut := rg_cut [3]) (f := false) d_E_isSaid_28 rfl 30 rfl, rg_e_bipush (cut := rg_cut [3]) (f := false) d_E_isSaid_30 rfl 32 rfl (nI 9) rg_kb_9, rg_e_imul (cut := rg_cut [3]) (f := false) d_E_isSaid_32 rfl 33 rfl, rg_e_iload_2 (cut := rg_cut [3]) (f := false) d_E_isSaid_33 rfl 34 rfl, rg_e_iadd (cut := rg_cut [3]) (f := false) d_E_isSaid_34 rfl 35 rfl, rg_e_iald (cut := rg_cut [3]) (f := false) d_E_isSaid_35 rfl 36 rfl 5 81 rfl, rg_e_istore_6 (cut := rg_cut [3]) (f := false) d_E_isSaid_36 rfl 38 rfl, rg_e_iload_5 (cut := rg_cut [3]) (f := false) d_E_isSaid_38 rfl 40 rfl, rg_e_if_eq (cut := rg_cut [3]) (f := false) d_E_isSaid_40 rfl 43 rfl 59 rfl, rg_e_iload_6 (cut := rg_cut [3]) (f := false) d_E_isSaid_43 rfl 45 rfl, rg_e_if_eq (cut := rg_cut [3]) (f := false) d_E_isSaid_45 rfl 48 rfl 59 rfl, rg_e_iload_5 (cut := rg_cut [3]) (f := false) d_E_isSaid_48 rfl 50 rfl, rg_e_iload_6 (cut := rg_cut [3]) (f := false) d_E_isSaid_50 rfl 52 rfl, rg_e_iadd (cut := rg_cut [3]) (f := false) d_E_isSaid_52 rfl 53 rfl, rg_e_iload_3 (cut := rg_cut [3]) (f := false) d_E_isSaid_53 rfl 54 rfl, rg_e_icmp_ne (cut := rg_cut [3]) (f := false) d_E_isSaid_54 rfl 57 rfl 59 rfl, rg_e_iconst (cut := rg_cut [3]) (f := false) d_E_isSaid_57 rfl 58 rfl (nI 1) rg_ki_1, rg_e_iret (cut := rg_cut [3]) (f := false) d_E_isSaid_58 rfl, rg_e_iinc_4 (cut := rg_cut [3]) (f := false) d_E_isSaid_59 rfl 62 rfl (nI 1) rg_ki_1, rg_e_goto (cut := rg_cut [3]) (f := false) d_E_isSaid_62 rfl 3 rfl, rg_e_iconst (cut := rg_cut [3]) (f := false) d_E_isSaid_65 rfl 66 rfl (nI 0) rg_ki_0, rg_e_iret (cut := rg_cut [3]) (f := false) d_E_isSaid_66 rfl, rg_e_cut (cut := rg_cut [3]) 3 rfl, rg_nx_i, rg_nx_v, rg_wd_n, rg_wd_i, rg_wd_l, rg_wd_r, rg_clr_i, rg_clr_l, rg_clr_r, rg_clr_a, rg_clr_n, true_and, and_true, Nat.reduceAdd, Nat.reduceLeDiff, rg_rt_e, rg_fit_ie, rg_fit_ve, rg_fit_1e, rg_fit_0e, rg_fit_be]
      refine ⟨fun _ => ?_, fun h => absurd (nI_le hj9 (by omega)) h⟩
      have : sdE hg i' k' its' = false := List.any_eq_false.mpr (fun b hb => by rw [hno b (List.mem_range.mp hb)]; decide)
      rw [this] at hK
      exact hK
  refine hZ (rg_cut [3]) 400 0 _ _ _ ?_; simp only [rg_e_iconst (cut := rg_cut [3]) (f := true) d_E_isSaid_0 rfl 1 rfl (nI 0) rg_ki_0, rg_e_istore_4 (cut := rg_cut [3]) (f := false) d_E_isSaid_1 rfl 3 rfl, rg_e_cut (cut := rg_cut [3]) 3 rfl, rg_nx_i, rg_nx_v, rg_wd_n, rg_wd_i, rg_wd_l, rg_wd_r, rg_clr_i, rg_clr_l, rg_clr_r, rg_clr_a, rg_clr_n, true_and, and_true, Nat.reduceAdd, Nat.reduceLeDiff, rg_rt_e, rg_fit_ie, rg_fit_ve, rg_fit_1e, rg_fit_0e, rg_fit_be]
  exact loop 0 _ _ ⟨by omega, fun b hb => absurd hb (by omega)⟩
/-- the arrays of edges hold those that are left of the first t places -/
def GE (hg : Nat → Nat → Nat) (t : Nat) (w : rg_W) : Prop := w.1 4 10 = nI (esT hg t).length ∧
  (∀ k, k < (esT hg t).length → w.1 6 k = nI ((esT hg t).getD k 0 / 9) ∧ w.1 7 k = nI ((esT hg t).getD k 0 % 9) ∧ w.1 8 k = nI (hg ((esT hg t).getD k 0 / 9) ((esT hg t).getD k 0 % 9))) ∧
  (∀ a, a < 9 → BS (w.1 10 a) (fun b => decide (9 * a + b < t) && kp hg (9 * a + b))) ∧ ∀ b, b < 9 → BS (w.1 11 b) (fun a => decide (9 * a + b < t) && kp hg (9 * a + b))
theorem GE.fr {hg : Nat → Nat → Nat} {t : Nat} {w w' : rg_W} (h : GE hg t w) (h4 : w'.1 4 10 = w.1 4 10) (h6 : w'.1 6 = w.1 6) (h7 : w'.1 7 = w.1 7) (h8 : w'.1 8 = w.1 8) (h10 : w'.1 10 = w.1 10) (h11 : w'.1 11 = w.1 11) : GE hg t w' := by
  unfold GE at h ⊢
  rw [h4, h6, h7, h8, h10, h11]
  exact h
theorem GE.skip {hg : Nat → Nat → Nat} {t : Nat} {w : rg_W} (h : GE hg t w) (hk : kp hg t = false) : GE hg (t + 1) w := by
  obtain ⟨h1, h2, h3, h4⟩ := h
  unfold GE
  rw [esT_f hk]
  refine ⟨h1, h2, fun a ha => (h3 a ha).cg fun b hb => ?_, fun b hb => (h4 b hb).cg fun a ha => ?_⟩
  all_goals
    by_cases e : 9 * a + b = t
    · rw [e, hk]; simp
    · congr 1
      simp only [decide_eq_decide]
      omega
-- E.keepUnsaid
def P_E_keepUnsaid : rg_P := (rg_F_E, [(157, 4, 0, T_E_isSaid)], [], [], [], [], 0)
def T_E_keepUnsaid : rg_T := fun as w K => match as with
  | [.ref 4, .int i] => ∃ hg i', Hg hg w ∧ i = nI i' ∧ i' < 9 ∧ GE hg (9 * i') w ∧ ∀ w', rg_fr [4, 6, 7, 8, 10, 11] w w' → (∀ q, q ≠ 10 → w'.1 4 q = w.1 4 q) → GE hg (9 * (i' + 1)) w' → K none w'
  | _ => False
theorem Te_E_keepUnsaid (i : Int32) (w : rg_W) (K : Option Value → rg_W → Prop) : T_E_keepUnsaid [.ref 4, .int i] w K = (∃ hg i', Hg hg w ∧ i = nI i' ∧ i' < 9 ∧ GE hg (9 * i') w ∧ ∀ w', rg_fr [4, 6, 7, 8, 10, 11] w w' → (∀ q, q ≠ 10 → w'.1 4 q = w.1 4 q) → GE hg (9 * (i' + 1)) w' → K none w') := rfl
theorem r_E_keepUnsaid : ∀ as w K, T_E_keepUnsaid as w K → ∃ r, as = .ref 4 :: r := by
  intro as w K h
  unfold T_E_keepUnsaid at h
  split at h
  · exact ⟨_, rfl⟩
  · exact h.elim
theorem G_E_keepUnsaid (l : Launch) : rg_Good l y_E_keepUnsaid c_E_keepUnsaid 4 none 1 T_E_keepUnsaid := by
  refine rg_good_of (P := P_E_keepUnsaid) (by decide) (rg_pok rg_F_E_ok (rg_cons (cw_E_78 (G_E_isSaid l) (by decide) r_E_isSaid) rg_nil)) ?_
  intro as w K Z hT hZ
  unfold T_E_keepUnsaid at hT
  split at hT
  rotate_left
  · exact hT.elim
  rename_i i
  refine ⟨Nat.le_of_ble_eq_true rfl, ?_⟩
  show Z 0 [.ref 4, .int i, .null, .null] [] w 0
  obtain ⟨hg, i, hH, rfl, hi, hG, hK⟩ := hT
  have loop : ∀ (j : Nat) (w1 : rg_W) (a3 : Value), (j ≤ 9 ∧ rg_fr [4, 6, 7, 8, 10, 11] w w1 ∧ (∀ q, q ≠ 10 → w1.1 4 q = w.1 4 q) ∧ GE hg (9 * i + j) w1) → Z 2 [.ref 4, .int (nI i), .int (nI j), a3] [] w1 0 := by
    refine rg_lp3 _ _ (fun j _ _ => 9 - j) ?_
    intro j w1 a3 ⟨hj, hf, h4, hG1⟩ ih
    rcases Nat.lt_or_ge j 9 with hj9 | hj9
    · have x1 : nI i * nI 9 + nI j = nI (9 * i + j) := by rw [pk_mul, nI_add, Nat.mul_comm]
      have v1 : vp_in (nI (9 * i + j)) 81 := vp_in_nI (by omega) (by omega)
      have c1 : (nI (9 * i + j)).toNatClampNeg = 9 * i + j := nI_clamp (by omega)
      have hH1 : Hg hg w1 := ⟨fun t ht => by rw [hf.1 5 (by decide)]; exact hH.1 t ht, hH.2⟩
      have e1 := hH1.at hi hj9
      have b1 := hH.2.1 i j
      have hd : (9 * i + j) / 9 = i ∧ (9 * i + j) % 9 = j := by omega
      have hkp : kp hg (9 * i + j) = (!decide (hg i j = 0) && !sdE hg i j (hg i j)) := by unfold kp; rw [hd.1, hd.2]
      have skip : kp hg (9 * i + j) = false → ∀ a3 : Value, Z 2 [.ref 4, .int (nI i), .int (nI (j + 1)), a3] [] w1 0 :=
        fun h a3 => ih (j + 1) w1 a3 ⟨by omega, hf, h4, hG1.skip h⟩ (by omega)
      have hlen := esT_len hH.2.2 (9 * i + j) (by omega)
      have hlen1 := esT_len hH.2.2 (9 * i + j + 1) (by omega)
      obtain ⟨g1, g2, g3, g4⟩ := id hG1
      have vi : vp_in (nI i) 9 := vp_in_nI hi (by omega)
      have vj : vp_in (nI j) 9 := vp_in_nI hj9 (by omega)
      have ci : (nI i).toNatClampNeg = i := nI_clamp (by omega)
      have cj : (nI j).toNatClampNeg = j := nI_clamp (by omega)
      have cl : (nI (esT hg (9 * i + j)).length).toNatClampNeg = (esT hg (9 * i + j)).length := nI_clamp (by omega)
      have e4 : ∀ (k q : Nat) (x : Int32), k ≠ 4 → (rg_up w1 k q x).1 4 10 = w1.1 4 10 := fun k q x h => by rw [rg_up_n (fun z => h z.symm)]
      refine hZ (rg_cut [2]) 400 2 _ _ _ ?_; simp only [rg_e_iload_2 (cut := rg_cut [2]) (f := true) d_E_keepUnsaid_2 rfl 3 rfl, rg_e_bipush (cut := rg_cut [2]) (f := false) d_E_keepUnsaid_3 rfl 5 rfl (nI 9) rg_kb_9, rg_e_icmp_ge (cut := rg_cut [2]) (f := false) d_E_keepUnsaid_5 rfl 8 rfl 113 rfl, rg_e_aload_0 (cut := rg_cut [2]) (f := false) d_E_keepUnsaid_8 rfl 9 rfl, rg_e_getr (P := P_E_keepUnsaid) (cut := rg_cut [2]) (f := false) d_E_keepUnsaid_9 rfl 12 rfl 4 2 0 5 rfl (fun _ => rfl), rg_e_iload_1 (cut := rg_cut [2]) (f := false) d_E_keepUnsaid_12 rfl 13 rfl, rg_e_bipush (cut := rg_cut [2]) (f := false) d_E_keepUnsaid_13 rfl 15 rfl (nI 9) rg_kb_9, rg_e_imul (cut := rg_cut [2]) (f := false) d_E_keepUnsaid_15 rfl 16 rfl, rg_e_iload_2 (cut := rg_cut [2]) (f := false) d_E_keepUnsaid_16 rfl 17 rfl, rg_e_iadd (cut := rg_cut [2]) (f := false) d_E_keepUnsaid_17 rfl 18 rfl, rg_e_iald (cut := rg_cut [2]) (f := false) d_E_keepUnsaid_18 rfl 19 rfl 5 81 rfl, rg_e_istore_3 (cut := rg_cut [2]) (f := false) d_E_keepUnsaid_19 rfl 20 rfl, rg_e_iload_3 (cut := rg_cut [2]) (f := false) d_E_keepUnsaid_20 rfl 21 rfl, rg_e_if_eq (cut := rg_cut [2]) (f := false) d_E_keepUnsaid_21 rfl 24 rfl 107 rfl, rg_e_aload_0 (cut := rg_cut [2]) (f := false) d_E_keepUnsaid_24 rfl 25 rfl, rg_e_iload_1 (cut := rg_cut [2]) (f := false) d_E_keepUnsaid_25 rfl 26 rfl, rg_e_iload_2 (cut := rg_cut [2]) (f := false) d_E_keepUnsaid_26 rfl 27 rfl, rg_e_iload_3 (cut := rg_cut [2]) (f := false) d_E_keepUnsaid_27 rfl 28 rfl, rg_e_cv4 (P := P_E_keepUnsaid) (cut := rg_cut [2]) (f := false) d_E_keepUnsaid_28 rfl T_E_isSaid rfl, rg_e_if_ne (cut := rg_cut [2]) (f := false) d_E_keepUnsaid_31 rfl 34 rfl 107 rfl, rg_e_aload_0 (cut := rg_cut [2]) (f := false) d_E_keepUnsaid_34 rfl 35 rfl, rg_e_geti (P := P_E_keepUnsaid) (cut := rg_cut [2]) (f := false) d_E_keepUnsaid_35 rfl 38 rfl 4 2 10 rfl (fun _ => rfl), rg_e_bipush (cut := rg_cut [2]) (f := false) d_E_keepUnsaid_38 rfl 40 rfl (nI 72) rg_kb_72, rg_e_icmp_ge (cut := rg_cut [2]) (f := false) d_E_keepUnsaid_40 rfl 43 rfl 107 rfl, rg_e_aload_0 (cut := rg_cut [2]) (f := false) d_E_keepUnsaid_43 rfl 44 rfl, rg_e_getr (P := P_E_keepUnsaid) (cut := rg_cut [2]) (f := false) d_E_keepUnsaid_44 rfl 47 rfl 4 2 1 6 rfl (fun _ => rfl), rg_e_aload_0 (cut := rg_cut [2]) (f := false) d_E_keepUnsaid_47 rfl 48 rfl, rg_e_geti (P := P_E_keepUnsaid) (cut := rg_cut [2]) (f := false) d_E_keepUnsaid_48 rfl 51 rfl 4 2 10 rfl (fun _ => rfl), rg_e_iload_1 (cut := rg_cut [2]) (f := false) d_E_keepUnsaid_51 rfl 52 rfl, rg_e_iast (cut := rg_cut [2]) (f := false) d_E_keepUnsaid_52 rfl 53 rfl 6 72 rfl, rg_e_aload_0 (cut := rg_cut [2]) (f := false) d_E_keepUnsaid_53 rfl 54 rfl, rg_e_getr (P := P_E_keepUnsaid) (cut := rg_cut [2]) (f := false) d_E_keepUnsaid_54 rfl 57 rfl 4 2 2 7 rfl (fun _ => rfl), rg_e_aload_0 (cut := rg_cut [2]) (f := false) d_E_keepUnsaid_57 rfl 58 rfl, rg_e_geti (P := P_E_keepUnsaid) (cut := rg_cut [2]) (f := false) d_E_keepUnsaid_58 rfl 61 rfl 4 2 10 rfl (fun _ => rfl), rg_e_iload_2 (cut := rg_cut [2]) (f := false) d_E_keepUnsaid_61 rfl 62 rfl, rg_e_iast (cut := rg_cut [2]) (f := false) d_E_keepUnsaid_62 rfl 63 rfl 7 72 rfl, rg_e_aload_0 (cut := rg_cut [2]) (f := false) d_E_keepUnsaid_63 rfl 64 rfl, rg_e_getr (P := P_E_keepUnsaid) (cut := rg_cut [2]) (f := false) d_E_keepUnsaid_64 rfl 67 rfl 4 2 3 8 rfl (fun _ => rfl), rg_e_aload_0 (cut := rg_cut [2]) (f := false) d_E_keepUnsaid_67 rfl 68 rfl, rg_e_geti (P := P_E_keepUnsaid) (cut := rg_cut [2]) (f := false) d_E_keepUnsaid_68 rfl 71 rfl 4 2 10 rfl (fun _ => rfl), rg_e_iload_3 (cut := rg_cut [2]) (f := false) d_E_keepUnsaid_71 rfl 72 rfl, rg_e_iast (cut := rg_cut [2]) (f := false) d_E_keepUnsaid_72 rfl 73 rfl 8 72 rfl, rg_e_aload_0 (cut := rg_cut [2]) (f := false) d_E_keepUnsaid_73 rfl 74 rfl, rg_e_getr (P := P_E_keepUnsaid) (cut := rg_cut [2]) (f := false) d_E_keepUnsaid_74 rfl 77 rfl 4 2 5 10 rfl (fun _ => rfl), rg_e_iload_1 (cut := rg_cut [2]) (f := false) d_E_keepUnsaid_77 rfl 78 rfl, rg_e_dup2ri (cut := rg_cut [2]) (f := false) d_E_keepUnsaid_78 rfl 79 rfl, rg_e_iald (cut := rg_cut [2]) (f := false) d_E_keepUnsaid_79 rfl 80 rfl 10 9 rfl, rg_e_iconst (cut := rg_cut [2]) (f := false) d_E_keepUnsaid_80 rfl 81 rfl (nI 1) rg_ki_1, rg_e_iload_2 (cut := rg_cut [2]) (f := false) d_E_keepUnsaid_81 rfl 82 rfl, rg_e_ishl (cut := rg_cut [2]) (f := false) d_E_keepUnsaid_82 rfl 83 rfl, rg_e_ior (cut := rg_cut [2]) (f := false) d_E_keepUnsaid_83 rfl 84 rfl, rg_e_iast (cut := rg_cut [2]) (f := false) d_E_keepUnsaid_84 rfl 85 rfl 10 9 rfl, rg_e_aload_0 (cut := rg_cut [2]) (f := false) d_E_keepUnsaid_85 rfl 86 rfl, rg_e_getr (P := P_E_keepUnsaid) (cut := rg_cut [2]) (f := false) d_E_keepUnsaid_86 rfl 89 rfl 4 2 6 11 rfl (fun _ => rfl), rg_e_iload_2 (cut := rg_cut [2]) (f := false) d_E_keepUnsaid_89 rfl 90 rfl, rg_e_dup2ri (cut := rg_cut [2]) (f := false) d_E_keepUnsaid_90 rfl 91 rfl, rg_e_iald (cut := rg_cut [2]) (f := false) d_E_keepUnsaid_91 rfl 92 rfl 11 9 rfl, rg_e_iconst (cut := rg_cut [2]) (f := false) d_E_keepUnsaid_92 rfl 93 rfl (nI 1) rg_ki_1, rg_e_iload_1 (cut := rg_cut [2]) (f := false) d_E_keepUnsaid_93 rfl 94 rfl, rg_e_ishl (cut := rg_cut [2]) (f := false) d_E_keepUnsaid_94 rfl 95 rfl, rg_e_ior (cut := rg_cut [2]) (f := false) d_E_keepUnsaid_95 rfl 96 rfl, rg_e_iast (cut := rg_cut [2]) (f := false) d_E_keepUnsaid_96 rfl 97 rfl 11 9 rfl, rg_e_aload_0 (cut := rg_cut [2]) (f := false) d_E_keepUnsaid_97 rfl 98 rfl, rg_e_dupr (cut := rg_cut [2]) (f := false) d_E_keepUnsaid_98 rfl 99 rfl, rg_e_geti (P := P_E_keepUnsaid) (cut := rg_cut [2]) (f := false) d_E_keepUnsaid_99 rfl 102 rfl 4 2 10 rfl (fun _ => rfl), rg_e_iconst (cut := rg_cut [2]) (f := false) d_E_keepUnsaid_102 rfl 103 rfl (nI 1) rg_ki_1, rg_e_iadd (cut := rg_cut [2]) (f := false) d_E_keepUnsaid_103 rfl 104 rfl, rg_e_put (P := P_E_keepUnsaid) (cut := rg_cut [2]) (f := false) d_E_keepUnsaid_104 rfl 107 rfl 4 2 10 rfl rfl, rg_e_iinc_2 (cut := rg_cut [2]) (f := false) d_E_keepUnsaid_107 rfl 110 rfl (nI 1) rg_ki_1, rg_e_goto (cut := rg_cut [2]) (f := false) d_E_keepUnsaid_110 rfl 2 rfl, rg_e_vret (cut := rg_cut [2]) (f := false) d_E_keepUnsaid_113 rfl, rg_e_cut (cut := rg_cut [2]) 2 rfl, rg_nx_i, rg_nx_v, rg_wd_n, rg_wd_i, rg_wd_l, rg_wd_r, rg_clr_i, rg_clr_l, rg_clr_r, rg_clr_a, rg_clr_n, true_and, and_true, Nat.reduceAdd, Nat.reduceLeDiff, ↓Te_E_isSaid, rg_rt_e, rg_fit_ie, rg_fit_ve, rg_fit_1e, rg_fit_0e, rg_fit_be, x1, v1, c1, e1, vi, vj, ci, cj, nI_add, zI_eq, rg_up_n, ne_eq, not_false_eq_true, Nat.reduceEqDiff, g1, cl]
      rw [nI_lep (by omega) (by omega), nI_eq0 (by omega)]
      refine ⟨fun h => by omega, fun _ => ⟨fun h => skip (by rw [hkp]; simp [h]) _, fun h => ⟨hg, i, j, hg i j, hH1, rfl, rfl, rfl, hi, hj9, b1, fun h1 => skip (by rw [hkp]; simp at h1; simp [h1]) _, fun h1 => ?_⟩⟩⟩
      have h1 : sdE hg i j (hg i j) = false := Classical.not_not.mp h1
      have hk : kp hg (9 * i + j) = true := by rw [hkp, h1]; simp [h]
      have hl : (esT hg (9 * i + j)).length < 72 := by
        rw [esT_t hk, List.length_append, List.length_singleton] at hlen1
        omega
      have vl : vp_in (nI (esT hg (9 * i + j)).length) 72 := vp_in_nI hl (by omega)
      refine ⟨fun h2 => absurd h2 (nI_ge hl (by omega)), fun _ => ⟨vl, vl, vl, ?_⟩⟩
      have nx : GE hg (9 * i + (j + 1)) (rg_up (rg_up (rg_up (rg_up (rg_up (rg_up w1 6 (esT hg (9 * i + j)).length (nI i)) 7 (esT hg (9 * i + j)).length (nI j)) 8 (esT hg (9 * i + j)).length (nI (hg i j))) 10 i (w1.1 10 i ||| nI 1 <<< (nI j &&& 31))) 11 j (w1.1 11 j ||| nI 1 <<< (nI i &&& 31))) 4 10 (nI ((esT hg (9 * i + j)).length + 1))) := by
        unfold GE
        rw [show 9 * i + (j + 1) = 9 * i + j + 1 by omega, esT_t hk]
        refine ⟨by rw [rg_up_ss, List.length_append, List.length_singleton], fun k hkl => ?_, fun a ha => ?_, fun b hb => ?_⟩
        · rw [List.length_append, List.length_singleton] at hkl
          simp only [rg_up_s, rg_up_n, ne_eq, not_false_eq_true, Nat.reduceEqDiff]
          by_cases hke : k = (esT hg (9 * i + j)).length
          · subst hke
            rw [getD_e, upd_s, upd_s, upd_s, hd.1, hd.2]
            exact ⟨rfl, rfl, rfl⟩
          · rw [getD_l (by omega), upd_n hke, upd_n hke, upd_n hke]
            exact g2 k (by omega)
        · simp only [rg_up_s, rg_up_n, ne_eq, not_false_eq_true, Nat.reduceEqDiff]
          by_cases hai : a = i
          · subst hai
            rw [upd_s]
            refine ((g3 a ha).put hj9).cg fun b hb => ?_
            by_cases hbj : b = j
            · subst hbj
              rw [hk]
              simp
            · simp only [hbj, decide_false, Bool.or_false]
              congr 1
              simp only [decide_eq_decide]
              omega
          · rw [upd_n hai]
            refine (g3 a ha).cg fun b hb => ?_
            congr 1
            simp only [decide_eq_decide]
            omega
        · simp only [rg_up_s, rg_up_n, ne_eq, not_false_eq_true, Nat.reduceEqDiff]
          by_cases hbj : b = j
          · subst hbj
            rw [upd_s]
            refine ((g4 b hb).put hi).cg fun a ha => ?_
            by_cases hai : a = i
            · subst hai
              rw [hk]
              simp
            · simp only [hai, decide_false, Bool.or_false]
              congr 1
              simp only [decide_eq_decide]
              omega
          · rw [upd_n hbj]
            refine (g4 b hb).cg fun a ha => ?_
            congr 1
            simp only [decide_eq_decide]
            omega
      refine ih (j + 1) _ _ ⟨by omega, ?_, fun q hq => ?_, nx⟩ (by omega)
      · exact rg_fr_up (rg_fr_up (rg_fr_up (rg_fr_up (rg_fr_up (rg_fr_up hf (by decide) _ _) (by decide) _ _) (by decide) _ _) (by decide) _ _) (by decide) _ _) (by decide) _ _
      · simp only [rg_up_s, rg_up_n, ne_eq, not_false_eq_true, Nat.reduceEqDiff]
        rw [upd_n hq]
        exact h4 q hq
    · obtain rfl : j = 9 := by omega
      refine hZ (rg_cut [2]) 400 2 _ _ _ ?_; simp only [rg_e_iload_2 (cut := rg_cut [2]) (f := true) d_E_keepUnsaid_2 rfl 3 rfl, rg_e_bipush (cut := rg_cut [2]) (f := false) d_E_keepUnsaid_3 rfl 5 rfl (nI 9) rg_kb_9, rg_e_icmp_ge (cut := rg_cut [2]) (f := false) d_E_keepUnsaid_5 rfl 8 rfl 113 rfl, rg_e_aload_0 (cut := rg_cut [2]) (f := false) d_E_keepUnsaid_8 rfl 9 rfl, rg_e_getr (P := P_E_keepUnsaid) (cut := rg_cut [2]) (f := false) d_E_keepUnsaid_9 rfl 12 rfl 4 2 0 5 rfl (fun _ => rfl), rg_e_iload_1 (cut := rg_cut [2]) (f := false) d_E_keepUnsaid_12 rfl 13 rfl, rg_e_bipush (cut := rg_cut [2]) (f := false) d_E_keepUnsaid_13 rfl 15 rfl (nI 9) rg_kb_9, rg_e_imul (cut := rg_cut [2]) (f := false) d_E_keepUnsaid_15 rfl 16 rfl, rg_e_iload_2 (cut := rg_cut [2]) (f := false) d_E_keepUnsaid_16 rfl 17 rfl, rg_e_iadd (cut := rg_cut [2]) (f := false) d_E_keepUnsaid_17 rfl 18 rfl, rg_e_iald (cut := rg_cut [2]) (f := false) d_E_keepUnsaid_18 rfl 19 rfl 5 81 rfl, rg_e_istore_3 (cut := rg_cut [2]) (f := false) d_E_keepUnsaid_19 rfl 20 rfl, rg_e_iload_3 (cut := rg_cut [2]) (f := false) d_E_keepUnsaid_20 rfl 21 rfl, rg_e_if_eq (cut := rg_cut [2]) (f := false) d_E_keepUnsaid_21 rfl 24 rfl 107 rfl, rg_e_aload_0 (cut := rg_cut [2]) (f := false) d_E_keepUnsaid_24 rfl 25 rfl, rg_e_iload_1 (cut := rg_cut [2]) (f := false) d_E_keepUnsaid_25 rfl 26 rfl, rg_e_iload_2 (cut := rg_cut [2]) (f := false) d_E_keepUnsaid_26 rfl 27 rfl, rg_e_iload_3 (cut := rg_cut [2]) (f := false) d_E_keepUnsaid_27 rfl 28 rfl, rg_e_cv4 (P := P_E_keepUnsaid) (cut := rg_cut [2]) (f := false) d_E_keepUnsaid_28 rfl T_E_isSaid rfl, rg_e_if_ne (cut := rg_cut [2]) (f := false) d_E_keepUnsaid_31 rfl 34 rfl 107 rfl, rg_e_aload_0 (cut := rg_cut [2]) (f := false) d_E_keepUnsaid_34 rfl 35 rfl, rg_e_geti (P := P_E_keepUnsaid) (cut := rg_cut [2]) (f := false) d_E_keepUnsaid_35 rfl 38 rfl 4 2 10 rfl (fun _ => rfl), rg_e_bipush (cut := rg_cut [2]) (f := false) d_E_keepUnsaid_38 rfl 40 rfl (nI 72) rg_kb_72, rg_e_icmp_ge (cut := rg_cut [2]) (f := false) d_E_keepUnsaid_40 rfl 43 rfl 107 rfl, rg_e_aload_0 (cut := rg_cut [2]) (f := false) d_E_keepUnsaid_43 rfl 44 rfl, rg_e_getr (P := P_E_keepUnsaid) (cut := rg_cut [2]) (f := false) d_E_keepUnsaid_44 rfl 47 rfl 4 2 1 6 rfl (fun _ => rfl), rg_e_aload_0 (cut := rg_cut [2]) (f := false) d_E_keepUnsaid_47 rfl 48 rfl, rg_e_geti (P := P_E_keepUnsaid) (cut := rg_cut [2]) (f := false) d_E_keepUnsaid_48 rfl 51 rfl 4 2 10 rfl (fun _ => rfl), rg_e_iload_1 (cut := rg_cut [2]) (f := false) d_E_keepUnsaid_51 rfl 52 rfl, rg_e_iast (cut := rg_cut [2]) (f := false) d_E_keepUnsaid_52 rfl 53 rfl 6 72 rfl, rg_e_aload_0 (cut := rg_cut [2]) (f := false) d_E_keepUnsaid_53 rfl 54 rfl, rg_e_getr (P := P_E_keepUnsaid) (cut := rg_cut [2]) (f := false) d_E_keepUnsaid_54 rfl 57 rfl 4 2 2 7 rfl (fun _ => rfl), rg_e_aload_0 (cut := rg_cut [2]) (f := false) d_E_keepUnsaid_57 rfl 58 rfl, rg_e_geti (P := P_E_keepUnsaid) (cut := rg_cut [2]) (f := false) d_E_keepUnsaid_58 rfl 61 rfl 4 2 10 rfl (fun _ => rfl), rg_e_iload_2 (cut := rg_cut [2]) (f := false) d_E_keepUnsaid_61 rfl 62 rfl, rg_e_iast (cut := rg_cut [2]) (f := false) d_E_keepUnsaid_62 rfl 63 rfl 7 72 rfl, rg_e_aload_0 (cut := rg_cut [2]) (f := false) d_E_keepUnsaid_63 rfl 64 rfl, rg_e_getr (P := P_E_keepUnsaid) (cut := rg_cut [2]) (f := false) d_E_keepUnsaid_64 rfl 67 rfl 4 2 3 8 rfl (fun _ => rfl), rg_e_aload_0 (cut := rg_cut [2]) (f := false) d_E_keepUnsaid_67 rfl 68 rfl, rg_e_geti (P := P_E_keepUnsaid) (cut := rg_cut [2]) (f := false) d_E_keepUnsaid_68 rfl 71 rfl 4 2 10 rfl (fun _ => rfl), rg_e_iload_3 (cut := rg_cut [2]) (f := false) d_E_keepUnsaid_71 rfl 72 rfl, rg_e_iast (cut := rg_cut [2]) (f := false) d_E_keepUnsaid_72 rfl 73 rfl 8 72 rfl, rg_e_aload_0 (cut := rg_cut [2]) (f := false) d_E_keepUnsaid_73 rfl 74 rfl, rg_e_getr (P := P_E_keepUnsaid) (cut := rg_cut [2]) (f := false) d_E_keepUnsaid_74 rfl 77 rfl 4 2 5 10 rfl (fun _ => rfl), rg_e_iload_1 (cut := rg_cut [2]) (f := false) d_E_keepUnsaid_77 rfl 78 rfl, rg_e_dup2ri (cut := rg_cut [2]) (f := false) d_E_keepUnsaid_78 rfl 79 rfl, rg_e_iald (cut := rg_cut [2]) (f := false) d_E_keepUnsaid_79 rfl 80 rfl 10 9 rfl, rg_e_iconst (cut := rg_cut [2]) (f := false) d_E_keepUnsaid_80 rfl 81 rfl (nI 1) rg_ki_1, rg_e_iload_2 (cut := rg_cut [2]) (f := false) d_E_keepUnsaid_81 rfl 82 rfl, rg_e_ishl (cut := rg_cut [2]) (f := false) d_E_keepUnsaid_82 rfl 83 rfl, rg_e_ior (cut := rg_cut [2]) (f := false) d_E_keepUnsaid_83 rfl 84 rfl, rg_e_iast (cut := rg_cut [2]) (f := false) d_E_keepUnsaid_84 rfl 85 rfl 10 9 rfl, rg_e_aload_0 (cut := rg_cut [2]) (f := false) d_E_keepUnsaid_85 rfl 86 rfl, rg_e_getr (P := P_E_keepUnsaid) (cut := rg_cut [2]) (f := false) d_E_keepUnsaid_86 rfl 89 rfl 4 2 6 11 rfl (fun _ => rfl), rg_e_iload_2 (cut := rg_cut [2]) (f := false) d_E_keepUnsaid_89 rfl 90 rfl, rg_e_dup2ri (cut := rg_cut [2]) (f := false) d_E_keepUnsaid_90 rfl 91 rfl, rg_e_iald (cut := rg_cut [2]) (f := false) d_E_keepUnsaid_91 rfl 92 rfl 11 9 rfl, rg_e_iconst (cut := rg_cut [2]) (f := false) d_E_keepUnsaid_92 rfl 93 rfl (nI 1) rg_ki_1, rg_e_iload_1 (cut := rg_cut [2]) (f := false) d_E_keepUnsaid_93 rfl 94 rfl, rg_e_ishl (cut := rg_cut [2]) (f := false) d_E_keepUnsaid_94 rfl 95 rfl, rg_e_ior (cut := rg_cut [2]) (f := false) d_E_keepUnsaid_95 rfl 96 rfl, rg_e_iast (cut := rg_cut [2]) (f := false) d_E_keepUnsaid_96 rfl 97 rfl 11 9 rfl, rg_e_aload_0 (cut := rg_cut [2]) (f := false) d_E_keepUnsaid_97 rfl 98 rfl, rg_e_dupr (cut := rg_cut [2]) (f := false) d_E_keepUnsaid_98 rfl 99 rfl, rg_e_geti (P := P_E_keepUnsaid) (cut := rg_cut [2]) (f := false) d_E_keepUnsaid_99 rfl 102 rfl 4 2 10 rfl (fun _ => rfl), rg_e_iconst (cut := rg_cut [2]) (f := false) d_E_keepUnsaid_102 rfl 103 rfl (nI 1) rg_ki_1, rg_e_iadd (cut := rg_cut [2]) (f := false) d_E_keepUnsaid_103 rfl 104 rfl, rg_e_put (P := P_E_keepUnsaid) (cut := rg_cut [2]) (f := false) d_E_keepUnsaid_104 rfl 107 rfl 4 2 10 rfl rfl, rg_e_iinc_2 (cut := rg_cut [2]) (f := false) d_E_keepUnsaid_107 rfl 110 rfl (nI 1) rg_ki_1, rg_e_goto (cut := rg_cut [2]) (f := false) d_E_keepUnsaid_110 rfl 2 rfl, rg_e_vret (cut := rg_cut [2]) (f := false) d_E_keepUnsaid_113 rfl, rg_e_cut (cut := rg_cut [2]) 2 rfl, rg_nx_i, rg_nx_v, rg_wd_n, rg_wd_i, rg_wd_l, rg_wd_r, rg_clr_i, rg_clr_l, rg_clr_r, rg_clr_a, rg_clr_n, true_and, and_true, Nat.reduceAdd, Nat.reduceLeDiff, ↓Te_E_isSaid, rg_rt_e, rg_fit_ie, rg_fit_ve, rg_fit_1e, rg_fit_0e, rg_fit_be]
      exact ⟨fun _ => hK w1 hf h4 hG1, fun h => absurd (nI_le hj9 (by omega)) h⟩
  refine hZ (rg_cut [2]) 400 0 _ _ _ ?_; simp only [rg_e_iconst (cut := rg_cut [2]) (f := true) d_E_keepUnsaid_0 rfl 1 rfl (nI 0) rg_ki_0, rg_e_istore_2 (cut := rg_cut [2]) (f := false) d_E_keepUnsaid_1 rfl 2 rfl, rg_e_cut (cut := rg_cut [2]) 2 rfl, rg_nx_i, rg_nx_v, rg_wd_n, rg_wd_i, rg_wd_l, rg_wd_r, rg_clr_i, rg_clr_l, rg_clr_r, rg_clr_a, rg_clr_n, true_and, and_true, Nat.reduceAdd, Nat.reduceLeDiff, ↓Te_E_isSaid, rg_rt_e, rg_fit_ie, rg_fit_ve, rg_fit_1e, rg_fit_0e, rg_fit_be]
  exact loop 0 w _ ⟨by omega, rg_fr_rf _ _, fun _ _ => rfl, hG⟩
