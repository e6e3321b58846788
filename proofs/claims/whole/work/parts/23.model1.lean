/-! the reference: letters, which reads stand in others, overlaps -/
theorem nar0 : vp_nar .boolean (nI 0) = nI 0 := by decide +kernel
theorem nar1 : vp_nar .boolean (nI 1) = nI 1 := by decide +kernel
theorem narz (b : Bool) : vp_nar .boolean (zI b) = zI b := by cases b <;> decide +kernel
theorem rg_all_s (p : Nat → Bool) (k : Nat) : (List.range (k + 1)).all p = ((List.range k).all p && p k) := by
  rw [List.range_succ, List.all_append]
  simp
theorem rg_any_s (p : Nat → Bool) (k : Nat) : (List.range (k + 1)).any p = ((List.range k).any p || p k) := by
  rw [List.range_succ, List.any_append]
  simp
/-- the reads as the reference holds them -/
def Lm (nr : Nat) (ln pk : Nat → Nat) (w : rg_W) : Prop := nr ≤ 9 ∧ ∀ i, i < nr → 3 ≤ ln i ∧ ln i ≤ 12 ∧ pk i < 4 ^ ln i ∧ w.1 19 i = nI (ln i) ∧ ∀ k, k < ln i → w.1 20 (12 * i + k) = nI (lt4 (ln i) (pk i) k)
theorem Lm.fr {nr : Nat} {ln pk : Nat → Nat} {w w' : rg_W} (h : Lm nr ln pk w) (h1 : w'.1 19 = w.1 19) (h2 : w'.1 20 = w.1 20) : Lm nr ln pk w' := by
  unfold Lm at h ⊢
  rw [h1, h2]
  exact h
theorem lt4_lt (L p k : Nat) : lt4 L p k < 4 := Nat.mod_lt _ (by decide)
def AgR (w w' : rg_W) : Prop := rg_fr [18, 28, 29] w w' ∧ (∀ q, q ≠ 5 → q ≠ 9 → q ≠ 17 → w'.1 18 q = w.1 18 q) ∧ w'.1 18 5 = nI 0 ∧ w'.1 18 9 = nI 0 ∧ w'.1 18 17 = nI 0 ∧ (∀ t, t < 81 → w'.1 28 t = nI 0) ∧ ∀ t, t < 6561 → w'.1 29 t = nI 0
-- M.again
def P_M_again : rg_P := (rg_F_M, [], [], [], [], [], 0)
def T_M_again : rg_T := fun as w K => match as with
  | [.ref 18] => ∀ w', AgR w w' → K none w'
  | _ => False
theorem Te_M_again  (w : rg_W) (K : Option Value → rg_W → Prop) : T_M_again [.ref 18] w K = (∀ w', AgR w w' → K none w') := rfl
theorem r_M_again : ∀ as w K, T_M_again as w K → ∃ r, as = .ref 18 :: r := by
  intro as w K h
  unfold T_M_again at h
  split at h
  · exact ⟨_, rfl⟩
  · exact h.elim
theorem G_M_again (l : Launch) : rg_Good l y_M_again c_M_again 2 none 0 T_M_again := by
  refine rg_good_of (P := P_M_again) (by decide) (rg_pok rg_F_M_ok rg_nil) ?_
  intro as w K Z hT hZ
  unfold T_M_again at hT
  split at hT
  rotate_left
  · exact hT.elim
  refine ⟨Nat.le_of_ble_eq_true rfl, ?_⟩
  show Z 0 [.ref 18, .null] [] w 0
  have l2 : ∀ (i : Nat) (w1 : rg_W), (i ≤ 6561 ∧ rg_fr [18, 28, 29] w w1 ∧ (∀ q, q ≠ 5 → q ≠ 9 → q ≠ 17 → w1.1 18 q = w.1 18 q) ∧ w1.1 18 5 = nI 0 ∧ w1.1 18 9 = nI 0 ∧ w1.1 18 17 = nI 0 ∧ (∀ t, t < 81 → w1.1 28 t = nI 0) ∧ ∀ t, t < i → w1.1 29 t = nI 0) → Z 38 [.ref 18, .int (nI i)] [] w1 0 := by
    refine rg_lp2 _ _ (fun i _ => 6561 - i) ?_
    intro i w1 ⟨hi, hf, h1, h2, h3, h4, h5, h6⟩ ih
    rcases Nat.lt_or_ge i 6561 with hi9 | hi9
    · have vi : vp_in (nI i) 6561 := vp_in_nI hi9 (by omega)
      have ci : (nI i).toNatClampNeg = i := nI_clamp (by omega)
      refine hZ (rg_cut [17, 38]) 400 38 _ _ _ ?_; simp only [rg_e_iload_1 (cut := rg_cut [17, 38]) (f := true) d_M_again_38 rfl 39 rfl, rg_e_sipush (cut := rg_cut [17, 38]) (f := false) d_M_again_39 rfl 42 rfl (nI 6561) rg_ks_6561, rg_e_icmp_ge (cut := rg_cut [17, 38]) (f := false) d_M_again_42 rfl 45 rfl 58 rfl, rg_e_aload_0 (cut := rg_cut [17, 38]) (f := false) d_M_again_45 rfl 46 rfl, rg_e_getr (P := P_M_again) (cut := rg_cut [17, 38]) (f := false) d_M_again_46 rfl 49 rfl 18 4 14 29 rfl (fun _ => rfl), rg_e_iload_1 (cut := rg_cut [17, 38]) (f := false) d_M_again_49 rfl 50 rfl, rg_e_iconst (cut := rg_cut [17, 38]) (f := false) d_M_again_50 rfl 51 rfl (nI 0) rg_ki_0, rg_e_iast (cut := rg_cut [17, 38]) (f := false) d_M_again_51 rfl 52 rfl 29 6561 rfl, rg_e_iinc_1 (cut := rg_cut [17, 38]) (f := false) d_M_again_52 rfl 55 rfl (nI 1) rg_ki_1, rg_e_goto (cut := rg_cut [17, 38]) (f := false) d_M_again_55 rfl 38 rfl, rg_e_vret (cut := rg_cut [17, 38]) (f := false) d_M_again_58 rfl, rg_e_cut (cut := rg_cut [17, 38]) 17 rfl, rg_e_cut (cut := rg_cut [17, 38]) 38 rfl, rg_nx_i, rg_nx_v, rg_wd_n, rg_wd_i, rg_wd_l, rg_wd_r, rg_clr_i, rg_clr_l, rg_clr_r, rg_clr_a, rg_clr_n, true_and, and_true, Nat.reduceAdd, Nat.reduceLeDiff, rg_rt_e, rg_fit_ie, rg_fit_ve, rg_fit_1e, rg_fit_0e, rg_fit_be, vi, ci, nI_add]
      refine ⟨fun h => absurd h (nI_ge hi9 (by omega)), fun _ => ih (i + 1) _ ⟨by omega, rg_fr_up hf (by decide) _ _, fun q a b c => ?_, ?_, ?_, ?_, fun t ht => ?_, fun t ht => ?_⟩ (by omega)⟩
      · rw [rg_up_n (by decide)]; exact h1 q a b c
      · rw [rg_up_n (by decide)]; exact h2
      · rw [rg_up_n (by decide)]; exact h3
      · rw [rg_up_n (by decide)]; exact h4
      · rw [rg_up_n (by decide)]; exact h5 t ht
      · rw [rg_up_s]
        by_cases hti : t = i
        · subst hti; rw [upd_s]
        · rw [upd_n hti]; exact h6 t (by omega)
    · obtain rfl : i = 6561 := by omega
      refine hZ (rg_cut [17, 38]) 400 38 _ _ _ ?_; simp only [rg_e_iload_1 (cut := rg_cut [17, 38]) (f := true) d_M_again_38 rfl 39 rfl, rg_e_sipush (cut := rg_cut [17, 38]) (f := false) d_M_again_39 rfl 42 rfl (nI 6561) rg_ks_6561, rg_e_icmp_ge (cut := rg_cut [17, 38]) (f := false) d_M_again_42 rfl 45 rfl 58 rfl, rg_e_aload_0 (cut := rg_cut [17, 38]) (f := false) d_M_again_45 rfl 46 rfl, rg_e_getr (P := P_M_again) (cut := rg_cut [17, 38]) (f := false) d_M_again_46 rfl 49 rfl 18 4 14 29 rfl (fun _ => rfl), rg_e_iload_1 (cut := rg_cut [17, 38]) (f := false) d_M_again_49 rfl 50 rfl, rg_e_iconst (cut := rg_cut [17, 38]) (f := false) d_M_again_50 rfl 51 rfl (nI 0) rg_ki_0, rg_e_iast (cut := rg_cut [17, 38]) (f := false) d_M_again_51 rfl 52 rfl 29 6561 rfl, rg_e_iinc_1 (cut := rg_cut [17, 38]) (f := false) d_M_again_52 rfl 55 rfl (nI 1) rg_ki_1, rg_e_goto (cut := rg_cut [17, 38]) (f := false) d_M_again_55 rfl 38 rfl, rg_e_vret (cut := rg_cut [17, 38]) (f := false) d_M_again_58 rfl, rg_e_cut (cut := rg_cut [17, 38]) 17 rfl, rg_e_cut (cut := rg_cut [17, 38]) 38 rfl, rg_nx_i, rg_nx_v, rg_wd_n, rg_wd_i, rg_wd_l, rg_wd_r, rg_clr_i, rg_clr_l, rg_clr_r, rg_clr_a, rg_clr_n, true_and, and_true, Nat.reduceAdd, Nat.reduceLeDiff, rg_rt_e, rg_fit_ie, rg_fit_ve, rg_fit_1e, rg_fit_0e, rg_fit_be]
      exact ⟨fun _ => hT w1 ⟨hf, h1, h2, h3, h4, h5, h6⟩, fun h => absurd (nI_le hi9 (by omega)) h⟩
  have l1 : ∀ (i : Nat) (w1 : rg_W), (i ≤ 81 ∧ rg_fr [18, 28, 29] w w1 ∧ (∀ q, q ≠ 5 → q ≠ 9 → q ≠ 17 → w1.1 18 q = w.1 18 q) ∧ w1.1 18 5 = nI 0 ∧ w1.1 18 9 = nI 0 ∧ w1.1 18 17 = nI 0 ∧ (∀ t, t < i → w1.1 28 t = nI 0)) → Z 17 [.ref 18, .int (nI i)] [] w1 0 := by
    refine rg_lp2 _ _ (fun i _ => 81 - i) ?_
    intro i w1 ⟨hi, hf, h1, h2, h3, h4, h5⟩ ih
    rcases Nat.lt_or_ge i 81 with hi9 | hi9
    · have vi : vp_in (nI i) 81 := vp_in_nI hi9 (by omega)
      have ci : (nI i).toNatClampNeg = i := nI_clamp (by omega)
      refine hZ (rg_cut [17, 38]) 400 17 _ _ _ ?_; simp only [rg_e_iload_1 (cut := rg_cut [17, 38]) (f := true) d_M_again_17 rfl 18 rfl, rg_e_bipush (cut := rg_cut [17, 38]) (f := false) d_M_again_18 rfl 20 rfl (nI 81) rg_kb_81, rg_e_icmp_ge (cut := rg_cut [17, 38]) (f := false) d_M_again_20 rfl 23 rfl 36 rfl, rg_e_aload_0 (cut := rg_cut [17, 38]) (f := false) d_M_again_23 rfl 24 rfl, rg_e_getr (P := P_M_again) (cut := rg_cut [17, 38]) (f := false) d_M_again_24 rfl 27 rfl 18 4 13 28 rfl (fun _ => rfl), rg_e_iload_1 (cut := rg_cut [17, 38]) (f := false) d_M_again_27 rfl 28 rfl, rg_e_iconst (cut := rg_cut [17, 38]) (f := false) d_M_again_28 rfl 29 rfl (nI 0) rg_ki_0, rg_e_zast (cut := rg_cut [17, 38]) (f := false) d_M_again_29 rfl 30 rfl 28 81 rfl, rg_e_iinc_1 (cut := rg_cut [17, 38]) (f := false) d_M_again_30 rfl 33 rfl (nI 1) rg_ki_1, rg_e_goto (cut := rg_cut [17, 38]) (f := false) d_M_again_33 rfl 17 rfl, rg_e_iconst (cut := rg_cut [17, 38]) (f := false) d_M_again_36 rfl 37 rfl (nI 0) rg_ki_0, rg_e_istore_1 (cut := rg_cut [17, 38]) (f := false) d_M_again_37 rfl 38 rfl, rg_e_cut (cut := rg_cut [17, 38]) 17 rfl, rg_e_cut (cut := rg_cut [17, 38]) 38 rfl, rg_nx_i, rg_nx_v, rg_wd_n, rg_wd_i, rg_wd_l, rg_wd_r, rg_clr_i, rg_clr_l, rg_clr_r, rg_clr_a, rg_clr_n, true_and, and_true, Nat.reduceAdd, Nat.reduceLeDiff, rg_rt_e, rg_fit_ie, rg_fit_ve, rg_fit_1e, rg_fit_0e, rg_fit_be, vi, ci, nI_add, nar0]
      refine ⟨fun h => absurd h (nI_ge hi9 (by omega)), fun _ => ih (i + 1) _ ⟨by omega, rg_fr_up hf (by decide) _ _, fun q a b c => ?_, ?_, ?_, ?_, fun t ht => ?_⟩ (by omega)⟩
      · rw [rg_up_n (by decide)]; exact h1 q a b c
      · rw [rg_up_n (by decide)]; exact h2
      · rw [rg_up_n (by decide)]; exact h3
      · rw [rg_up_n (by decide)]; exact h4
      · rw [rg_up_s]
        by_cases hti : t = i
        · subst hti; rw [upd_s]
        · rw [upd_n hti]; exact h5 t (by omega)
    · obtain rfl : i = 81 := by omega
      refine hZ (rg_cut [17, 38]) 400 17 _ _ _ ?_; simp only [rg_e_iload_1 (cut := rg_cut [17, 38]) (f := true) d_M_again_17 rfl 18 rfl, rg_e_bipush (cut := rg_cut [17, 38]) (f := false) d_M_again_18 rfl 20 rfl (nI 81) rg_kb_81, rg_e_icmp_ge (cut := rg_cut [17, 38]) (f := false) d_M_again_20 rfl 23 rfl 36 rfl, rg_e_aload_0 (cut := rg_cut [17, 38]) (f := false) d_M_again_23 rfl 24 rfl, rg_e_getr (P := P_M_again) (cut := rg_cut [17, 38]) (f := false) d_M_again_24 rfl 27 rfl 18 4 13 28 rfl (fun _ => rfl), rg_e_iload_1 (cut := rg_cut [17, 38]) (f := false) d_M_again_27 rfl 28 rfl, rg_e_iconst (cut := rg_cut [17, 38]) (f := false) d_M_again_28 rfl 29 rfl (nI 0) rg_ki_0, rg_e_zast (cut := rg_cut [17, 38]) (f := false) d_M_again_29 rfl 30 rfl 28 81 rfl, rg_e_iinc_1 (cut := rg_cut [17, 38]) (f := false) d_M_again_30 rfl 33 rfl (nI 1) rg_ki_1, rg_e_goto (cut := rg_cut [17, 38]) (f := false) d_M_again_33 rfl 17 rfl, rg_e_iconst (cut := rg_cut [17, 38]) (f := false) d_M_again_36 rfl 37 rfl (nI 0) rg_ki_0, rg_e_istore_1 (cut := rg_cut [17, 38]) (f := false) d_M_again_37 rfl 38 rfl, rg_e_cut (cut := rg_cut [17, 38]) 17 rfl, rg_e_cut (cut := rg_cut [17, 38]) 38 rfl, rg_nx_i, rg_nx_v, rg_wd_n, rg_wd_i, rg_wd_l, rg_wd_r, rg_clr_i, rg_clr_l, rg_clr_r, rg_clr_a, rg_clr_n, true_and, and_true, Nat.reduceAdd, Nat.reduceLeDiff, rg_rt_e, rg_fit_ie, rg_fit_ve, rg_fit_1e, rg_fit_0e, rg_fit_be]
      exact ⟨fun _ => l2 0 w1 ⟨by omega, hf, h1, h2, h3, h4, h5, fun t ht => absurd ht (by omega)⟩, fun h => absurd (nI_le hi9 (by omega)) h⟩
  refine hZ (rg_cut [17, 38]) 400 0 _ _ _ ?_; simp only [rg_e_aload_0 (cut := rg_cut [17, 38]) (f := true) d_M_again_0 rfl 1 rfl, rg_e_iconst (cut := rg_cut [17, 38]) (f := false) d_M_again_1 rfl 2 rfl (nI 0) rg_ki_0, rg_e_put (P := P_M_again) (cut := rg_cut [17, 38]) (f := false) d_M_again_2 rfl 5 rfl 18 4 5 rfl rfl, rg_e_aload_0 (cut := rg_cut [17, 38]) (f := false) d_M_again_5 rfl 6 rfl, rg_e_iconst (cut := rg_cut [17, 38]) (f := false) d_M_again_6 rfl 7 rfl (nI 0) rg_ki_0, rg_e_put (P := P_M_again) (cut := rg_cut [17, 38]) (f := false) d_M_again_7 rfl 10 rfl 18 4 9 rfl rfl, rg_e_aload_0 (cut := rg_cut [17, 38]) (f := false) d_M_again_10 rfl 11 rfl, rg_e_iconst (cut := rg_cut [17, 38]) (f := false) d_M_again_11 rfl 12 rfl (nI 0) rg_ki_0, rg_e_put (P := P_M_again) (cut := rg_cut [17, 38]) (f := false) d_M_again_12 rfl 15 rfl 18 4 17 rfl rfl, rg_e_iconst (cut := rg_cut [17, 38]) (f := false) d_M_again_15 rfl 16 rfl (nI 0) rg_ki_0, rg_e_istore_1 (cut := rg_cut [17, 38]) (f := false) d_M_again_16 rfl 17 rfl, rg_e_cut (cut := rg_cut [17, 38]) 17 rfl, rg_e_cut (cut := rg_cut [17, 38]) 38 rfl, rg_nx_i, rg_nx_v, rg_wd_n, rg_wd_i, rg_wd_l, rg_wd_r, rg_clr_i, rg_clr_l, rg_clr_r, rg_clr_a, rg_clr_n, true_and, and_true, Nat.reduceAdd, Nat.reduceLeDiff, rg_rt_e, rg_fit_ie, rg_fit_ve, rg_fit_1e, rg_fit_0e, rg_fit_be]
  refine l1 0 _ ⟨by omega, rg_fr_up (rg_fr_up (rg_fr_up (rg_fr_rf _ _) (by decide) _ _) (by decide) _ _) (by decide) _ _, fun q a b c => ?_, ?_, ?_, ?_, fun t ht => absurd ht (by omega)⟩
  · simp only [rg_up_s]
    rw [upd_n c, upd_n b, upd_n a]
  all_goals simp [rg_up_s, upd]
def smB (ln pk : Nat → Nat) (i a j p n : Nat) : Bool := (List.range n).all (fun k => lt4 (ln i) (pk i) (a + k) == lt4 (ln j) (pk j) (p + k))
-- M.same
def P_M_same : rg_P := (rg_F_M, [], [], [], [], [], 0)
def T_M_same : rg_T := fun as w K => match as with
  | [.ref 18, .int i, .int a, .int j, .int p, .int n] => ∃ nr ln pk i' a' j' p' n', Lm nr ln pk w ∧ i = nI i' ∧ a = nI a' ∧ j = nI j' ∧ p = nI p' ∧ n = nI n' ∧ i' < nr ∧ j' < nr ∧ a' + n' ≤ ln i' ∧ p' + n' ≤ ln j' ∧ K (some (.int (zI (smB ln pk i' a' j' p' n')))) w
  | _ => False
theorem Te_M_same (i : Int32) (a : Int32) (j : Int32) (p : Int32) (n : Int32) (w : rg_W) (K : Option Value → rg_W → Prop) : T_M_same [.ref 18, .int i, .int a, .int j, .int p, .int n] w K = (∃ nr ln pk i' a' j' p' n', Lm nr ln pk w ∧ i = nI i' ∧ a = nI a' ∧ j = nI j' ∧ p = nI p' ∧ n = nI n' ∧ i' < nr ∧ j' < nr ∧ a' + n' ≤ ln i' ∧ p' + n' ≤ ln j' ∧ K (some (.int (zI (smB ln pk i' a' j' p' n')))) w) := rfl
theorem r_M_same : ∀ as w K, T_M_same as w K → ∃ r, as = .ref 18 :: r := by
  intro as w K h
  unfold T_M_same at h
  split at h
  · exact ⟨_, rfl⟩
  · exact h.elim
theorem G_M_same (l : Launch) : rg_Good l y_M_same c_M_same 8 (some .boolean) 0 T_M_same := by
  refine rg_good_of (P := P_M_same) (by decide) (rg_pok rg_F_M_ok rg_nil) ?_
  intro as w K Z hT hZ
  unfold T_M_same at hT
  split at hT
  rotate_left
  · exact hT.elim
  rename_i i a j p n
  refine ⟨Nat.le_of_ble_eq_true rfl, ?_⟩
  show Z 0 [.ref 18, .int i, .int a, .int j, .int p, .int n, .null, .null] [] w 0
  obtain ⟨nr, ln, pk, i, a, j, p, n, hL, rfl, rfl, rfl, rfl, rfl, hi, hj, ha, hp, hK⟩ := hT
  have hn9 := hL.1
  obtain ⟨i1, i2, i3, i4, i5⟩ := hL.2 i hi
  obtain ⟨j1, j2, j3, j4, j5⟩ := hL.2 j hj
  have loop : ∀ k, k ≤ n → Z 6 [.ref 18, .int (nI i), .int (nI a), .int (nI j), .int (nI p), .int (nI n), .int (zI (smB ln pk i a j p k)), .int (nI k)] [] w 0 := by
    refine rg_lp1 _ _ (fun k => n - k) ?_
    intro k hk ih
    rcases Nat.lt_or_ge k n with hk9 | hk9
    · have x1 : nI 12 * nI i + nI a + nI k = nI (12 * i + (a + k)) := by rw [pk_mul, nI_add, nI_add, Nat.add_assoc]
      have x2 : nI 12 * nI j + nI p + nI k = nI (12 * j + (p + k)) := by rw [pk_mul, nI_add, nI_add, Nat.add_assoc]
      have v1 : vp_in (nI (12 * i + (a + k))) 108 := vp_in_nI (by omega) (by omega)
      have v2 : vp_in (nI (12 * j + (p + k))) 108 := vp_in_nI (by omega) (by omega)
      have c1 : (nI (12 * i + (a + k))).toNatClampNeg = 12 * i + (a + k) := nI_clamp (by omega)
      have c2 : (nI (12 * j + (p + k))).toNatClampNeg = 12 * j + (p + k) := nI_clamp (by omega)
      have e1 := i5 (a + k) (by omega)
      have e2 := j5 (p + k) (by omega)
      have b1 := lt4_lt (ln i) (pk i) (a + k)
      have b2 := lt4_lt (ln j) (pk j) (p + k)
      have es : smB ln pk i a j p (k + 1) = (smB ln pk i a j p k && (lt4 (ln i) (pk i) (a + k) == lt4 (ln j) (pk j) (p + k))) := rg_all_s _ k
      have hn := ih (k + 1) (by omega) (by omega)
      rw [es] at hn
      refine hZ (rg_cut [6]) 400 6 _ _ _ ?_; simp only [rg_e_iload_7 (cut := rg_cut [6]) (f := true) d_M_same_6 rfl 8 rfl, rg_e_iload_5 (cut := rg_cut [6]) (f := false) d_M_same_8 rfl 10 rfl, rg_e_icmp_ge (cut := rg_cut [6]) (f := false) d_M_same_10 rfl 13 rfl 63 rfl, rg_e_iload_6 (cut := rg_cut [6]) (f := false) d_M_same_13 rfl 15 rfl, rg_e_if_eq (cut := rg_cut [6]) (f := false) d_M_same_15 rfl 18 rfl 54 rfl, rg_e_aload_0 (cut := rg_cut [6]) (f := false) d_M_same_18 rfl 19 rfl, rg_e_getr (P := P_M_same) (cut := rg_cut [6]) (f := false) d_M_same_19 rfl 22 rfl 18 4 3 20 rfl (fun _ => rfl), rg_e_bipush (cut := rg_cut [6]) (f := false) d_M_same_22 rfl 24 rfl (nI 12) rg_kb_12, rg_e_iload_1 (cut := rg_cut [6]) (f := false) d_M_same_24 rfl 25 rfl, rg_e_imul (cut := rg_cut [6]) (f := false) d_M_same_25 rfl 26 rfl, rg_e_iload_2 (cut := rg_cut [6]) (f := false) d_M_same_26 rfl 27 rfl, rg_e_iadd (cut := rg_cut [6]) (f := false) d_M_same_27 rfl 28 rfl, rg_e_iload_7 (cut := rg_cut [6]) (f := false) d_M_same_28 rfl 30 rfl, rg_e_iadd (cut := rg_cut [6]) (f := false) d_M_same_30 rfl 31 rfl, rg_e_iald (cut := rg_cut [6]) (f := false) d_M_same_31 rfl 32 rfl 20 108 rfl, rg_e_aload_0 (cut := rg_cut [6]) (f := false) d_M_same_32 rfl 33 rfl, rg_e_getr (P := P_M_same) (cut := rg_cut [6]) (f := false) d_M_same_33 rfl 36 rfl 18 4 3 20 rfl (fun _ => rfl), rg_e_bipush (cut := rg_cut [6]) (f := false) d_M_same_36 rfl 38 rfl (nI 12) rg_kb_12, rg_e_iload_3 (cut := rg_cut [6]) (f := false) d_M_same_38 rfl 39 rfl, rg_e_imul (cut := rg_cut [6]) (f := false) d_M_same_39 rfl 40 rfl, rg_e_iload_4 (cut := rg_cut [6]) (f := false) d_M_same_40 rfl 42 rfl, rg_e_iadd (cut := rg_cut [6]) (f := false) d_M_same_42 rfl 43 rfl, rg_e_iload_7 (cut := rg_cut [6]) (f := false) d_M_same_43 rfl 45 rfl, rg_e_iadd (cut := rg_cut [6]) (f := false) d_M_same_45 rfl 46 rfl, rg_e_iald (cut := rg_cut [6]) (f := false) d_M_same_46 rfl 47 rfl 20 108 rfl, rg_e_icmp_ne (cut := rg_cut [6]) (f := false) d_M_same_47 rfl 50 rfl 54 rfl, rg_e_iconst (cut := rg_cut [6]) (f := false) d_M_same_50 rfl 51 rfl (nI 1) rg_ki_1, rg_e_goto (cut := rg_cut [6]) (f := false) d_M_same_51 rfl 55 rfl, rg_e_iconst (cut := rg_cut [6]) (f := false) d_M_same_54 rfl 55 rfl (nI 0) rg_ki_0, rg_e_istore_6 (cut := rg_cut [6]) (f := false) d_M_same_55 rfl 57 rfl, rg_e_iinc_7 (cut := rg_cut [6]) (f := false) d_M_same_57 rfl 60 rfl (nI 1) rg_ki_1, rg_e_goto (cut := rg_cut [6]) (f := false) d_M_same_60 rfl 6 rfl, rg_e_iload_6 (cut := rg_cut [6]) (f := false) d_M_same_63 rfl 65 rfl, rg_e_iret (cut := rg_cut [6]) (f := false) d_M_same_65 rfl, rg_e_cut (cut := rg_cut [6]) 6 rfl, rg_nx_i, rg_nx_v, rg_wd_n, rg_wd_i, rg_wd_l, rg_wd_r, rg_clr_i, rg_clr_l, rg_clr_r, rg_clr_a, rg_clr_n, true_and, and_true, Nat.reduceAdd, Nat.reduceLeDiff, rg_rt_e, rg_fit_ie, rg_fit_ve, rg_fit_1e, rg_fit_0e, rg_fit_be, x1, x2, v1, v2, c1, c2, e1, e2, zI_eq, nI_add]
      rw [nI_eqp (by omega) (by omega)]
      refine ⟨fun h => absurd h (nI_ge hk9 (by omega)), fun _ => ⟨fun h => ?_, fun h => ⟨fun h1 => ?_, fun h1 => ?_⟩⟩⟩
      · rw [h, Bool.false_and] at hn
        exact hn
      · rw [beq_false_of_ne h1, Bool.and_false] at hn
        exact hn
      · have h : smB ln pk i a j p k = true := by simpa using h
        rw [h, Classical.not_not.mp h1, beq_self_eq_true] at hn
        exact hn
    · obtain rfl : k = n := by omega
      refine hZ (rg_cut [6]) 400 6 _ _ _ ?_; simp only [rg_e_iload_7 (cut := rg_cut [6]) (f := true) d_M_same_6 rfl 8 rfl, rg_e_iload_5 (cut := rg_cut [6]) (f := false) d_M_same_8 rfl 10 rfl, rg_e_icmp_ge (cut := rg_cut [6]) (f := false) d_M_same_10 rfl 13 rfl 63 rfl, rg_e_iload_6 (cut := rg_cut [6]) (f := false) d_M_same_13 rfl 15 rfl, rg_e_if_eq (cut := rg_cut [6]) (f := false) d_M_same_15 rfl 18 rfl 54 rfl, rg_e_aload_0 (cut := rg_cut [6]) (f := false) d_M_same_18 rfl 19 rfl, rg_e_getr (P := P_M_same) (cut := rg_cut [6]) (f := false) d_M_same_19 rfl 22 rfl 18 4 3 20 rfl (fun _ => rfl), rg_e_bipush (cut := rg_cut [6]) (f := false) d_M_same_22 rfl 24 rfl (nI 12) rg_kb_12, rg_e_iload_1 (cut := rg_cut [6]) (f := false) d_M_same_24 rfl 25 rfl, rg_e_imul (cut := rg_cut [6]) (f := false) d_M_same_25 rfl 26 rfl, rg_e_iload_2 (cut := rg_cut [6]) (f := false) d_M_same_26 rfl 27 rfl, rg_e_iadd (cut := rg_cut [6]) (f := false) d_M_same_27 rfl 28 rfl, rg_e_iload_7 (cut := rg_cut [6]) (f := false) d_M_same_28 rfl 30 rfl, rg_e_iadd (cut := rg_cut [6]) (f := false) d_M_same_30 rfl 31 rfl, rg_e_iald (cut := rg_cut [6]) (f := false) d_M_same_31 rfl 32 rfl 20 108 rfl, rg_e_aload_0 (cut := rg_cut [6]) (f := false) d_M_same_32 rfl 33 rfl, rg_e_getr (P := P_M_same) (cut := rg_cut [6]) (f := false) d_M_same_33 rfl 36 rfl 18 4 3 20 rfl (fun _ => rfl), rg_e_bipush (cut := rg_cut [6]) (f := false) d_M_same_36 rfl 38 rfl (nI 12) rg_kb_12, rg_e_iload_3 (cut := rg_cut [6]) (f := false) d_M_same_38 rfl 39 rfl, rg_e_imul (cut := rg_cut [6]) (f := false) d_M_same_39 rfl 40 rfl, rg_e_iload_4 (cut := rg_cut [6]) (f := false) d_M_same_40 rfl 42 rfl, rg_e_iadd (cut := rg_cut [6]) (f := false) d_M_same_42 rfl 43 rfl, rg_e_iload_7 (cut := rg_cut [6]) (f := false) d_M_same_43 rfl 45 rfl, rg_e_iadd (cut := rg_cut [6]) (f := false) d_M_same_45 rfl 46 rfl, rg_e_iald (cut := rg_cut [6]) (f := false) d_M_same_46 rfl 47 rfl 20 108 rfl, rg_e_icmp_ne (cut := rg_cut [6]) (f := false) d_M_same_47 rfl 50 rfl 54 rfl, rg_e_iconst (cut := rg_cut [6]) (f := false) d_M_same_50 rfl 51 rfl (nI 1) rg_ki_1, rg_e_goto (cut := rg_cut [6]) (f := false) d_M_same_51 rfl 55 rfl, rg_e_iconst (cut := rg_cut [6]) (f := false) d_M_same_54 rfl 55 rfl (nI 0) rg_ki_0, rg_e_istore_6 (cut := rg_cut [6]) (f := false) d_M_same_55 rfl 57 rfl, rg_e_iinc_7 (cut := rg_cut [6]) (f := false) d_M_same_57 rfl 60 rfl (nI 1) rg_ki_1, rg_e_goto (cut := rg_cut [6]) (f := false) d_M_same_60 rfl 6 rfl, rg_e_iload_6 (cut := rg_cut [6]) (f := false) d_M_same_63 rfl 65 rfl, rg_e_iret (cut := rg_cut [6]) (f := false) d_M_same_65 rfl, rg_e_cut (cut := rg_cut [6]) 6 rfl, rg_nx_i, rg_nx_v, rg_wd_n, rg_wd_i, rg_wd_l, rg_wd_r, rg_clr_i, rg_clr_l, rg_clr_r, rg_clr_a, rg_clr_n, true_and, and_true, Nat.reduceAdd, Nat.reduceLeDiff, rg_rt_e, rg_fit_ie, rg_fit_ve, rg_fit_1e, rg_fit_0e, rg_fit_be]
      exact ⟨fun _ => hK, fun h => absurd (nI_le hk9 (by omega)) h⟩
  refine hZ (rg_cut [6]) 400 0 _ _ _ ?_; simp only [rg_e_iconst (cut := rg_cut [6]) (f := true) d_M_same_0 rfl 1 rfl (nI 1) rg_ki_1, rg_e_istore_6 (cut := rg_cut [6]) (f := false) d_M_same_1 rfl 3 rfl, rg_e_iconst (cut := rg_cut [6]) (f := false) d_M_same_3 rfl 4 rfl (nI 0) rg_ki_0, rg_e_istore_7 (cut := rg_cut [6]) (f := false) d_M_same_4 rfl 6 rfl, rg_e_cut (cut := rg_cut [6]) 6 rfl, rg_nx_i, rg_nx_v, rg_wd_n, rg_wd_i, rg_wd_l, rg_wd_r, rg_clr_i, rg_clr_l, rg_clr_r, rg_clr_a, rg_clr_n, true_and, and_true, Nat.reduceAdd, Nat.reduceLeDiff, rg_rt_e, rg_fit_ie, rg_fit_ve, rg_fit_1e, rg_fit_0e, rg_fit_be]
  exact loop 0 (by omega)
theorem smB_iff {ln pk : Nat → Nat} {i a j p n : Nat} : smB ln pk i a j p n = true ↔ ∀ k, k < n → lt4 (ln i) (pk i) (a + k) = lt4 (ln j) (pk j) (p + k) := by
  unfold smB
  rw [List.all_eq_true]
  exact ⟨fun h k hk => by simpa using h k (List.mem_range.mpr hk), fun h k hk => by simpa using h k (List.mem_range.mp hk)⟩
theorem sm_mt {ln pk : Nat → Nat} {i j k : Nat} (hi : pk i < 4 ^ ln i) (h : k + ln i ≤ ln j) : smB ln pk i 0 j k (ln i) = mtB ln pk i j (ln j - ln i - k) := by
  rw [Bool.eq_iff_iff, smB_iff]
  unfold mtB
  rw [decide_eq_true_iff]
  have := lt4_seg (L := ln i) (p := pk i) (M := ln j) (q := pk j) (n := ln i) (b := 0) (d := ln j - ln i - k) (by omega) (by omega)
  rw [Nat.pow_zero, Nat.div_one, Nat.mod_eq_of_lt hi] at this
  rw [show ln i - ln i - 0 = 0 by omega, show ln j - ln i - (ln j - ln i - k) = k by omega] at this
  rw [← this]
  exact ⟨fun h => h.symm, fun h => h.symm⟩
theorem sm_sh {ln pk : Nat → Nat} {i j n : Nat} (hj : pk j < 4 ^ ln j) (h1 : n ≤ ln i) (h2 : n ≤ ln j) : smB ln pk i (ln i - n) j 0 n = shB ln pk i j n := by
  rw [Bool.eq_iff_iff, smB_iff]
  unfold shB
  rw [decide_eq_true_iff]
  have := lt4_seg (L := ln i) (p := pk i) (M := ln j) (q := pk j) (n := n) (b := 0) (d := ln j - n) (by omega) (by omega)
  have hlt : pk j / 4 ^ (ln j - n) < 4 ^ n := by
    rw [Nat.div_lt_iff_lt_mul (Nat.pow_pos (by decide)), ← Nat.pow_add, show n + (ln j - n) = ln j by omega]
    exact hj
  rw [Nat.pow_zero, Nat.div_one, Nat.mod_eq_of_lt hlt] at this
  rw [show ln i - n - 0 = ln i - n by omega, show ln j - n - (ln j - n) = 0 by omega] at this
  exact this.symm
theorem sm_sd {ln pk : Nat → Nat} {i j : Nat} (hi : pk i < 4 ^ ln i) (hj : pk j < 4 ^ ln j) (hij : i ≠ j) (h1 : ln i ≤ ln j) (h2 : ln i = ln j → j < i) : (List.range (ln j - ln i + 1)).any (fun k => smB ln pk i 0 j k (ln i)) = sdB ln pk i j := by
  rw [Bool.eq_iff_iff, List.any_eq_true]
  unfold sdB
  by_cases he : ln j = ln i
  · rw [if_pos he, decide_eq_true (h2 he.symm), Bool.true_and, decide_eq_true_iff]
    constructor
    · rintro ⟨k, hk, h⟩
      have hk : k = 0 := by have := List.mem_range.mp hk; omega
      subst hk
      rw [sm_mt hi (by omega)] at h
      have := of_decide_eq_true h
      rw [show ln j - ln i - 0 = 0 by omega, Nat.pow_zero, Nat.div_one, ← he, Nat.mod_eq_of_lt hj] at this
      exact this
    · intro h
      refine ⟨0, List.mem_range.mpr (by omega), ?_⟩
      rw [sm_mt hi (by omega)]
      apply decide_eq_true
      rw [show ln j - ln i - 0 = 0 by omega, Nat.pow_zero, Nat.div_one, ← he, Nat.mod_eq_of_lt hj]
      exact h
  · rw [if_neg he, decide_eq_true (by omega), Bool.true_and, List.any_eq_true]
    constructor
    · rintro ⟨k, hk, h⟩
      have hk := List.mem_range.mp hk
      rw [sm_mt hi (by omega)] at h
      exact ⟨_, List.mem_range.mpr (by omega), h⟩
    · rintro ⟨b, hb, h⟩
      have hb := List.mem_range.mp hb
      refine ⟨ln j - ln i - b, List.mem_range.mpr (by omega), ?_⟩
      rw [sm_mt hi (by omega), show ln j - ln i - (ln j - ln i - b) = b by omega]
      exact h
-- M.isIn
def P_M_isIn : rg_P := (rg_F_M, [(139, 6, 0, T_M_same)], [], [], [], [], 0)
def T_M_isIn : rg_T := fun as w K => match as with
  | [.ref 18, .int i, .int j] => ∃ nr ln pk i' j', Lm nr ln pk w ∧ i = nI i' ∧ j = nI j' ∧ i' < nr ∧ j' < nr ∧ K (some (.int (zI (sdB ln pk i' j')))) w
  | _ => False
theorem Te_M_isIn (i : Int32) (j : Int32) (w : rg_W) (K : Option Value → rg_W → Prop) : T_M_isIn [.ref 18, .int i, .int j] w K = (∃ nr ln pk i' j', Lm nr ln pk w ∧ i = nI i' ∧ j = nI j' ∧ i' < nr ∧ j' < nr ∧ K (some (.int (zI (sdB ln pk i' j')))) w) := rfl
theorem r_M_isIn : ∀ as w K, T_M_isIn as w K → ∃ r, as = .ref 18 :: r := by
  intro as w K h
  unfold T_M_isIn at h
  split at h
  · exact ⟨_, rfl⟩
  · exact h.elim
theorem G_M_isIn (l : Launch) : rg_Good l y_M_isIn c_M_isIn 5 (some .boolean) 1 T_M_isIn := by
  refine rg_good_of (P := P_M_isIn) (by decide) (rg_pok rg_F_M_ok (rg_cons (cw_M_69 (G_M_same l) (by decide) r_M_same) rg_nil)) ?_
  intro as w K Z hT hZ
  unfold T_M_isIn at hT
  split at hT
  rotate_left
  · exact hT.elim
  rename_i i j
  refine ⟨Nat.le_of_ble_eq_true rfl, ?_⟩
  show Z 0 [.ref 18, .int i, .int j, .null, .null] [] w 0
  obtain ⟨nr, ln, pk, i, j, hL, rfl, rfl, hi, hj, hK⟩ := hT
  have hn9 := hL.1
  obtain ⟨i1, i2, i3, i4, i5⟩ := hL.2 i hi
  obtain ⟨j1, j2, j3, j4, j5⟩ := hL.2 j hj
  have vi : vp_in (nI i) 9 := vp_in_nI (by omega) (by omega)
  have vj : vp_in (nI j) 9 := vp_in_nI (by omega) (by omega)
  have ci : (nI i).toNatClampNeg = i := nI_clamp (by omega)
  have cj : (nI j).toNatClampNeg = j := nI_clamp (by omega)
  have loop : i ≠ j → ln i ≤ ln j → (ln i = ln j → j < i) → ∀ k, k ≤ ln j - ln i + 1 → Z 47 [.ref 18, .int (nI i), .int (nI j), .int (zI ((List.range k).any (fun k => smB ln pk i 0 j k (ln i)))), .int (nI k)] [] w 0 := by
    intro h1 h2 h3
    refine rg_lp1 _ _ (fun k => ln j - ln i + 1 - k) ?_
    intro k hk ih
    refine hZ (rg_cut [47]) 400 47 _ _ _ ?_; simp only [rg_e_iload_4 (cut := rg_cut [47]) (f := true) d_M_isIn_47 rfl 49 rfl, rg_e_aload_0 (cut := rg_cut [47]) (f := false) d_M_isIn_49 rfl 50 rfl, rg_e_getr (P := P_M_isIn) (cut := rg_cut [47]) (f := false) d_M_isIn_50 rfl 53 rfl 18 4 2 19 rfl (fun _ => rfl), rg_e_iload_1 (cut := rg_cut [47]) (f := false) d_M_isIn_53 rfl 54 rfl, rg_e_iald (cut := rg_cut [47]) (f := false) d_M_isIn_54 rfl 55 rfl 19 9 rfl, rg_e_iadd (cut := rg_cut [47]) (f := false) d_M_isIn_55 rfl 56 rfl, rg_e_aload_0 (cut := rg_cut [47]) (f := false) d_M_isIn_56 rfl 57 rfl, rg_e_getr (P := P_M_isIn) (cut := rg_cut [47]) (f := false) d_M_isIn_57 rfl 60 rfl 18 4 2 19 rfl (fun _ => rfl), rg_e_iload_2 (cut := rg_cut [47]) (f := false) d_M_isIn_60 rfl 61 rfl, rg_e_iald (cut := rg_cut [47]) (f := false) d_M_isIn_61 rfl 62 rfl 19 9 rfl, rg_e_icmp_gt (cut := rg_cut [47]) (f := false) d_M_isIn_62 rfl 65 rfl 99 rfl, rg_e_iload_3 (cut := rg_cut [47]) (f := false) d_M_isIn_65 rfl 66 rfl, rg_e_if_ne (cut := rg_cut [47]) (f := false) d_M_isIn_66 rfl 69 rfl 87 rfl, rg_e_aload_0 (cut := rg_cut [47]) (f := false) d_M_isIn_69 rfl 70 rfl, rg_e_iload_1 (cut := rg_cut [47]) (f := false) d_M_isIn_70 rfl 71 rfl, rg_e_iconst (cut := rg_cut [47]) (f := false) d_M_isIn_71 rfl 72 rfl (nI 0) rg_ki_0, rg_e_iload_2 (cut := rg_cut [47]) (f := false) d_M_isIn_72 rfl 73 rfl, rg_e_iload_4 (cut := rg_cut [47]) (f := false) d_M_isIn_73 rfl 75 rfl, rg_e_aload_0 (cut := rg_cut [47]) (f := false) d_M_isIn_75 rfl 76 rfl, rg_e_getr (P := P_M_isIn) (cut := rg_cut [47]) (f := false) d_M_isIn_76 rfl 79 rfl 18 4 2 19 rfl (fun _ => rfl), rg_e_iload_1 (cut := rg_cut [47]) (f := false) d_M_isIn_79 rfl 80 rfl, rg_e_iald (cut := rg_cut [47]) (f := false) d_M_isIn_80 rfl 81 rfl 19 9 rfl, rg_e_cv6 (P := P_M_isIn) (cut := rg_cut [47]) (f := false) d_M_isIn_81 rfl T_M_same rfl, rg_e_if_eq (cut := rg_cut [47]) (f := false) d_M_isIn_84 rfl 87 rfl 91 rfl, rg_e_iconst (cut := rg_cut [47]) (f := false) d_M_isIn_87 rfl 88 rfl (nI 1) rg_ki_1, rg_e_goto (cut := rg_cut [47]) (f := false) d_M_isIn_88 rfl 92 rfl, rg_e_iconst (cut := rg_cut [47]) (f := false) d_M_isIn_91 rfl 92 rfl (nI 0) rg_ki_0, rg_e_istore_3 (cut := rg_cut [47]) (f := false) d_M_isIn_92 rfl 93 rfl, rg_e_iinc_4 (cut := rg_cut [47]) (f := false) d_M_isIn_93 rfl 96 rfl (nI 1) rg_ki_1, rg_e_goto (cut := rg_cut [47]) (f := false) d_M_isIn_96 rfl 47 rfl, rg_e_iload_3 (cut := rg_cut [47]) (f := false) d_M_isIn_99 rfl 100 rfl, rg_e_iret (cut := rg_cut [47]) (f := false) d_M_isIn_100 rfl, rg_e_cut (cut := rg_cut [47]) 47 rfl, rg_nx_i, rg_nx_v, rg_wd_n, rg_wd_i, rg_wd_l, rg_wd_r, rg_clr_i, rg_clr_l, rg_clr_r, rg_clr_a, rg_clr_n, true_and, and_true, Nat.reduceAdd, Nat.reduceLeDiff, ↓Te_M_same, rg_rt_e, rg_fit_ie, rg_fit_ve, rg_fit_1e, rg_fit_0e, rg_fit_be, vi, vj, ci, cj, i4, j4, zI_eq, nI_add]
    rw [nI_ltp (by omega) (by omega)]
    refine ⟨fun h => ?_, fun h => ?_⟩
    · obtain rfl : k = ln j - ln i + 1 := by omega
      rw [sm_sd i3 j3 h1 h2 h3]
      exact hK
    · have hn := ih (k + 1) (by omega) (by omega)
      rw [rg_any_s] at hn
      refine ⟨fun h4 => ?_, fun h4 => ⟨nr, ln, pk, i, 0, j, k, ln i, hL, rfl, rfl, rfl, rfl, rfl, hi, hj, by omega, by omega, fun h5 => ?_, fun h5 => ?_⟩⟩
      · have h4 : (List.range k).any (fun k => smB ln pk i 0 j k (ln i)) = true := by rw [← Bool.not_eq_false]; exact h4
        rw [h4, Bool.true_or] at hn
        exact hn
      · have h4 : (List.range k).any (fun k => smB ln pk i 0 j k (ln i)) = false := Classical.not_not.mp h4
        rw [h4, Bool.false_or, h5] at hn
        exact hn
      · have h5 : smB ln pk i 0 j k (ln i) = true := by rw [← Bool.not_eq_false]; exact h5
        rw [h5, Bool.or_true] at hn
        exact hn
  refine hZ (rg_cut [47]) 400 0 _ _ _ ?_; simp only [rg_e_iload_1 (cut := rg_cut [47]) (f := true) d_M_isIn_0 rfl 1 rfl, rg_e_iload_2 (cut := rg_cut [47]) (f := false) d_M_isIn_1 rfl 2 rfl, rg_e_icmp_eq (cut := rg_cut [47]) (f := false) d_M_isIn_2 rfl 5 rfl 40 rfl, rg_e_aload_0 (cut := rg_cut [47]) (f := false) d_M_isIn_5 rfl 6 rfl, rg_e_getr (P := P_M_isIn) (cut := rg_cut [47]) (f := false) d_M_isIn_6 rfl 9 rfl 18 4 2 19 rfl (fun _ => rfl), rg_e_iload_1 (cut := rg_cut [47]) (f := false) d_M_isIn_9 rfl 10 rfl, rg_e_iald (cut := rg_cut [47]) (f := false) d_M_isIn_10 rfl 11 rfl 19 9 rfl, rg_e_aload_0 (cut := rg_cut [47]) (f := false) d_M_isIn_11 rfl 12 rfl, rg_e_getr (P := P_M_isIn) (cut := rg_cut [47]) (f := false) d_M_isIn_12 rfl 15 rfl 18 4 2 19 rfl (fun _ => rfl), rg_e_iload_2 (cut := rg_cut [47]) (f := false) d_M_isIn_15 rfl 16 rfl, rg_e_iald (cut := rg_cut [47]) (f := false) d_M_isIn_16 rfl 17 rfl 19 9 rfl, rg_e_icmp_gt (cut := rg_cut [47]) (f := false) d_M_isIn_17 rfl 20 rfl 40 rfl, rg_e_aload_0 (cut := rg_cut [47]) (f := false) d_M_isIn_20 rfl 21 rfl, rg_e_getr (P := P_M_isIn) (cut := rg_cut [47]) (f := false) d_M_isIn_21 rfl 24 rfl 18 4 2 19 rfl (fun _ => rfl), rg_e_iload_1 (cut := rg_cut [47]) (f := false) d_M_isIn_24 rfl 25 rfl, rg_e_iald (cut := rg_cut [47]) (f := false) d_M_isIn_25 rfl 26 rfl 19 9 rfl, rg_e_aload_0 (cut := rg_cut [47]) (f := false) d_M_isIn_26 rfl 27 rfl, rg_e_getr (P := P_M_isIn) (cut := rg_cut [47]) (f := false) d_M_isIn_27 rfl 30 rfl 18 4 2 19 rfl (fun _ => rfl), rg_e_iload_2 (cut := rg_cut [47]) (f := false) d_M_isIn_30 rfl 31 rfl, rg_e_iald (cut := rg_cut [47]) (f := false) d_M_isIn_31 rfl 32 rfl 19 9 rfl, rg_e_icmp_ne (cut := rg_cut [47]) (f := false) d_M_isIn_32 rfl 35 rfl 42 rfl, rg_e_iload_2 (cut := rg_cut [47]) (f := false) d_M_isIn_35 rfl 36 rfl, rg_e_iload_1 (cut := rg_cut [47]) (f := false) d_M_isIn_36 rfl 37 rfl, rg_e_icmp_le (cut := rg_cut [47]) (f := false) d_M_isIn_37 rfl 40 rfl 42 rfl, rg_e_iconst (cut := rg_cut [47]) (f := false) d_M_isIn_40 rfl 41 rfl (nI 0) rg_ki_0, rg_e_iret (cut := rg_cut [47]) (f := false) d_M_isIn_41 rfl, rg_e_iconst (cut := rg_cut [47]) (f := false) d_M_isIn_42 rfl 43 rfl (nI 0) rg_ki_0, rg_e_istore_3 (cut := rg_cut [47]) (f := false) d_M_isIn_43 rfl 44 rfl, rg_e_iconst (cut := rg_cut [47]) (f := false) d_M_isIn_44 rfl 45 rfl (nI 0) rg_ki_0, rg_e_istore_4 (cut := rg_cut [47]) (f := false) d_M_isIn_45 rfl 47 rfl, rg_e_cut (cut := rg_cut [47]) 47 rfl, rg_nx_i, rg_nx_v, rg_wd_n, rg_wd_i, rg_wd_l, rg_wd_r, rg_clr_i, rg_clr_l, rg_clr_r, rg_clr_a, rg_clr_n, true_and, and_true, Nat.reduceAdd, Nat.reduceLeDiff, ↓Te_M_same, rg_rt_e, rg_fit_ie, rg_fit_ve, rg_fit_1e, rg_fit_0e, rg_fit_be, vi, vj, ci, cj, i4, j4]
  rw [nI_eqp (a := i) (by omega) (by omega), nI_ltp (a := ln j) (by omega) (by omega), nI_eqp (a := ln i) (by omega) (by omega), nI_lep (a := j) (by omega) (by omega)]
  have stop : sdB ln pk i j = false → K (some (.int (nI 0))) w := fun h => by rw [h] at hK; exact hK
  refine ⟨fun h => stop ?_, fun h => ⟨fun h1 => stop ?_, fun h1 => ⟨fun h2 => ?_, fun h2 => ⟨fun h3 => ?_, fun h3 => stop ?_⟩⟩⟩⟩
  · subst h
    unfold sdB
    rw [if_pos rfl, decide_eq_false (by omega), Bool.false_and]
  · unfold sdB
    rw [if_neg (by omega), decide_eq_false (by omega), Bool.false_and]
  · exact loop h (by omega) (fun z => absurd z h2) 0 (by omega)
  · exact loop h (by omega) (fun _ => by omega) 0 (by omega)
  · unfold sdB
    rw [if_pos (Classical.not_not.mp h2).symm, decide_eq_false (by omega), Bool.false_and]
theorem gtF_s {p : Nat → Bool} {least m : Nat} (h : least ≤ m + 1) : gtF p least (m + 1) = if p (m + 1) = true then m + 1 else gtF p least m := by
  rw [gtF]
  by_cases hp : p (m + 1) = true
  · rw [if_pos ⟨h, hp⟩, if_pos hp]
  · rw [if_neg (fun z => hp z.2), if_neg hp]
-- M.overlapOf
def P_M_overlapOf : rg_P := (rg_F_M, [(139, 6, 0, T_M_same)], [], [], [], [], 0)
def T_M_overlapOf : rg_T := fun as w K => match as with
  | [.ref 18, .int i, .int j, .int least] => ∃ nr ln pk i' j' least', Lm nr ln pk w ∧ i = nI i' ∧ j = nI j' ∧ i' < nr ∧ j' < nr ∧ least = nI least' ∧ 1 ≤ least' ∧ least' ≤ 12 ∧ K (some (.int (nI (ovN ln pk i' j' least')))) w
  | _ => False
theorem Te_M_overlapOf (i : Int32) (j : Int32) (least : Int32) (w : rg_W) (K : Option Value → rg_W → Prop) : T_M_overlapOf [.ref 18, .int i, .int j, .int least] w K = (∃ nr ln pk i' j' least', Lm nr ln pk w ∧ i = nI i' ∧ j = nI j' ∧ i' < nr ∧ j' < nr ∧ least = nI least' ∧ 1 ≤ least' ∧ least' ≤ 12 ∧ K (some (.int (nI (ovN ln pk i' j' least')))) w) := rfl
theorem r_M_overlapOf : ∀ as w K, T_M_overlapOf as w K → ∃ r, as = .ref 18 :: r := by
  intro as w K h
  unfold T_M_overlapOf at h
  split at h
  · exact ⟨_, rfl⟩
  · exact h.elim
theorem G_M_overlapOf (l : Launch) : rg_Good l y_M_overlapOf c_M_overlapOf 6 (some .int) 1 T_M_overlapOf := by
  refine rg_good_of (P := P_M_overlapOf) (by decide) (rg_pok rg_F_M_ok (rg_cons (cw_M_69 (G_M_same l) (by decide) r_M_same) rg_nil)) ?_
  intro as w K Z hT hZ
  unfold T_M_overlapOf at hT
  split at hT
  rotate_left
  · exact hT.elim
  rename_i i j least
  refine ⟨Nat.le_of_ble_eq_true rfl, ?_⟩
  show Z 0 [.ref 18, .int i, .int j, .int least, .null, .null] [] w 0
  obtain ⟨nr, ln, pk, i, j, least, hL, rfl, rfl, hi, hj, rfl, l1, l2, hK⟩ := hT
  have hn9 := hL.1
  obtain ⟨i1, i2, i3, i4, i5⟩ := hL.2 i hi
  obtain ⟨j1, j2, j3, j4, j5⟩ := hL.2 j hj
  have vi : vp_in (nI i) 9 := vp_in_nI (by omega) (by omega)
  have vj : vp_in (nI j) 9 := vp_in_nI (by omega) (by omega)
  have ci : (nI i).toNatClampNeg = i := nI_clamp (by omega)
  have cj : (nI j).toNatClampNeg = j := nI_clamp (by omega)
  have loop : ∀ n, (least ≤ n ∧ (n ≤ min (ln i) (ln j) ∨ n = least)) → Z 6 [.ref 18, .int (nI i), .int (nI j), .int (nI least), .int (nI (gtF (shB ln pk i j) least (n - 1))), .int (nI n)] [] w 0 := by
    refine rg_lp1 _ _ (fun n => 13 - n) ?_
    intro n ⟨hn1, hn2⟩ ih
    refine hZ (rg_cut [6]) 400 6 _ _ _ ?_; simp only [rg_e_iload_5 (cut := rg_cut [6]) (f := true) d_M_overlapOf_6 rfl 8 rfl, rg_e_aload_0 (cut := rg_cut [6]) (f := false) d_M_overlapOf_8 rfl 9 rfl, rg_e_getr (P := P_M_overlapOf) (cut := rg_cut [6]) (f := false) d_M_overlapOf_9 rfl 12 rfl 18 4 2 19 rfl (fun _ => rfl), rg_e_iload_1 (cut := rg_cut [6]) (f := false) d_M_overlapOf_12 rfl 13 rfl, rg_e_iald (cut := rg_cut [6]) (f := false) d_M_overlapOf_13 rfl 14 rfl 19 9 rfl, rg_e_icmp_ge (cut := rg_cut [6]) (f := false) d_M_overlapOf_14 rfl 17 rfl 64 rfl, rg_e_iload_5 (cut := rg_cut [6]) (f := false) d_M_overlapOf_17 rfl 19 rfl, rg_e_aload_0 (cut := rg_cut [6]) (f := false) d_M_overlapOf_19 rfl 20 rfl, rg_e_getr (P := P_M_overlapOf) (cut := rg_cut [6]) (f := false) d_M_overlapOf_20 rfl 23 rfl 18 4 2 19 rfl (fun _ => rfl), rg_e_iload_2 (cut := rg_cut [6]) (f := false) d_M_overlapOf_23 rfl 24 rfl, rg_e_iald (cut := rg_cut [6]) (f := false) d_M_overlapOf_24 rfl 25 rfl 19 9 rfl, rg_e_icmp_ge (cut := rg_cut [6]) (f := false) d_M_overlapOf_25 rfl 28 rfl 64 rfl, rg_e_aload_0 (cut := rg_cut [6]) (f := false) d_M_overlapOf_28 rfl 29 rfl, rg_e_iload_1 (cut := rg_cut [6]) (f := false) d_M_overlapOf_29 rfl 30 rfl, rg_e_aload_0 (cut := rg_cut [6]) (f := false) d_M_overlapOf_30 rfl 31 rfl, rg_e_getr (P := P_M_overlapOf) (cut := rg_cut [6]) (f := false) d_M_overlapOf_31 rfl 34 rfl 18 4 2 19 rfl (fun _ => rfl), rg_e_iload_1 (cut := rg_cut [6]) (f := false) d_M_overlapOf_34 rfl 35 rfl, rg_e_iald (cut := rg_cut [6]) (f := false) d_M_overlapOf_35 rfl 36 rfl 19 9 rfl, rg_e_iload_5 (cut := rg_cut [6]) (f := false) d_M_overlapOf_36 rfl 38 rfl, rg_e_isub (cut := rg_cut [6]) (f := false) d_M_overlapOf_38 rfl 39 rfl, rg_e_iload_2 (cut := rg_cut [6]) (f := false) d_M_overlapOf_39 rfl 40 rfl, rg_e_iconst (cut := rg_cut [6]) (f := false) d_M_overlapOf_40 rfl 41 rfl (nI 0) rg_ki_0, rg_e_iload_5 (cut := rg_cut [6]) (f := false) d_M_overlapOf_41 rfl 43 rfl, rg_e_cv6 (P := P_M_overlapOf) (cut := rg_cut [6]) (f := false) d_M_overlapOf_43 rfl T_M_same rfl, rg_e_if_eq (cut := rg_cut [6]) (f := false) d_M_overlapOf_46 rfl 49 rfl 54 rfl, rg_e_iload_5 (cut := rg_cut [6]) (f := false) d_M_overlapOf_49 rfl 51 rfl, rg_e_goto (cut := rg_cut [6]) (f := false) d_M_overlapOf_51 rfl 56 rfl, rg_e_iload_4 (cut := rg_cut [6]) (f := false) d_M_overlapOf_54 rfl 56 rfl, rg_e_istore_4 (cut := rg_cut [6]) (f := false) d_M_overlapOf_56 rfl 58 rfl, rg_e_iinc_5 (cut := rg_cut [6]) (f := false) d_M_overlapOf_58 rfl 61 rfl (nI 1) rg_ki_1, rg_e_goto (cut := rg_cut [6]) (f := false) d_M_overlapOf_61 rfl 6 rfl, rg_e_iload_4 (cut := rg_cut [6]) (f := false) d_M_overlapOf_64 rfl 66 rfl, rg_e_iret (cut := rg_cut [6]) (f := false) d_M_overlapOf_66 rfl, rg_e_cut (cut := rg_cut [6]) 6 rfl, rg_nx_i, rg_nx_v, rg_wd_n, rg_wd_i, rg_wd_l, rg_wd_r, rg_clr_i, rg_clr_l, rg_clr_r, rg_clr_a, rg_clr_n, true_and, and_true, Nat.reduceAdd, Nat.reduceLeDiff, ↓Te_M_same, rg_rt_e, rg_fit_ie, rg_fit_ve, rg_fit_1e, rg_fit_0e, rg_fit_be, vi, vj, ci, cj, i4, j4, zI_eq, nI_add]
    rw [nI_lep (a := ln i) (by omega) (by omega), nI_lep (a := ln j) (by omega) (by omega)]
    have fin : (ln i ≤ n ∨ ln j ≤ n) → K (some (.int (nI (gtF (shB ln pk i j) least (n - 1))))) w := by
      intro h
      have : gtF (shB ln pk i j) least (n - 1) = ovN ln pk i j least := by
        unfold ovN
        by_cases hle : n ≤ min (ln i) (ln j)
        · rw [show min (ln i) (ln j) = n by omega]
        · obtain rfl : n = least := by omega
          rw [gtF_lo (n - 1) (by omega), gtF_lo (min (ln i) (ln j) - 1) (by omega)]
      rw [this]
      exact hK
    refine ⟨fun h => fin (Or.inl h), fun h => ⟨fun h1 => fin (Or.inr h1), fun h1 => ?_⟩⟩
    have hs : gtF (shB ln pk i j) least n = if shB ln pk i j n = true then n else gtF (shB ln pk i j) least (n - 1) := by
      have := gtF_s (p := shB ln pk i j) (least := least) (m := n - 1) (by omega)
      rwa [show n - 1 + 1 = n by omega] at this
    have hn := ih (n + 1) ⟨by omega, Or.inl (by omega)⟩ (by omega)
    rw [Nat.add_sub_cancel, hs] at hn
    refine ⟨nr, ln, pk, i, ln i - n, j, 0, n, hL, rfl, by rw [pk_sub (by omega)], rfl, rfl, rfl, hi, hj, by omega, by omega, fun h2 => ?_, fun h2 => ?_⟩
    · rw [sm_sh j3 (by omega) (by omega)] at h2
      rw [if_neg (by rw [h2]; decide)] at hn
      exact hn
    · rw [sm_sh j3 (by omega) (by omega)] at h2
      rw [if_pos (by rw [← Bool.not_eq_false]; exact h2)] at hn
      exact hn
  refine hZ (rg_cut [6]) 400 0 _ _ _ ?_; simp only [rg_e_iconst (cut := rg_cut [6]) (f := true) d_M_overlapOf_0 rfl 1 rfl (nI 0) rg_ki_0, rg_e_istore_4 (cut := rg_cut [6]) (f := false) d_M_overlapOf_1 rfl 3 rfl, rg_e_iload_3 (cut := rg_cut [6]) (f := false) d_M_overlapOf_3 rfl 4 rfl, rg_e_istore_5 (cut := rg_cut [6]) (f := false) d_M_overlapOf_4 rfl 6 rfl, rg_e_cut (cut := rg_cut [6]) 6 rfl, rg_nx_i, rg_nx_v, rg_wd_n, rg_wd_i, rg_wd_l, rg_wd_r, rg_clr_i, rg_clr_l, rg_clr_r, rg_clr_a, rg_clr_n, true_and, and_true, Nat.reduceAdd, Nat.reduceLeDiff, ↓Te_M_same, rg_rt_e, rg_fit_ie, rg_fit_ve, rg_fit_1e, rg_fit_0e, rg_fit_be]
  have := loop least ⟨by omega, Or.inr rfl⟩
  rw [gtF_lo (least - 1) (by omega)] at this
  exact this
