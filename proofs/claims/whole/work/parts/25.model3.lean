/-! the reference: short methods, all edges that there were -/
/-- a place of n, or -1 -/
theorem ix_or (k : Int32) {n : Nat} (hn : n < 2 ^ 31) : ((k < -1) = True) ∨ ((k < -1) = False ∧ (k < nI n) = False ∧ (k < 0) = False ∧ (k = -1) = False) ∨ k = -1 ∨ ∃ q, q < n ∧ k = nI q := by
  rcases pk_ix k hn with h | h | h
  · by_cases h1 : k < -1
    · exact Or.inl (eq_true h1)
    · right; right; left
      have e1 := Int32.lt_iff_toInt_lt.mp h
      have e2 : ¬ k.toInt < (-1 : Int32).toInt := fun z => h1 (Int32.lt_iff_toInt_lt.mpr z)
      have m1 : (-1 : Int32).toInt = -1 := by decide +kernel
      have m0 : (0 : Int32).toInt = 0 := by decide +kernel
      rw [m1] at e2
      rw [m0] at e1
      exact Int32.toInt_inj.mp (by rw [m1]; omega)
  · right; left
    have hn0 : ¬ nI n < 0 := nI_pos hn
    have h0 : ¬ k < 0 := fun z => hn0 (Int32.lt_of_le_of_lt h z)
    refine ⟨eq_false fun z => h0 (Int32.lt_trans z (by decide +kernel)), eq_false (Int32.not_lt.mpr h), eq_false h0, eq_false fun z => h0 (by rw [z]; decide +kernel)⟩
  · right; right; right
    exact h
theorem ix_m : (nI 1 = (0:Int32)) = False ∧ ((-1 : Int32) < -1) = False ∧ ((-1 : Int32) < 0) = True := by decide +kernel
theorem m1_lt {n : Nat} (hn : n < 2 ^ 31) : ((-1 : Int32) < nI n) = True := by
  refine eq_true (Int32.lt_iff_toInt_lt.mpr ?_)
  rw [nI_toInt hn]
  have m1 : (-1 : Int32).toInt = -1 := by decide +kernel
  omega
theorem nI_ltm {q : Nat} (hq : q < 2 ^ 31) : (nI q < -1) = False := eq_false fun z => nI_pos hq (Int32.lt_trans z (by decide +kernel))
def ixC (k : Int32) (n : Nat) (bad len : Prop) (at' : Nat → Prop) : Prop := ((k < -1 ∨ ((k < -1) = False ∧ (k < nI n) = False ∧ (k < 0) = False ∧ (k = -1) = False)) → bad) ∧ (k = -1 → len) ∧ ∀ q, q < n → k = nI q → at' q
-- M.clear
def P_M_clear : rg_P := (rg_F_M, [(169, 1, 0, T_M_again)], [], [], [], [], 0)
def T_M_clear : rg_T := fun as w K => match as with
  | [.ref 18] => ∀ w1, AgR (rg_up w 18 0 (nI 0)) w1 → K none (rg_up w1 18 1 (nI 0))
  | _ => False
theorem Te_M_clear  (w : rg_W) (K : Option Value → rg_W → Prop) : T_M_clear [.ref 18] w K = (∀ w1, AgR (rg_up w 18 0 (nI 0)) w1 → K none (rg_up w1 18 1 (nI 0))) := rfl
theorem r_M_clear : ∀ as w K, T_M_clear as w K → ∃ r, as = .ref 18 :: r := by
  intro as w K h
  unfold T_M_clear at h
  split at h
  · exact ⟨_, rfl⟩
  · exact h.elim
theorem G_M_clear (l : Launch) : rg_Good l y_M_clear c_M_clear 1 none 1 T_M_clear := by
  refine rg_good_of (P := P_M_clear) (by decide) (rg_pok rg_F_M_ok (rg_cons (cw_M_84 (G_M_again l) (by decide) r_M_again) rg_nil)) ?_
  intro as w K Z hT hZ
  unfold T_M_clear at hT
  split at hT
  rotate_left
  · exact hT.elim
  refine ⟨Nat.le_of_ble_eq_true rfl, ?_⟩
  show Z 0 [.ref 18] [] w 0
  refine hZ (rg_cut []) 400 0 _ _ _ ?_; simp only [rg_e_aload_0 (cut := rg_cut []) (f := true) d_M_clear_0 rfl 1 rfl, rg_e_iconst (cut := rg_cut []) (f := false) d_M_clear_1 rfl 2 rfl (nI 0) rg_ki_0, rg_e_put (P := P_M_clear) (cut := rg_cut []) (f := false) d_M_clear_2 rfl 5 rfl 18 4 0 rfl rfl, rg_e_aload_0 (cut := rg_cut []) (f := false) d_M_clear_5 rfl 6 rfl, rg_e_cv1 (P := P_M_clear) (cut := rg_cut []) (f := false) d_M_clear_6 rfl T_M_again rfl, rg_e_aload_0 (cut := rg_cut []) (f := false) d_M_clear_9 rfl 10 rfl, rg_e_iconst (cut := rg_cut []) (f := false) d_M_clear_10 rfl 11 rfl (nI 0) rg_ki_0, rg_e_put (P := P_M_clear) (cut := rg_cut []) (f := false) d_M_clear_11 rfl 14 rfl 18 4 1 rfl rfl, rg_e_vret (cut := rg_cut []) (f := false) d_M_clear_14 rfl, rg_nx_i, rg_nx_v, rg_wd_n, rg_wd_i, rg_wd_l, rg_wd_r, rg_clr_i, rg_clr_l, rg_clr_r, rg_clr_a, rg_clr_n, true_and, and_true, Nat.reduceAdd, Nat.reduceLeDiff, ↓Te_M_again, rg_rt_e, rg_fit_ie, rg_fit_ve, rg_fit_1e, rg_fit_0e, rg_fit_be]
  exact hT
-- M.letter
def P_M_letter : rg_P := (rg_F_M, [(146, 2, 0, T_M_out), (161, 3, 0, T_M_throwing)], [], [], [], [], 0)
def T_M_letter : rg_T := fun as w K => match as with
  | [.ref 18, .int r, .int k] => ∃ nr ln pk, RdM nr ln pk w ∧ ((decide (r < 0) || !decide (r < nI nr)) = true → K (some (.int (nI 0))) (rg_up w 18 0 (nI 1))) ∧ ∀ i, i < nr → r = nI i → ixC k (ln i) (K (some (.int (nI 0))) (rg_up w 18 0 (nI 2))) (K (some (.int (nI (ln i)))) (rg_up w 18 0 (nI 0))) (fun q => K (some (.int (nI (lt4 (ln i) (pk i) q)))) (rg_up w 18 0 (nI 0)))
  | _ => False
theorem Te_M_letter (r : Int32) (k : Int32) (w : rg_W) (K : Option Value → rg_W → Prop) : T_M_letter [.ref 18, .int r, .int k] w K = (∃ nr ln pk, RdM nr ln pk w ∧ ((decide (r < 0) || !decide (r < nI nr)) = true → K (some (.int (nI 0))) (rg_up w 18 0 (nI 1))) ∧ ∀ i, i < nr → r = nI i → ixC k (ln i) (K (some (.int (nI 0))) (rg_up w 18 0 (nI 2))) (K (some (.int (nI (ln i)))) (rg_up w 18 0 (nI 0))) (fun q => K (some (.int (nI (lt4 (ln i) (pk i) q)))) (rg_up w 18 0 (nI 0)))) := rfl
theorem r_M_letter : ∀ as w K, T_M_letter as w K → ∃ r, as = .ref 18 :: r := by
  intro as w K h
  unfold T_M_letter at h
  split at h
  · exact ⟨_, rfl⟩
  · exact h.elim
theorem G_M_letter (l : Launch) : rg_Good l y_M_letter c_M_letter 4 (some .int) 1 T_M_letter := by
  refine rg_good_of (P := P_M_letter) (by decide) (rg_pok rg_F_M_ok (rg_cons (cw_M_73 (G_M_out l) (by decide)) (rg_cons (cw_M_80 (G_M_throwing l) (by decide) r_M_throwing) rg_nil))) ?_
  intro as w K Z hT hZ
  unfold T_M_letter at hT
  split at hT
  rotate_left
  · exact hT.elim
  rename_i r k
  refine ⟨Nat.le_of_ble_eq_true rfl, ?_⟩
  show Z 0 [.ref 18, .int r, .int k, .null] [] w 0
  obtain ⟨nr, ln, pk, hR, hK1, hK2⟩ := hT
  obtain ⟨hL, hr, hc⟩ := id hR
  have hn9 := hL.1
  have z1 : (zI true = 0) = False := by decide +kernel
  have z0 : (zI false = 0) = True := by decide +kernel
  have n0 : (nI 0 = 0) = True := by decide +kernel
  have n1 : (nI 1 = 0) = False := by decide +kernel
  rcases in_or r (n := nr) (by omega) with ⟨h, -⟩ | ⟨i, hi, rfl⟩
  · refine hZ (rg_cut []) 400 0 _ _ _ ?_; simp only [rg_e_iload_1 (cut := rg_cut []) (f := true) d_M_letter_0 rfl 1 rfl, rg_e_aload_0 (cut := rg_cut []) (f := false) d_M_letter_1 rfl 2 rfl, rg_e_geti (P := P_M_letter) (cut := rg_cut []) (f := false) d_M_letter_2 rfl 5 rfl 18 4 1 rfl (fun _ => rfl), rg_e_cs2 (P := P_M_letter) (cut := rg_cut []) (f := false) d_M_letter_5 rfl T_M_out rfl, rg_e_istore_3 (cut := rg_cut []) (f := false) d_M_letter_8 rfl 9 rfl, rg_e_aload_0 (cut := rg_cut []) (f := false) d_M_letter_9 rfl 10 rfl, rg_e_iload_3 (cut := rg_cut []) (f := false) d_M_letter_10 rfl 11 rfl, rg_e_iload_3 (cut := rg_cut []) (f := false) d_M_letter_11 rfl 12 rfl, rg_e_if_ne (cut := rg_cut []) (f := false) d_M_letter_12 rfl 15 rfl 34 rfl, rg_e_iload_2 (cut := rg_cut []) (f := false) d_M_letter_15 rfl 16 rfl, rg_e_iconst (cut := rg_cut []) (f := false) d_M_letter_16 rfl 17 rfl (-1) rg_ki_m1, rg_e_icmp_lt (cut := rg_cut []) (f := false) d_M_letter_17 rfl 20 rfl 30 rfl, rg_e_iload_2 (cut := rg_cut []) (f := false) d_M_letter_20 rfl 21 rfl, rg_e_aload_0 (cut := rg_cut []) (f := false) d_M_letter_21 rfl 22 rfl, rg_e_getr (P := P_M_letter) (cut := rg_cut []) (f := false) d_M_letter_22 rfl 25 rfl 18 4 2 19 rfl (fun _ => rfl), rg_e_iload_1 (cut := rg_cut []) (f := false) d_M_letter_25 rfl 26 rfl, rg_e_iald (cut := rg_cut []) (f := false) d_M_letter_26 rfl 27 rfl 19 9 rfl, rg_e_icmp_lt (cut := rg_cut []) (f := false) d_M_letter_27 rfl 30 rfl 34 rfl, rg_e_iconst (cut := rg_cut []) (f := false) d_M_letter_30 rfl 31 rfl (nI 1) rg_ki_1, rg_e_goto (cut := rg_cut []) (f := false) d_M_letter_31 rfl 35 rfl, rg_e_iconst (cut := rg_cut []) (f := false) d_M_letter_34 rfl 35 rfl (nI 0) rg_ki_0, rg_e_cv3 (P := P_M_letter) (cut := rg_cut []) (f := false) d_M_letter_35 rfl T_M_throwing rfl, rg_e_if_eq (cut := rg_cut []) (f := false) d_M_letter_38 rfl 41 rfl 43 rfl, rg_e_iconst (cut := rg_cut []) (f := false) d_M_letter_41 rfl 42 rfl (nI 0) rg_ki_0, rg_e_iret (cut := rg_cut []) (f := false) d_M_letter_42 rfl, rg_e_iload_2 (cut := rg_cut []) (f := false) d_M_letter_43 rfl 44 rfl, rg_e_if_ge (cut := rg_cut []) (f := false) d_M_letter_44 rfl 47 rfl 56 rfl, rg_e_aload_0 (cut := rg_cut []) (f := false) d_M_letter_47 rfl 48 rfl, rg_e_getr (P := P_M_letter) (cut := rg_cut []) (f := false) d_M_letter_48 rfl 51 rfl 18 4 2 19 rfl (fun _ => rfl), rg_e_iload_1 (cut := rg_cut []) (f := false) d_M_letter_51 rfl 52 rfl, rg_e_iald (cut := rg_cut []) (f := false) d_M_letter_52 rfl 53 rfl 19 9 rfl, rg_e_goto (cut := rg_cut []) (f := false) d_M_letter_53 rfl 67 rfl, rg_e_aload_0 (cut := rg_cut []) (f := false) d_M_letter_56 rfl 57 rfl, rg_e_getr (P := P_M_letter) (cut := rg_cut []) (f := false) d_M_letter_57 rfl 60 rfl 18 4 3 20 rfl (fun _ => rfl), rg_e_bipush (cut := rg_cut []) (f := false) d_M_letter_60 rfl 62 rfl (nI 12) rg_kb_12, rg_e_iload_1 (cut := rg_cut []) (f := false) d_M_letter_62 rfl 63 rfl, rg_e_imul (cut := rg_cut []) (f := false) d_M_letter_63 rfl 64 rfl, rg_e_iload_2 (cut := rg_cut []) (f := false) d_M_letter_64 rfl 65 rfl, rg_e_iadd (cut := rg_cut []) (f := false) d_M_letter_65 rfl 66 rfl, rg_e_iald (cut := rg_cut []) (f := false) d_M_letter_66 rfl 67 rfl 20 108 rfl, rg_e_iret (cut := rg_cut []) (f := false) d_M_letter_67 rfl, rg_nx_i, rg_nx_v, rg_wd_n, rg_wd_i, rg_wd_l, rg_wd_r, rg_clr_i, rg_clr_l, rg_clr_r, rg_clr_a, rg_clr_n, true_and, and_true, Nat.reduceAdd, Nat.reduceLeDiff, ↓Te_M_out, ↓Te_M_throwing, rg_rt_e, rg_fit_ie, rg_fit_ve, rg_fit_1e, rg_fit_0e, rg_fit_be, hr, h, z1, z0, n0, n1, decide_true, decide_false, Bool.not_true, Bool.not_false, Bool.true_or, Bool.or_true, Bool.or_false, not_false_eq_true, forall_const, false_imp_iff, not_true_eq_false, if_false, if_true, reduceIte, and_true, true_and]
    exact hK1 h
  · have h := in_f hi (by omega)
    obtain ⟨h1, h2, h3⟩ := hK2 i hi rfl
    obtain ⟨q1, q2, q3, q4, q5⟩ := hL.2 i hi
    have vi : vp_in (nI i) 9 := vp_in_nI (by omega) (by omega)
    have ci : (nI i).toNatClampNeg = i := nI_clamp (by omega)
    rcases ix_or k (n := ln i) (by omega) with g | ⟨g1, g2, g3, g4⟩ | rfl | ⟨q, hq, rfl⟩
    · refine hZ (rg_cut []) 400 0 _ _ _ ?_; simp only [rg_e_iload_1 (cut := rg_cut []) (f := true) d_M_letter_0 rfl 1 rfl, rg_e_aload_0 (cut := rg_cut []) (f := false) d_M_letter_1 rfl 2 rfl, rg_e_geti (P := P_M_letter) (cut := rg_cut []) (f := false) d_M_letter_2 rfl 5 rfl 18 4 1 rfl (fun _ => rfl), rg_e_cs2 (P := P_M_letter) (cut := rg_cut []) (f := false) d_M_letter_5 rfl T_M_out rfl, rg_e_istore_3 (cut := rg_cut []) (f := false) d_M_letter_8 rfl 9 rfl, rg_e_aload_0 (cut := rg_cut []) (f := false) d_M_letter_9 rfl 10 rfl, rg_e_iload_3 (cut := rg_cut []) (f := false) d_M_letter_10 rfl 11 rfl, rg_e_iload_3 (cut := rg_cut []) (f := false) d_M_letter_11 rfl 12 rfl, rg_e_if_ne (cut := rg_cut []) (f := false) d_M_letter_12 rfl 15 rfl 34 rfl, rg_e_iload_2 (cut := rg_cut []) (f := false) d_M_letter_15 rfl 16 rfl, rg_e_iconst (cut := rg_cut []) (f := false) d_M_letter_16 rfl 17 rfl (-1) rg_ki_m1, rg_e_icmp_lt (cut := rg_cut []) (f := false) d_M_letter_17 rfl 20 rfl 30 rfl, rg_e_iload_2 (cut := rg_cut []) (f := false) d_M_letter_20 rfl 21 rfl, rg_e_aload_0 (cut := rg_cut []) (f := false) d_M_letter_21 rfl 22 rfl, rg_e_getr (P := P_M_letter) (cut := rg_cut []) (f := false) d_M_letter_22 rfl 25 rfl 18 4 2 19 rfl (fun _ => rfl), rg_e_iload_1 (cut := rg_cut []) (f := false) d_M_letter_25 rfl 26 rfl, rg_e_iald (cut := rg_cut []) (f := false) d_M_letter_26 rfl 27 rfl 19 9 rfl, rg_e_icmp_lt (cut := rg_cut []) (f := false) d_M_letter_27 rfl 30 rfl 34 rfl, rg_e_iconst (cut := rg_cut []) (f := false) d_M_letter_30 rfl 31 rfl (nI 1) rg_ki_1, rg_e_goto (cut := rg_cut []) (f := false) d_M_letter_31 rfl 35 rfl, rg_e_iconst (cut := rg_cut []) (f := false) d_M_letter_34 rfl 35 rfl (nI 0) rg_ki_0, rg_e_cv3 (P := P_M_letter) (cut := rg_cut []) (f := false) d_M_letter_35 rfl T_M_throwing rfl, rg_e_if_eq (cut := rg_cut []) (f := false) d_M_letter_38 rfl 41 rfl 43 rfl, rg_e_iconst (cut := rg_cut []) (f := false) d_M_letter_41 rfl 42 rfl (nI 0) rg_ki_0, rg_e_iret (cut := rg_cut []) (f := false) d_M_letter_42 rfl, rg_e_iload_2 (cut := rg_cut []) (f := false) d_M_letter_43 rfl 44 rfl, rg_e_if_ge (cut := rg_cut []) (f := false) d_M_letter_44 rfl 47 rfl 56 rfl, rg_e_aload_0 (cut := rg_cut []) (f := false) d_M_letter_47 rfl 48 rfl, rg_e_getr (P := P_M_letter) (cut := rg_cut []) (f := false) d_M_letter_48 rfl 51 rfl 18 4 2 19 rfl (fun _ => rfl), rg_e_iload_1 (cut := rg_cut []) (f := false) d_M_letter_51 rfl 52 rfl, rg_e_iald (cut := rg_cut []) (f := false) d_M_letter_52 rfl 53 rfl 19 9 rfl, rg_e_goto (cut := rg_cut []) (f := false) d_M_letter_53 rfl 67 rfl, rg_e_aload_0 (cut := rg_cut []) (f := false) d_M_letter_56 rfl 57 rfl, rg_e_getr (P := P_M_letter) (cut := rg_cut []) (f := false) d_M_letter_57 rfl 60 rfl 18 4 3 20 rfl (fun _ => rfl), rg_e_bipush (cut := rg_cut []) (f := false) d_M_letter_60 rfl 62 rfl (nI 12) rg_kb_12, rg_e_iload_1 (cut := rg_cut []) (f := false) d_M_letter_62 rfl 63 rfl, rg_e_imul (cut := rg_cut []) (f := false) d_M_letter_63 rfl 64 rfl, rg_e_iload_2 (cut := rg_cut []) (f := false) d_M_letter_64 rfl 65 rfl, rg_e_iadd (cut := rg_cut []) (f := false) d_M_letter_65 rfl 66 rfl, rg_e_iald (cut := rg_cut []) (f := false) d_M_letter_66 rfl 67 rfl 20 108 rfl, rg_e_iret (cut := rg_cut []) (f := false) d_M_letter_67 rfl, rg_nx_i, rg_nx_v, rg_wd_n, rg_wd_i, rg_wd_l, rg_wd_r, rg_clr_i, rg_clr_l, rg_clr_r, rg_clr_a, rg_clr_n, true_and, and_true, Nat.reduceAdd, Nat.reduceLeDiff, ↓Te_M_out, ↓Te_M_throwing, rg_rt_e, rg_fit_ie, rg_fit_ve, rg_fit_1e, rg_fit_0e, rg_fit_be, hr, h, g, z1, z0, n0, n1, decide_true, decide_false, Bool.not_true, Bool.not_false, Bool.true_or, Bool.or_true, Bool.or_false, not_false_eq_true, forall_const, false_imp_iff, not_true_eq_false, if_false, if_true, reduceIte, and_true, true_and]
      exact h1 (Or.inl (of_eq_true g))
    · refine hZ (rg_cut []) 400 0 _ _ _ ?_; simp only [rg_e_iload_1 (cut := rg_cut []) (f := true) d_M_letter_0 rfl 1 rfl, rg_e_aload_0 (cut := rg_cut []) (f := false) d_M_letter_1 rfl 2 rfl, rg_e_geti (P := P_M_letter) (cut := rg_cut []) (f := false) d_M_letter_2 rfl 5 rfl 18 4 1 rfl (fun _ => rfl), rg_e_cs2 (P := P_M_letter) (cut := rg_cut []) (f := false) d_M_letter_5 rfl T_M_out rfl, rg_e_istore_3 (cut := rg_cut []) (f := false) d_M_letter_8 rfl 9 rfl, rg_e_aload_0 (cut := rg_cut []) (f := false) d_M_letter_9 rfl 10 rfl, rg_e_iload_3 (cut := rg_cut []) (f := false) d_M_letter_10 rfl 11 rfl, rg_e_iload_3 (cut := rg_cut []) (f := false) d_M_letter_11 rfl 12 rfl, rg_e_if_ne (cut := rg_cut []) (f := false) d_M_letter_12 rfl 15 rfl 34 rfl, rg_e_iload_2 (cut := rg_cut []) (f := false) d_M_letter_15 rfl 16 rfl, rg_e_iconst (cut := rg_cut []) (f := false) d_M_letter_16 rfl 17 rfl (-1) rg_ki_m1, rg_e_icmp_lt (cut := rg_cut []) (f := false) d_M_letter_17 rfl 20 rfl 30 rfl, rg_e_iload_2 (cut := rg_cut []) (f := false) d_M_letter_20 rfl 21 rfl, rg_e_aload_0 (cut := rg_cut []) (f := false) d_M_letter_21 rfl 22 rfl, rg_e_getr (P := P_M_letter) (cut := rg_cut []) (f := false) d_M_letter_22 rfl 25 rfl 18 4 2 19 rfl (fun _ => rfl), rg_e_iload_1 (cut := rg_cut []) (f := false) d_M_letter_25 rfl 26 rfl, rg_e_iald (cut := rg_cut []) (f := false) d_M_letter_26 rfl 27 rfl 19 9 rfl, rg_e_icmp_lt (cut := rg_cut []) (f := false) d_M_letter_27 rfl 30 rfl 34 rfl, rg_e_iconst (cut := rg_cut []) (f := false) d_M_letter_30 rfl 31 rfl (nI 1) rg_ki_1, rg_e_goto (cut := rg_cut []) (f := false) d_M_letter_31 rfl 35 rfl, rg_e_iconst (cut := rg_cut []) (f := false) d_M_letter_34 rfl 35 rfl (nI 0) rg_ki_0, rg_e_cv3 (P := P_M_letter) (cut := rg_cut []) (f := false) d_M_letter_35 rfl T_M_throwing rfl, rg_e_if_eq (cut := rg_cut []) (f := false) d_M_letter_38 rfl 41 rfl 43 rfl, rg_e_iconst (cut := rg_cut []) (f := false) d_M_letter_41 rfl 42 rfl (nI 0) rg_ki_0, rg_e_iret (cut := rg_cut []) (f := false) d_M_letter_42 rfl, rg_e_iload_2 (cut := rg_cut []) (f := false) d_M_letter_43 rfl 44 rfl, rg_e_if_ge (cut := rg_cut []) (f := false) d_M_letter_44 rfl 47 rfl 56 rfl, rg_e_aload_0 (cut := rg_cut []) (f := false) d_M_letter_47 rfl 48 rfl, rg_e_getr (P := P_M_letter) (cut := rg_cut []) (f := false) d_M_letter_48 rfl 51 rfl 18 4 2 19 rfl (fun _ => rfl), rg_e_iload_1 (cut := rg_cut []) (f := false) d_M_letter_51 rfl 52 rfl, rg_e_iald (cut := rg_cut []) (f := false) d_M_letter_52 rfl 53 rfl 19 9 rfl, rg_e_goto (cut := rg_cut []) (f := false) d_M_letter_53 rfl 67 rfl, rg_e_aload_0 (cut := rg_cut []) (f := false) d_M_letter_56 rfl 57 rfl, rg_e_getr (P := P_M_letter) (cut := rg_cut []) (f := false) d_M_letter_57 rfl 60 rfl 18 4 3 20 rfl (fun _ => rfl), rg_e_bipush (cut := rg_cut []) (f := false) d_M_letter_60 rfl 62 rfl (nI 12) rg_kb_12, rg_e_iload_1 (cut := rg_cut []) (f := false) d_M_letter_62 rfl 63 rfl, rg_e_imul (cut := rg_cut []) (f := false) d_M_letter_63 rfl 64 rfl, rg_e_iload_2 (cut := rg_cut []) (f := false) d_M_letter_64 rfl 65 rfl, rg_e_iadd (cut := rg_cut []) (f := false) d_M_letter_65 rfl 66 rfl, rg_e_iald (cut := rg_cut []) (f := false) d_M_letter_66 rfl 67 rfl 20 108 rfl, rg_e_iret (cut := rg_cut []) (f := false) d_M_letter_67 rfl, rg_nx_i, rg_nx_v, rg_wd_n, rg_wd_i, rg_wd_l, rg_wd_r, rg_clr_i, rg_clr_l, rg_clr_r, rg_clr_a, rg_clr_n, true_and, and_true, Nat.reduceAdd, Nat.reduceLeDiff, ↓Te_M_out, ↓Te_M_throwing, rg_rt_e, rg_fit_ie, rg_fit_ve, rg_fit_1e, rg_fit_0e, rg_fit_be, hr, h, g1, g2, vi, ci, q4, z1, z0, n0, n1, decide_true, decide_false, Bool.not_true, Bool.not_false, Bool.true_or, Bool.or_true, Bool.or_false, not_false_eq_true, forall_const, false_imp_iff, not_true_eq_false, if_false, if_true, reduceIte, and_true, true_and]
      exact h1 (Or.inr ⟨g1, g2, g3, g4⟩)
    · have g1 := ix_m.2.1
      have g2 := ix_m.2.2
      have g3 := m1_lt (n := ln i) (by omega)
      have g4 : ((0 : Int32) ≤ -1) = False := by decide +kernel
      have e5 : (rg_up w 18 0 (nI 0)).1 19 i = nI (ln i) := by rw [rg_up_n (by decide)]; exact q4
      refine hZ (rg_cut []) 400 0 _ _ _ ?_; simp only [rg_e_iload_1 (cut := rg_cut []) (f := true) d_M_letter_0 rfl 1 rfl, rg_e_aload_0 (cut := rg_cut []) (f := false) d_M_letter_1 rfl 2 rfl, rg_e_geti (P := P_M_letter) (cut := rg_cut []) (f := false) d_M_letter_2 rfl 5 rfl 18 4 1 rfl (fun _ => rfl), rg_e_cs2 (P := P_M_letter) (cut := rg_cut []) (f := false) d_M_letter_5 rfl T_M_out rfl, rg_e_istore_3 (cut := rg_cut []) (f := false) d_M_letter_8 rfl 9 rfl, rg_e_aload_0 (cut := rg_cut []) (f := false) d_M_letter_9 rfl 10 rfl, rg_e_iload_3 (cut := rg_cut []) (f := false) d_M_letter_10 rfl 11 rfl, rg_e_iload_3 (cut := rg_cut []) (f := false) d_M_letter_11 rfl 12 rfl, rg_e_if_ne (cut := rg_cut []) (f := false) d_M_letter_12 rfl 15 rfl 34 rfl, rg_e_iload_2 (cut := rg_cut []) (f := false) d_M_letter_15 rfl 16 rfl, rg_e_iconst (cut := rg_cut []) (f := false) d_M_letter_16 rfl 17 rfl (-1) rg_ki_m1, rg_e_icmp_lt (cut := rg_cut []) (f := false) d_M_letter_17 rfl 20 rfl 30 rfl, rg_e_iload_2 (cut := rg_cut []) (f := false) d_M_letter_20 rfl 21 rfl, rg_e_aload_0 (cut := rg_cut []) (f := false) d_M_letter_21 rfl 22 rfl, rg_e_getr (P := P_M_letter) (cut := rg_cut []) (f := false) d_M_letter_22 rfl 25 rfl 18 4 2 19 rfl (fun _ => rfl), rg_e_iload_1 (cut := rg_cut []) (f := false) d_M_letter_25 rfl 26 rfl, rg_e_iald (cut := rg_cut []) (f := false) d_M_letter_26 rfl 27 rfl 19 9 rfl, rg_e_icmp_lt (cut := rg_cut []) (f := false) d_M_letter_27 rfl 30 rfl 34 rfl, rg_e_iconst (cut := rg_cut []) (f := false) d_M_letter_30 rfl 31 rfl (nI 1) rg_ki_1, rg_e_goto (cut := rg_cut []) (f := false) d_M_letter_31 rfl 35 rfl, rg_e_iconst (cut := rg_cut []) (f := false) d_M_letter_34 rfl 35 rfl (nI 0) rg_ki_0, rg_e_cv3 (P := P_M_letter) (cut := rg_cut []) (f := false) d_M_letter_35 rfl T_M_throwing rfl, rg_e_if_eq (cut := rg_cut []) (f := false) d_M_letter_38 rfl 41 rfl 43 rfl, rg_e_iconst (cut := rg_cut []) (f := false) d_M_letter_41 rfl 42 rfl (nI 0) rg_ki_0, rg_e_iret (cut := rg_cut []) (f := false) d_M_letter_42 rfl, rg_e_iload_2 (cut := rg_cut []) (f := false) d_M_letter_43 rfl 44 rfl, rg_e_if_ge (cut := rg_cut []) (f := false) d_M_letter_44 rfl 47 rfl 56 rfl, rg_e_aload_0 (cut := rg_cut []) (f := false) d_M_letter_47 rfl 48 rfl, rg_e_getr (P := P_M_letter) (cut := rg_cut []) (f := false) d_M_letter_48 rfl 51 rfl 18 4 2 19 rfl (fun _ => rfl), rg_e_iload_1 (cut := rg_cut []) (f := false) d_M_letter_51 rfl 52 rfl, rg_e_iald (cut := rg_cut []) (f := false) d_M_letter_52 rfl 53 rfl 19 9 rfl, rg_e_goto (cut := rg_cut []) (f := false) d_M_letter_53 rfl 67 rfl, rg_e_aload_0 (cut := rg_cut []) (f := false) d_M_letter_56 rfl 57 rfl, rg_e_getr (P := P_M_letter) (cut := rg_cut []) (f := false) d_M_letter_57 rfl 60 rfl 18 4 3 20 rfl (fun _ => rfl), rg_e_bipush (cut := rg_cut []) (f := false) d_M_letter_60 rfl 62 rfl (nI 12) rg_kb_12, rg_e_iload_1 (cut := rg_cut []) (f := false) d_M_letter_62 rfl 63 rfl, rg_e_imul (cut := rg_cut []) (f := false) d_M_letter_63 rfl 64 rfl, rg_e_iload_2 (cut := rg_cut []) (f := false) d_M_letter_64 rfl 65 rfl, rg_e_iadd (cut := rg_cut []) (f := false) d_M_letter_65 rfl 66 rfl, rg_e_iald (cut := rg_cut []) (f := false) d_M_letter_66 rfl 67 rfl 20 108 rfl, rg_e_iret (cut := rg_cut []) (f := false) d_M_letter_67 rfl, rg_nx_i, rg_nx_v, rg_wd_n, rg_wd_i, rg_wd_l, rg_wd_r, rg_clr_i, rg_clr_l, rg_clr_r, rg_clr_a, rg_clr_n, true_and, and_true, Nat.reduceAdd, Nat.reduceLeDiff, ↓Te_M_out, ↓Te_M_throwing, rg_rt_e, rg_fit_ie, rg_fit_ve, rg_fit_1e, rg_fit_0e, rg_fit_be, hr, h, g1, g2, g3, g4, vi, ci, q4, e5, z1, z0, n0, n1, decide_true, decide_false, Bool.not_true, Bool.not_false, Bool.true_or, Bool.or_true, Bool.or_false, not_false_eq_true, forall_const, false_imp_iff, not_true_eq_false, if_false, if_true, reduceIte, and_true, true_and]
      exact h2 rfl
    · have g1 := nI_ltm (q := q) (by omega)
      have g2 : ((0 : Int32) ≤ nI q) = True := eq_true (Int32.not_lt.mp (nI_pos (by omega)))
      have g3 : (nI q < nI (ln i)) = True := eq_true (nI_lt hq (by omega))
      have x1 : nI 12 * nI i + nI q = nI (12 * i + q) := by rw [pk_mul, nI_add]
      have v1 : vp_in (nI (12 * i + q)) 108 := vp_in_nI (by omega) (by omega)
      have c1 : (nI (12 * i + q)).toNatClampNeg = 12 * i + q := nI_clamp (by omega)
      have e5 : (rg_up w 18 0 (nI 0)).1 20 (12 * i + q) = nI (lt4 (ln i) (pk i) q) := by rw [rg_up_n (by decide)]; exact q5 q hq
      refine hZ (rg_cut []) 400 0 _ _ _ ?_; simp only [rg_e_iload_1 (cut := rg_cut []) (f := true) d_M_letter_0 rfl 1 rfl, rg_e_aload_0 (cut := rg_cut []) (f := false) d_M_letter_1 rfl 2 rfl, rg_e_geti (P := P_M_letter) (cut := rg_cut []) (f := false) d_M_letter_2 rfl 5 rfl 18 4 1 rfl (fun _ => rfl), rg_e_cs2 (P := P_M_letter) (cut := rg_cut []) (f := false) d_M_letter_5 rfl T_M_out rfl, rg_e_istore_3 (cut := rg_cut []) (f := false) d_M_letter_8 rfl 9 rfl, rg_e_aload_0 (cut := rg_cut []) (f := false) d_M_letter_9 rfl 10 rfl, rg_e_iload_3 (cut := rg_cut []) (f := false) d_M_letter_10 rfl 11 rfl, rg_e_iload_3 (cut := rg_cut []) (f := false) d_M_letter_11 rfl 12 rfl, rg_e_if_ne (cut := rg_cut []) (f := false) d_M_letter_12 rfl 15 rfl 34 rfl, rg_e_iload_2 (cut := rg_cut []) (f := false) d_M_letter_15 rfl 16 rfl, rg_e_iconst (cut := rg_cut []) (f := false) d_M_letter_16 rfl 17 rfl (-1) rg_ki_m1, rg_e_icmp_lt (cut := rg_cut []) (f := false) d_M_letter_17 rfl 20 rfl 30 rfl, rg_e_iload_2 (cut := rg_cut []) (f := false) d_M_letter_20 rfl 21 rfl, rg_e_aload_0 (cut := rg_cut []) (f := false) d_M_letter_21 rfl 22 rfl, rg_e_getr (P := P_M_letter) (cut := rg_cut []) (f := false) d_M_letter_22 rfl 25 rfl 18 4 2 19 rfl (fun _ => rfl), rg_e_iload_1 (cut := rg_cut []) (f := false) d_M_letter_25 rfl 26 rfl, rg_e_iald (cut := rg_cut []) (f := false) d_M_letter_26 rfl 27 rfl 19 9 rfl, rg_e_icmp_lt (cut := rg_cut []) (f := false) d_M_letter_27 rfl 30 rfl 34 rfl, rg_e_iconst (cut := rg_cut []) (f := false) d_M_letter_30 rfl 31 rfl (nI 1) rg_ki_1, rg_e_goto (cut := rg_cut []) (f := false) d_M_letter_31 rfl 35 rfl, rg_e_iconst (cut := rg_cut []) (f := false) d_M_letter_34 rfl 35 rfl (nI 0) rg_ki_0, rg_e_cv3 (P := P_M_letter) (cut := rg_cut []) (f := false) d_M_letter_35 rfl T_M_throwing rfl, rg_e_if_eq (cut := rg_cut []) (f := false) d_M_letter_38 rfl 41 rfl 43 rfl, rg_e_iconst (cut := rg_cut []) (f := false) d_M_letter_41 rfl 42 rfl (nI 0) rg_ki_0, rg_e_iret (cut := rg_cut []) (f := false) d_M_letter_42 rfl, rg_e_iload_2 (cut := rg_cut []) (f := false) d_M_letter_43 rfl 44 rfl, rg_e_if_ge (cut := rg_cut []) (f := false) d_M_letter_44 rfl 47 rfl 56 rfl, rg_e_aload_0 (cut := rg_cut []) (f := false) d_M_letter_47 rfl 48 rfl, rg_e_getr (P := P_M_letter) (cut := rg_cut []) (f := false) d_M_letter_48 rfl 51 rfl 18 4 2 19 rfl (fun _ => rfl), rg_e_iload_1 (cut := rg_cut []) (f := false) d_M_letter_51 rfl 52 rfl, rg_e_iald (cut := rg_cut []) (f := false) d_M_letter_52 rfl 53 rfl 19 9 rfl, rg_e_goto (cut := rg_cut []) (f := false) d_M_letter_53 rfl 67 rfl, rg_e_aload_0 (cut := rg_cut []) (f := false) d_M_letter_56 rfl 57 rfl, rg_e_getr (P := P_M_letter) (cut := rg_cut []) (f := false) d_M_letter_57 rfl 60 rfl 18 4 3 20 rfl (fun _ => rfl), rg_e_bipush (cut := rg_cut []) (f := false) d_M_letter_60 rfl 62 rfl (nI 12) rg_kb_12, rg_e_iload_1 (cut := rg_cut []) (f := false) d_M_letter_62 rfl 63 rfl, rg_e_imul (cut := rg_cut []) (f := false) d_M_letter_63 rfl 64 rfl, rg_e_iload_2 (cut := rg_cut []) (f := false) d_M_letter_64 rfl 65 rfl, rg_e_iadd (cut := rg_cut []) (f := false) d_M_letter_65 rfl 66 rfl, rg_e_iald (cut := rg_cut []) (f := false) d_M_letter_66 rfl 67 rfl 20 108 rfl, rg_e_iret (cut := rg_cut []) (f := false) d_M_letter_67 rfl, rg_nx_i, rg_nx_v, rg_wd_n, rg_wd_i, rg_wd_l, rg_wd_r, rg_clr_i, rg_clr_l, rg_clr_r, rg_clr_a, rg_clr_n, true_and, and_true, Nat.reduceAdd, Nat.reduceLeDiff, ↓Te_M_out, ↓Te_M_throwing, rg_rt_e, rg_fit_ie, rg_fit_ve, rg_fit_1e, rg_fit_0e, rg_fit_be, hr, h, g1, g2, g3, vi, ci, x1, v1, c1, q4, e5, z1, z0, n0, n1, decide_true, decide_false, Bool.not_true, Bool.not_false, Bool.true_or, Bool.or_true, Bool.or_false, not_false_eq_true, forall_const, false_imp_iff, not_true_eq_false, if_false, if_true, reduceIte, and_true, true_and]
      exact h3 q hq rfl
-- M.contained
def P_M_contained : rg_P := (rg_F_M, [(146, 2, 0, T_M_out), (161, 3, 0, T_M_throwing)], [], [], [], [], 0)
def T_M_contained : rg_T := fun as w K => match as with
  | [.ref 18, .int r] => ∃ nr ln pk, RdM nr ln pk w ∧ ((decide (r < 0) || !decide (r < nI nr)) = true → K (some (.int (nI 0))) (rg_up w 18 0 (nI 1))) ∧ ∀ i, i < nr → r = nI i → K (some (.int (zI (!ndN nr ln pk i)))) (rg_up w 18 0 (nI 0))
  | _ => False
theorem Te_M_contained (r : Int32) (w : rg_W) (K : Option Value → rg_W → Prop) : T_M_contained [.ref 18, .int r] w K = (∃ nr ln pk, RdM nr ln pk w ∧ ((decide (r < 0) || !decide (r < nI nr)) = true → K (some (.int (nI 0))) (rg_up w 18 0 (nI 1))) ∧ ∀ i, i < nr → r = nI i → K (some (.int (zI (!ndN nr ln pk i)))) (rg_up w 18 0 (nI 0))) := rfl
theorem r_M_contained : ∀ as w K, T_M_contained as w K → ∃ r, as = .ref 18 :: r := by
  intro as w K h
  unfold T_M_contained at h
  split at h
  · exact ⟨_, rfl⟩
  · exact h.elim
theorem G_M_contained (l : Launch) : rg_Good l y_M_contained c_M_contained 2 (some .boolean) 1 T_M_contained := by
  refine rg_good_of (P := P_M_contained) (by decide) (rg_pok rg_F_M_ok (rg_cons (cw_M_73 (G_M_out l) (by decide)) (rg_cons (cw_M_80 (G_M_throwing l) (by decide) r_M_throwing) rg_nil))) ?_
  intro as w K Z hT hZ
  unfold T_M_contained at hT
  split at hT
  rotate_left
  · exact hT.elim
  rename_i r
  refine ⟨Nat.le_of_ble_eq_true rfl, ?_⟩
  show Z 0 [.ref 18, .int r] [] w 0
  obtain ⟨nr, ln, pk, hR, hK1, hK2⟩ := hT
  obtain ⟨hL, hr, hc⟩ := id hR
  have hn9 := hL.1
  have z1 : (zI true = 0) = False := by decide +kernel
  have z0 : (zI false = 0) = True := by decide +kernel
  have n0 : (nI 0 = 0) = True := by decide +kernel
  have n1 : (nI 1 = 0) = False := by decide +kernel
  rcases in_or r (n := nr) (by omega) with ⟨h, -⟩ | ⟨i, hi, rfl⟩
  · refine hZ (rg_cut []) 400 0 _ _ _ ?_; simp only [rg_e_aload_0 (cut := rg_cut []) (f := true) d_M_contained_0 rfl 1 rfl, rg_e_iload_1 (cut := rg_cut []) (f := false) d_M_contained_1 rfl 2 rfl, rg_e_aload_0 (cut := rg_cut []) (f := false) d_M_contained_2 rfl 3 rfl, rg_e_geti (P := P_M_contained) (cut := rg_cut []) (f := false) d_M_contained_3 rfl 6 rfl 18 4 1 rfl (fun _ => rfl), rg_e_cs2 (P := P_M_contained) (cut := rg_cut []) (f := false) d_M_contained_6 rfl T_M_out rfl, rg_e_iconst (cut := rg_cut []) (f := false) d_M_contained_9 rfl 10 rfl (nI 0) rg_ki_0, rg_e_cv3 (P := P_M_contained) (cut := rg_cut []) (f := false) d_M_contained_10 rfl T_M_throwing rfl, rg_e_if_ne (cut := rg_cut []) (f := false) d_M_contained_13 rfl 16 rfl 29 rfl, rg_e_aload_0 (cut := rg_cut []) (f := false) d_M_contained_16 rfl 17 rfl, rg_e_getr (P := P_M_contained) (cut := rg_cut []) (f := false) d_M_contained_17 rfl 20 rfl 18 4 4 21 rfl (fun _ => rfl), rg_e_iload_1 (cut := rg_cut []) (f := false) d_M_contained_20 rfl 21 rfl, rg_e_zald (cut := rg_cut []) (f := false) d_M_contained_21 rfl 22 rfl 21 9 rfl, rg_e_if_eq (cut := rg_cut []) (f := false) d_M_contained_22 rfl 25 rfl 29 rfl, rg_e_iconst (cut := rg_cut []) (f := false) d_M_contained_25 rfl 26 rfl (nI 1) rg_ki_1, rg_e_goto (cut := rg_cut []) (f := false) d_M_contained_26 rfl 30 rfl, rg_e_iconst (cut := rg_cut []) (f := false) d_M_contained_29 rfl 30 rfl (nI 0) rg_ki_0, rg_e_iret (cut := rg_cut []) (f := false) d_M_contained_30 rfl, rg_nx_i, rg_nx_v, rg_wd_n, rg_wd_i, rg_wd_l, rg_wd_r, rg_clr_i, rg_clr_l, rg_clr_r, rg_clr_a, rg_clr_n, true_and, and_true, Nat.reduceAdd, Nat.reduceLeDiff, ↓Te_M_out, ↓Te_M_throwing, rg_rt_e, rg_fit_ie, rg_fit_ve, rg_fit_1e, rg_fit_0e, rg_fit_be, hr, h, z1, z0, n0, n1, decide_true, decide_false, Bool.not_true, Bool.not_false, Bool.true_or, Bool.or_true, Bool.or_false, not_false_eq_true, forall_const, false_imp_iff, not_true_eq_false, if_false, if_true, reduceIte, and_true, true_and]
    exact hK1 h
  · have h := in_f hi (by omega)
    have hK2 := hK2 i hi rfl
    have vi : vp_in (nI i) 9 := vp_in_nI (by omega) (by omega)
    have ci : (nI i).toNatClampNeg = i := nI_clamp (by omega)
    have e5 : (rg_up w 18 0 (nI 0)).1 21 i = zI (!ndN nr ln pk i) := by rw [rg_up_n (by decide)]; exact hc i hi
    cases hb : (!ndN nr ln pk i) with
    | false =>
      rw [hb] at hK2 e5
      refine hZ (rg_cut []) 400 0 _ _ _ ?_; simp only [rg_e_aload_0 (cut := rg_cut []) (f := true) d_M_contained_0 rfl 1 rfl, rg_e_iload_1 (cut := rg_cut []) (f := false) d_M_contained_1 rfl 2 rfl, rg_e_aload_0 (cut := rg_cut []) (f := false) d_M_contained_2 rfl 3 rfl, rg_e_geti (P := P_M_contained) (cut := rg_cut []) (f := false) d_M_contained_3 rfl 6 rfl 18 4 1 rfl (fun _ => rfl), rg_e_cs2 (P := P_M_contained) (cut := rg_cut []) (f := false) d_M_contained_6 rfl T_M_out rfl, rg_e_iconst (cut := rg_cut []) (f := false) d_M_contained_9 rfl 10 rfl (nI 0) rg_ki_0, rg_e_cv3 (P := P_M_contained) (cut := rg_cut []) (f := false) d_M_contained_10 rfl T_M_throwing rfl, rg_e_if_ne (cut := rg_cut []) (f := false) d_M_contained_13 rfl 16 rfl 29 rfl, rg_e_aload_0 (cut := rg_cut []) (f := false) d_M_contained_16 rfl 17 rfl, rg_e_getr (P := P_M_contained) (cut := rg_cut []) (f := false) d_M_contained_17 rfl 20 rfl 18 4 4 21 rfl (fun _ => rfl), rg_e_iload_1 (cut := rg_cut []) (f := false) d_M_contained_20 rfl 21 rfl, rg_e_zald (cut := rg_cut []) (f := false) d_M_contained_21 rfl 22 rfl 21 9 rfl, rg_e_if_eq (cut := rg_cut []) (f := false) d_M_contained_22 rfl 25 rfl 29 rfl, rg_e_iconst (cut := rg_cut []) (f := false) d_M_contained_25 rfl 26 rfl (nI 1) rg_ki_1, rg_e_goto (cut := rg_cut []) (f := false) d_M_contained_26 rfl 30 rfl, rg_e_iconst (cut := rg_cut []) (f := false) d_M_contained_29 rfl 30 rfl (nI 0) rg_ki_0, rg_e_iret (cut := rg_cut []) (f := false) d_M_contained_30 rfl, rg_nx_i, rg_nx_v, rg_wd_n, rg_wd_i, rg_wd_l, rg_wd_r, rg_clr_i, rg_clr_l, rg_clr_r, rg_clr_a, rg_clr_n, true_and, and_true, Nat.reduceAdd, Nat.reduceLeDiff, ↓Te_M_out, ↓Te_M_throwing, rg_rt_e, rg_fit_ie, rg_fit_ve, rg_fit_1e, rg_fit_0e, rg_fit_be, hr, h, vi, ci, e5, z1, z0, n0, n1, decide_true, decide_false, Bool.not_true, Bool.not_false, Bool.true_or, Bool.or_true, Bool.or_false, not_false_eq_true, forall_const, false_imp_iff, not_true_eq_false, if_false, if_true, reduceIte, and_true, true_and]
      exact hK2
    | true =>
      rw [hb] at hK2 e5
      refine hZ (rg_cut []) 400 0 _ _ _ ?_; simp only [rg_e_aload_0 (cut := rg_cut []) (f := true) d_M_contained_0 rfl 1 rfl, rg_e_iload_1 (cut := rg_cut []) (f := false) d_M_contained_1 rfl 2 rfl, rg_e_aload_0 (cut := rg_cut []) (f := false) d_M_contained_2 rfl 3 rfl, rg_e_geti (P := P_M_contained) (cut := rg_cut []) (f := false) d_M_contained_3 rfl 6 rfl 18 4 1 rfl (fun _ => rfl), rg_e_cs2 (P := P_M_contained) (cut := rg_cut []) (f := false) d_M_contained_6 rfl T_M_out rfl, rg_e_iconst (cut := rg_cut []) (f := false) d_M_contained_9 rfl 10 rfl (nI 0) rg_ki_0, rg_e_cv3 (P := P_M_contained) (cut := rg_cut []) (f := false) d_M_contained_10 rfl T_M_throwing rfl, rg_e_if_ne (cut := rg_cut []) (f := false) d_M_contained_13 rfl 16 rfl 29 rfl, rg_e_aload_0 (cut := rg_cut []) (f := false) d_M_contained_16 rfl 17 rfl, rg_e_getr (P := P_M_contained) (cut := rg_cut []) (f := false) d_M_contained_17 rfl 20 rfl 18 4 4 21 rfl (fun _ => rfl), rg_e_iload_1 (cut := rg_cut []) (f := false) d_M_contained_20 rfl 21 rfl, rg_e_zald (cut := rg_cut []) (f := false) d_M_contained_21 rfl 22 rfl 21 9 rfl, rg_e_if_eq (cut := rg_cut []) (f := false) d_M_contained_22 rfl 25 rfl 29 rfl, rg_e_iconst (cut := rg_cut []) (f := false) d_M_contained_25 rfl 26 rfl (nI 1) rg_ki_1, rg_e_goto (cut := rg_cut []) (f := false) d_M_contained_26 rfl 30 rfl, rg_e_iconst (cut := rg_cut []) (f := false) d_M_contained_29 rfl 30 rfl (nI 0) rg_ki_0, rg_e_iret (cut := rg_cut []) (f := false) d_M_contained_30 rfl, rg_nx_i, rg_nx_v, rg_wd_n, rg_wd_i, rg_wd_l, rg_wd_r, rg_clr_i, rg_clr_l, rg_clr_r, rg_clr_a, rg_clr_n, true_and, and_true, Nat.reduceAdd, Nat.reduceLeDiff, ↓Te_M_out, ↓Te_M_throwing, rg_rt_e, rg_fit_ie, rg_fit_ve, rg_fit_1e, rg_fit_0e, rg_fit_be, hr, h, vi, ci, e5, z1, z0, n0, n1, decide_true, decide_false, Bool.not_true, Bool.not_false, Bool.true_or, Bool.or_true, Bool.or_false, not_false_eq_true, forall_const, false_imp_iff, not_true_eq_false, if_false, if_true, reduceIte, and_true, true_and]
      exact hK2
/-- least is 1 to 12 -/
theorem lst_or (x : Int32) : ((decide (x - nI 1 < 0) || !decide (x - nI 1 < nI 12)) = true ∧ ∀ k, 1 ≤ k → k ≤ 12 → x ≠ nI k) ∨ ∃ k, 1 ≤ k ∧ k ≤ 12 ∧ x = nI k := by
  rcases in_or (x - nI 1) (n := 12) (by omega) with ⟨h, h1⟩ | ⟨j, hj, h⟩
  · left
    refine ⟨h, fun k k1 k2 e => h1 (k - 1) (by omega) ?_⟩
    rw [e, pk_sub (by omega)]
  · right
    refine ⟨j + 1, by omega, by omega, ?_⟩
    rw [← nI_add, ← h, Int32.sub_add_cancel]
theorem lst_f {k : Nat} (h1 : 1 ≤ k) (h2 : k ≤ 12) : (decide (nI k - nI 1 < 0) || !decide (nI k - nI 1 < nI 12)) = false := by
  rw [pk_sub (by omega)]
  exact in_f (by omega) (by omega)
theorem ndB_some {nr : Nat} {ln pk : Nat → Nat} {x : Int32} (hn : nr < 2 ^ 31) (h : ndB nr ln pk x = true) : ∃ i, i < nr ∧ x = nI i ∧ ndN nr ln pk i = true := by
  rcases in_or x (n := nr) hn with ⟨g, -⟩ | ⟨i, hi, rfl⟩
  · rw [ndB_out g] at h; cases h
  · exact ⟨i, hi, rfl, by rw [← ndB_n (by omega) (by omega)]; exact h⟩
-- M.overlap
def P_M_overlap : rg_P := (rg_F_M, [(181, 2, 0, T_M_isNode), (146, 2, 0, T_M_out), (161, 3, 0, T_M_throwing), (189, 4, 0, T_M_overlapOf)], [], [], [], [], 0)
def T_M_overlap : rg_T := fun as w K => match as with
  | [.ref 18, .int x, .int y, .int z] => ∃ nr ln pk, RdM nr ln pk w ∧ (ndB nr ln pk x = false ∨ ndB nr ln pk y = false ∨ x = y ∨ (decide (z - nI 1 < 0) || !decide (z - nI 1 < nI 12)) = true → K (some (.int (nI 0))) (rg_up w 18 0 (nI 1))) ∧ ∀ i j least, ndN nr ln pk i = true → ndN nr ln pk j = true → i ≠ j → 1 ≤ least → least ≤ 12 → x = nI i → y = nI j → z = nI least → K (some (.int (nI (ovN ln pk i j least)))) (rg_up w 18 0 (nI 0))
  | _ => False
theorem Te_M_overlap (x : Int32) (y : Int32) (z : Int32) (w : rg_W) (K : Option Value → rg_W → Prop) : T_M_overlap [.ref 18, .int x, .int y, .int z] w K = (∃ nr ln pk, RdM nr ln pk w ∧ (ndB nr ln pk x = false ∨ ndB nr ln pk y = false ∨ x = y ∨ (decide (z - nI 1 < 0) || !decide (z - nI 1 < nI 12)) = true → K (some (.int (nI 0))) (rg_up w 18 0 (nI 1))) ∧ ∀ i j least, ndN nr ln pk i = true → ndN nr ln pk j = true → i ≠ j → 1 ≤ least → least ≤ 12 → x = nI i → y = nI j → z = nI least → K (some (.int (nI (ovN ln pk i j least)))) (rg_up w 18 0 (nI 0))) := rfl
theorem r_M_overlap : ∀ as w K, T_M_overlap as w K → ∃ r, as = .ref 18 :: r := by
  intro as w K h
  unfold T_M_overlap at h
  split at h
  · exact ⟨_, rfl⟩
  · exact h.elim
theorem G_M_overlap (l : Launch) : rg_Good l y_M_overlap c_M_overlap 4 (some .int) 2 T_M_overlap := by
  refine rg_good_of (P := P_M_overlap) (by decide) (rg_pok rg_F_M_ok (rg_cons (cw_M_90 (G_M_isNode l) (by decide) r_M_isNode) (rg_cons (cw_M_73 (G_M_out l) (by decide)) (rg_cons (cw_M_80 (G_M_throwing l) (by decide) r_M_throwing) (rg_cons (cw_M_94 (G_M_overlapOf l) (by decide) r_M_overlapOf) rg_nil))))) ?_
  intro as w K Z hT hZ
  unfold T_M_overlap at hT
  split at hT
  rotate_left
  · exact hT.elim
  rename_i x y z
  refine ⟨Nat.le_of_ble_eq_true rfl, ?_⟩
  show Z 0 [.ref 18, .int x, .int y, .int z] [] w 0
  obtain ⟨nr, ln, pk, hR, hK1, hK2⟩ := hT
  have z1 : (zI true = 0) = False := by decide +kernel
  have z0 : (zI false = 0) = True := by decide +kernel
  have n0 : (nI 0 = 0) = True := by decide +kernel
  have n1 : (nI 1 = 0) = False := by decide +kernel
  have hn9 := hR.1.1
  have hR' : ∀ v, RdM nr ln pk (rg_up w 18 0 v) := fun v => hR.fr (rg_up_n (by decide)) (rg_up_n (by decide)) (rg_up_n (by decide)) (by rw [rg_up_s, upd_n (by decide)])
  refine hZ (rg_cut []) 400 0 _ _ _ ?_; simp only [rg_e_aload_0 (cut := rg_cut []) (f := true) d_M_overlap_0 rfl 1 rfl, rg_e_aload_0 (cut := rg_cut []) (f := false) d_M_overlap_1 rfl 2 rfl, rg_e_iload_1 (cut := rg_cut []) (f := false) d_M_overlap_2 rfl 3 rfl, rg_e_cv2 (P := P_M_overlap) (cut := rg_cut []) (f := false) d_M_overlap_3 rfl T_M_isNode rfl, rg_e_if_eq (cut := rg_cut []) (f := false) d_M_overlap_6 rfl 9 rfl 33 rfl, rg_e_aload_0 (cut := rg_cut []) (f := false) d_M_overlap_9 rfl 10 rfl, rg_e_iload_2 (cut := rg_cut []) (f := false) d_M_overlap_10 rfl 11 rfl, rg_e_cv2 (P := P_M_overlap) (cut := rg_cut []) (f := false) d_M_overlap_11 rfl T_M_isNode rfl, rg_e_if_eq (cut := rg_cut []) (f := false) d_M_overlap_14 rfl 17 rfl 33 rfl, rg_e_iload_1 (cut := rg_cut []) (f := false) d_M_overlap_17 rfl 18 rfl, rg_e_iload_2 (cut := rg_cut []) (f := false) d_M_overlap_18 rfl 19 rfl, rg_e_icmp_eq (cut := rg_cut []) (f := false) d_M_overlap_19 rfl 22 rfl 33 rfl, rg_e_iload_3 (cut := rg_cut []) (f := false) d_M_overlap_22 rfl 23 rfl, rg_e_iconst (cut := rg_cut []) (f := false) d_M_overlap_23 rfl 24 rfl (nI 1) rg_ki_1, rg_e_isub (cut := rg_cut []) (f := false) d_M_overlap_24 rfl 25 rfl, rg_e_bipush (cut := rg_cut []) (f := false) d_M_overlap_25 rfl 27 rfl (nI 12) rg_kb_12, rg_e_cs2 (P := P_M_overlap) (cut := rg_cut []) (f := false) d_M_overlap_27 rfl T_M_out rfl, rg_e_if_eq (cut := rg_cut []) (f := false) d_M_overlap_30 rfl 33 rfl 37 rfl, rg_e_iconst (cut := rg_cut []) (f := false) d_M_overlap_33 rfl 34 rfl (nI 1) rg_ki_1, rg_e_goto (cut := rg_cut []) (f := false) d_M_overlap_34 rfl 38 rfl, rg_e_iconst (cut := rg_cut []) (f := false) d_M_overlap_37 rfl 38 rfl (nI 0) rg_ki_0, rg_e_iconst (cut := rg_cut []) (f := false) d_M_overlap_38 rfl 39 rfl (nI 0) rg_ki_0, rg_e_cv3 (P := P_M_overlap) (cut := rg_cut []) (f := false) d_M_overlap_39 rfl T_M_throwing rfl, rg_e_if_eq (cut := rg_cut []) (f := false) d_M_overlap_42 rfl 45 rfl 47 rfl, rg_e_iconst (cut := rg_cut []) (f := false) d_M_overlap_45 rfl 46 rfl (nI 0) rg_ki_0, rg_e_iret (cut := rg_cut []) (f := false) d_M_overlap_46 rfl, rg_e_aload_0 (cut := rg_cut []) (f := false) d_M_overlap_47 rfl 48 rfl, rg_e_iload_1 (cut := rg_cut []) (f := false) d_M_overlap_48 rfl 49 rfl, rg_e_iload_2 (cut := rg_cut []) (f := false) d_M_overlap_49 rfl 50 rfl, rg_e_iload_3 (cut := rg_cut []) (f := false) d_M_overlap_50 rfl 51 rfl, rg_e_cv4 (P := P_M_overlap) (cut := rg_cut []) (f := false) d_M_overlap_51 rfl T_M_overlapOf rfl, rg_e_iret (cut := rg_cut []) (f := false) d_M_overlap_54 rfl, rg_nx_i, rg_nx_v, rg_wd_n, rg_wd_i, rg_wd_l, rg_wd_r, rg_clr_i, rg_clr_l, rg_clr_r, rg_clr_a, rg_clr_n, true_and, and_true, Nat.reduceAdd, Nat.reduceLeDiff, ↓Te_M_isNode, ↓Te_M_out, ↓Te_M_throwing, ↓Te_M_overlapOf, rg_rt_e, rg_fit_ie, rg_fit_ve, rg_fit_1e, rg_fit_0e, rg_fit_be, z1, z0, n0, n1, zI_eq, decide_true, decide_false, Bool.not_true, Bool.not_false, Bool.true_or, Bool.or_true, Bool.or_false, not_false_eq_true, forall_const, false_imp_iff, not_true_eq_false, if_false, if_true, reduceIte, and_true, true_and, Bool.false_eq_true, Bool.true_eq_false]
  refine ⟨nr, ln, pk, hR, fun h => hK1 (Or.inl h), fun h => ⟨nr, ln, pk, hR, fun h1 => hK1 (Or.inr (Or.inl h1)), fun h1 => ⟨fun h2 => hK1 (Or.inr (Or.inr (Or.inl h2))), fun h2 => ⟨fun h3 => ?_, fun h3 => hK1 (Or.inr (Or.inr (Or.inr (by rw [← Bool.not_eq_false]; exact h3))))⟩⟩⟩⟩
  obtain ⟨i, hi, rfl, ni⟩ := ndB_some (nr := nr) (ln := ln) (pk := pk) (by omega) (by rw [← Bool.not_eq_false]; exact h)
  obtain ⟨j, hj, rfl, nj⟩ := ndB_some (nr := nr) (ln := ln) (pk := pk) (by omega) (by rw [← Bool.not_eq_false]; exact h1)
  rcases lst_or z with ⟨h4, -⟩ | ⟨least, k1, k2, rfl⟩
  · rw [h3] at h4; cases h4
  · exact ⟨nr, ln, pk, i, j, least, (hR' _).1, rfl, rfl, hi, hj, rfl, k1, k2, hK2 i j least ni nj (fun z => h2 (by rw [z])) k1 k2 rfl rfl rfl⟩
/-- the edges left, as the reference holds them -/
def HgL (nr : Nat) (ln : Nat → Nat) (hg : Nat → Nat → Nat) : Prop := (∀ i, hg i i = 0) ∧ ∀ a b, hg a b ≠ 0 → a < nr ∧ b < nr ∧ hg a b < ln b
def EgM (ln : Nat → Nat) (hg : Nat → Nat → Nat) (w : rg_W) : Prop := w.1 18 9 = nI (eN hg) ∧ ∀ k, k < eN hg → w.1 25 k = nI (sr hg k) ∧ w.1 26 k = nI (ds hg k) ∧ w.1 27 k = nI (ln (ds hg k) - hg (sr hg k) (ds hg k))
def RcM (hg : Nat → Nat → Nat) (w : rg_W) : Prop := ∀ t, t < 81 → w.1 28 t = zI (rcB (kE hg) (t / 9) (t % 9))
theorem EgM.fr {ln : Nat → Nat} {hg : Nat → Nat → Nat} {w w' : rg_W} (h : EgM ln hg w) (h1 : w'.1 18 9 = w.1 18 9) (h2 : w'.1 25 = w.1 25) (h3 : w'.1 26 = w.1 26) (h4 : w'.1 27 = w.1 27) : EgM ln hg w' :=
  ⟨h1.trans h.1, by rw [h2, h3, h4]; exact h.2⟩
theorem eN_pos {hg : Nat → Nat → Nat} {e : Nat} (h : e < eN hg) : hg (sr hg e) (ds hg e) ≠ 0 := by
  have := (esT_lt h).2
  unfold kp at this
  simp at this
  exact this.1
theorem HgL.e {nr : Nat} {ln : Nat → Nat} {hg : Nat → Nat → Nat} (h : HgL nr ln hg) {e : Nat} (he : e < eN hg) : sr hg e < nr ∧ ds hg e < nr ∧ hg (sr hg e) (ds hg e) < ln (ds hg e) := h.2 _ _ (eN_pos he)
def edV (ln : Nat → Nat) (hg : Nat → Nat → Nat) (e c : Nat) : Nat := if c = 0 then sr hg e else if c = 1 then ds hg e else if c = 2 then ln (ds hg e) - hg (sr hg e) (ds hg e) else hg (sr hg e) (ds hg e)
-- M.all
def P_M_all : rg_P := (rg_F_M, [], [], [], [], [], 0)
def T_M_all : rg_T := fun as w K => match as with
  | [.ref 18] => K (some (.int (w.1 18 5))) (rg_up w 18 0 (nI 0))
  | _ => False
theorem Te_M_all  (w : rg_W) (K : Option Value → rg_W → Prop) : T_M_all [.ref 18] w K = (K (some (.int (w.1 18 5))) (rg_up w 18 0 (nI 0))) := rfl
theorem r_M_all : ∀ as w K, T_M_all as w K → ∃ r, as = .ref 18 :: r := by
  intro as w K h
  unfold T_M_all at h
  split at h
  · exact ⟨_, rfl⟩
  · exact h.elim
theorem G_M_all (l : Launch) : rg_Good l y_M_all c_M_all 1 (some .int) 0 T_M_all := by
  refine rg_good_of (P := P_M_all) (by decide) (rg_pok rg_F_M_ok rg_nil) ?_
  intro as w K Z hT hZ
  unfold T_M_all at hT
  split at hT
  rotate_left
  · exact hT.elim
  refine ⟨Nat.le_of_ble_eq_true rfl, ?_⟩
  show Z 0 [.ref 18] [] w 0
  have e : (rg_up w 18 0 (nI 0)).1 18 5 = w.1 18 5 := by rw [rg_up_s, upd_n (by decide)]
  refine hZ (rg_cut []) 400 0 _ _ _ ?_; simp only [rg_e_aload_0 (cut := rg_cut []) (f := true) d_M_all_0 rfl 1 rfl, rg_e_iconst (cut := rg_cut []) (f := false) d_M_all_1 rfl 2 rfl (nI 0) rg_ki_0, rg_e_put (P := P_M_all) (cut := rg_cut []) (f := false) d_M_all_2 rfl 5 rfl 18 4 0 rfl rfl, rg_e_aload_0 (cut := rg_cut []) (f := false) d_M_all_5 rfl 6 rfl, rg_e_geti (P := P_M_all) (cut := rg_cut []) (f := false) d_M_all_6 rfl 9 rfl 18 4 5 rfl (fun _ => rfl), rg_e_iret (cut := rg_cut []) (f := false) d_M_all_9 rfl, rg_nx_i, rg_nx_v, rg_wd_n, rg_wd_i, rg_wd_l, rg_wd_r, rg_clr_i, rg_clr_l, rg_clr_r, rg_clr_a, rg_clr_n, true_and, and_true, Nat.reduceAdd, Nat.reduceLeDiff, rg_rt_e, rg_fit_ie, rg_fit_ve, rg_fit_1e, rg_fit_0e, rg_fit_be, e]
  exact hT
-- M.edge
def P_M_edge : rg_P := (rg_F_M, [(146, 2, 0, T_M_out), (161, 3, 0, T_M_throwing)], [], [], [], [], 0)
def T_M_edge : rg_T := fun as w K => match as with
  | [.ref 18, .int k, .int c] => ∃ nr ln pk hg, RdM nr ln pk w ∧ HgL nr ln hg ∧ EgM ln hg w ∧ ((decide (c < 0) || !decide (c < nI 4)) = true → K (some (.int (nI 0))) (rg_up w 18 0 (nI 1))) ∧ ∀ c', c' < 4 → c = nI c' → ((decide (k < 0) || !decide (k < nI (eN hg))) = true → K (some (.int (nI 0))) (rg_up w 18 0 (nI 2))) ∧ ∀ e, e < eN hg → k = nI e → K (some (.int (nI (edV ln hg e c')))) (rg_up w 18 0 (nI 0))
  | _ => False
theorem Te_M_edge (k : Int32) (c : Int32) (w : rg_W) (K : Option Value → rg_W → Prop) : T_M_edge [.ref 18, .int k, .int c] w K = (∃ nr ln pk hg, RdM nr ln pk w ∧ HgL nr ln hg ∧ EgM ln hg w ∧ ((decide (c < 0) || !decide (c < nI 4)) = true → K (some (.int (nI 0))) (rg_up w 18 0 (nI 1))) ∧ ∀ c', c' < 4 → c = nI c' → ((decide (k < 0) || !decide (k < nI (eN hg))) = true → K (some (.int (nI 0))) (rg_up w 18 0 (nI 2))) ∧ ∀ e, e < eN hg → k = nI e → K (some (.int (nI (edV ln hg e c')))) (rg_up w 18 0 (nI 0))) := rfl
theorem r_M_edge : ∀ as w K, T_M_edge as w K → ∃ r, as = .ref 18 :: r := by
  intro as w K h
  unfold T_M_edge at h
  split at h
  · exact ⟨_, rfl⟩
  · exact h.elim
theorem G_M_edge (l : Launch) : rg_Good l y_M_edge c_M_edge 4 (some .int) 1 T_M_edge := by
  refine rg_good_of (P := P_M_edge) (by decide) (rg_pok rg_F_M_ok (rg_cons (cw_M_73 (G_M_out l) (by decide)) (rg_cons (cw_M_80 (G_M_throwing l) (by decide) r_M_throwing) rg_nil))) ?_
  intro as w K Z hT hZ
  unfold T_M_edge at hT
  split at hT
  rotate_left
  · exact hT.elim
  rename_i k c
  refine ⟨Nat.le_of_ble_eq_true rfl, ?_⟩
  show Z 0 [.ref 18, .int k, .int c, .null] [] w 0
  obtain ⟨nr, ln, pk, hg, hR, hH, hE, hK1, hK2⟩ := hT
  obtain ⟨hL, hr, hc⟩ := id hR
  have hn9 := hL.1
  have h72 := eN_le hH.1
  have z1 : (zI true = 0) = False := by decide +kernel
  have z0 : (zI false = 0) = True := by decide +kernel
  have n0 : (nI 0 = 0) = True := by decide +kernel
  have n1 : (nI 1 = 0) = False := by decide +kernel
  have he := hE.1
  rcases in_or c (n := 4) (by omega) with ⟨h, -⟩ | ⟨c', hc4, rfl⟩
  · refine hZ (rg_cut []) 400 0 _ _ _ ?_; simp only [rg_e_iload_2 (cut := rg_cut []) (f := true) d_M_edge_0 rfl 1 rfl, rg_e_iconst (cut := rg_cut []) (f := false) d_M_edge_1 rfl 2 rfl (nI 4) rg_ki_4, rg_e_cs2 (P := P_M_edge) (cut := rg_cut []) (f := false) d_M_edge_2 rfl T_M_out rfl, rg_e_istore_3 (cut := rg_cut []) (f := false) d_M_edge_5 rfl 6 rfl, rg_e_aload_0 (cut := rg_cut []) (f := false) d_M_edge_6 rfl 7 rfl, rg_e_iload_3 (cut := rg_cut []) (f := false) d_M_edge_7 rfl 8 rfl, rg_e_iload_3 (cut := rg_cut []) (f := false) d_M_edge_8 rfl 9 rfl, rg_e_if_ne (cut := rg_cut []) (f := false) d_M_edge_9 rfl 12 rfl 27 rfl, rg_e_iload_1 (cut := rg_cut []) (f := false) d_M_edge_12 rfl 13 rfl, rg_e_aload_0 (cut := rg_cut []) (f := false) d_M_edge_13 rfl 14 rfl, rg_e_geti (P := P_M_edge) (cut := rg_cut []) (f := false) d_M_edge_14 rfl 17 rfl 18 4 9 rfl (fun _ => rfl), rg_e_cs2 (P := P_M_edge) (cut := rg_cut []) (f := false) d_M_edge_17 rfl T_M_out rfl, rg_e_if_eq (cut := rg_cut []) (f := false) d_M_edge_20 rfl 23 rfl 27 rfl, rg_e_iconst (cut := rg_cut []) (f := false) d_M_edge_23 rfl 24 rfl (nI 1) rg_ki_1, rg_e_goto (cut := rg_cut []) (f := false) d_M_edge_24 rfl 28 rfl, rg_e_iconst (cut := rg_cut []) (f := false) d_M_edge_27 rfl 28 rfl (nI 0) rg_ki_0, rg_e_cv3 (P := P_M_edge) (cut := rg_cut []) (f := false) d_M_edge_28 rfl T_M_throwing rfl, rg_e_if_eq (cut := rg_cut []) (f := false) d_M_edge_31 rfl 34 rfl 36 rfl, rg_e_iconst (cut := rg_cut []) (f := false) d_M_edge_34 rfl 35 rfl (nI 0) rg_ki_0, rg_e_iret (cut := rg_cut []) (f := false) d_M_edge_35 rfl, rg_e_iload_2 (cut := rg_cut []) (f := false) d_M_edge_36 rfl 37 rfl, rg_e_if_ne (cut := rg_cut []) (f := false) d_M_edge_37 rfl 40 rfl 49 rfl, rg_e_aload_0 (cut := rg_cut []) (f := false) d_M_edge_40 rfl 41 rfl, rg_e_getr (P := P_M_edge) (cut := rg_cut []) (f := false) d_M_edge_41 rfl 44 rfl 18 4 10 25 rfl (fun _ => rfl), rg_e_iload_1 (cut := rg_cut []) (f := false) d_M_edge_44 rfl 45 rfl, rg_e_iald (cut := rg_cut []) (f := false) d_M_edge_45 rfl 46 rfl 25 81 rfl, rg_e_goto (cut := rg_cut []) (f := false) d_M_edge_46 rfl 95 rfl, rg_e_iload_2 (cut := rg_cut []) (f := false) d_M_edge_49 rfl 50 rfl, rg_e_iconst (cut := rg_cut []) (f := false) d_M_edge_50 rfl 51 rfl (nI 1) rg_ki_1, rg_e_icmp_ne (cut := rg_cut []) (f := false) d_M_edge_51 rfl 54 rfl 63 rfl, rg_e_aload_0 (cut := rg_cut []) (f := false) d_M_edge_54 rfl 55 rfl, rg_e_getr (P := P_M_edge) (cut := rg_cut []) (f := false) d_M_edge_55 rfl 58 rfl 18 4 11 26 rfl (fun _ => rfl), rg_e_iload_1 (cut := rg_cut []) (f := false) d_M_edge_58 rfl 59 rfl, rg_e_iald (cut := rg_cut []) (f := false) d_M_edge_59 rfl 60 rfl 26 81 rfl, rg_e_goto (cut := rg_cut []) (f := false) d_M_edge_60 rfl 95 rfl, rg_e_iload_2 (cut := rg_cut []) (f := false) d_M_edge_63 rfl 64 rfl, rg_e_iconst (cut := rg_cut []) (f := false) d_M_edge_64 rfl 65 rfl (nI 2) rg_ki_2, rg_e_icmp_ne (cut := rg_cut []) (f := false) d_M_edge_65 rfl 68 rfl 77 rfl, rg_e_aload_0 (cut := rg_cut []) (f := false) d_M_edge_68 rfl 69 rfl, rg_e_getr (P := P_M_edge) (cut := rg_cut []) (f := false) d_M_edge_69 rfl 72 rfl 18 4 12 27 rfl (fun _ => rfl), rg_e_iload_1 (cut := rg_cut []) (f := false) d_M_edge_72 rfl 73 rfl, rg_e_iald (cut := rg_cut []) (f := false) d_M_edge_73 rfl 74 rfl 27 81 rfl, rg_e_goto (cut := rg_cut []) (f := false) d_M_edge_74 rfl 95 rfl, rg_e_aload_0 (cut := rg_cut []) (f := false) d_M_edge_77 rfl 78 rfl, rg_e_getr (P := P_M_edge) (cut := rg_cut []) (f := false) d_M_edge_78 rfl 81 rfl 18 4 2 19 rfl (fun _ => rfl), rg_e_aload_0 (cut := rg_cut []) (f := false) d_M_edge_81 rfl 82 rfl, rg_e_getr (P := P_M_edge) (cut := rg_cut []) (f := false) d_M_edge_82 rfl 85 rfl 18 4 11 26 rfl (fun _ => rfl), rg_e_iload_1 (cut := rg_cut []) (f := false) d_M_edge_85 rfl 86 rfl, rg_e_iald (cut := rg_cut []) (f := false) d_M_edge_86 rfl 87 rfl 26 81 rfl, rg_e_iald (cut := rg_cut []) (f := false) d_M_edge_87 rfl 88 rfl 19 9 rfl, rg_e_aload_0 (cut := rg_cut []) (f := false) d_M_edge_88 rfl 89 rfl, rg_e_getr (P := P_M_edge) (cut := rg_cut []) (f := false) d_M_edge_89 rfl 92 rfl 18 4 12 27 rfl (fun _ => rfl), rg_e_iload_1 (cut := rg_cut []) (f := false) d_M_edge_92 rfl 93 rfl, rg_e_iald (cut := rg_cut []) (f := false) d_M_edge_93 rfl 94 rfl 27 81 rfl, rg_e_isub (cut := rg_cut []) (f := false) d_M_edge_94 rfl 95 rfl, rg_e_iret (cut := rg_cut []) (f := false) d_M_edge_95 rfl, rg_nx_i, rg_nx_v, rg_wd_n, rg_wd_i, rg_wd_l, rg_wd_r, rg_clr_i, rg_clr_l, rg_clr_r, rg_clr_a, rg_clr_n, true_and, and_true, Nat.reduceAdd, Nat.reduceLeDiff, ↓Te_M_out, ↓Te_M_throwing, rg_rt_e, rg_fit_ie, rg_fit_ve, rg_fit_1e, rg_fit_0e, rg_fit_be, h, z1, z0, n0, n1, decide_true, decide_false, Bool.not_true, Bool.not_false, Bool.true_or, Bool.or_true, Bool.or_false, not_false_eq_true, forall_const, false_imp_iff, not_true_eq_false, if_false, if_true, reduceIte, and_true, true_and]
    exact hK1 h
  · have h := in_f hc4 (by omega)
    obtain ⟨g1, g2⟩ := hK2 c' hc4 rfl
    rcases in_or k (n := eN hg) (by omega) with ⟨h2, -⟩ | ⟨e, hlt, rfl⟩
    · refine hZ (rg_cut []) 400 0 _ _ _ ?_; simp only [rg_e_iload_2 (cut := rg_cut []) (f := true) d_M_edge_0 rfl 1 rfl, rg_e_iconst (cut := rg_cut []) (f := false) d_M_edge_1 rfl 2 rfl (nI 4) rg_ki_4, rg_e_cs2 (P := P_M_edge) (cut := rg_cut []) (f := false) d_M_edge_2 rfl T_M_out rfl, rg_e_istore_3 (cut := rg_cut []) (f := false) d_M_edge_5 rfl 6 rfl, rg_e_aload_0 (cut := rg_cut []) (f := false) d_M_edge_6 rfl 7 rfl, rg_e_iload_3 (cut := rg_cut []) (f := false) d_M_edge_7 rfl 8 rfl, rg_e_iload_3 (cut := rg_cut []) (f := false) d_M_edge_8 rfl 9 rfl, rg_e_if_ne (cut := rg_cut []) (f := false) d_M_edge_9 rfl 12 rfl 27 rfl, rg_e_iload_1 (cut := rg_cut []) (f := false) d_M_edge_12 rfl 13 rfl, rg_e_aload_0 (cut := rg_cut []) (f := false) d_M_edge_13 rfl 14 rfl, rg_e_geti (P := P_M_edge) (cut := rg_cut []) (f := false) d_M_edge_14 rfl 17 rfl 18 4 9 rfl (fun _ => rfl), rg_e_cs2 (P := P_M_edge) (cut := rg_cut []) (f := false) d_M_edge_17 rfl T_M_out rfl, rg_e_if_eq (cut := rg_cut []) (f := false) d_M_edge_20 rfl 23 rfl 27 rfl, rg_e_iconst (cut := rg_cut []) (f := false) d_M_edge_23 rfl 24 rfl (nI 1) rg_ki_1, rg_e_goto (cut := rg_cut []) (f := false) d_M_edge_24 rfl 28 rfl, rg_e_iconst (cut := rg_cut []) (f := false) d_M_edge_27 rfl 28 rfl (nI 0) rg_ki_0, rg_e_cv3 (P := P_M_edge) (cut := rg_cut []) (f := false) d_M_edge_28 rfl T_M_throwing rfl, rg_e_if_eq (cut := rg_cut []) (f := false) d_M_edge_31 rfl 34 rfl 36 rfl, rg_e_iconst (cut := rg_cut []) (f := false) d_M_edge_34 rfl 35 rfl (nI 0) rg_ki_0, rg_e_iret (cut := rg_cut []) (f := false) d_M_edge_35 rfl, rg_e_iload_2 (cut := rg_cut []) (f := false) d_M_edge_36 rfl 37 rfl, rg_e_if_ne (cut := rg_cut []) (f := false) d_M_edge_37 rfl 40 rfl 49 rfl, rg_e_aload_0 (cut := rg_cut []) (f := false) d_M_edge_40 rfl 41 rfl, rg_e_getr (P := P_M_edge) (cut := rg_cut []) (f := false) d_M_edge_41 rfl 44 rfl 18 4 10 25 rfl (fun _ => rfl), rg_e_iload_1 (cut := rg_cut []) (f := false) d_M_edge_44 rfl 45 rfl, rg_e_iald (cut := rg_cut []) (f := false) d_M_edge_45 rfl 46 rfl 25 81 rfl, rg_e_goto (cut := rg_cut []) (f := false) d_M_edge_46 rfl 95 rfl, rg_e_iload_2 (cut := rg_cut []) (f := false) d_M_edge_49 rfl 50 rfl, rg_e_iconst (cut := rg_cut []) (f := false) d_M_edge_50 rfl 51 rfl (nI 1) rg_ki_1, rg_e_icmp_ne (cut := rg_cut []) (f := false) d_M_edge_51 rfl 54 rfl 63 rfl, rg_e_aload_0 (cut := rg_cut []) (f := false) d_M_edge_54 rfl 55 rfl, rg_e_getr (P := P_M_edge) (cut := rg_cut []) (f := false) d_M_edge_55 rfl 58 rfl 18 4 11 26 rfl (fun _ => rfl), rg_e_iload_1 (cut := rg_cut []) (f := false) d_M_edge_58 rfl 59 rfl, rg_e_iald (cut := rg_cut []) (f := false) d_M_edge_59 rfl 60 rfl 26 81 rfl, rg_e_goto (cut := rg_cut []) (f := false) d_M_edge_60 rfl 95 rfl, rg_e_iload_2 (cut := rg_cut []) (f := false) d_M_edge_63 rfl 64 rfl, rg_e_iconst (cut := rg_cut []) (f := false) d_M_edge_64 rfl 65 rfl (nI 2) rg_ki_2, rg_e_icmp_ne (cut := rg_cut []) (f := false) d_M_edge_65 rfl 68 rfl 77 rfl, rg_e_aload_0 (cut := rg_cut []) (f := false) d_M_edge_68 rfl 69 rfl, rg_e_getr (P := P_M_edge) (cut := rg_cut []) (f := false) d_M_edge_69 rfl 72 rfl 18 4 12 27 rfl (fun _ => rfl), rg_e_iload_1 (cut := rg_cut []) (f := false) d_M_edge_72 rfl 73 rfl, rg_e_iald (cut := rg_cut []) (f := false) d_M_edge_73 rfl 74 rfl 27 81 rfl, rg_e_goto (cut := rg_cut []) (f := false) d_M_edge_74 rfl 95 rfl, rg_e_aload_0 (cut := rg_cut []) (f := false) d_M_edge_77 rfl 78 rfl, rg_e_getr (P := P_M_edge) (cut := rg_cut []) (f := false) d_M_edge_78 rfl 81 rfl 18 4 2 19 rfl (fun _ => rfl), rg_e_aload_0 (cut := rg_cut []) (f := false) d_M_edge_81 rfl 82 rfl, rg_e_getr (P := P_M_edge) (cut := rg_cut []) (f := false) d_M_edge_82 rfl 85 rfl 18 4 11 26 rfl (fun _ => rfl), rg_e_iload_1 (cut := rg_cut []) (f := false) d_M_edge_85 rfl 86 rfl, rg_e_iald (cut := rg_cut []) (f := false) d_M_edge_86 rfl 87 rfl 26 81 rfl, rg_e_iald (cut := rg_cut []) (f := false) d_M_edge_87 rfl 88 rfl 19 9 rfl, rg_e_aload_0 (cut := rg_cut []) (f := false) d_M_edge_88 rfl 89 rfl, rg_e_getr (P := P_M_edge) (cut := rg_cut []) (f := false) d_M_edge_89 rfl 92 rfl 18 4 12 27 rfl (fun _ => rfl), rg_e_iload_1 (cut := rg_cut []) (f := false) d_M_edge_92 rfl 93 rfl, rg_e_iald (cut := rg_cut []) (f := false) d_M_edge_93 rfl 94 rfl 27 81 rfl, rg_e_isub (cut := rg_cut []) (f := false) d_M_edge_94 rfl 95 rfl, rg_e_iret (cut := rg_cut []) (f := false) d_M_edge_95 rfl, rg_nx_i, rg_nx_v, rg_wd_n, rg_wd_i, rg_wd_l, rg_wd_r, rg_clr_i, rg_clr_l, rg_clr_r, rg_clr_a, rg_clr_n, true_and, and_true, Nat.reduceAdd, Nat.reduceLeDiff, ↓Te_M_out, ↓Te_M_throwing, rg_rt_e, rg_fit_ie, rg_fit_ve, rg_fit_1e, rg_fit_0e, rg_fit_be, h, h2, he, z1, z0, n0, n1, decide_true, decide_false, Bool.not_true, Bool.not_false, Bool.true_or, Bool.or_true, Bool.or_false, not_false_eq_true, forall_const, false_imp_iff, not_true_eq_false, if_false, if_true, reduceIte, and_true, true_and]
      exact g1 h2
    · have h2 := in_f hlt (show eN hg < 2 ^ 31 by omega)
      have g2 := g2 e hlt rfl
      obtain ⟨f1, f2, f3⟩ := hE.2 e hlt
      obtain ⟨u1, u2, u3⟩ := hH.e hlt
      obtain ⟨q1, q2, q3, q4, q5⟩ := hL.2 _ u2
      have ve : vp_in (nI e) 81 := vp_in_nI (by omega) (by omega)
      have ce : (nI e).toNatClampNeg = e := nI_clamp (by omega)
      have vd : vp_in (nI (ds hg e)) 9 := vp_in_nI (by omega) (by omega)
      have cd : (nI (ds hg e)).toNatClampNeg = ds hg e := nI_clamp (by omega)
      have f1 : (rg_up w 18 0 (nI 0)).1 25 e = _ := f1
      have f2 : (rg_up w 18 0 (nI 0)).1 26 e = _ := f2
      have f3 : (rg_up w 18 0 (nI 0)).1 27 e = _ := f3
      have f4 : (rg_up w 18 0 (nI 0)).1 19 (ds hg e) = _ := q4
      have s1 : nI (ln (ds hg e)) - nI (ln (ds hg e) - hg (sr hg e) (ds hg e)) = nI (hg (sr hg e) (ds hg e)) := by
        rw [pk_sub (by omega)]
        congr 1
        omega
      have w0 : (nI c' = 0) = (c' = 0) := nI_eq0 (by omega)
      have w1 : (nI c' = nI 1) = (c' = 1) := nI_eqp (by omega) (by omega)
      have w2 : (nI c' = nI 2) = (c' = 2) := nI_eqp (by omega) (by omega)
      refine hZ (rg_cut []) 400 0 _ _ _ ?_; simp only [rg_e_iload_2 (cut := rg_cut []) (f := true) d_M_edge_0 rfl 1 rfl, rg_e_iconst (cut := rg_cut []) (f := false) d_M_edge_1 rfl 2 rfl (nI 4) rg_ki_4, rg_e_cs2 (P := P_M_edge) (cut := rg_cut []) (f := false) d_M_edge_2 rfl T_M_out rfl, rg_e_istore_3 (cut := rg_cut []) (f := false) d_M_edge_5 rfl 6 rfl, rg_e_aload_0 (cut := rg_cut []) (f := false) d_M_edge_6 rfl 7 rfl, rg_e_iload_3 (cut := rg_cut []) (f := false) d_M_edge_7 rfl 8 rfl, rg_e_iload_3 (cut := rg_cut []) (f := false) d_M_edge_8 rfl 9 rfl, rg_e_if_ne (cut := rg_cut []) (f := false) d_M_edge_9 rfl 12 rfl 27 rfl, rg_e_iload_1 (cut := rg_cut []) (f := false) d_M_edge_12 rfl 13 rfl, rg_e_aload_0 (cut := rg_cut []) (f := false) d_M_edge_13 rfl 14 rfl, rg_e_geti (P := P_M_edge) (cut := rg_cut []) (f := false) d_M_edge_14 rfl 17 rfl 18 4 9 rfl (fun _ => rfl), rg_e_cs2 (P := P_M_edge) (cut := rg_cut []) (f := false) d_M_edge_17 rfl T_M_out rfl, rg_e_if_eq (cut := rg_cut []) (f := false) d_M_edge_20 rfl 23 rfl 27 rfl, rg_e_iconst (cut := rg_cut []) (f := false) d_M_edge_23 rfl 24 rfl (nI 1) rg_ki_1, rg_e_goto (cut := rg_cut []) (f := false) d_M_edge_24 rfl 28 rfl, rg_e_iconst (cut := rg_cut []) (f := false) d_M_edge_27 rfl 28 rfl (nI 0) rg_ki_0, rg_e_cv3 (P := P_M_edge) (cut := rg_cut []) (f := false) d_M_edge_28 rfl T_M_throwing rfl, rg_e_if_eq (cut := rg_cut []) (f := false) d_M_edge_31 rfl 34 rfl 36 rfl, rg_e_iconst (cut := rg_cut []) (f := false) d_M_edge_34 rfl 35 rfl (nI 0) rg_ki_0, rg_e_iret (cut := rg_cut []) (f := false) d_M_edge_35 rfl, rg_e_iload_2 (cut := rg_cut []) (f := false) d_M_edge_36 rfl 37 rfl, rg_e_if_ne (cut := rg_cut []) (f := false) d_M_edge_37 rfl 40 rfl 49 rfl, rg_e_aload_0 (cut := rg_cut []) (f := false) d_M_edge_40 rfl 41 rfl, rg_e_getr (P := P_M_edge) (cut := rg_cut []) (f := false) d_M_edge_41 rfl 44 rfl 18 4 10 25 rfl (fun _ => rfl), rg_e_iload_1 (cut := rg_cut []) (f := false) d_M_edge_44 rfl 45 rfl, rg_e_iald (cut := rg_cut []) (f := false) d_M_edge_45 rfl 46 rfl 25 81 rfl, rg_e_goto (cut := rg_cut []) (f := false) d_M_edge_46 rfl 95 rfl, rg_e_iload_2 (cut := rg_cut []) (f := false) d_M_edge_49 rfl 50 rfl, rg_e_iconst (cut := rg_cut []) (f := false) d_M_edge_50 rfl 51 rfl (nI 1) rg_ki_1, rg_e_icmp_ne (cut := rg_cut []) (f := false) d_M_edge_51 rfl 54 rfl 63 rfl, rg_e_aload_0 (cut := rg_cut []) (f := false) d_M_edge_54 rfl 55 rfl, rg_e_getr (P := P_M_edge) (cut := rg_cut []) (f := false) d_M_edge_55 rfl 58 rfl 18 4 11 26 rfl (fun _ => rfl), rg_e_iload_1 (cut := rg_cut []) (f := false) d_M_edge_58 rfl 59 rfl, rg_e_iald (cut := rg_cut []) (f := false) d_M_edge_59 rfl 60 rfl 26 81 rfl, rg_e_goto (cut := rg_cut []) (f := false) d_M_edge_60 rfl 95 rfl, rg_e_iload_2 (cut := rg_cut []) (f := false) d_M_edge_63 rfl 64 rfl, rg_e_iconst (cut := rg_cut []) (f := false) d_M_edge_64 rfl 65 rfl (nI 2) rg_ki_2, rg_e_icmp_ne (cut := rg_cut []) (f := false) d_M_edge_65 rfl 68 rfl 77 rfl, rg_e_aload_0 (cut := rg_cut []) (f := false) d_M_edge_68 rfl 69 rfl, rg_e_getr (P := P_M_edge) (cut := rg_cut []) (f := false) d_M_edge_69 rfl 72 rfl 18 4 12 27 rfl (fun _ => rfl), rg_e_iload_1 (cut := rg_cut []) (f := false) d_M_edge_72 rfl 73 rfl, rg_e_iald (cut := rg_cut []) (f := false) d_M_edge_73 rfl 74 rfl 27 81 rfl, rg_e_goto (cut := rg_cut []) (f := false) d_M_edge_74 rfl 95 rfl, rg_e_aload_0 (cut := rg_cut []) (f := false) d_M_edge_77 rfl 78 rfl, rg_e_getr (P := P_M_edge) (cut := rg_cut []) (f := false) d_M_edge_78 rfl 81 rfl 18 4 2 19 rfl (fun _ => rfl), rg_e_aload_0 (cut := rg_cut []) (f := false) d_M_edge_81 rfl 82 rfl, rg_e_getr (P := P_M_edge) (cut := rg_cut []) (f := false) d_M_edge_82 rfl 85 rfl 18 4 11 26 rfl (fun _ => rfl), rg_e_iload_1 (cut := rg_cut []) (f := false) d_M_edge_85 rfl 86 rfl, rg_e_iald (cut := rg_cut []) (f := false) d_M_edge_86 rfl 87 rfl 26 81 rfl, rg_e_iald (cut := rg_cut []) (f := false) d_M_edge_87 rfl 88 rfl 19 9 rfl, rg_e_aload_0 (cut := rg_cut []) (f := false) d_M_edge_88 rfl 89 rfl, rg_e_getr (P := P_M_edge) (cut := rg_cut []) (f := false) d_M_edge_89 rfl 92 rfl 18 4 12 27 rfl (fun _ => rfl), rg_e_iload_1 (cut := rg_cut []) (f := false) d_M_edge_92 rfl 93 rfl, rg_e_iald (cut := rg_cut []) (f := false) d_M_edge_93 rfl 94 rfl 27 81 rfl, rg_e_isub (cut := rg_cut []) (f := false) d_M_edge_94 rfl 95 rfl, rg_e_iret (cut := rg_cut []) (f := false) d_M_edge_95 rfl, rg_nx_i, rg_nx_v, rg_wd_n, rg_wd_i, rg_wd_l, rg_wd_r, rg_clr_i, rg_clr_l, rg_clr_r, rg_clr_a, rg_clr_n, true_and, and_true, Nat.reduceAdd, Nat.reduceLeDiff, ↓Te_M_out, ↓Te_M_throwing, rg_rt_e, rg_fit_ie, rg_fit_ve, rg_fit_1e, rg_fit_0e, rg_fit_be, h, h2, he, ve, ce, vd, cd, f1, f2, f3, f4, s1, w0, w1, w2, z1, z0, n0, n1, decide_true, decide_false, Bool.not_true, Bool.not_false, Bool.true_or, Bool.or_true, Bool.or_false, not_false_eq_true, forall_const, false_imp_iff, not_true_eq_false, if_false, if_true, reduceIte, and_true, true_and]
      unfold edV at g2
      by_cases a0 : c' = 0
      · rw [if_pos a0] at g2
        exact ⟨fun z => absurd a0 z, fun _ => g2⟩
      · rw [if_neg a0] at g2
        refine ⟨fun _ => ?_, fun z => absurd a0 z⟩
        by_cases a1 : c' = 1
        · rw [if_pos a1] at g2
          exact ⟨fun z => absurd a1 z, fun _ => g2⟩
        · rw [if_neg a1] at g2
          refine ⟨fun _ => ?_, fun z => absurd a1 z⟩
          by_cases a2 : c' = 2
          · rw [if_pos a2] at g2
            exact ⟨fun z => absurd a2 z, fun _ => g2⟩
          · rw [if_neg a2] at g2
            exact ⟨fun _ => g2, fun z => absurd a2 z⟩
-- M.way
def P_M_way : rg_P := (rg_F_M, [(181, 2, 0, T_M_isNode), (161, 3, 0, T_M_throwing)], [], [], [], [], 0)
def T_M_way : rg_T := fun as w K => match as with
  | [.ref 18, .int x, .int y] => ∃ nr ln pk hg, RdM nr ln pk w ∧ RcM hg w ∧ (ndB nr ln pk x = false ∨ ndB nr ln pk y = false → K (some (.int (nI 0))) (rg_up w 18 0 (nI 1))) ∧ ∀ i j, ndN nr ln pk i = true → ndN nr ln pk j = true → x = nI i → y = nI j → K (some (.int (zI (rcB (kE hg) i j)))) (rg_up w 18 0 (nI 0))
  | _ => False
theorem Te_M_way (x : Int32) (y : Int32) (w : rg_W) (K : Option Value → rg_W → Prop) : T_M_way [.ref 18, .int x, .int y] w K = (∃ nr ln pk hg, RdM nr ln pk w ∧ RcM hg w ∧ (ndB nr ln pk x = false ∨ ndB nr ln pk y = false → K (some (.int (nI 0))) (rg_up w 18 0 (nI 1))) ∧ ∀ i j, ndN nr ln pk i = true → ndN nr ln pk j = true → x = nI i → y = nI j → K (some (.int (zI (rcB (kE hg) i j)))) (rg_up w 18 0 (nI 0))) := rfl
theorem r_M_way : ∀ as w K, T_M_way as w K → ∃ r, as = .ref 18 :: r := by
  intro as w K h
  unfold T_M_way at h
  split at h
  · exact ⟨_, rfl⟩
  · exact h.elim
theorem G_M_way (l : Launch) : rg_Good l y_M_way c_M_way 3 (some .boolean) 2 T_M_way := by
  refine rg_good_of (P := P_M_way) (by decide) (rg_pok rg_F_M_ok (rg_cons (cw_M_90 (G_M_isNode l) (by decide) r_M_isNode) (rg_cons (cw_M_80 (G_M_throwing l) (by decide) r_M_throwing) rg_nil))) ?_
  intro as w K Z hT hZ
  unfold T_M_way at hT
  split at hT
  rotate_left
  · exact hT.elim
  rename_i x y
  refine ⟨Nat.le_of_ble_eq_true rfl, ?_⟩
  show Z 0 [.ref 18, .int x, .int y] [] w 0
  obtain ⟨nr, ln, pk, hg, hR, hC, hK1, hK2⟩ := hT
  have hn9 := hR.1.1
  have z1 : (zI true = 0) = False := by decide +kernel
  have z0 : (zI false = 0) = True := by decide +kernel
  have n0 : (nI 0 = 0) = True := by decide +kernel
  have n1 : (nI 1 = 0) = False := by decide +kernel
  refine hZ (rg_cut []) 400 0 _ _ _ ?_; simp only [rg_e_aload_0 (cut := rg_cut []) (f := true) d_M_way_0 rfl 1 rfl, rg_e_aload_0 (cut := rg_cut []) (f := false) d_M_way_1 rfl 2 rfl, rg_e_iload_1 (cut := rg_cut []) (f := false) d_M_way_2 rfl 3 rfl, rg_e_cv2 (P := P_M_way) (cut := rg_cut []) (f := false) d_M_way_3 rfl T_M_isNode rfl, rg_e_if_eq (cut := rg_cut []) (f := false) d_M_way_6 rfl 9 rfl 17 rfl, rg_e_aload_0 (cut := rg_cut []) (f := false) d_M_way_9 rfl 10 rfl, rg_e_iload_2 (cut := rg_cut []) (f := false) d_M_way_10 rfl 11 rfl, rg_e_cv2 (P := P_M_way) (cut := rg_cut []) (f := false) d_M_way_11 rfl T_M_isNode rfl, rg_e_if_ne (cut := rg_cut []) (f := false) d_M_way_14 rfl 17 rfl 21 rfl, rg_e_iconst (cut := rg_cut []) (f := false) d_M_way_17 rfl 18 rfl (nI 1) rg_ki_1, rg_e_goto (cut := rg_cut []) (f := false) d_M_way_18 rfl 22 rfl, rg_e_iconst (cut := rg_cut []) (f := false) d_M_way_21 rfl 22 rfl (nI 0) rg_ki_0, rg_e_iconst (cut := rg_cut []) (f := false) d_M_way_22 rfl 23 rfl (nI 0) rg_ki_0, rg_e_cv3 (P := P_M_way) (cut := rg_cut []) (f := false) d_M_way_23 rfl T_M_throwing rfl, rg_e_if_ne (cut := rg_cut []) (f := false) d_M_way_26 rfl 29 rfl 47 rfl, rg_e_aload_0 (cut := rg_cut []) (f := false) d_M_way_29 rfl 30 rfl, rg_e_getr (P := P_M_way) (cut := rg_cut []) (f := false) d_M_way_30 rfl 33 rfl 18 4 13 28 rfl (fun _ => rfl), rg_e_bipush (cut := rg_cut []) (f := false) d_M_way_33 rfl 35 rfl (nI 9) rg_kb_9, rg_e_iload_1 (cut := rg_cut []) (f := false) d_M_way_35 rfl 36 rfl, rg_e_imul (cut := rg_cut []) (f := false) d_M_way_36 rfl 37 rfl, rg_e_iload_2 (cut := rg_cut []) (f := false) d_M_way_37 rfl 38 rfl, rg_e_iadd (cut := rg_cut []) (f := false) d_M_way_38 rfl 39 rfl, rg_e_zald (cut := rg_cut []) (f := false) d_M_way_39 rfl 40 rfl 28 81 rfl, rg_e_if_eq (cut := rg_cut []) (f := false) d_M_way_40 rfl 43 rfl 47 rfl, rg_e_iconst (cut := rg_cut []) (f := false) d_M_way_43 rfl 44 rfl (nI 1) rg_ki_1, rg_e_goto (cut := rg_cut []) (f := false) d_M_way_44 rfl 48 rfl, rg_e_iconst (cut := rg_cut []) (f := false) d_M_way_47 rfl 48 rfl (nI 0) rg_ki_0, rg_e_iret (cut := rg_cut []) (f := false) d_M_way_48 rfl, rg_nx_i, rg_nx_v, rg_wd_n, rg_wd_i, rg_wd_l, rg_wd_r, rg_clr_i, rg_clr_l, rg_clr_r, rg_clr_a, rg_clr_n, true_and, and_true, Nat.reduceAdd, Nat.reduceLeDiff, ↓Te_M_isNode, ↓Te_M_throwing, rg_rt_e, rg_fit_ie, rg_fit_ve, rg_fit_1e, rg_fit_0e, rg_fit_be, z1, z0, n0, n1, decide_true, decide_false, Bool.not_true, Bool.not_false, Bool.true_or, Bool.or_true, Bool.or_false, not_false_eq_true, forall_const, false_imp_iff, not_true_eq_false, if_false, if_true, reduceIte, and_true, true_and, zI_eq, Bool.false_eq_true, Bool.true_eq_false]
  refine ⟨nr, ln, pk, hR, fun h => hK1 (Or.inl h), fun h => ⟨nr, ln, pk, hR, fun h1 => ?_, fun h1 => hK1 (Or.inr (Classical.not_not.mp h1))⟩⟩
  obtain ⟨i, hi, rfl, ni⟩ := ndB_some (nr := nr) (ln := ln) (pk := pk) (by omega) (by rw [← Bool.not_eq_false]; exact h)
  obtain ⟨j, hj, rfl, nj⟩ := ndB_some (nr := nr) (ln := ln) (pk := pk) (by omega) (by rw [← Bool.not_eq_false]; exact h1)
  have x1 : nI 9 * nI i + nI j = nI (9 * i + j) := by rw [pk_mul, nI_add]
  have hK2 := hK2 i j ni nj rfl rfl
  have e := hC (9 * i + j) (by omega)
  rw [show (9 * i + j) / 9 = i by omega, show (9 * i + j) % 9 = j by omega] at e
  rw [x1, nI_clamp (by omega), rg_up_n (by decide), e, zI_eq]
  refine ⟨vp_in_nI (by omega) (by omega), fun h2 => ?_, fun h2 => ?_⟩
  · rw [h2] at hK2; exact hK2
  · have h2 : rcB (kE hg) i j = true := by rw [← Bool.not_eq_false]; exact h2
    rw [h2] at hK2; exact hK2
/-- all edges that there were, in order -/
def evT (hg : Nat → Nat → Nat) (t : Nat) : List Nat := (List.range t).filter (hgC hg)
theorem evT_t {hg : Nat → Nat → Nat} {t : Nat} (h : hgC hg t = true) : evT hg (t + 1) = evT hg t ++ [t] := by
  unfold evT
  rw [List.range_succ, List.filter_append]
  simp [h]
theorem evT_f {hg : Nat → Nat → Nat} {t : Nat} (h : hgC hg t = false) : evT hg (t + 1) = evT hg t := by
  unfold evT
  rw [List.range_succ, List.filter_append]
  simp [h]
theorem evT_cn (hg : Nat → Nat → Nat) : ∀ t, (evT hg t).length = cnF (hgC hg) t
  | 0 => rfl
  | t + 1 => by
    have ih := evT_cn hg t
    cases h : hgC hg t with
    | true => rw [evT_t h, List.length_append, ih, cnF, h]; rfl
    | false => rw [evT_f h, ih, cnF, h]; rfl
theorem evT_le (hg : Nat → Nat → Nat) (t : Nat) : (evT hg t).length ≤ t := by
  rw [evT_cn]
  exact cnF_le _ _
theorem evT_lt {hg : Nat → Nat → Nat} {t k : Nat} (h : k < (evT hg t).length) : (evT hg t).getD k 0 < t ∧ hg ((evT hg t).getD k 0 / 9) ((evT hg t).getD k 0 % 9) ≠ 0 := by
  have hm : (evT hg t).getD k 0 ∈ evT hg t := gD_mem h
  obtain ⟨h1, h2⟩ := List.mem_filter.mp hm
  refine ⟨List.mem_range.mp h1, ?_⟩
  unfold hgC at h2
  simpa using h2
theorem evT_mem {hg : Nat → Nat → Nat} {i j : Nat} (hi : i < 9) (hj : j < 9) (h : hg i j ≠ 0) : ∃ k, k < (evT hg 81).length ∧ (evT hg 81).getD k 0 = 9 * i + j := by
  have hm : 9 * i + j ∈ evT hg 81 := by
    refine List.mem_filter.mpr ⟨List.mem_range.mpr (by omega), ?_⟩
    unfold hgC
    rw [show (9 * i + j) / 9 = i by omega, show (9 * i + j) % 9 = j by omega]
    simpa using h
  obtain ⟨k, hk⟩ := List.getElem?_of_mem hm
  have hl := (List.getElem?_eq_some_iff.mp hk).1
  exact ⟨k, hl, by rw [List.getD_eq_getElem?_getD, hk]; rfl⟩
def EvA (ln : Nat → Nat) (hg : Nat → Nat → Nat) (c k : Nat) (w : rg_W) : Prop := w.1 22 k = nI (c / 9) ∧ w.1 23 k = nI (c % 9) ∧ w.1 24 k = nI (ln (c % 9) - hg (c / 9) (c % 9))
def EvM (ln : Nat → Nat) (hg : Nat → Nat → Nat) (t : Nat) (w : rg_W) : Prop := w.1 18 5 = nI (evT hg t).length ∧ ∀ k, k < (evT hg t).length → EvA ln hg ((evT hg t).getD k 0) k w
theorem EvM.fr {ln : Nat → Nat} {hg : Nat → Nat → Nat} {t : Nat} {w w' : rg_W} (h : EvM ln hg t w) (h1 : w'.1 18 5 = w.1 18 5) (h2 : w'.1 22 = w.1 22) (h3 : w'.1 23 = w.1 23) (h4 : w'.1 24 = w.1 24) : EvM ln hg t w' := by
  refine ⟨h1.trans h.1, fun k hk => ?_⟩
  have := h.2 k hk
  unfold EvA at this ⊢
  rw [h2, h3, h4]
  exact this
def bwN (ln : Nat → Nat) (hg : Nat → Nat → Nat) (i j : Nat) : Nat := if hg i j = 0 then 0 else ln j - hg i j
-- M.between
def P_M_between : rg_P := (rg_F_M, [], [], [], [], [], 0)
def T_M_between : rg_T := fun as w K => match as with
  | [.ref 18, .int x, .int y] => ∃ ln hg i j, EvM ln hg 81 w ∧ x = nI i ∧ y = nI j ∧ i < 9 ∧ j < 9 ∧ K (some (.int (nI (bwN ln hg i j)))) w
  | _ => False
theorem Te_M_between (x : Int32) (y : Int32) (w : rg_W) (K : Option Value → rg_W → Prop) : T_M_between [.ref 18, .int x, .int y] w K = (∃ ln hg i j, EvM ln hg 81 w ∧ x = nI i ∧ y = nI j ∧ i < 9 ∧ j < 9 ∧ K (some (.int (nI (bwN ln hg i j)))) w) := rfl
theorem r_M_between : ∀ as w K, T_M_between as w K → ∃ r, as = .ref 18 :: r := by
  intro as w K h
  unfold T_M_between at h
  split at h
  · exact ⟨_, rfl⟩
  · exact h.elim
theorem G_M_between (l : Launch) : rg_Good l y_M_between c_M_between 4 (some .int) 0 T_M_between := by
  refine rg_good_of (P := P_M_between) (by decide) (rg_pok rg_F_M_ok rg_nil) ?_
  intro as w K Z hT hZ
  unfold T_M_between at hT
  split at hT
  rotate_left
  · exact hT.elim
  rename_i x y
  refine ⟨Nat.le_of_ble_eq_true rfl, ?_⟩
  show Z 0 [.ref 18, .int x, .int y, .null] [] w 0
  obtain ⟨ln, hg, i, j, hE, rfl, rfl, hi, hj, hK⟩ := hT
  have he := hE.1
  have hle := evT_le hg 81
  have loop : ∀ k, (k ≤ (evT hg 81).length ∧ ∀ b, b < k → (evT hg 81).getD b 0 ≠ 9 * i + j) → Z 2 [.ref 18, .int (nI i), .int (nI j), .int (nI k)] [] w 0 := by
    refine rg_lp1 _ _ (fun k => (evT hg 81).length - k) ?_
    intro k ⟨hk, hno⟩ ih
    rcases Nat.lt_or_ge k (evT hg 81).length with hk9 | hk9
    · have vk : vp_in (nI k) 81 := vp_in_nI (by omega) (by omega)
      have ck : (nI k).toNatClampNeg = k := nI_clamp (by omega)
      obtain ⟨e1, e2, e3⟩ := hE.2 k hk9
      obtain ⟨c1, c2⟩ := evT_lt hk9
      have nx : (evT hg 81).getD k 0 ≠ 9 * i + j → Z 2 [.ref 18, .int (nI i), .int (nI j), .int (nI (k + 1))] [] w 0 := fun h => ih (k + 1) ⟨by omega, fun b hb => by
        by_cases hbk : b = k
        · rw [hbk]; exact h
        · exact hno b (by omega)⟩ (by omega)
      generalize (evT hg 81).getD k 0 = c at *
      have p1 : (nI (c / 9) = nI i) = (c / 9 = i) := nI_eqp (by omega) (by omega)
      have p2 : (nI (c % 9) = nI j) = (c % 9 = j) := nI_eqp (by omega) (by omega)
      refine hZ (rg_cut [2]) 400 2 _ _ _ ?_; simp only [rg_e_iload_3 (cut := rg_cut [2]) (f := true) d_M_between_2 rfl 3 rfl, rg_e_aload_0 (cut := rg_cut [2]) (f := false) d_M_between_3 rfl 4 rfl, rg_e_geti (P := P_M_between) (cut := rg_cut [2]) (f := false) d_M_between_4 rfl 7 rfl 18 4 5 rfl (fun _ => rfl), rg_e_icmp_ge (cut := rg_cut [2]) (f := false) d_M_between_7 rfl 10 rfl 43 rfl, rg_e_aload_0 (cut := rg_cut [2]) (f := false) d_M_between_10 rfl 11 rfl, rg_e_getr (P := P_M_between) (cut := rg_cut [2]) (f := false) d_M_between_11 rfl 14 rfl 18 4 6 22 rfl (fun _ => rfl), rg_e_iload_3 (cut := rg_cut [2]) (f := false) d_M_between_14 rfl 15 rfl, rg_e_iald (cut := rg_cut [2]) (f := false) d_M_between_15 rfl 16 rfl 22 81 rfl, rg_e_iload_1 (cut := rg_cut [2]) (f := false) d_M_between_16 rfl 17 rfl, rg_e_icmp_ne (cut := rg_cut [2]) (f := false) d_M_between_17 rfl 20 rfl 37 rfl, rg_e_aload_0 (cut := rg_cut [2]) (f := false) d_M_between_20 rfl 21 rfl, rg_e_getr (P := P_M_between) (cut := rg_cut [2]) (f := false) d_M_between_21 rfl 24 rfl 18 4 7 23 rfl (fun _ => rfl), rg_e_iload_3 (cut := rg_cut [2]) (f := false) d_M_between_24 rfl 25 rfl, rg_e_iald (cut := rg_cut [2]) (f := false) d_M_between_25 rfl 26 rfl 23 81 rfl, rg_e_iload_2 (cut := rg_cut [2]) (f := false) d_M_between_26 rfl 27 rfl, rg_e_icmp_ne (cut := rg_cut [2]) (f := false) d_M_between_27 rfl 30 rfl 37 rfl, rg_e_aload_0 (cut := rg_cut [2]) (f := false) d_M_between_30 rfl 31 rfl, rg_e_getr (P := P_M_between) (cut := rg_cut [2]) (f := false) d_M_between_31 rfl 34 rfl 18 4 8 24 rfl (fun _ => rfl), rg_e_iload_3 (cut := rg_cut [2]) (f := false) d_M_between_34 rfl 35 rfl, rg_e_iald (cut := rg_cut [2]) (f := false) d_M_between_35 rfl 36 rfl 24 81 rfl, rg_e_iret (cut := rg_cut [2]) (f := false) d_M_between_36 rfl, rg_e_iinc_3 (cut := rg_cut [2]) (f := false) d_M_between_37 rfl 40 rfl (nI 1) rg_ki_1, rg_e_goto (cut := rg_cut [2]) (f := false) d_M_between_40 rfl 2 rfl, rg_e_iconst (cut := rg_cut [2]) (f := false) d_M_between_43 rfl 44 rfl (nI 0) rg_ki_0, rg_e_iret (cut := rg_cut [2]) (f := false) d_M_between_44 rfl, rg_e_cut (cut := rg_cut [2]) 2 rfl, rg_nx_i, rg_nx_v, rg_wd_n, rg_wd_i, rg_wd_l, rg_wd_r, rg_clr_i, rg_clr_l, rg_clr_r, rg_clr_a, rg_clr_n, true_and, and_true, Nat.reduceAdd, Nat.reduceLeDiff, rg_rt_e, rg_fit_ie, rg_fit_ve, rg_fit_1e, rg_fit_0e, rg_fit_be, he, vk, ck, e1, e2, e3, p1, p2, nI_add]
      refine ⟨fun h => absurd h (nI_ge hk9 (by omega)), fun _ => ⟨fun h => nx (by omega), fun h => ⟨fun h1 => nx (by omega), fun h1 => ?_⟩⟩⟩
      have h := Classical.not_not.mp h
      have h1 := Classical.not_not.mp h1
      unfold bwN at hK
      rw [← h, ← h1, if_neg c2] at hK
      exact hK
    · obtain rfl : k = (evT hg 81).length := by omega
      refine hZ (rg_cut [2]) 400 2 _ _ _ ?_; simp only [rg_e_iload_3 (cut := rg_cut [2]) (f := true) d_M_between_2 rfl 3 rfl, rg_e_aload_0 (cut := rg_cut [2]) (f := false) d_M_between_3 rfl 4 rfl, rg_e_geti (P := P_M_between) (cut := rg_cut [2]) (f := false) d_M_between_4 rfl 7 rfl 18 4 5 rfl (fun _ => rfl), rg_e_icmp_ge (cut := rg_cut [2]) (f := false) d_M_between_7 rfl 10 rfl 43 rfl, rg_e_aload_0 (cut := rg_cut [2]) (f := false) d_M_between_10 rfl 11 rfl, rg_e_getr (P := P_M_between) (cut := rg_cut [2]) (f := false) d_M_between_11 rfl 14 rfl 18 4 6 22 rfl (fun _ => rfl), rg_e_iload_3 (cut := rg_cut [2]) (f := false) d_M_between_14 rfl 15 rfl, rg_e_iald (cut := rg_cut [2]) (f := false) d_M_between_15 rfl 16 rfl 22 81 rfl, rg_e_iload_1 (cut := rg_cut [2]) (f := false) d_M_between_16 rfl 17 rfl, rg_e_icmp_ne (cut := rg_cut [2]) (f := false) d_M_between_17 rfl 20 rfl 37 rfl, rg_e_aload_0 (cut := rg_cut [2]) (f := false) d_M_between_20 rfl 21 rfl, rg_e_getr (P := P_M_between) (cut := rg_cut [2]) (f := false) d_M_between_21 rfl 24 rfl 18 4 7 23 rfl (fun _ => rfl), rg_e_iload_3 (cut := rg_cut [2]) (f := false) d_M_between_24 rfl 25 rfl, rg_e_iald (cut := rg_cut [2]) (f := false) d_M_between_25 rfl 26 rfl 23 81 rfl, rg_e_iload_2 (cut := rg_cut [2]) (f := false) d_M_between_26 rfl 27 rfl, rg_e_icmp_ne (cut := rg_cut [2]) (f := false) d_M_between_27 rfl 30 rfl 37 rfl, rg_e_aload_0 (cut := rg_cut [2]) (f := false) d_M_between_30 rfl 31 rfl, rg_e_getr (P := P_M_between) (cut := rg_cut [2]) (f := false) d_M_between_31 rfl 34 rfl 18 4 8 24 rfl (fun _ => rfl), rg_e_iload_3 (cut := rg_cut [2]) (f := false) d_M_between_34 rfl 35 rfl, rg_e_iald (cut := rg_cut [2]) (f := false) d_M_between_35 rfl 36 rfl 24 81 rfl, rg_e_iret (cut := rg_cut [2]) (f := false) d_M_between_36 rfl, rg_e_iinc_3 (cut := rg_cut [2]) (f := false) d_M_between_37 rfl 40 rfl (nI 1) rg_ki_1, rg_e_goto (cut := rg_cut [2]) (f := false) d_M_between_40 rfl 2 rfl, rg_e_iconst (cut := rg_cut [2]) (f := false) d_M_between_43 rfl 44 rfl (nI 0) rg_ki_0, rg_e_iret (cut := rg_cut [2]) (f := false) d_M_between_44 rfl, rg_e_cut (cut := rg_cut [2]) 2 rfl, rg_nx_i, rg_nx_v, rg_wd_n, rg_wd_i, rg_wd_l, rg_wd_r, rg_clr_i, rg_clr_l, rg_clr_r, rg_clr_a, rg_clr_n, true_and, and_true, Nat.reduceAdd, Nat.reduceLeDiff, rg_rt_e, rg_fit_ie, rg_fit_ve, rg_fit_1e, rg_fit_0e, rg_fit_be, he]
      refine ⟨fun _ => ?_, fun h => absurd (nI_le hk9 (by omega)) h⟩
      have h0 : hg i j = 0 := by
        apply Classical.byContradiction
        intro z
        obtain ⟨b, hb, e⟩ := evT_mem hi hj z
        exact hno b hb e
      unfold bwN at hK
      rw [if_pos h0] at hK
      exact hK
  refine hZ (rg_cut [2]) 400 0 _ _ _ ?_; simp only [rg_e_iconst (cut := rg_cut [2]) (f := true) d_M_between_0 rfl 1 rfl (nI 0) rg_ki_0, rg_e_istore_3 (cut := rg_cut [2]) (f := false) d_M_between_1 rfl 2 rfl, rg_e_cut (cut := rg_cut [2]) 2 rfl, rg_nx_i, rg_nx_v, rg_wd_n, rg_wd_i, rg_wd_l, rg_wd_r, rg_clr_i, rg_clr_l, rg_clr_r, rg_clr_a, rg_clr_n, true_and, and_true, Nat.reduceAdd, Nat.reduceLeDiff, rg_rt_e, rg_fit_ie, rg_fit_ve, rg_fit_1e, rg_fit_0e, rg_fit_be]
  exact loop 0 ⟨by omega, fun b hb => absurd hb (by omega)⟩
def sdS (hg : Nat → Nat → Nat) (i k its j : Nat) : Bool := !decide (hg i j = 0) && !decide (hg j k = 0) && decide (hg i j + hg j k = its)
theorem sdE_nr {nr : Nat} {ln : Nat → Nat} {hg : Nat → Nat → Nat} (hH : HgL nr ln hg) (hn : nr ≤ 9) (i k its : Nat) : sdE hg i k its = (List.range nr).any (sdS hg i k its) := by
  rw [Bool.eq_iff_iff]
  unfold sdE
  rw [List.any_eq_true, List.any_eq_true]
  constructor
  · rintro ⟨j, hj, h⟩
    refine ⟨j, List.mem_range.mpr ?_, h⟩
    simp at h
    exact (hH.2 _ _ h.1.1).2.1
  · rintro ⟨j, hj, h⟩
    exact ⟨j, List.mem_range.mpr (by have := List.mem_range.mp hj; omega), h⟩
-- M.isSaid
def P_M_isSaid : rg_P := (rg_F_M, [(197, 3, 0, T_M_between)], [], [], [], [], 0)
def T_M_isSaid : rg_T := fun as w K => match as with
  | [.ref 18, .int x] => ∃ nr ln pk hg k, RdM nr ln pk w ∧ HgL nr ln hg ∧ EvM ln hg 81 w ∧ x = nI k ∧ k < (evT hg 81).length ∧ K (some (.int (zI (!kp hg ((evT hg 81).getD k 0))))) w
  | _ => False
theorem Te_M_isSaid (x : Int32) (w : rg_W) (K : Option Value → rg_W → Prop) : T_M_isSaid [.ref 18, .int x] w K = (∃ nr ln pk hg k, RdM nr ln pk w ∧ HgL nr ln hg ∧ EvM ln hg 81 w ∧ x = nI k ∧ k < (evT hg 81).length ∧ K (some (.int (zI (!kp hg ((evT hg 81).getD k 0))))) w) := rfl
theorem r_M_isSaid : ∀ as w K, T_M_isSaid as w K → ∃ r, as = .ref 18 :: r := by
  intro as w K h
  unfold T_M_isSaid at h
  split at h
  · exact ⟨_, rfl⟩
  · exact h.elim
theorem G_M_isSaid (l : Launch) : rg_Good l y_M_isSaid c_M_isSaid 9 (some .boolean) 1 T_M_isSaid := by
  refine rg_good_of (P := P_M_isSaid) (by decide) (rg_pok rg_F_M_ok (rg_cons (cw_M_98 (G_M_between l) (by decide) r_M_between) rg_nil)) ?_
  intro as w K Z hT hZ
  unfold T_M_isSaid at hT
  split at hT
  rotate_left
  · exact hT.elim
  rename_i x
  refine ⟨Nat.le_of_ble_eq_true rfl, ?_⟩
  show Z 0 [.ref 18, .int x, .null, .null, .null, .null, .null, .null, .null] [] w 0
  obtain ⟨nr, ln, pk, hg, k, hR, hH, hE, rfl, hk, hK⟩ := hT
  obtain ⟨hL, hr, hc⟩ := id hR
  have hn9 := hL.1
  have he := hE.1
  have hle := evT_le hg 81
  have vk : vp_in (nI k) 81 := vp_in_nI (by omega) (by omega)
  have ck : (nI k).toNatClampNeg = k := nI_clamp (by omega)
  obtain ⟨e1, e2, e3⟩ := hE.2 k hk
  obtain ⟨c1, c2⟩ := evT_lt hk
  have hkp : (!kp hg ((evT hg 81).getD k 0)) = (List.range nr).any (sdS hg ((evT hg 81).getD k 0 / 9) ((evT hg 81).getD k 0 % 9) (hg ((evT hg 81).getD k 0 / 9) ((evT hg 81).getD k 0 % 9))) := by
    unfold kp
    rw [decide_eq_false c2, ← sdE_nr hH hn9]
    simp
  rw [hkp] at hK
  clear hkp
  generalize (evT hg 81).getD k 0 = c at *
  generalize hi : c / 9 = i at *
  generalize hj : c % 9 = j at *
  have hi9 : i < 9 := by omega
  have hj9 : j < 9 := by omega
  obtain ⟨i1, i2, i3⟩ := hH.2 i j c2
  obtain ⟨q1, q2, q3, q4, q5⟩ := hL.2 j i2
  have vj : vp_in (nI j) 9 := vp_in_nI (by omega) (by omega)
  have cj : (nI j).toNatClampNeg = j := nI_clamp (by omega)
  have s3 : nI (ln j) - nI (ln j - hg i j) = nI (hg i j) := by
    rw [pk_sub (by omega)]
    congr 1
    omega
  have loop : ∀ (m : Nat) (a6 a7 a8 : Value), m ≤ nr → Z 20 [.ref 18, .int (nI k), .int (nI i), .int (nI j), .int (zI ((List.range m).any (sdS hg i j (hg i j)))), .int (nI m), a6, a7, a8] [] w 0 := by
    refine rg_lp4 _ _ (fun m _ _ _ => nr - m) ?_
    intro m a6 a7 a8 hm ih
    rcases Nat.lt_or_ge m nr with hm9 | hm9
    · obtain ⟨t1, t2, t3, t4, t5⟩ := hL.2 m hm9
      have vm : vp_in (nI m) 9 := vp_in_nI (by omega) (by omega)
      have cm : (nI m).toNatClampNeg = m := nI_clamp (by omega)
      have nx := fun a6 a7 a8 => ih (m + 1) a6 a7 a8 (by omega) (by omega)
      rw [rg_any_s] at nx
      have b1 : bwN ln hg i m < 2 ^ 31 := by unfold bwN; split <;> omega
      have b2 : bwN ln hg m j < 2 ^ 31 := by unfold bwN; split <;> omega
      have p1 : (nI m = nI i) = (m = i) := nI_eqp (by omega) (by omega)
      have p2 : (nI m = nI j) = (m = j) := nI_eqp (by omega) (by omega)
      have p3 : (nI (bwN ln hg i m) ≤ 0) = (hg i m = 0) := by
        rw [← nI_0, nI_lep b1 (by omega)]
        unfold bwN
        by_cases h : hg i m = 0
        · rw [if_pos h]; simp [h]
        · have := (hH.2 i m h).2.2
          rw [if_neg h]
          apply propext
          constructor
          · intro z; omega
          · intro z; exact absurd z h
      have p4 : (nI (bwN ln hg m j) ≤ 0) = (hg m j = 0) := by
        rw [← nI_0, nI_lep b2 (by omega)]
        unfold bwN
        by_cases h : hg m j = 0
        · rw [if_pos h]; simp [h]
        · have := (hH.2 m j h).2.2
          rw [if_neg h]
          apply propext
          constructor
          · intro z; omega
          · intro z; exact absurd z h
      have z1 : (nI 1 = 0) = False := by decide +kernel
      have z0 : (nI 0 = 0) = True := by decide +kernel
      refine hZ (rg_cut [20]) 400 20 _ _ _ ?_; simp only [rg_e_iload_5 (cut := rg_cut [20]) (f := true) d_M_isSaid_20 rfl 22 rfl, rg_e_aload_0 (cut := rg_cut [20]) (f := false) d_M_isSaid_22 rfl 23 rfl, rg_e_geti (P := P_M_isSaid) (cut := rg_cut [20]) (f := false) d_M_isSaid_23 rfl 26 rfl 18 4 1 rfl (fun _ => rfl), rg_e_icmp_ge (cut := rg_cut [20]) (f := false) d_M_isSaid_26 rfl 29 rfl 135 rfl, rg_e_aload_0 (cut := rg_cut [20]) (f := false) d_M_isSaid_29 rfl 30 rfl, rg_e_iload_2 (cut := rg_cut [20]) (f := false) d_M_isSaid_30 rfl 31 rfl, rg_e_iload_5 (cut := rg_cut [20]) (f := false) d_M_isSaid_31 rfl 33 rfl, rg_e_cv3 (P := P_M_isSaid) (cut := rg_cut [20]) (f := false) d_M_isSaid_33 rfl T_M_between rfl, rg_e_istore_6 (cut := rg_cut [20]) (f := false) d_M_isSaid_36 rfl 38 rfl, rg_e_aload_0 (cut := rg_cut [20]) (f := false) d_M_isSaid_38 rfl 39 rfl, rg_e_iload_5 (cut := rg_cut [20]) (f := false) d_M_isSaid_39 rfl 41 rfl, rg_e_iload_3 (cut := rg_cut [20]) (f := false) d_M_isSaid_41 rfl 42 rfl, rg_e_cv3 (P := P_M_isSaid) (cut := rg_cut [20]) (f := false) d_M_isSaid_42 rfl T_M_between rfl, rg_e_istore_7 (cut := rg_cut [20]) (f := false) d_M_isSaid_45 rfl 47 rfl, rg_e_iload_5 (cut := rg_cut [20]) (f := false) d_M_isSaid_47 rfl 49 rfl, rg_e_iload_2 (cut := rg_cut [20]) (f := false) d_M_isSaid_49 rfl 50 rfl, rg_e_icmp_eq (cut := rg_cut [20]) (f := false) d_M_isSaid_50 rfl 53 rfl 63 rfl, rg_e_iload_5 (cut := rg_cut [20]) (f := false) d_M_isSaid_53 rfl 55 rfl, rg_e_iload_3 (cut := rg_cut [20]) (f := false) d_M_isSaid_55 rfl 56 rfl, rg_e_icmp_eq (cut := rg_cut [20]) (f := false) d_M_isSaid_56 rfl 59 rfl 63 rfl, rg_e_iconst (cut := rg_cut [20]) (f := false) d_M_isSaid_59 rfl 60 rfl (nI 1) rg_ki_1, rg_e_goto (cut := rg_cut [20]) (f := false) d_M_isSaid_60 rfl 64 rfl, rg_e_iconst (cut := rg_cut [20]) (f := false) d_M_isSaid_63 rfl 64 rfl (nI 0) rg_ki_0, rg_e_istore_8 (cut := rg_cut [20]) (f := false) d_M_isSaid_64 rfl 66 rfl, rg_e_iload_4 (cut := rg_cut [20]) (f := false) d_M_isSaid_66 rfl 68 rfl, rg_e_if_ne (cut := rg_cut [20]) (f := false) d_M_isSaid_68 rfl 71 rfl 122 rfl, rg_e_iload_8 (cut := rg_cut [20]) (f := false) d_M_isSaid_71 rfl 73 rfl, rg_e_if_eq (cut := rg_cut [20]) (f := false) d_M_isSaid_73 rfl 76 rfl 126 rfl, rg_e_iload_6 (cut := rg_cut [20]) (f := false) d_M_isSaid_76 rfl 78 rfl, rg_e_if_le (cut := rg_cut [20]) (f := false) d_M_isSaid_78 rfl 81 rfl 126 rfl, rg_e_iload_7 (cut := rg_cut [20]) (f := false) d_M_isSaid_81 rfl 83 rfl, rg_e_if_le (cut := rg_cut [20]) (f := false) d_M_isSaid_83 rfl 86 rfl 126 rfl, rg_e_aload_0 (cut := rg_cut [20]) (f := false) d_M_isSaid_86 rfl 87 rfl, rg_e_getr (P := P_M_isSaid) (cut := rg_cut [20]) (f := false) d_M_isSaid_87 rfl 90 rfl 18 4 2 19 rfl (fun _ => rfl), rg_e_iload_5 (cut := rg_cut [20]) (f := false) d_M_isSaid_90 rfl 92 rfl, rg_e_iald (cut := rg_cut [20]) (f := false) d_M_isSaid_92 rfl 93 rfl 19 9 rfl, rg_e_iload_6 (cut := rg_cut [20]) (f := false) d_M_isSaid_93 rfl 95 rfl, rg_e_isub (cut := rg_cut [20]) (f := false) d_M_isSaid_95 rfl 96 rfl, rg_e_aload_0 (cut := rg_cut [20]) (f := false) d_M_isSaid_96 rfl 97 rfl, rg_e_getr (P := P_M_isSaid) (cut := rg_cut [20]) (f := false) d_M_isSaid_97 rfl 100 rfl 18 4 2 19 rfl (fun _ => rfl), rg_e_iload_3 (cut := rg_cut [20]) (f := false) d_M_isSaid_100 rfl 101 rfl, rg_e_iald (cut := rg_cut [20]) (f := false) d_M_isSaid_101 rfl 102 rfl 19 9 rfl, rg_e_iadd (cut := rg_cut [20]) (f := false) d_M_isSaid_102 rfl 103 rfl, rg_e_iload_7 (cut := rg_cut [20]) (f := false) d_M_isSaid_103 rfl 105 rfl, rg_e_isub (cut := rg_cut [20]) (f := false) d_M_isSaid_105 rfl 106 rfl, rg_e_aload_0 (cut := rg_cut [20]) (f := false) d_M_isSaid_106 rfl 107 rfl, rg_e_getr (P := P_M_isSaid) (cut := rg_cut [20]) (f := false) d_M_isSaid_107 rfl 110 rfl 18 4 2 19 rfl (fun _ => rfl), rg_e_iload_3 (cut := rg_cut [20]) (f := false) d_M_isSaid_110 rfl 111 rfl, rg_e_iald (cut := rg_cut [20]) (f := false) d_M_isSaid_111 rfl 112 rfl 19 9 rfl, rg_e_aload_0 (cut := rg_cut [20]) (f := false) d_M_isSaid_112 rfl 113 rfl, rg_e_getr (P := P_M_isSaid) (cut := rg_cut [20]) (f := false) d_M_isSaid_113 rfl 116 rfl 18 4 8 24 rfl (fun _ => rfl), rg_e_iload_1 (cut := rg_cut [20]) (f := false) d_M_isSaid_116 rfl 117 rfl, rg_e_iald (cut := rg_cut [20]) (f := false) d_M_isSaid_117 rfl 118 rfl 24 81 rfl, rg_e_isub (cut := rg_cut [20]) (f := false) d_M_isSaid_118 rfl 119 rfl, rg_e_icmp_ne (cut := rg_cut [20]) (f := false) d_M_isSaid_119 rfl 122 rfl 126 rfl, rg_e_iconst (cut := rg_cut [20]) (f := false) d_M_isSaid_122 rfl 123 rfl (nI 1) rg_ki_1, rg_e_goto (cut := rg_cut [20]) (f := false) d_M_isSaid_123 rfl 127 rfl, rg_e_iconst (cut := rg_cut [20]) (f := false) d_M_isSaid_126 rfl 127 rfl (nI 0) rg_ki_0, rg_e_istore_4 (cut := rg_cut [20]) (f := false) d_M_isSaid_127 rfl 129 rfl, rg_e_iinc_5 (cut := rg_cut [20]) (f := false) d_M_isSaid_129 rfl 132 rfl (nI 1) rg_ki_1, rg_e_goto (cut := rg_cut [20]) (f := false) d_M_isSaid_132 rfl 20 rfl, rg_e_iload_4 (cut := rg_cut [20]) (f := false) d_M_isSaid_135 rfl 137 rfl, rg_e_iret (cut := rg_cut [20]) (f := false) d_M_isSaid_137 rfl, rg_e_cut (cut := rg_cut [20]) 20 rfl, rg_nx_i, rg_nx_v, rg_wd_n, rg_wd_i, rg_wd_l, rg_wd_r, rg_clr_i, rg_clr_l, rg_clr_r, rg_clr_a, rg_clr_n, true_and, and_true, Nat.reduceAdd, Nat.reduceLeDiff, ↓Te_M_between, rg_rt_e, rg_fit_ie, rg_fit_ve, rg_fit_1e, rg_fit_0e, rg_fit_be, hr, vm, cm, vj, cj, e3, t4, q4, vk, ck, s3, p1, p2, p3, p4, z1, z0, zI_eq, nI_add, not_false_eq_true, forall_const, false_imp_iff, not_true_eq_false, and_true, true_and]
      refine ⟨fun h => absurd h (nI_ge hm9 (by omega)), fun _ => ⟨ln, hg, i, m, hE, rfl, rfl, hi9, by omega, ln, hg, m, j, hE, rfl, rfl, by omega, hj9, ?_⟩⟩
      have n1 : ∀ (a6 a7 a8 : Value), ¬ (List.range m).any (sdS hg i j (hg i j)) = false → Z 20 [.ref 18, .int (nI k), .int (nI i), .int (nI j), .int (nI 1), .int (nI (m + 1)), a6, a7, a8] [] w 0 := fun a6 a7 a8 h => by
        have h : (List.range m).any (sdS hg i j (hg i j)) = true := by rw [← Bool.not_eq_false]; exact h
        have := nx a6 a7 a8
        rw [h] at this
        exact this
      have n0 : ∀ (a6 a7 a8 : Value), ¬¬ (List.range m).any (sdS hg i j (hg i j)) = false → sdS hg i j (hg i j) m = false → Z 20 [.ref 18, .int (nI k), .int (nI i), .int (nI j), .int (nI 0), .int (nI (m + 1)), a6, a7, a8] [] w 0 := fun a6 a7 a8 h g => by
        have := nx a6 a7 a8
        rw [Classical.not_not.mp h, g] at this
        exact this
      have d1 : hg i m = 0 → sdS hg i j (hg i j) m = false := fun h => by unfold sdS; rw [h]; rfl
      have d2 : hg m j = 0 → sdS hg i j (hg i j) m = false := fun h => by unfold sdS; rw [h]; simp
      refine ⟨fun h => ⟨n1 _ _ _, fun g => n0 _ _ _ g (d1 (by rw [h]; exact hH.1 i))⟩, fun h => ⟨fun h1 => ⟨n1 _ _ _, fun g => n0 _ _ _ g (d2 (by rw [h1]; exact hH.1 j))⟩, fun h1 => ⟨n1 _ _ _, fun g => ?_⟩⟩⟩
      rw [p3, p4]
      refine ⟨fun h2 => n0 _ _ _ g (d1 h2), fun h2 => ⟨fun h3 => n0 _ _ _ g (d2 h3), fun h3 => ?_⟩⟩
      have u1 := (hH.2 _ _ h2).2.2
      have u2 := (hH.2 _ _ h3).2.2
      have s1 : nI (ln m) - nI (bwN ln hg i m) + nI (ln j) - nI (bwN ln hg m j) = nI (hg i m + hg m j) := by
        unfold bwN
        rw [if_neg h2, if_neg h3, pk_sub (by omega), nI_add, pk_sub (by omega)]
        congr 1
        omega
      rw [s1, nI_eqp (by omega) (by omega)]
      refine ⟨fun h4 => n0 _ _ _ g ?_, fun h4 => ?_⟩
      · unfold sdS
        rw [decide_eq_false h4, Bool.and_false]
      · have := nx (.int (nI (bwN ln hg i m))) (.int (nI (bwN ln hg m j))) (.int (nI 1))
        have e : sdS hg i j (hg i j) m = true := by
          unfold sdS
          rw [decide_eq_false h2, decide_eq_false h3, decide_eq_true (Classical.not_not.mp h4)]
          rfl
        rw [e, Bool.or_true] at this
        exact this
    · obtain rfl : m = nr := by omega
      refine hZ (rg_cut [20]) 400 20 _ _ _ ?_; simp only [rg_e_iload_5 (cut := rg_cut [20]) (f := true) d_M_isSaid_20 rfl 22 rfl, rg_e_aload_0 (cut := rg_cut [20]) (f := false) d_M_isSaid_22 rfl 23 rfl, rg_e_geti (P := P_M_isSaid) (cut := rg_cut [20]) (f := false) d_M_isSaid_23 rfl 26 rfl 18 4 1 rfl (fun _ => rfl), rg_e_icmp_ge (cut := rg_cut [20]) (f := false) d_M_isSaid_26 rfl 29 rfl 135 rfl, rg_e_aload_0 (cut := rg_cut [20]) (f := false) d_M_isSaid_29 rfl 30 rfl, rg_e_iload_2 (cut := rg_cut [20]) (f := false) d_M_isSaid_30 rfl 31 rfl, rg_e_iload_5 (cut := rg_cut [20]) (f := false) d_M_isSaid_31 rfl 33 rfl, rg_e_cv3 (P := P_M_isSaid) (cut := rg_cut [20]) (f := false) d_M_isSaid_33 rfl T_M_between rfl, rg_e_istore_6 (cut := rg_cut [20]) (f := false) d_M_isSaid_36 rfl 38 rfl, rg_e_aload_0 (cut := rg_cut [20]) (f := false) d_M_isSaid_38 rfl 39 rfl, rg_e_iload_5 (cut := rg_cut [20]) (f := false) d_M_isSaid_39 rfl 41 rfl, rg_e_iload_3 (cut := rg_cut [20]) (f := false) d_M_isSaid_41 rfl 42 rfl, rg_e_cv3 (P := P_M_isSaid) (cut := rg_cut [20]) (f := false) d_M_isSaid_42 rfl T_M_between rfl, rg_e_istore_7 (cut := rg_cut [20]) (f := false) d_M_isSaid_45 rfl 47 rfl, rg_e_iload_5 (cut := rg_cut [20]) (f := false) d_M_isSaid_47 rfl 49 rfl, rg_e_iload_2 (cut := rg_cut [20]) (f := false) d_M_isSaid_49 rfl 50 rfl, rg_e_icmp_eq (cut := rg_cut [20]) (f := false) d_M_isSaid_50 rfl 53 rfl 63 rfl, rg_e_iload_5 (cut := rg_cut [20]) (f := false) d_M_isSaid_53 rfl 55 rfl, rg_e_iload_3 (cut := rg_cut [20]) (f := false) d_M_isSaid_55 rfl 56 rfl, rg_e_icmp_eq (cut := rg_cut [20]) (f := false) d_M_isSaid_56 rfl 59 rfl 63 rfl, rg_e_iconst (cut := rg_cut [20]) (f := false) d_M_isSaid_59 rfl 60 rfl (nI 1) rg_ki_1, rg_e_goto (cut := rg_cut [20]) (f := false) d_M_isSaid_60 rfl 64 rfl, rg_e_iconst (cut := rg_cut [20]) (f := false) d_M_isSaid_63 rfl 64 rfl (nI 0) rg_ki_0, rg_e_istore_8 (cut := rg_cut [20]) (f := false) d_M_isSaid_64 rfl 66 rfl, rg_e_iload_4 (cut := rg_cut [20]) (f := false) d_M_isSaid_66 rfl 68 rfl, rg_e_if_ne (cut := rg_cut [20]) (f := false) d_M_isSaid_68 rfl 71 rfl 122 rfl, rg_e_iload_8 (cut := rg_cut [20]) (f := false) d_M_isSaid_71 rfl 73 rfl, rg_e_if_eq (cut := rg_cut [20]) (f := false) d_M_isSaid_73 rfl 76 rfl 126 rfl, rg_e_iload_6 (cut := rg_cut [20]) (f := false) d_M_isSaid_76 rfl 78 rfl, rg_e_if_le (cut := rg_cut [20]) (f := false) d_M_isSaid_78 rfl 81 rfl 126 rfl, rg_e_iload_7 (cut := rg_cut [20]) (f := false) d_M_isSaid_81 rfl 83 rfl, rg_e_if_le (cut := rg_cut [20]) (f := false) d_M_isSaid_83 rfl 86 rfl 126 rfl, rg_e_aload_0 (cut := rg_cut [20]) (f := false) d_M_isSaid_86 rfl 87 rfl, rg_e_getr (P := P_M_isSaid) (cut := rg_cut [20]) (f := false) d_M_isSaid_87 rfl 90 rfl 18 4 2 19 rfl (fun _ => rfl), rg_e_iload_5 (cut := rg_cut [20]) (f := false) d_M_isSaid_90 rfl 92 rfl, rg_e_iald (cut := rg_cut [20]) (f := false) d_M_isSaid_92 rfl 93 rfl 19 9 rfl, rg_e_iload_6 (cut := rg_cut [20]) (f := false) d_M_isSaid_93 rfl 95 rfl, rg_e_isub (cut := rg_cut [20]) (f := false) d_M_isSaid_95 rfl 96 rfl, rg_e_aload_0 (cut := rg_cut [20]) (f := false) d_M_isSaid_96 rfl 97 rfl, rg_e_getr (P := P_M_isSaid) (cut := rg_cut [20]) (f := false) d_M_isSaid_97 rfl 100 rfl 18 4 2 19 rfl (fun _ => rfl), rg_e_iload_3 (cut := rg_cut [20]) (f := false) d_M_isSaid_100 rfl 101 rfl, rg_e_iald (cut := rg_cut [20]) (f := false) d_M_isSaid_101 rfl 102 rfl 19 9 rfl, rg_e_iadd (cut := rg_cut [20]) (f := false) d_M_isSaid_102 rfl 103 rfl, rg_e_iload_7 (cut := rg_cut [20]) (f := false) d_M_isSaid_103 rfl 105 rfl, rg_e_isub (cut := rg_cut [20]) (f := false) d_M_isSaid_105 rfl 106 rfl, rg_e_aload_0 (cut := rg_cut [20]) (f := false) d_M_isSaid_106 rfl 107 rfl, rg_e_getr (P := P_M_isSaid) (cut := rg_cut [20]) (f := false) d_M_isSaid_107 rfl 110 rfl 18 4 2 19 rfl (fun _ => rfl), rg_e_iload_3 (cut := rg_cut [20]) (f := false) d_M_isSaid_110 rfl 111 rfl, rg_e_iald (cut := rg_cut [20]) (f := false) d_M_isSaid_111 rfl 112 rfl 19 9 rfl, rg_e_aload_0 (cut := rg_cut [20]) (f := false) d_M_isSaid_112 rfl 113 rfl, rg_e_getr (P := P_M_isSaid) (cut := rg_cut [20]) (f := false) d_M_isSaid_113 rfl 116 rfl 18 4 8 24 rfl (fun _ => rfl), rg_e_iload_1 (cut := rg_cut [20]) (f := false) d_M_isSaid_116 rfl 117 rfl, rg_e_iald (cut := rg_cut [20]) (f := false) d_M_isSaid_117 rfl 118 rfl 24 81 rfl, rg_e_isub (cut := rg_cut [20]) (f := false) d_M_isSaid_118 rfl 119 rfl, rg_e_icmp_ne (cut := rg_cut [20]) (f := false) d_M_isSaid_119 rfl 122 rfl 126 rfl, rg_e_iconst (cut := rg_cut [20]) (f := false) d_M_isSaid_122 rfl 123 rfl (nI 1) rg_ki_1, rg_e_goto (cut := rg_cut [20]) (f := false) d_M_isSaid_123 rfl 127 rfl, rg_e_iconst (cut := rg_cut [20]) (f := false) d_M_isSaid_126 rfl 127 rfl (nI 0) rg_ki_0, rg_e_istore_4 (cut := rg_cut [20]) (f := false) d_M_isSaid_127 rfl 129 rfl, rg_e_iinc_5 (cut := rg_cut [20]) (f := false) d_M_isSaid_129 rfl 132 rfl (nI 1) rg_ki_1, rg_e_goto (cut := rg_cut [20]) (f := false) d_M_isSaid_132 rfl 20 rfl, rg_e_iload_4 (cut := rg_cut [20]) (f := false) d_M_isSaid_135 rfl 137 rfl, rg_e_iret (cut := rg_cut [20]) (f := false) d_M_isSaid_137 rfl, rg_e_cut (cut := rg_cut [20]) 20 rfl, rg_nx_i, rg_nx_v, rg_wd_n, rg_wd_i, rg_wd_l, rg_wd_r, rg_clr_i, rg_clr_l, rg_clr_r, rg_clr_a, rg_clr_n, true_and, and_true, Nat.reduceAdd, Nat.reduceLeDiff, ↓Te_M_between, rg_rt_e, rg_fit_ie, rg_fit_ve, rg_fit_1e, rg_fit_0e, rg_fit_be, hr]
      exact ⟨fun _ => hK, fun h => absurd (nI_le hm9 (by omega)) h⟩
  refine hZ (rg_cut [20]) 400 0 _ _ _ ?_; simp only [rg_e_aload_0 (cut := rg_cut [20]) (f := true) d_M_isSaid_0 rfl 1 rfl, rg_e_getr (P := P_M_isSaid) (cut := rg_cut [20]) (f := false) d_M_isSaid_1 rfl 4 rfl 18 4 6 22 rfl (fun _ => rfl), rg_e_iload_1 (cut := rg_cut [20]) (f := false) d_M_isSaid_4 rfl 5 rfl, rg_e_iald (cut := rg_cut [20]) (f := false) d_M_isSaid_5 rfl 6 rfl 22 81 rfl, rg_e_istore_2 (cut := rg_cut [20]) (f := false) d_M_isSaid_6 rfl 7 rfl, rg_e_aload_0 (cut := rg_cut [20]) (f := false) d_M_isSaid_7 rfl 8 rfl, rg_e_getr (P := P_M_isSaid) (cut := rg_cut [20]) (f := false) d_M_isSaid_8 rfl 11 rfl 18 4 7 23 rfl (fun _ => rfl), rg_e_iload_1 (cut := rg_cut [20]) (f := false) d_M_isSaid_11 rfl 12 rfl, rg_e_iald (cut := rg_cut [20]) (f := false) d_M_isSaid_12 rfl 13 rfl 23 81 rfl, rg_e_istore_3 (cut := rg_cut [20]) (f := false) d_M_isSaid_13 rfl 14 rfl, rg_e_iconst (cut := rg_cut [20]) (f := false) d_M_isSaid_14 rfl 15 rfl (nI 0) rg_ki_0, rg_e_istore_4 (cut := rg_cut [20]) (f := false) d_M_isSaid_15 rfl 17 rfl, rg_e_iconst (cut := rg_cut [20]) (f := false) d_M_isSaid_17 rfl 18 rfl (nI 0) rg_ki_0, rg_e_istore_5 (cut := rg_cut [20]) (f := false) d_M_isSaid_18 rfl 20 rfl, rg_e_cut (cut := rg_cut [20]) 20 rfl, rg_nx_i, rg_nx_v, rg_wd_n, rg_wd_i, rg_wd_l, rg_wd_r, rg_clr_i, rg_clr_l, rg_clr_r, rg_clr_a, rg_clr_n, true_and, and_true, Nat.reduceAdd, Nat.reduceLeDiff, ↓Te_M_between, rg_rt_e, rg_fit_ie, rg_fit_ve, rg_fit_1e, rg_fit_0e, rg_fit_be, vk, ck, e1, e2]
  exact loop 0 _ _ _ (by omega)
