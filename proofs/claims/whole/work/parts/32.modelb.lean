/-! the reference: walks, walk, spelled -/
def WF (w w' : rg_W) : Prop := rg_fr [18, 29, 30, 31, 32, 33] w w' ∧ ∀ q, q ≠ 0 → q ≠ 17 → w'.1 18 q = w.1 18 q
theorem shN_le (nd : Nat → Bool) (hg : Nat → Nat → Nat) : shN nd hg ≤ 2 := by
  unfold shN
  split
  · omega
  · split
    · omega
    · split <;> omega
-- M.walks
def P_M_walks : rg_P := (rg_F_M, [(251, 1, 0, T_M_kind), (259, 1, 0, T_M_find), (161, 3, 0, T_M_throwing)], [], [], [], [], 0)
def T_M_walks : rg_T := fun as w K => match as with
  | [.ref 18] => ∃ nr ln pk hg, RdM nr ln pk w ∧ GM ln hg w ∧ HgL nr ln hg ∧ (∀ a b, hg a b ≠ 0 → ndN nr ln pk b = true) ∧ (∀ R w', shN (ndN nr ln pk) hg = 2 → vL (vis hg 40) [] (chM hg [] 0) = some R → R.length ≤ 50 → WF w w' → w'.1 18 0 = nI 0 → AcM R w' → KnM hg w' → K (some (.int (nI R.length))) w') ∧ (¬ (shN (ndN nr ln pk) hg = 2 ∧ ∃ R, vL (vis hg 40) [] (chM hg [] 0) = some R ∧ R.length ≤ 50) → ∀ w', WF w w' → w'.1 18 0 = nI 1 → w'.1 18 17 = nI 0 → KnM hg w' → K (some (.int (nI 0))) w')
  | _ => False
theorem Te_M_walks  (w : rg_W) (K : Option Value → rg_W → Prop) : T_M_walks [.ref 18] w K = (∃ nr ln pk hg, RdM nr ln pk w ∧ GM ln hg w ∧ HgL nr ln hg ∧ (∀ a b, hg a b ≠ 0 → ndN nr ln pk b = true) ∧ (∀ R w', shN (ndN nr ln pk) hg = 2 → vL (vis hg 40) [] (chM hg [] 0) = some R → R.length ≤ 50 → WF w w' → w'.1 18 0 = nI 0 → AcM R w' → KnM hg w' → K (some (.int (nI R.length))) w') ∧ (¬ (shN (ndN nr ln pk) hg = 2 ∧ ∃ R, vL (vis hg 40) [] (chM hg [] 0) = some R ∧ R.length ≤ 50) → ∀ w', WF w w' → w'.1 18 0 = nI 1 → w'.1 18 17 = nI 0 → KnM hg w' → K (some (.int (nI 0))) w')) := rfl
theorem r_M_walks : ∀ as w K, T_M_walks as w K → ∃ r, as = .ref 18 :: r := by
  intro as w K h
  unfold T_M_walks at h
  split at h
  · exact ⟨_, rfl⟩
  · exact h.elim
theorem G_M_walks (l : Launch) : rg_Good l y_M_walks c_M_walks 2 (some .int) 5 T_M_walks := by
  refine rg_good_of (P := P_M_walks) (by decide) (rg_pok rg_F_M_ok (rg_cons (cw_M_125 (G_M_kind l) (by decide) r_M_kind) (rg_cons (cw_M_129 (G_M_find l) (by decide) r_M_find) (rg_cons (cw_M_80 (G_M_throwing l) (by decide) r_M_throwing) rg_nil)))) ?_
  intro as w K Z hT hZ
  unfold T_M_walks at hT
  split at hT
  rotate_left
  · exact hT.elim
  refine ⟨Nat.le_of_ble_eq_true rfl, ?_⟩
  show Z 0 [.ref 18, .null] [] w 0
  obtain ⟨nr, ln, pk, hg, hR, hG, hH, hnd, hK1, hK0⟩ := hT
  have z1 : (zI true = 0) = False := by decide +kernel
  have z0 : (zI false = 0) = True := by decide +kernel
  have n0 : (nI 0 = 0) = True := by decide +kernel
  have n1 : (nI 1 = 0) = False := by decide +kernel
  have hs2 := shN_le (ndN nr ln pk) hg
  have p2 : (nI (shN (ndN nr ln pk) hg) = nI 2) = (shN (ndN nr ln pk) hg = 2) := nI_eqp (by omega) (by omega)
  refine hZ (rg_cut []) 400 0 _ _ _ ?_; simp only [rg_e_aload_0 (cut := rg_cut []) (f := true) d_M_walks_0 rfl 1 rfl, rg_e_iconst (cut := rg_cut []) (f := false) d_M_walks_1 rfl 2 rfl (nI 0) rg_ki_0, rg_e_put (P := P_M_walks) (cut := rg_cut []) (f := false) d_M_walks_2 rfl 5 rfl 18 4 17 rfl rfl, rg_e_aload_0 (cut := rg_cut []) (f := false) d_M_walks_5 rfl 6 rfl, rg_e_cv1 (P := P_M_walks) (cut := rg_cut []) (f := false) d_M_walks_6 rfl T_M_kind rfl, rg_e_iconst (cut := rg_cut []) (f := false) d_M_walks_9 rfl 10 rfl (nI 2) rg_ki_2, rg_e_icmp_ne (cut := rg_cut []) (f := false) d_M_walks_10 rfl 13 rfl 24 rfl, rg_e_aload_0 (cut := rg_cut []) (f := false) d_M_walks_13 rfl 14 rfl, rg_e_cv1 (P := P_M_walks) (cut := rg_cut []) (f := false) d_M_walks_14 rfl T_M_find rfl, rg_e_if_eq (cut := rg_cut []) (f := false) d_M_walks_17 rfl 20 rfl 24 rfl, rg_e_iconst (cut := rg_cut []) (f := false) d_M_walks_20 rfl 21 rfl (nI 1) rg_ki_1, rg_e_goto (cut := rg_cut []) (f := false) d_M_walks_21 rfl 25 rfl, rg_e_iconst (cut := rg_cut []) (f := false) d_M_walks_24 rfl 25 rfl (nI 0) rg_ki_0, rg_e_istore_1 (cut := rg_cut []) (f := false) d_M_walks_25 rfl 26 rfl, rg_e_aload_0 (cut := rg_cut []) (f := false) d_M_walks_26 rfl 27 rfl, rg_e_iload_1 (cut := rg_cut []) (f := false) d_M_walks_27 rfl 28 rfl, rg_e_if_eq (cut := rg_cut []) (f := false) d_M_walks_28 rfl 31 rfl 38 rfl, rg_e_aload_0 (cut := rg_cut []) (f := false) d_M_walks_31 rfl 32 rfl, rg_e_geti (P := P_M_walks) (cut := rg_cut []) (f := false) d_M_walks_32 rfl 35 rfl 18 4 17 rfl (fun _ => rfl), rg_e_goto (cut := rg_cut []) (f := false) d_M_walks_35 rfl 39 rfl, rg_e_iconst (cut := rg_cut []) (f := false) d_M_walks_38 rfl 39 rfl (nI 0) rg_ki_0, rg_e_put (P := P_M_walks) (cut := rg_cut []) (f := false) d_M_walks_39 rfl 42 rfl 18 4 17 rfl rfl, rg_e_aload_0 (cut := rg_cut []) (f := false) d_M_walks_42 rfl 43 rfl, rg_e_iload_1 (cut := rg_cut []) (f := false) d_M_walks_43 rfl 44 rfl, rg_e_if_ne (cut := rg_cut []) (f := false) d_M_walks_44 rfl 47 rfl 51 rfl, rg_e_iconst (cut := rg_cut []) (f := false) d_M_walks_47 rfl 48 rfl (nI 1) rg_ki_1, rg_e_goto (cut := rg_cut []) (f := false) d_M_walks_48 rfl 52 rfl, rg_e_iconst (cut := rg_cut []) (f := false) d_M_walks_51 rfl 52 rfl (nI 0) rg_ki_0, rg_e_iconst (cut := rg_cut []) (f := false) d_M_walks_52 rfl 53 rfl (nI 0) rg_ki_0, rg_e_cv3 (P := P_M_walks) (cut := rg_cut []) (f := false) d_M_walks_53 rfl T_M_throwing rfl, rg_e_if_eq (cut := rg_cut []) (f := false) d_M_walks_56 rfl 59 rfl 63 rfl, rg_e_iconst (cut := rg_cut []) (f := false) d_M_walks_59 rfl 60 rfl (nI 0) rg_ki_0, rg_e_goto (cut := rg_cut []) (f := false) d_M_walks_60 rfl 67 rfl, rg_e_aload_0 (cut := rg_cut []) (f := false) d_M_walks_63 rfl 64 rfl, rg_e_geti (P := P_M_walks) (cut := rg_cut []) (f := false) d_M_walks_64 rfl 67 rfl 18 4 17 rfl (fun _ => rfl), rg_e_iret (cut := rg_cut []) (f := false) d_M_walks_67 rfl, rg_nx_i, rg_nx_v, rg_wd_n, rg_wd_i, rg_wd_l, rg_wd_r, rg_clr_i, rg_clr_l, rg_clr_r, rg_clr_a, rg_clr_n, true_and, and_true, Nat.reduceAdd, Nat.reduceLeDiff, ↓Te_M_kind, ↓Te_M_find, ↓Te_M_throwing, rg_rt_e, rg_fit_ie, rg_fit_ve, rg_fit_1e, rg_fit_0e, rg_fit_be, p2, z1, z0, n0, n1, zI_eq, rg_up_ss, decide_true, decide_false, Bool.not_true, Bool.not_false, Bool.true_or, Bool.or_true, Bool.or_false, not_false_eq_true, forall_const, false_imp_iff, not_true_eq_false, if_false, if_true, reduceIte, and_true, true_and, Bool.false_eq_true, Bool.true_eq_false]
  have hu : ∀ {k : Nat}, k ≠ 18 → (rg_up w 18 17 (nI 0)).1 k = w.1 k := fun h => rg_up_n h
  refine ⟨nr, ln, pk, hg, hR.fr (rg_up_n (by decide)) (rg_up_n (by decide)) (rg_up_n (by decide)) (by rw [rg_up_s, upd_n (by decide)]), hG.1.fr (by rw [rg_up_s, upd_n (by decide)]) (rg_up_n (by decide)) (rg_up_n (by decide)) (rg_up_n (by decide)), ?_, hH, hnd, ?_⟩
  · unfold RcM
    rw [rg_up_n (by decide)]
    exact hG.2.1
  generalize hw2 : rg_up (rg_up w 18 17 (nI 0)) 18 0 (nI 0) = w2
  have f2 : rg_fr [18, 29, 30, 31, 32, 33] w w2 := by rw [← hw2]; exact rg_fr_up (rg_fr_up (rg_fr_rf _ _) (by decide) _ _) (by decide) _ _
  have s2 : ∀ q, q ≠ 0 → q ≠ 17 → w2.1 18 q = w.1 18 q := fun q h0 h17 => by rw [← hw2, rg_up_s, upd_n h0, rg_up_s, upd_n h17]
  have k2 : KnM hg w2 := hG.2.2.1.fr (by rw [← hw2, rg_up_n (by decide), rg_up_n (by decide)])
  rw [p2]
  refine ⟨fun h => ?_, fun h => ?_⟩
  · refine hK0 (fun z => h z.1) _ ⟨rg_fr_up (rg_fr_up f2 (by decide) _ _) (by decide) _ _, fun q h0 h17 => ?_⟩ (rg_up_ss _ _ _ _) ?_ (k2.fr (by rw [rg_up_n (by decide), rg_up_n (by decide)]))
    · rw [rg_up_s, upd_n h0, rg_up_s, upd_n h17]; exact s2 q h0 h17
    · rw [rg_up_s, upd_n (by decide), rg_up_ss]
  · have h := Classical.not_not.mp h
    refine ⟨ln, hg, hG.f f2 (s2 9 (by decide) (by decide)) k2, by rw [← hw2, rg_up_s, upd_n (by decide), rg_up_ss], fun R w3 g1 g2 g3 g4 g5 => ?_, fun hno w3 g3 g4 => ?_⟩
    · have e17 : (rg_up (rg_up w3 18 17 (w3.1 18 17)) 18 0 (nI 0)).1 18 17 = nI R.length := by rw [rg_up_s, upd_n (by decide), rg_up_ss]; exact g5.1
      rw [e17]
      refine hK1 R _ h g1 g2 ⟨rg_fr_up (rg_fr_up (rg_fr_tr f2 g3.1) (by decide) _ _) (by decide) _ _, fun q h0 h17 => ?_⟩ (rg_up_ss _ _ _ _) (g5.fr (by rw [e17]; exact g5.1.symm) (by rw [rg_up_n (by decide), rg_up_n (by decide)]) (by rw [rg_up_n (by decide), rg_up_n (by decide)])) (g4.fr (by rw [rg_up_n (by decide), rg_up_n (by decide)]))
      rw [rg_up_s, upd_n h0, rg_up_s, upd_n h17, g3.2 q h17]; exact s2 q h0 h17
    · refine hK0 (fun z => hno z.2) _ ⟨rg_fr_up (rg_fr_up (rg_fr_tr f2 g3.1) (by decide) _ _) (by decide) _ _, fun q h0 h17 => ?_⟩ (rg_up_ss _ _ _ _) ?_ (g4.fr (by rw [rg_up_n (by decide), rg_up_n (by decide)]))
      · rw [rg_up_s, upd_n h0, rg_up_s, upd_n h17, g3.2 q h17]; exact s2 q h0 h17
      · rw [rg_up_s, upd_n (by decide), rg_up_ss]
-- M.walk
def P_M_walk : rg_P := (rg_F_M, [(146, 2, 0, T_M_out), (161, 3, 0, T_M_throwing)], [], [], [], [], 0)
def T_M_walk : rg_T := fun as w K => match as with
  | [.ref 18, .int k, .int i] => ∃ A, AcM A w ∧ ((decide (k < 0) || !decide (k < nI A.length)) = true → K (some (.int (nI 0))) (rg_up w 18 0 (nI 1))) ∧ ∀ k', k' < A.length → k = nI k' → ixC i (A.getD k' []).length (K (some (.int (nI 0))) (rg_up w 18 0 (nI 2))) (K (some (.int (nI (A.getD k' []).length))) (rg_up w 18 0 (nI 0))) (fun q => K (some (.int (nI ((A.getD k' []).getD q 0)))) (rg_up w 18 0 (nI 0)))
  | _ => False
theorem Te_M_walk (k : Int32) (i : Int32) (w : rg_W) (K : Option Value → rg_W → Prop) : T_M_walk [.ref 18, .int k, .int i] w K = (∃ A, AcM A w ∧ ((decide (k < 0) || !decide (k < nI A.length)) = true → K (some (.int (nI 0))) (rg_up w 18 0 (nI 1))) ∧ ∀ k', k' < A.length → k = nI k' → ixC i (A.getD k' []).length (K (some (.int (nI 0))) (rg_up w 18 0 (nI 2))) (K (some (.int (nI (A.getD k' []).length))) (rg_up w 18 0 (nI 0))) (fun q => K (some (.int (nI ((A.getD k' []).getD q 0)))) (rg_up w 18 0 (nI 0)))) := rfl
theorem r_M_walk : ∀ as w K, T_M_walk as w K → ∃ r, as = .ref 18 :: r := by
  intro as w K h
  unfold T_M_walk at h
  split at h
  · exact ⟨_, rfl⟩
  · exact h.elim
theorem G_M_walk (l : Launch) : rg_Good l y_M_walk c_M_walk 4 (some .int) 1 T_M_walk := by
  refine rg_good_of (P := P_M_walk) (by decide) (rg_pok rg_F_M_ok (rg_cons (cw_M_73 (G_M_out l) (by decide)) (rg_cons (cw_M_80 (G_M_throwing l) (by decide) r_M_throwing) rg_nil))) ?_
  intro as w K Z hT hZ
  unfold T_M_walk at hT
  split at hT
  rotate_left
  · exact hT.elim
  rename_i k i
  refine ⟨Nat.le_of_ble_eq_true rfl, ?_⟩
  show Z 0 [.ref 18, .int k, .int i, .null] [] w 0
  obtain ⟨A, hA, hK1, hK2⟩ := hT
  have hr := hA.1
  have h50 := hA.2.1
  have z1 : (zI true = 0) = False := by decide +kernel
  have z0 : (zI false = 0) = True := by decide +kernel
  have n0 : (nI 0 = 0) = True := by decide +kernel
  have n1 : (nI 1 = 0) = False := by decide +kernel
  rcases in_or k (n := A.length) (by omega) with ⟨h, -⟩ | ⟨k', hk, rfl⟩
  · refine hZ (rg_cut []) 400 0 _ _ _ ?_; simp only [rg_e_iload_1 (cut := rg_cut []) (f := true) d_M_walk_0 rfl 1 rfl, rg_e_aload_0 (cut := rg_cut []) (f := false) d_M_walk_1 rfl 2 rfl, rg_e_geti (P := P_M_walk) (cut := rg_cut []) (f := false) d_M_walk_2 rfl 5 rfl 18 4 17 rfl (fun _ => rfl), rg_e_cs2 (P := P_M_walk) (cut := rg_cut []) (f := false) d_M_walk_5 rfl T_M_out rfl, rg_e_istore_3 (cut := rg_cut []) (f := false) d_M_walk_8 rfl 9 rfl, rg_e_aload_0 (cut := rg_cut []) (f := false) d_M_walk_9 rfl 10 rfl, rg_e_iload_3 (cut := rg_cut []) (f := false) d_M_walk_10 rfl 11 rfl, rg_e_iload_3 (cut := rg_cut []) (f := false) d_M_walk_11 rfl 12 rfl, rg_e_if_ne (cut := rg_cut []) (f := false) d_M_walk_12 rfl 15 rfl 34 rfl, rg_e_iload_2 (cut := rg_cut []) (f := false) d_M_walk_15 rfl 16 rfl, rg_e_iconst (cut := rg_cut []) (f := false) d_M_walk_16 rfl 17 rfl (-1) rg_ki_m1, rg_e_icmp_lt (cut := rg_cut []) (f := false) d_M_walk_17 rfl 20 rfl 30 rfl, rg_e_iload_2 (cut := rg_cut []) (f := false) d_M_walk_20 rfl 21 rfl, rg_e_aload_0 (cut := rg_cut []) (f := false) d_M_walk_21 rfl 22 rfl, rg_e_getr (P := P_M_walk) (cut := rg_cut []) (f := false) d_M_walk_22 rfl 25 rfl 18 4 18 32 rfl (fun _ => rfl), rg_e_iload_1 (cut := rg_cut []) (f := false) d_M_walk_25 rfl 26 rfl, rg_e_iald (cut := rg_cut []) (f := false) d_M_walk_26 rfl 27 rfl 32 50 rfl, rg_e_icmp_lt (cut := rg_cut []) (f := false) d_M_walk_27 rfl 30 rfl 34 rfl, rg_e_iconst (cut := rg_cut []) (f := false) d_M_walk_30 rfl 31 rfl (nI 1) rg_ki_1, rg_e_goto (cut := rg_cut []) (f := false) d_M_walk_31 rfl 35 rfl, rg_e_iconst (cut := rg_cut []) (f := false) d_M_walk_34 rfl 35 rfl (nI 0) rg_ki_0, rg_e_cv3 (P := P_M_walk) (cut := rg_cut []) (f := false) d_M_walk_35 rfl T_M_throwing rfl, rg_e_if_eq (cut := rg_cut []) (f := false) d_M_walk_38 rfl 41 rfl 43 rfl, rg_e_iconst (cut := rg_cut []) (f := false) d_M_walk_41 rfl 42 rfl (nI 0) rg_ki_0, rg_e_iret (cut := rg_cut []) (f := false) d_M_walk_42 rfl, rg_e_iload_2 (cut := rg_cut []) (f := false) d_M_walk_43 rfl 44 rfl, rg_e_if_ge (cut := rg_cut []) (f := false) d_M_walk_44 rfl 47 rfl 56 rfl, rg_e_aload_0 (cut := rg_cut []) (f := false) d_M_walk_47 rfl 48 rfl, rg_e_getr (P := P_M_walk) (cut := rg_cut []) (f := false) d_M_walk_48 rfl 51 rfl 18 4 18 32 rfl (fun _ => rfl), rg_e_iload_1 (cut := rg_cut []) (f := false) d_M_walk_51 rfl 52 rfl, rg_e_iald (cut := rg_cut []) (f := false) d_M_walk_52 rfl 53 rfl 32 50 rfl, rg_e_goto (cut := rg_cut []) (f := false) d_M_walk_53 rfl 67 rfl, rg_e_aload_0 (cut := rg_cut []) (f := false) d_M_walk_56 rfl 57 rfl, rg_e_getr (P := P_M_walk) (cut := rg_cut []) (f := false) d_M_walk_57 rfl 60 rfl 18 4 19 33 rfl (fun _ => rfl), rg_e_bipush (cut := rg_cut []) (f := false) d_M_walk_60 rfl 62 rfl (nI 40) rg_kb_40, rg_e_iload_1 (cut := rg_cut []) (f := false) d_M_walk_62 rfl 63 rfl, rg_e_imul (cut := rg_cut []) (f := false) d_M_walk_63 rfl 64 rfl, rg_e_iload_2 (cut := rg_cut []) (f := false) d_M_walk_64 rfl 65 rfl, rg_e_iadd (cut := rg_cut []) (f := false) d_M_walk_65 rfl 66 rfl, rg_e_iald (cut := rg_cut []) (f := false) d_M_walk_66 rfl 67 rfl 33 2000 rfl, rg_e_iret (cut := rg_cut []) (f := false) d_M_walk_67 rfl, rg_nx_i, rg_nx_v, rg_wd_n, rg_wd_i, rg_wd_l, rg_wd_r, rg_clr_i, rg_clr_l, rg_clr_r, rg_clr_a, rg_clr_n, true_and, and_true, Nat.reduceAdd, Nat.reduceLeDiff, ↓Te_M_out, ↓Te_M_throwing, rg_rt_e, rg_fit_ie, rg_fit_ve, rg_fit_1e, rg_fit_0e, rg_fit_be, hr, h, z1, z0, n0, n1, decide_true, decide_false, Bool.not_true, Bool.not_false, Bool.true_or, Bool.or_true, Bool.or_false, not_false_eq_true, forall_const, false_imp_iff, not_true_eq_false, if_false, if_true, reduceIte, and_true, true_and]
    exact hK1 h
  · have h := in_f hk (show A.length < 2 ^ 31 by omega)
    obtain ⟨h1, h2, h3⟩ := hK2 k' hk rfl
    obtain ⟨q1, q4, q5⟩ := hA.2.2 k' hk
    have vi : vp_in (nI k') 50 := vp_in_nI (by omega) (by omega)
    have ci : (nI k').toNatClampNeg = k' := nI_clamp (by omega)
    generalize A.getD k' [] = t at *
    rcases ix_or i (n := t.length) (by omega) with g | ⟨g1, g2, g3, g4⟩ | rfl | ⟨q, hq, rfl⟩
    · refine hZ (rg_cut []) 400 0 _ _ _ ?_; simp only [rg_e_iload_1 (cut := rg_cut []) (f := true) d_M_walk_0 rfl 1 rfl, rg_e_aload_0 (cut := rg_cut []) (f := false) d_M_walk_1 rfl 2 rfl, rg_e_geti (P := P_M_walk) (cut := rg_cut []) (f := false) d_M_walk_2 rfl 5 rfl 18 4 17 rfl (fun _ => rfl), rg_e_cs2 (P := P_M_walk) (cut := rg_cut []) (f := false) d_M_walk_5 rfl T_M_out rfl, rg_e_istore_3 (cut := rg_cut []) (f := false) d_M_walk_8 rfl 9 rfl, rg_e_aload_0 (cut := rg_cut []) (f := false) d_M_walk_9 rfl 10 rfl, rg_e_iload_3 (cut := rg_cut []) (f := false) d_M_walk_10 rfl 11 rfl, rg_e_iload_3 (cut := rg_cut []) (f := false) d_M_walk_11 rfl 12 rfl, rg_e_if_ne (cut := rg_cut []) (f := false) d_M_walk_12 rfl 15 rfl 34 rfl, rg_e_iload_2 (cut := rg_cut []) (f := false) d_M_walk_15 rfl 16 rfl, rg_e_iconst (cut := rg_cut []) (f := false) d_M_walk_16 rfl 17 rfl (-1) rg_ki_m1, rg_e_icmp_lt (cut := rg_cut []) (f := false) d_M_walk_17 rfl 20 rfl 30 rfl, rg_e_iload_2 (cut := rg_cut []) (f := false) d_M_walk_20 rfl 21 rfl, rg_e_aload_0 (cut := rg_cut []) (f := false) d_M_walk_21 rfl 22 rfl, rg_e_getr (P := P_M_walk) (cut := rg_cut []) (f := false) d_M_walk_22 rfl 25 rfl 18 4 18 32 rfl (fun _ => rfl), rg_e_iload_1 (cut := rg_cut []) (f := false) d_M_walk_25 rfl 26 rfl, rg_e_iald (cut := rg_cut []) (f := false) d_M_walk_26 rfl 27 rfl 32 50 rfl, rg_e_icmp_lt (cut := rg_cut []) (f := false) d_M_walk_27 rfl 30 rfl 34 rfl, rg_e_iconst (cut := rg_cut []) (f := false) d_M_walk_30 rfl 31 rfl (nI 1) rg_ki_1, rg_e_goto (cut := rg_cut []) (f := false) d_M_walk_31 rfl 35 rfl, rg_e_iconst (cut := rg_cut []) (f := false) d_M_walk_34 rfl 35 rfl (nI 0) rg_ki_0, rg_e_cv3 (P := P_M_walk) (cut := rg_cut []) (f := false) d_M_walk_35 rfl T_M_throwing rfl, rg_e_if_eq (cut := rg_cut []) (f := false) d_M_walk_38 rfl 41 rfl 43 rfl, rg_e_iconst (cut := rg_cut []) (f := false) d_M_walk_41 rfl 42 rfl (nI 0) rg_ki_0, rg_e_iret (cut := rg_cut []) (f := false) d_M_walk_42 rfl, rg_e_iload_2 (cut := rg_cut []) (f := false) d_M_walk_43 rfl 44 rfl, rg_e_if_ge (cut := rg_cut []) (f := false) d_M_walk_44 rfl 47 rfl 56 rfl, rg_e_aload_0 (cut := rg_cut []) (f := false) d_M_walk_47 rfl 48 rfl, rg_e_getr (P := P_M_walk) (cut := rg_cut []) (f := false) d_M_walk_48 rfl 51 rfl 18 4 18 32 rfl (fun _ => rfl), rg_e_iload_1 (cut := rg_cut []) (f := false) d_M_walk_51 rfl 52 rfl, rg_e_iald (cut := rg_cut []) (f := false) d_M_walk_52 rfl 53 rfl 32 50 rfl, rg_e_goto (cut := rg_cut []) (f := false) d_M_walk_53 rfl 67 rfl, rg_e_aload_0 (cut := rg_cut []) (f := false) d_M_walk_56 rfl 57 rfl, rg_e_getr (P := P_M_walk) (cut := rg_cut []) (f := false) d_M_walk_57 rfl 60 rfl 18 4 19 33 rfl (fun _ => rfl), rg_e_bipush (cut := rg_cut []) (f := false) d_M_walk_60 rfl 62 rfl (nI 40) rg_kb_40, rg_e_iload_1 (cut := rg_cut []) (f := false) d_M_walk_62 rfl 63 rfl, rg_e_imul (cut := rg_cut []) (f := false) d_M_walk_63 rfl 64 rfl, rg_e_iload_2 (cut := rg_cut []) (f := false) d_M_walk_64 rfl 65 rfl, rg_e_iadd (cut := rg_cut []) (f := false) d_M_walk_65 rfl 66 rfl, rg_e_iald (cut := rg_cut []) (f := false) d_M_walk_66 rfl 67 rfl 33 2000 rfl, rg_e_iret (cut := rg_cut []) (f := false) d_M_walk_67 rfl, rg_nx_i, rg_nx_v, rg_wd_n, rg_wd_i, rg_wd_l, rg_wd_r, rg_clr_i, rg_clr_l, rg_clr_r, rg_clr_a, rg_clr_n, true_and, and_true, Nat.reduceAdd, Nat.reduceLeDiff, ↓Te_M_out, ↓Te_M_throwing, rg_rt_e, rg_fit_ie, rg_fit_ve, rg_fit_1e, rg_fit_0e, rg_fit_be, hr, h, g, z1, z0, n0, n1, decide_true, decide_false, Bool.not_true, Bool.not_false, Bool.true_or, Bool.or_true, Bool.or_false, not_false_eq_true, forall_const, false_imp_iff, not_true_eq_false, if_false, if_true, reduceIte, and_true, true_and]
      exact h1 (Or.inl (of_eq_true g))
    · refine hZ (rg_cut []) 400 0 _ _ _ ?_; simp only [rg_e_iload_1 (cut := rg_cut []) (f := true) d_M_walk_0 rfl 1 rfl, rg_e_aload_0 (cut := rg_cut []) (f := false) d_M_walk_1 rfl 2 rfl, rg_e_geti (P := P_M_walk) (cut := rg_cut []) (f := false) d_M_walk_2 rfl 5 rfl 18 4 17 rfl (fun _ => rfl), rg_e_cs2 (P := P_M_walk) (cut := rg_cut []) (f := false) d_M_walk_5 rfl T_M_out rfl, rg_e_istore_3 (cut := rg_cut []) (f := false) d_M_walk_8 rfl 9 rfl, rg_e_aload_0 (cut := rg_cut []) (f := false) d_M_walk_9 rfl 10 rfl, rg_e_iload_3 (cut := rg_cut []) (f := false) d_M_walk_10 rfl 11 rfl, rg_e_iload_3 (cut := rg_cut []) (f := false) d_M_walk_11 rfl 12 rfl, rg_e_if_ne (cut := rg_cut []) (f := false) d_M_walk_12 rfl 15 rfl 34 rfl, rg_e_iload_2 (cut := rg_cut []) (f := false) d_M_walk_15 rfl 16 rfl, rg_e_iconst (cut := rg_cut []) (f := false) d_M_walk_16 rfl 17 rfl (-1) rg_ki_m1, rg_e_icmp_lt (cut := rg_cut []) (f := false) d_M_walk_17 rfl 20 rfl 30 rfl, rg_e_iload_2 (cut := rg_cut []) (f := false) d_M_walk_20 rfl 21 rfl, rg_e_aload_0 (cut := rg_cut []) (f := false) d_M_walk_21 rfl 22 rfl, rg_e_getr (P := P_M_walk) (cut := rg_cut []) (f := false) d_M_walk_22 rfl 25 rfl 18 4 18 32 rfl (fun _ => rfl), rg_e_iload_1 (cut := rg_cut []) (f := false) d_M_walk_25 rfl 26 rfl, rg_e_iald (cut := rg_cut []) (f := false) d_M_walk_26 rfl 27 rfl 32 50 rfl, rg_e_icmp_lt (cut := rg_cut []) (f := false) d_M_walk_27 rfl 30 rfl 34 rfl, rg_e_iconst (cut := rg_cut []) (f := false) d_M_walk_30 rfl 31 rfl (nI 1) rg_ki_1, rg_e_goto (cut := rg_cut []) (f := false) d_M_walk_31 rfl 35 rfl, rg_e_iconst (cut := rg_cut []) (f := false) d_M_walk_34 rfl 35 rfl (nI 0) rg_ki_0, rg_e_cv3 (P := P_M_walk) (cut := rg_cut []) (f := false) d_M_walk_35 rfl T_M_throwing rfl, rg_e_if_eq (cut := rg_cut []) (f := false) d_M_walk_38 rfl 41 rfl 43 rfl, rg_e_iconst (cut := rg_cut []) (f := false) d_M_walk_41 rfl 42 rfl (nI 0) rg_ki_0, rg_e_iret (cut := rg_cut []) (f := false) d_M_walk_42 rfl, rg_e_iload_2 (cut := rg_cut []) (f := false) d_M_walk_43 rfl 44 rfl, rg_e_if_ge (cut := rg_cut []) (f := false) d_M_walk_44 rfl 47 rfl 56 rfl, rg_e_aload_0 (cut := rg_cut []) (f := false) d_M_walk_47 rfl 48 rfl, rg_e_getr (P := P_M_walk) (cut := rg_cut []) (f := false) d_M_walk_48 rfl 51 rfl 18 4 18 32 rfl (fun _ => rfl), rg_e_iload_1 (cut := rg_cut []) (f := false) d_M_walk_51 rfl 52 rfl, rg_e_iald (cut := rg_cut []) (f := false) d_M_walk_52 rfl 53 rfl 32 50 rfl, rg_e_goto (cut := rg_cut []) (f := false) d_M_walk_53 rfl 67 rfl, rg_e_aload_0 (cut := rg_cut []) (f := false) d_M_walk_56 rfl 57 rfl, rg_e_getr (P := P_M_walk) (cut := rg_cut []) (f := false) d_M_walk_57 rfl 60 rfl 18 4 19 33 rfl (fun _ => rfl), rg_e_bipush (cut := rg_cut []) (f := false) d_M_walk_60 rfl 62 rfl (nI 40) rg_kb_40, rg_e_iload_1 (cut := rg_cut []) (f := false) d_M_walk_62 rfl 63 rfl, rg_e_imul (cut := rg_cut []) (f := false) d_M_walk_63 rfl 64 rfl, rg_e_iload_2 (cut := rg_cut []) (f := false) d_M_walk_64 rfl 65 rfl, rg_e_iadd (cut := rg_cut []) (f := false) d_M_walk_65 rfl 66 rfl, rg_e_iald (cut := rg_cut []) (f := false) d_M_walk_66 rfl 67 rfl 33 2000 rfl, rg_e_iret (cut := rg_cut []) (f := false) d_M_walk_67 rfl, rg_nx_i, rg_nx_v, rg_wd_n, rg_wd_i, rg_wd_l, rg_wd_r, rg_clr_i, rg_clr_l, rg_clr_r, rg_clr_a, rg_clr_n, true_and, and_true, Nat.reduceAdd, Nat.reduceLeDiff, ↓Te_M_out, ↓Te_M_throwing, rg_rt_e, rg_fit_ie, rg_fit_ve, rg_fit_1e, rg_fit_0e, rg_fit_be, hr, h, g1, g2, vi, ci, q4, z1, z0, n0, n1, decide_true, decide_false, Bool.not_true, Bool.not_false, Bool.true_or, Bool.or_true, Bool.or_false, not_false_eq_true, forall_const, false_imp_iff, not_true_eq_false, if_false, if_true, reduceIte, and_true, true_and]
      exact h1 (Or.inr ⟨g1, g2, g3, g4⟩)
    · have g1 := ix_m.2.1
      have g2 := ix_m.2.2
      have g3 := m1_lt (n := t.length) (by omega)
      have g4 : ((0 : Int32) ≤ -1) = False := by decide +kernel
      have e5 : (rg_up w 18 0 (nI 0)).1 32 k' = nI t.length := by rw [rg_up_n (by decide)]; exact q4
      refine hZ (rg_cut []) 400 0 _ _ _ ?_; simp only [rg_e_iload_1 (cut := rg_cut []) (f := true) d_M_walk_0 rfl 1 rfl, rg_e_aload_0 (cut := rg_cut []) (f := false) d_M_walk_1 rfl 2 rfl, rg_e_geti (P := P_M_walk) (cut := rg_cut []) (f := false) d_M_walk_2 rfl 5 rfl 18 4 17 rfl (fun _ => rfl), rg_e_cs2 (P := P_M_walk) (cut := rg_cut []) (f := false) d_M_walk_5 rfl T_M_out rfl, rg_e_istore_3 (cut := rg_cut []) (f := false) d_M_walk_8 rfl 9 rfl, rg_e_aload_0 (cut := rg_cut []) (f := false) d_M_walk_9 rfl 10 rfl, rg_e_iload_3 (cut := rg_cut []) (f := false) d_M_walk_10 rfl 11 rfl, rg_e_iload_3 (cut := rg_cut []) (f := false) d_M_walk_11 rfl 12 rfl, rg_e_if_ne (cut := rg_cut []) (f := false) d_M_walk_12 rfl 15 rfl 34 rfl, rg_e_iload_2 (cut := rg_cut []) (f := false) d_M_walk_15 rfl 16 rfl, rg_e_iconst (cut := rg_cut []) (f := false) d_M_walk_16 rfl 17 rfl (-1) rg_ki_m1, rg_e_icmp_lt (cut := rg_cut []) (f := false) d_M_walk_17 rfl 20 rfl 30 rfl, rg_e_iload_2 (cut := rg_cut []) (f := false) d_M_walk_20 rfl 21 rfl, rg_e_aload_0 (cut := rg_cut []) (f := false) d_M_walk_21 rfl 22 rfl, rg_e_getr (P := P_M_walk) (cut := rg_cut []) (f := false) d_M_walk_22 rfl 25 rfl 18 4 18 32 rfl (fun _ => rfl), rg_e_iload_1 (cut := rg_cut []) (f := false) d_M_walk_25 rfl 26 rfl, rg_e_iald (cut := rg_cut []) (f := false) d_M_walk_26 rfl 27 rfl 32 50 rfl, rg_e_icmp_lt (cut := rg_cut []) (f := false) d_M_walk_27 rfl 30 rfl 34 rfl, rg_e_iconst (cut := rg_cut []) (f := false) d_M_walk_30 rfl 31 rfl (nI 1) rg_ki_1, rg_e_goto (cut := rg_cut []) (f := false) d_M_walk_31 rfl 35 rfl, rg_e_iconst (cut := rg_cut []) (f := false) d_M_walk_34 rfl 35 rfl (nI 0) rg_ki_0, rg_e_cv3 (P := P_M_walk) (cut := rg_cut []) (f := false) d_M_walk_35 rfl T_M_throwing rfl, rg_e_if_eq (cut := rg_cut []) (f := false) d_M_walk_38 rfl 41 rfl 43 rfl, rg_e_iconst (cut := rg_cut []) (f := false) d_M_walk_41 rfl 42 rfl (nI 0) rg_ki_0, rg_e_iret (cut := rg_cut []) (f := false) d_M_walk_42 rfl, rg_e_iload_2 (cut := rg_cut []) (f := false) d_M_walk_43 rfl 44 rfl, rg_e_if_ge (cut := rg_cut []) (f := false) d_M_walk_44 rfl 47 rfl 56 rfl, rg_e_aload_0 (cut := rg_cut []) (f := false) d_M_walk_47 rfl 48 rfl, rg_e_getr (P := P_M_walk) (cut := rg_cut []) (f := false) d_M_walk_48 rfl 51 rfl 18 4 18 32 rfl (fun _ => rfl), rg_e_iload_1 (cut := rg_cut []) (f := false) d_M_walk_51 rfl 52 rfl, rg_e_iald (cut := rg_cut []) (f := false) d_M_walk_52 rfl 53 rfl 32 50 rfl, rg_e_goto (cut := rg_cut []) (f := false) d_M_walk_53 rfl 67 rfl, rg_e_aload_0 (cut := rg_cut []) (f := false) d_M_walk_56 rfl 57 rfl, rg_e_getr (P := P_M_walk) (cut := rg_cut []) (f := false) d_M_walk_57 rfl 60 rfl 18 4 19 33 rfl (fun _ => rfl), rg_e_bipush (cut := rg_cut []) (f := false) d_M_walk_60 rfl 62 rfl (nI 40) rg_kb_40, rg_e_iload_1 (cut := rg_cut []) (f := false) d_M_walk_62 rfl 63 rfl, rg_e_imul (cut := rg_cut []) (f := false) d_M_walk_63 rfl 64 rfl, rg_e_iload_2 (cut := rg_cut []) (f := false) d_M_walk_64 rfl 65 rfl, rg_e_iadd (cut := rg_cut []) (f := false) d_M_walk_65 rfl 66 rfl, rg_e_iald (cut := rg_cut []) (f := false) d_M_walk_66 rfl 67 rfl 33 2000 rfl, rg_e_iret (cut := rg_cut []) (f := false) d_M_walk_67 rfl, rg_nx_i, rg_nx_v, rg_wd_n, rg_wd_i, rg_wd_l, rg_wd_r, rg_clr_i, rg_clr_l, rg_clr_r, rg_clr_a, rg_clr_n, true_and, and_true, Nat.reduceAdd, Nat.reduceLeDiff, ↓Te_M_out, ↓Te_M_throwing, rg_rt_e, rg_fit_ie, rg_fit_ve, rg_fit_1e, rg_fit_0e, rg_fit_be, hr, h, g1, g2, g3, g4, vi, ci, q4, e5, z1, z0, n0, n1, decide_true, decide_false, Bool.not_true, Bool.not_false, Bool.true_or, Bool.or_true, Bool.or_false, not_false_eq_true, forall_const, false_imp_iff, not_true_eq_false, if_false, if_true, reduceIte, and_true, true_and]
      exact h2 rfl
    · have g1 := nI_ltm (q := q) (by omega)
      have g2 : ((0 : Int32) ≤ nI q) = True := eq_true (Int32.not_lt.mp (nI_pos (by omega)))
      have g3 : (nI q < nI t.length) = True := eq_true (nI_lt hq (by omega))
      have x1 : nI 40 * nI k' + nI q = nI (40 * k' + q) := by rw [pk_mul, nI_add]
      have v1 : vp_in (nI (40 * k' + q)) 2000 := vp_in_nI (by omega) (by omega)
      have c1 : (nI (40 * k' + q)).toNatClampNeg = 40 * k' + q := nI_clamp (by omega)
      have e5 : (rg_up w 18 0 (nI 0)).1 33 (40 * k' + q) = nI (t.getD q 0) := by rw [rg_up_n (by decide)]; exact q5 q hq
      refine hZ (rg_cut []) 400 0 _ _ _ ?_; simp only [rg_e_iload_1 (cut := rg_cut []) (f := true) d_M_walk_0 rfl 1 rfl, rg_e_aload_0 (cut := rg_cut []) (f := false) d_M_walk_1 rfl 2 rfl, rg_e_geti (P := P_M_walk) (cut := rg_cut []) (f := false) d_M_walk_2 rfl 5 rfl 18 4 17 rfl (fun _ => rfl), rg_e_cs2 (P := P_M_walk) (cut := rg_cut []) (f := false) d_M_walk_5 rfl T_M_out rfl, rg_e_istore_3 (cut := rg_cut []) (f := false) d_M_walk_8 rfl 9 rfl, rg_e_aload_0 (cut := rg_cut []) (f := false) d_M_walk_9 rfl 10 rfl, rg_e_iload_3 (cut := rg_cut []) (f := false) d_M_walk_10 rfl 11 rfl, rg_e_iload_3 (cut := rg_cut []) (f := false) d_M_walk_11 rfl 12 rfl, rg_e_if_ne (cut := rg_cut []) (f := false) d_M_walk_12 rfl 15 rfl 34 rfl, rg_e_iload_2 (cut := rg_cut []) (f := false) d_M_walk_15 rfl 16 rfl, rg_e_iconst (cut := rg_cut []) (f := false) d_M_walk_16 rfl 17 rfl (-1) rg_ki_m1, rg_e_icmp_lt (cut := rg_cut []) (f := false) d_M_walk_17 rfl 20 rfl 30 rfl, rg_e_iload_2 (cut := rg_cut []) (f := false) d_M_walk_20 rfl 21 rfl, rg_e_aload_0 (cut := rg_cut []) (f := false) d_M_walk_21 rfl 22 rfl, rg_e_getr (P := P_M_walk) (cut := rg_cut []) (f := false) d_M_walk_22 rfl 25 rfl 18 4 18 32 rfl (fun _ => rfl), rg_e_iload_1 (cut := rg_cut []) (f := false) d_M_walk_25 rfl 26 rfl, rg_e_iald (cut := rg_cut []) (f := false) d_M_walk_26 rfl 27 rfl 32 50 rfl, rg_e_icmp_lt (cut := rg_cut []) (f := false) d_M_walk_27 rfl 30 rfl 34 rfl, rg_e_iconst (cut := rg_cut []) (f := false) d_M_walk_30 rfl 31 rfl (nI 1) rg_ki_1, rg_e_goto (cut := rg_cut []) (f := false) d_M_walk_31 rfl 35 rfl, rg_e_iconst (cut := rg_cut []) (f := false) d_M_walk_34 rfl 35 rfl (nI 0) rg_ki_0, rg_e_cv3 (P := P_M_walk) (cut := rg_cut []) (f := false) d_M_walk_35 rfl T_M_throwing rfl, rg_e_if_eq (cut := rg_cut []) (f := false) d_M_walk_38 rfl 41 rfl 43 rfl, rg_e_iconst (cut := rg_cut []) (f := false) d_M_walk_41 rfl 42 rfl (nI 0) rg_ki_0, rg_e_iret (cut := rg_cut []) (f := false) d_M_walk_42 rfl, rg_e_iload_2 (cut := rg_cut []) (f := false) d_M_walk_43 rfl 44 rfl, rg_e_if_ge (cut := rg_cut []) (f := false) d_M_walk_44 rfl 47 rfl 56 rfl, rg_e_aload_0 (cut := rg_cut []) (f := false) d_M_walk_47 rfl 48 rfl, rg_e_getr (P := P_M_walk) (cut := rg_cut []) (f := false) d_M_walk_48 rfl 51 rfl 18 4 18 32 rfl (fun _ => rfl), rg_e_iload_1 (cut := rg_cut []) (f := false) d_M_walk_51 rfl 52 rfl, rg_e_iald (cut := rg_cut []) (f := false) d_M_walk_52 rfl 53 rfl 32 50 rfl, rg_e_goto (cut := rg_cut []) (f := false) d_M_walk_53 rfl 67 rfl, rg_e_aload_0 (cut := rg_cut []) (f := false) d_M_walk_56 rfl 57 rfl, rg_e_getr (P := P_M_walk) (cut := rg_cut []) (f := false) d_M_walk_57 rfl 60 rfl 18 4 19 33 rfl (fun _ => rfl), rg_e_bipush (cut := rg_cut []) (f := false) d_M_walk_60 rfl 62 rfl (nI 40) rg_kb_40, rg_e_iload_1 (cut := rg_cut []) (f := false) d_M_walk_62 rfl 63 rfl, rg_e_imul (cut := rg_cut []) (f := false) d_M_walk_63 rfl 64 rfl, rg_e_iload_2 (cut := rg_cut []) (f := false) d_M_walk_64 rfl 65 rfl, rg_e_iadd (cut := rg_cut []) (f := false) d_M_walk_65 rfl 66 rfl, rg_e_iald (cut := rg_cut []) (f := false) d_M_walk_66 rfl 67 rfl 33 2000 rfl, rg_e_iret (cut := rg_cut []) (f := false) d_M_walk_67 rfl, rg_nx_i, rg_nx_v, rg_wd_n, rg_wd_i, rg_wd_l, rg_wd_r, rg_clr_i, rg_clr_l, rg_clr_r, rg_clr_a, rg_clr_n, true_and, and_true, Nat.reduceAdd, Nat.reduceLeDiff, ↓Te_M_out, ↓Te_M_throwing, rg_rt_e, rg_fit_ie, rg_fit_ve, rg_fit_1e, rg_fit_0e, rg_fit_be, hr, h, g1, g2, g3, vi, ci, x1, v1, c1, q4, e5, z1, z0, n0, n1, decide_true, decide_false, Bool.not_true, Bool.not_false, Bool.true_or, Bool.or_true, Bool.or_false, not_false_eq_true, forall_const, false_imp_iff, not_true_eq_false, if_false, if_true, reduceIte, and_true, true_and]
      exact h3 q hq rfl
theorem spG_at {ln pk : Nat → Nat} {hg : Nat → Nat → Nat} : ∀ (t : List Nat) (j q : Nat), j < t.length → q < hE hg (t.getD j 0) → spG ln pk hg t (sH hg (t.take j) + q) = lt4 (ln (ds hg (t.getD j 0))) (pk (ds hg (t.getD j 0))) (ln (ds hg (t.getD j 0)) - hE hg (t.getD j 0) + q)
  | [], j, q, h, _ => absurd h (Nat.not_lt_zero j)
  | e :: t, 0, q, _, hq => by
    rw [List.getD_cons_zero] at hq ⊢
    rw [List.take_zero, sH, Nat.zero_add, spG, if_pos hq]
  | e :: t, j + 1, q, h, hq => by
    rw [List.getD_cons_succ] at hq ⊢
    rw [List.length_cons] at h
    rw [List.take_succ_cons, sH, spG, if_neg (by omega), show hE hg e + sH hg (t.take j) + q - hE hg e = sH hg (t.take j) + q by omega]
    exact spG_at t j q (by omega) hq
theorem spG_lt {ln pk : Nat → Nat} {hg : Nat → Nat → Nat} : ∀ (t : List Nat) (i : Nat), spG ln pk hg t i < 4
  | [], _ => by rw [spG]; omega
  | e :: t, i => by
    rw [spG]
    split
    · exact lt4_lt _ _ _
    · exact spG_lt t _
theorem spN_lt (ln pk : Nat → Nat) (hg : Nat → Nat → Nat) (t : List Nat) (i : Nat) : spN ln pk hg t i < 4 := by
  unfold spN
  split
  · exact lt4_lt _ _ _
  · exact spG_lt _ _
-- M.spell
def P_M_spell : rg_P := (rg_F_M, [], [], [], [], [], 0)
def T_M_spell : rg_T := fun as w K => match as with
  | [.ref 18, .int k, .int i] => ∃ nr ln pk hg A k', RdM nr ln pk w ∧ EgM ln hg w ∧ HgL nr ln hg ∧ AcM A w ∧ AcOk hg A ∧ k = nI k' ∧ k' < A.length ∧ (∀ i', i' < spL ln hg (A.getD k' []) → i = nI i' → K (some (.int (nI (spN ln pk hg (A.getD k' []) i')))) w) ∧ (spL ln hg (A.getD k' []) ≤ 492 → (∀ i', i' < spL ln hg (A.getD k' []) → i ≠ nI i') → K (some (.int (-1 - nI (spL ln hg (A.getD k' []))))) w)
  | _ => False
theorem Te_M_spell (k : Int32) (i : Int32) (w : rg_W) (K : Option Value → rg_W → Prop) : T_M_spell [.ref 18, .int k, .int i] w K = (∃ nr ln pk hg A k', RdM nr ln pk w ∧ EgM ln hg w ∧ HgL nr ln hg ∧ AcM A w ∧ AcOk hg A ∧ k = nI k' ∧ k' < A.length ∧ (∀ i', i' < spL ln hg (A.getD k' []) → i = nI i' → K (some (.int (nI (spN ln pk hg (A.getD k' []) i')))) w) ∧ (spL ln hg (A.getD k' []) ≤ 492 → (∀ i', i' < spL ln hg (A.getD k' []) → i ≠ nI i') → K (some (.int (-1 - nI (spL ln hg (A.getD k' []))))) w)) := rfl
theorem r_M_spell : ∀ as w K, T_M_spell as w K → ∃ r, as = .ref 18 :: r := by
  intro as w K h
  unfold T_M_spell at h
  split at h
  · exact ⟨_, rfl⟩
  · exact h.elim
theorem G_M_spell (l : Launch) : rg_Good l y_M_spell c_M_spell 8 (some .int) 0 T_M_spell := by
  refine rg_good_of (P := P_M_spell) (by decide) (rg_pok rg_F_M_ok rg_nil) ?_
  intro as w K Z hT hZ
  unfold T_M_spell at hT
  split at hT
  rotate_left
  · exact hT.elim
  rename_i k i
  refine ⟨Nat.le_of_ble_eq_true rfl, ?_⟩
  show Z 0 [.ref 18, .int k, .int i, .null, .null, .null, .null, .null] [] w 0
  obtain ⟨nr, ln, pk, hg, A, k', ⟨hL, hr, hc⟩, hE1, hH, hA, hA1, rfl, hk, hKt, hKf⟩ := hT
  have h72 := eN_le hH.1
  have hn9 := hL.1
  obtain ⟨a1, a2, a3⟩ := hA.2.2 k' hk
  obtain ⟨b1, b2⟩ := hA1 _ (gDA_mem hk)
  have hA50 := hA.2.1
  generalize A.getD k' [] = t at *
  have t0 : t.getD 0 0 < eN hg := b2 _ (gD_mem b1)
  obtain ⟨s0, -, -⟩ := hH.e t0
  obtain ⟨q1, q2, q3, q4, q5⟩ := hL.2 _ s0
  have hle : ∀ e ∈ t, hE hg e ≤ 12 := fun e he => by
    obtain ⟨x1, x2, x3⟩ := hH.e (b2 e he)
    have := (hL.2 _ x2).2.1
    unfold hE
    omega
  have hsH : sH hg t ≤ 480 := by
    have := sH_le t hle
    omega
  have ck : (nI k').toNatClampNeg = k' := nI_clamp (by omega)
  have vk : vp_in (nI k') 50 := vp_in_nI (by omega) (by omega)
  have hspL : spL ln hg t = ln (sr hg (t.getD 0 0)) + sH hg t := rfl
  have tk : ∀ j, j < t.length → sH hg (t.take (j + 1)) = sH hg (t.take j) + hE hg (t.getD j 0) := fun j hj => by
    rw [take_s hj, sH_app]
    simp only [sH, Nat.add_zero]
  have tl : ∀ j, sH hg (t.take j) ≤ sH hg t := fun j => by
    have := sH_app hg (t.take j) (t.drop j)
    rw [List.take_append_drop] at this
    omega
  generalize hF : sr hg (t.getD 0 0) = first at *
  have vf : vp_in (nI first) 9 := vp_in_nI (by omega) (by omega)
  have cf : (nI first).toNatClampNeg = first := nI_clamp (by omega)
  have l3 : ∀ (j : Nat), j < t.length → (∀ (a6 a7 : Value), (∀ i', i' < ln first + sH hg (t.take (j + 1)) → i ≠ nI i') → Z 64 [.ref 18, .int (nI k'), .int i, .int (nI (ln first + sH hg (t.take (j + 1)))), .int (nI first), .int (nI (j + 1)), a6, a7] [] w 0) → ∀ (q : Nat), (q ≤ hE hg (t.getD j 0) ∧ ∀ i', i' < ln first + sH hg (t.take j) + q → i ≠ nI i') → Z 98 [.ref 18, .int (nI k'), .int i, .int (nI (ln first + sH hg (t.take j) + q)), .int (nI first), .int (nI j), .int (nI (t.getD j 0)), .int (nI (ln (ds hg (t.getD j 0)) - hE hg (t.getD j 0) + q))] [] w 0 := by
    intro j hj hout
    have ti : t.getD j 0 < eN hg := b2 _ (gD_mem hj)
    obtain ⟨y1, y2, y3⟩ := hH.e ti
    have y3 : hE hg (t.getD j 0) < ln (ds hg (t.getD j 0)) := y3
    obtain ⟨r1, r2, r3, r4, r5⟩ := hL.2 _ y2
    have v2 : vp_in (nI (t.getD j 0)) 81 := vp_in_nI (by omega) (by omega)
    have c2 : (nI (t.getD j 0)).toNatClampNeg = t.getD j 0 := nI_clamp (by omega)
    have e2 := (hE1.2 _ ti).2.1
    have v3 : vp_in (nI (ds hg (t.getD j 0))) 9 := vp_in_nI (by omega) (by omega)
    have c3 : (nI (ds hg (t.getD j 0))).toNatClampNeg = ds hg (t.getD j 0) := nI_clamp (by omega)
    have tlj := tl (j + 1)
    have tkj := tk j hj
    have hsp := fun q (hq : q < hE hg (t.getD j 0)) => spG_at (ln := ln) (pk := pk) (hg := hg) t j q hj hq
    generalize t.getD j 0 = x at *
    refine rg_lp1 _ _ (fun q => hE hg x - q) ?_
    intro q ⟨hq, hno⟩ ih
    rcases Nat.lt_or_ge q (hE hg x) with hq9 | hq9
    · have x1 : nI 12 * nI (ds hg x) + nI (ln (ds hg x) - hE hg x + q) = nI (12 * ds hg x + (ln (ds hg x) - hE hg x + q)) := by rw [pk_mul, nI_add]
      have v1 : vp_in (nI (12 * ds hg x + (ln (ds hg x) - hE hg x + q))) 108 := vp_in_nI (by omega) (by omega)
      have c1 : (nI (12 * ds hg x + (ln (ds hg x) - hE hg x + q))).toNatClampNeg = 12 * ds hg x + (ln (ds hg x) - hE hg x + q) := nI_clamp (by omega)
      have e5 := r5 (ln (ds hg x) - hE hg x + q) (by omega)
      refine hZ (rg_cut [21, 64, 98]) 400 98 _ _ _ ?_; simp only [rg_e_iload_7 (cut := rg_cut [21, 64, 98]) (f := true) d_M_spell_98 rfl 100 rfl, rg_e_aload_0 (cut := rg_cut [21, 64, 98]) (f := false) d_M_spell_100 rfl 101 rfl, rg_e_getr (P := P_M_spell) (cut := rg_cut [21, 64, 98]) (f := false) d_M_spell_101 rfl 104 rfl 18 4 2 19 rfl (fun _ => rfl), rg_e_aload_0 (cut := rg_cut [21, 64, 98]) (f := false) d_M_spell_104 rfl 105 rfl, rg_e_getr (P := P_M_spell) (cut := rg_cut [21, 64, 98]) (f := false) d_M_spell_105 rfl 108 rfl 18 4 11 26 rfl (fun _ => rfl), rg_e_iload_6 (cut := rg_cut [21, 64, 98]) (f := false) d_M_spell_108 rfl 110 rfl, rg_e_iald (cut := rg_cut [21, 64, 98]) (f := false) d_M_spell_110 rfl 111 rfl 26 81 rfl, rg_e_iald (cut := rg_cut [21, 64, 98]) (f := false) d_M_spell_111 rfl 112 rfl 19 9 rfl, rg_e_icmp_ge (cut := rg_cut [21, 64, 98]) (f := false) d_M_spell_112 rfl 115 rfl 148 rfl, rg_e_iload_3 (cut := rg_cut [21, 64, 98]) (f := false) d_M_spell_115 rfl 116 rfl, rg_e_iload_2 (cut := rg_cut [21, 64, 98]) (f := false) d_M_spell_116 rfl 117 rfl, rg_e_icmp_ne (cut := rg_cut [21, 64, 98]) (f := false) d_M_spell_117 rfl 120 rfl 139 rfl, rg_e_aload_0 (cut := rg_cut [21, 64, 98]) (f := false) d_M_spell_120 rfl 121 rfl, rg_e_getr (P := P_M_spell) (cut := rg_cut [21, 64, 98]) (f := false) d_M_spell_121 rfl 124 rfl 18 4 3 20 rfl (fun _ => rfl), rg_e_bipush (cut := rg_cut [21, 64, 98]) (f := false) d_M_spell_124 rfl 126 rfl (nI 12) rg_kb_12, rg_e_aload_0 (cut := rg_cut [21, 64, 98]) (f := false) d_M_spell_126 rfl 127 rfl, rg_e_getr (P := P_M_spell) (cut := rg_cut [21, 64, 98]) (f := false) d_M_spell_127 rfl 130 rfl 18 4 11 26 rfl (fun _ => rfl), rg_e_iload_6 (cut := rg_cut [21, 64, 98]) (f := false) d_M_spell_130 rfl 132 rfl, rg_e_iald (cut := rg_cut [21, 64, 98]) (f := false) d_M_spell_132 rfl 133 rfl 26 81 rfl, rg_e_imul (cut := rg_cut [21, 64, 98]) (f := false) d_M_spell_133 rfl 134 rfl, rg_e_iload_7 (cut := rg_cut [21, 64, 98]) (f := false) d_M_spell_134 rfl 136 rfl, rg_e_iadd (cut := rg_cut [21, 64, 98]) (f := false) d_M_spell_136 rfl 137 rfl, rg_e_iald (cut := rg_cut [21, 64, 98]) (f := false) d_M_spell_137 rfl 138 rfl 20 108 rfl, rg_e_iret (cut := rg_cut [21, 64, 98]) (f := false) d_M_spell_138 rfl, rg_e_iinc_3 (cut := rg_cut [21, 64, 98]) (f := false) d_M_spell_139 rfl 142 rfl (nI 1) rg_ki_1, rg_e_iinc_7 (cut := rg_cut [21, 64, 98]) (f := false) d_M_spell_142 rfl 145 rfl (nI 1) rg_ki_1, rg_e_goto (cut := rg_cut [21, 64, 98]) (f := false) d_M_spell_145 rfl 98 rfl, rg_e_iinc_5 (cut := rg_cut [21, 64, 98]) (f := false) d_M_spell_148 rfl 151 rfl (nI 1) rg_ki_1, rg_e_goto (cut := rg_cut [21, 64, 98]) (f := false) d_M_spell_151 rfl 64 rfl, rg_e_cut (cut := rg_cut [21, 64, 98]) 21 rfl, rg_e_cut (cut := rg_cut [21, 64, 98]) 64 rfl, rg_e_cut (cut := rg_cut [21, 64, 98]) 98 rfl, rg_nx_i, rg_nx_v, rg_wd_n, rg_wd_i, rg_wd_l, rg_wd_r, rg_clr_i, rg_clr_l, rg_clr_r, rg_clr_a, rg_clr_n, true_and, and_true, Nat.reduceAdd, Nat.reduceLeDiff, rg_rt_e, rg_fit_ie, rg_fit_ve, rg_fit_1e, rg_fit_0e, rg_fit_be, v2, c2, e2, v3, c3, r4, x1, v1, c1, e5, nI_add]
      refine ⟨fun h => absurd h (nI_ge (show ln (ds hg x) - hE hg x + q < ln (ds hg x) by omega) (by omega)), fun _ => ⟨fun h => ?_, fun h => ?_⟩⟩
      · refine ih (q + 1) ⟨by omega, fun i' hi' => ?_⟩ (by omega)
        by_cases e : i' = ln first + sH hg (t.take j) + q
        · subst e; exact fun z => h z.symm
        · exact hno i' (by omega)
      · have h := (Classical.not_not.mp h).symm
        have := hKt (ln first + sH hg (t.take j) + q) (by omega) h
        unfold spN at this
        rw [hF, if_neg (by omega), show ln first + sH hg (t.take j) + q - ln first = sH hg (t.take j) + q by omega, hsp q hq9] at this
        exact this
    · obtain rfl : q = hE hg x := by omega
      refine hZ (rg_cut [21, 64, 98]) 400 98 _ _ _ ?_; simp only [rg_e_iload_7 (cut := rg_cut [21, 64, 98]) (f := true) d_M_spell_98 rfl 100 rfl, rg_e_aload_0 (cut := rg_cut [21, 64, 98]) (f := false) d_M_spell_100 rfl 101 rfl, rg_e_getr (P := P_M_spell) (cut := rg_cut [21, 64, 98]) (f := false) d_M_spell_101 rfl 104 rfl 18 4 2 19 rfl (fun _ => rfl), rg_e_aload_0 (cut := rg_cut [21, 64, 98]) (f := false) d_M_spell_104 rfl 105 rfl, rg_e_getr (P := P_M_spell) (cut := rg_cut [21, 64, 98]) (f := false) d_M_spell_105 rfl 108 rfl 18 4 11 26 rfl (fun _ => rfl), rg_e_iload_6 (cut := rg_cut [21, 64, 98]) (f := false) d_M_spell_108 rfl 110 rfl, rg_e_iald (cut := rg_cut [21, 64, 98]) (f := false) d_M_spell_110 rfl 111 rfl 26 81 rfl, rg_e_iald (cut := rg_cut [21, 64, 98]) (f := false) d_M_spell_111 rfl 112 rfl 19 9 rfl, rg_e_icmp_ge (cut := rg_cut [21, 64, 98]) (f := false) d_M_spell_112 rfl 115 rfl 148 rfl, rg_e_iload_3 (cut := rg_cut [21, 64, 98]) (f := false) d_M_spell_115 rfl 116 rfl, rg_e_iload_2 (cut := rg_cut [21, 64, 98]) (f := false) d_M_spell_116 rfl 117 rfl, rg_e_icmp_ne (cut := rg_cut [21, 64, 98]) (f := false) d_M_spell_117 rfl 120 rfl 139 rfl, rg_e_aload_0 (cut := rg_cut [21, 64, 98]) (f := false) d_M_spell_120 rfl 121 rfl, rg_e_getr (P := P_M_spell) (cut := rg_cut [21, 64, 98]) (f := false) d_M_spell_121 rfl 124 rfl 18 4 3 20 rfl (fun _ => rfl), rg_e_bipush (cut := rg_cut [21, 64, 98]) (f := false) d_M_spell_124 rfl 126 rfl (nI 12) rg_kb_12, rg_e_aload_0 (cut := rg_cut [21, 64, 98]) (f := false) d_M_spell_126 rfl 127 rfl, rg_e_getr (P := P_M_spell) (cut := rg_cut [21, 64, 98]) (f := false) d_M_spell_127 rfl 130 rfl 18 4 11 26 rfl (fun _ => rfl), rg_e_iload_6 (cut := rg_cut [21, 64, 98]) (f := false) d_M_spell_130 rfl 132 rfl, rg_e_iald (cut := rg_cut [21, 64, 98]) (f := false) d_M_spell_132 rfl 133 rfl 26 81 rfl, rg_e_imul (cut := rg_cut [21, 64, 98]) (f := false) d_M_spell_133 rfl 134 rfl, rg_e_iload_7 (cut := rg_cut [21, 64, 98]) (f := false) d_M_spell_134 rfl 136 rfl, rg_e_iadd (cut := rg_cut [21, 64, 98]) (f := false) d_M_spell_136 rfl 137 rfl, rg_e_iald (cut := rg_cut [21, 64, 98]) (f := false) d_M_spell_137 rfl 138 rfl 20 108 rfl, rg_e_iret (cut := rg_cut [21, 64, 98]) (f := false) d_M_spell_138 rfl, rg_e_iinc_3 (cut := rg_cut [21, 64, 98]) (f := false) d_M_spell_139 rfl 142 rfl (nI 1) rg_ki_1, rg_e_iinc_7 (cut := rg_cut [21, 64, 98]) (f := false) d_M_spell_142 rfl 145 rfl (nI 1) rg_ki_1, rg_e_goto (cut := rg_cut [21, 64, 98]) (f := false) d_M_spell_145 rfl 98 rfl, rg_e_iinc_5 (cut := rg_cut [21, 64, 98]) (f := false) d_M_spell_148 rfl 151 rfl (nI 1) rg_ki_1, rg_e_goto (cut := rg_cut [21, 64, 98]) (f := false) d_M_spell_151 rfl 64 rfl, rg_e_cut (cut := rg_cut [21, 64, 98]) 21 rfl, rg_e_cut (cut := rg_cut [21, 64, 98]) 64 rfl, rg_e_cut (cut := rg_cut [21, 64, 98]) 98 rfl, rg_nx_i, rg_nx_v, rg_wd_n, rg_wd_i, rg_wd_l, rg_wd_r, rg_clr_i, rg_clr_l, rg_clr_r, rg_clr_a, rg_clr_n, true_and, and_true, Nat.reduceAdd, Nat.reduceLeDiff, rg_rt_e, rg_fit_ie, rg_fit_ve, rg_fit_1e, rg_fit_0e, rg_fit_be, v2, c2, e2, v3, c3, r4, nI_add]
      refine ⟨fun _ => ?_, fun h => absurd (nI_le (show ln (ds hg x) ≤ ln (ds hg x) - hE hg x + hE hg x by omega) (by omega)) h⟩
      rw [Nat.add_assoc, ← tkj]
      exact hout _ _ (fun i' hi' => hno i' (by omega))
  have l2 : ∀ (j : Nat) (a6 a7 : Value), (j ≤ t.length ∧ ∀ i', i' < ln first + sH hg (t.take j) → i ≠ nI i') → Z 64 [.ref 18, .int (nI k'), .int i, .int (nI (ln first + sH hg (t.take j))), .int (nI first), .int (nI j), a6, a7] [] w 0 := by
    refine rg_lp3 _ _ (fun j _ _ => t.length - j) ?_
    intro j a6 a7 ⟨hj, hno⟩ ih
    rcases Nat.lt_or_ge j t.length with hj9 | hj9
    · have x1 : nI 40 * nI k' + nI j = nI (40 * k' + j) := by rw [pk_mul, nI_add]
      have v1 : vp_in (nI (40 * k' + j)) 2000 := vp_in_nI (by omega) (by omega)
      have c1 : (nI (40 * k' + j)).toNatClampNeg = 40 * k' + j := nI_clamp (by omega)
      have e1 := a3 j hj9
      have ti : t.getD j 0 < eN hg := b2 _ (gD_mem hj9)
      have v2 : vp_in (nI (t.getD j 0)) 81 := vp_in_nI (by omega) (by omega)
      have c2 : (nI (t.getD j 0)).toNatClampNeg = t.getD j 0 := nI_clamp (by omega)
      have e3 := (hE1.2 _ ti).2.2
      refine hZ (rg_cut [21, 64, 98]) 400 64 _ _ _ ?_; simp only [rg_e_iload_5 (cut := rg_cut [21, 64, 98]) (f := true) d_M_spell_64 rfl 66 rfl, rg_e_aload_0 (cut := rg_cut [21, 64, 98]) (f := false) d_M_spell_66 rfl 67 rfl, rg_e_getr (P := P_M_spell) (cut := rg_cut [21, 64, 98]) (f := false) d_M_spell_67 rfl 70 rfl 18 4 18 32 rfl (fun _ => rfl), rg_e_iload_1 (cut := rg_cut [21, 64, 98]) (f := false) d_M_spell_70 rfl 71 rfl, rg_e_iald (cut := rg_cut [21, 64, 98]) (f := false) d_M_spell_71 rfl 72 rfl 32 50 rfl, rg_e_icmp_ge (cut := rg_cut [21, 64, 98]) (f := false) d_M_spell_72 rfl 75 rfl 154 rfl, rg_e_aload_0 (cut := rg_cut [21, 64, 98]) (f := false) d_M_spell_75 rfl 76 rfl, rg_e_getr (P := P_M_spell) (cut := rg_cut [21, 64, 98]) (f := false) d_M_spell_76 rfl 79 rfl 18 4 19 33 rfl (fun _ => rfl), rg_e_bipush (cut := rg_cut [21, 64, 98]) (f := false) d_M_spell_79 rfl 81 rfl (nI 40) rg_kb_40, rg_e_iload_1 (cut := rg_cut [21, 64, 98]) (f := false) d_M_spell_81 rfl 82 rfl, rg_e_imul (cut := rg_cut [21, 64, 98]) (f := false) d_M_spell_82 rfl 83 rfl, rg_e_iload_5 (cut := rg_cut [21, 64, 98]) (f := false) d_M_spell_83 rfl 85 rfl, rg_e_iadd (cut := rg_cut [21, 64, 98]) (f := false) d_M_spell_85 rfl 86 rfl, rg_e_iald (cut := rg_cut [21, 64, 98]) (f := false) d_M_spell_86 rfl 87 rfl 33 2000 rfl, rg_e_istore_6 (cut := rg_cut [21, 64, 98]) (f := false) d_M_spell_87 rfl 89 rfl, rg_e_aload_0 (cut := rg_cut [21, 64, 98]) (f := false) d_M_spell_89 rfl 90 rfl, rg_e_getr (P := P_M_spell) (cut := rg_cut [21, 64, 98]) (f := false) d_M_spell_90 rfl 93 rfl 18 4 12 27 rfl (fun _ => rfl), rg_e_iload_6 (cut := rg_cut [21, 64, 98]) (f := false) d_M_spell_93 rfl 95 rfl, rg_e_iald (cut := rg_cut [21, 64, 98]) (f := false) d_M_spell_95 rfl 96 rfl 27 81 rfl, rg_e_istore_7 (cut := rg_cut [21, 64, 98]) (f := false) d_M_spell_96 rfl 98 rfl, rg_e_iconst (cut := rg_cut [21, 64, 98]) (f := false) d_M_spell_154 rfl 155 rfl (-1) rg_ki_m1, rg_e_iload_3 (cut := rg_cut [21, 64, 98]) (f := false) d_M_spell_155 rfl 156 rfl, rg_e_isub (cut := rg_cut [21, 64, 98]) (f := false) d_M_spell_156 rfl 157 rfl, rg_e_iret (cut := rg_cut [21, 64, 98]) (f := false) d_M_spell_157 rfl, rg_e_cut (cut := rg_cut [21, 64, 98]) 21 rfl, rg_e_cut (cut := rg_cut [21, 64, 98]) 64 rfl, rg_e_cut (cut := rg_cut [21, 64, 98]) 98 rfl, rg_nx_i, rg_nx_v, rg_wd_n, rg_wd_i, rg_wd_l, rg_wd_r, rg_clr_i, rg_clr_l, rg_clr_r, rg_clr_a, rg_clr_n, true_and, and_true, Nat.reduceAdd, Nat.reduceLeDiff, rg_rt_e, rg_fit_ie, rg_fit_ve, rg_fit_1e, rg_fit_0e, rg_fit_be, vk, ck, a2, x1, v1, c1, e1, v2, c2, e3]
      exact ⟨fun h => absurd h (nI_ge hj9 (by omega)), fun _ => l3 j hj9 (fun a6 a7 hn => ih (j + 1) a6 a7 ⟨by omega, hn⟩ (by omega)) 0 ⟨by omega, hno⟩⟩
    · obtain rfl : j = t.length := by omega
      refine hZ (rg_cut [21, 64, 98]) 400 64 _ _ _ ?_; simp only [rg_e_iload_5 (cut := rg_cut [21, 64, 98]) (f := true) d_M_spell_64 rfl 66 rfl, rg_e_aload_0 (cut := rg_cut [21, 64, 98]) (f := false) d_M_spell_66 rfl 67 rfl, rg_e_getr (P := P_M_spell) (cut := rg_cut [21, 64, 98]) (f := false) d_M_spell_67 rfl 70 rfl 18 4 18 32 rfl (fun _ => rfl), rg_e_iload_1 (cut := rg_cut [21, 64, 98]) (f := false) d_M_spell_70 rfl 71 rfl, rg_e_iald (cut := rg_cut [21, 64, 98]) (f := false) d_M_spell_71 rfl 72 rfl 32 50 rfl, rg_e_icmp_ge (cut := rg_cut [21, 64, 98]) (f := false) d_M_spell_72 rfl 75 rfl 154 rfl, rg_e_aload_0 (cut := rg_cut [21, 64, 98]) (f := false) d_M_spell_75 rfl 76 rfl, rg_e_getr (P := P_M_spell) (cut := rg_cut [21, 64, 98]) (f := false) d_M_spell_76 rfl 79 rfl 18 4 19 33 rfl (fun _ => rfl), rg_e_bipush (cut := rg_cut [21, 64, 98]) (f := false) d_M_spell_79 rfl 81 rfl (nI 40) rg_kb_40, rg_e_iload_1 (cut := rg_cut [21, 64, 98]) (f := false) d_M_spell_81 rfl 82 rfl, rg_e_imul (cut := rg_cut [21, 64, 98]) (f := false) d_M_spell_82 rfl 83 rfl, rg_e_iload_5 (cut := rg_cut [21, 64, 98]) (f := false) d_M_spell_83 rfl 85 rfl, rg_e_iadd (cut := rg_cut [21, 64, 98]) (f := false) d_M_spell_85 rfl 86 rfl, rg_e_iald (cut := rg_cut [21, 64, 98]) (f := false) d_M_spell_86 rfl 87 rfl 33 2000 rfl, rg_e_istore_6 (cut := rg_cut [21, 64, 98]) (f := false) d_M_spell_87 rfl 89 rfl, rg_e_aload_0 (cut := rg_cut [21, 64, 98]) (f := false) d_M_spell_89 rfl 90 rfl, rg_e_getr (P := P_M_spell) (cut := rg_cut [21, 64, 98]) (f := false) d_M_spell_90 rfl 93 rfl 18 4 12 27 rfl (fun _ => rfl), rg_e_iload_6 (cut := rg_cut [21, 64, 98]) (f := false) d_M_spell_93 rfl 95 rfl, rg_e_iald (cut := rg_cut [21, 64, 98]) (f := false) d_M_spell_95 rfl 96 rfl 27 81 rfl, rg_e_istore_7 (cut := rg_cut [21, 64, 98]) (f := false) d_M_spell_96 rfl 98 rfl, rg_e_iconst (cut := rg_cut [21, 64, 98]) (f := false) d_M_spell_154 rfl 155 rfl (-1) rg_ki_m1, rg_e_iload_3 (cut := rg_cut [21, 64, 98]) (f := false) d_M_spell_155 rfl 156 rfl, rg_e_isub (cut := rg_cut [21, 64, 98]) (f := false) d_M_spell_156 rfl 157 rfl, rg_e_iret (cut := rg_cut [21, 64, 98]) (f := false) d_M_spell_157 rfl, rg_e_cut (cut := rg_cut [21, 64, 98]) 21 rfl, rg_e_cut (cut := rg_cut [21, 64, 98]) 64 rfl, rg_e_cut (cut := rg_cut [21, 64, 98]) 98 rfl, rg_nx_i, rg_nx_v, rg_wd_n, rg_wd_i, rg_wd_l, rg_wd_r, rg_clr_i, rg_clr_l, rg_clr_r, rg_clr_a, rg_clr_n, true_and, and_true, Nat.reduceAdd, Nat.reduceLeDiff, rg_rt_e, rg_fit_ie, rg_fit_ve, rg_fit_1e, rg_fit_0e, rg_fit_be, vk, ck, a2]
      refine ⟨fun _ => ?_, fun h => absurd (nI_le hj9 (by omega)) h⟩
      rw [List.take_length] at hno ⊢
      rw [← hspL] at hno ⊢
      exact hKf (by omega) hno
  have l1 : ∀ (c : Nat), (c ≤ ln first ∧ ∀ i', i' < c → i ≠ nI i') → ∀ a6 a7 : Value, Z 21 [.ref 18, .int (nI k'), .int i, .int (nI c), .int (nI first), .int (nI c), a6, a7] [] w 0 := by
    refine rg_lp1 _ _ (fun c => ln first - c) ?_
    intro c ⟨hc9, hno⟩ ih a6 a7
    rcases Nat.lt_or_ge c (ln first) with hlt | hge
    · have x1 : nI 12 * nI first + nI c = nI (12 * first + c) := by rw [pk_mul, nI_add]
      have v1 : vp_in (nI (12 * first + c)) 108 := vp_in_nI (by omega) (by omega)
      have c1 : (nI (12 * first + c)).toNatClampNeg = 12 * first + c := nI_clamp (by omega)
      have e5 := q5 c hlt
      refine hZ (rg_cut [21, 64, 98]) 400 21 _ _ _ ?_; simp only [rg_e_iload_5 (cut := rg_cut [21, 64, 98]) (f := true) d_M_spell_21 rfl 23 rfl, rg_e_aload_0 (cut := rg_cut [21, 64, 98]) (f := false) d_M_spell_23 rfl 24 rfl, rg_e_getr (P := P_M_spell) (cut := rg_cut [21, 64, 98]) (f := false) d_M_spell_24 rfl 27 rfl 18 4 2 19 rfl (fun _ => rfl), rg_e_iload_4 (cut := rg_cut [21, 64, 98]) (f := false) d_M_spell_27 rfl 29 rfl, rg_e_iald (cut := rg_cut [21, 64, 98]) (f := false) d_M_spell_29 rfl 30 rfl 19 9 rfl, rg_e_icmp_ge (cut := rg_cut [21, 64, 98]) (f := false) d_M_spell_30 rfl 33 rfl 61 rfl, rg_e_iload_3 (cut := rg_cut [21, 64, 98]) (f := false) d_M_spell_33 rfl 34 rfl, rg_e_iload_2 (cut := rg_cut [21, 64, 98]) (f := false) d_M_spell_34 rfl 35 rfl, rg_e_icmp_ne (cut := rg_cut [21, 64, 98]) (f := false) d_M_spell_35 rfl 38 rfl 52 rfl, rg_e_aload_0 (cut := rg_cut [21, 64, 98]) (f := false) d_M_spell_38 rfl 39 rfl, rg_e_getr (P := P_M_spell) (cut := rg_cut [21, 64, 98]) (f := false) d_M_spell_39 rfl 42 rfl 18 4 3 20 rfl (fun _ => rfl), rg_e_bipush (cut := rg_cut [21, 64, 98]) (f := false) d_M_spell_42 rfl 44 rfl (nI 12) rg_kb_12, rg_e_iload_4 (cut := rg_cut [21, 64, 98]) (f := false) d_M_spell_44 rfl 46 rfl, rg_e_imul (cut := rg_cut [21, 64, 98]) (f := false) d_M_spell_46 rfl 47 rfl, rg_e_iload_5 (cut := rg_cut [21, 64, 98]) (f := false) d_M_spell_47 rfl 49 rfl, rg_e_iadd (cut := rg_cut [21, 64, 98]) (f := false) d_M_spell_49 rfl 50 rfl, rg_e_iald (cut := rg_cut [21, 64, 98]) (f := false) d_M_spell_50 rfl 51 rfl 20 108 rfl, rg_e_iret (cut := rg_cut [21, 64, 98]) (f := false) d_M_spell_51 rfl, rg_e_iinc_3 (cut := rg_cut [21, 64, 98]) (f := false) d_M_spell_52 rfl 55 rfl (nI 1) rg_ki_1, rg_e_iinc_5 (cut := rg_cut [21, 64, 98]) (f := false) d_M_spell_55 rfl 58 rfl (nI 1) rg_ki_1, rg_e_goto (cut := rg_cut [21, 64, 98]) (f := false) d_M_spell_58 rfl 21 rfl, rg_e_iconst (cut := rg_cut [21, 64, 98]) (f := false) d_M_spell_61 rfl 62 rfl (nI 0) rg_ki_0, rg_e_istore_5 (cut := rg_cut [21, 64, 98]) (f := false) d_M_spell_62 rfl 64 rfl, rg_e_cut (cut := rg_cut [21, 64, 98]) 21 rfl, rg_e_cut (cut := rg_cut [21, 64, 98]) 64 rfl, rg_e_cut (cut := rg_cut [21, 64, 98]) 98 rfl, rg_nx_i, rg_nx_v, rg_wd_n, rg_wd_i, rg_wd_l, rg_wd_r, rg_clr_i, rg_clr_l, rg_clr_r, rg_clr_a, rg_clr_n, true_and, and_true, Nat.reduceAdd, Nat.reduceLeDiff, rg_rt_e, rg_fit_ie, rg_fit_ve, rg_fit_1e, rg_fit_0e, rg_fit_be, vf, cf, q4, x1, v1, c1, e5, nI_add]
      refine ⟨fun h => absurd h (nI_ge hlt (by omega)), fun _ => ⟨fun h => ?_, fun h => ?_⟩⟩
      · refine ih (c + 1) ⟨by omega, fun i' hi' => ?_⟩ (by omega) a6 a7
        by_cases e : i' = c
        · subst e; exact fun z => h z.symm
        · exact hno i' (by omega)
      · have h := (Classical.not_not.mp h).symm
        have := hKt c (by omega) h
        unfold spN at this
        rw [hF, if_pos hlt] at this
        exact this
    · obtain rfl : c = ln first := by omega
      refine hZ (rg_cut [21, 64, 98]) 400 21 _ _ _ ?_; simp only [rg_e_iload_5 (cut := rg_cut [21, 64, 98]) (f := true) d_M_spell_21 rfl 23 rfl, rg_e_aload_0 (cut := rg_cut [21, 64, 98]) (f := false) d_M_spell_23 rfl 24 rfl, rg_e_getr (P := P_M_spell) (cut := rg_cut [21, 64, 98]) (f := false) d_M_spell_24 rfl 27 rfl 18 4 2 19 rfl (fun _ => rfl), rg_e_iload_4 (cut := rg_cut [21, 64, 98]) (f := false) d_M_spell_27 rfl 29 rfl, rg_e_iald (cut := rg_cut [21, 64, 98]) (f := false) d_M_spell_29 rfl 30 rfl 19 9 rfl, rg_e_icmp_ge (cut := rg_cut [21, 64, 98]) (f := false) d_M_spell_30 rfl 33 rfl 61 rfl, rg_e_iload_3 (cut := rg_cut [21, 64, 98]) (f := false) d_M_spell_33 rfl 34 rfl, rg_e_iload_2 (cut := rg_cut [21, 64, 98]) (f := false) d_M_spell_34 rfl 35 rfl, rg_e_icmp_ne (cut := rg_cut [21, 64, 98]) (f := false) d_M_spell_35 rfl 38 rfl 52 rfl, rg_e_aload_0 (cut := rg_cut [21, 64, 98]) (f := false) d_M_spell_38 rfl 39 rfl, rg_e_getr (P := P_M_spell) (cut := rg_cut [21, 64, 98]) (f := false) d_M_spell_39 rfl 42 rfl 18 4 3 20 rfl (fun _ => rfl), rg_e_bipush (cut := rg_cut [21, 64, 98]) (f := false) d_M_spell_42 rfl 44 rfl (nI 12) rg_kb_12, rg_e_iload_4 (cut := rg_cut [21, 64, 98]) (f := false) d_M_spell_44 rfl 46 rfl, rg_e_imul (cut := rg_cut [21, 64, 98]) (f := false) d_M_spell_46 rfl 47 rfl, rg_e_iload_5 (cut := rg_cut [21, 64, 98]) (f := false) d_M_spell_47 rfl 49 rfl, rg_e_iadd (cut := rg_cut [21, 64, 98]) (f := false) d_M_spell_49 rfl 50 rfl, rg_e_iald (cut := rg_cut [21, 64, 98]) (f := false) d_M_spell_50 rfl 51 rfl 20 108 rfl, rg_e_iret (cut := rg_cut [21, 64, 98]) (f := false) d_M_spell_51 rfl, rg_e_iinc_3 (cut := rg_cut [21, 64, 98]) (f := false) d_M_spell_52 rfl 55 rfl (nI 1) rg_ki_1, rg_e_iinc_5 (cut := rg_cut [21, 64, 98]) (f := false) d_M_spell_55 rfl 58 rfl (nI 1) rg_ki_1, rg_e_goto (cut := rg_cut [21, 64, 98]) (f := false) d_M_spell_58 rfl 21 rfl, rg_e_iconst (cut := rg_cut [21, 64, 98]) (f := false) d_M_spell_61 rfl 62 rfl (nI 0) rg_ki_0, rg_e_istore_5 (cut := rg_cut [21, 64, 98]) (f := false) d_M_spell_62 rfl 64 rfl, rg_e_cut (cut := rg_cut [21, 64, 98]) 21 rfl, rg_e_cut (cut := rg_cut [21, 64, 98]) 64 rfl, rg_e_cut (cut := rg_cut [21, 64, 98]) 98 rfl, rg_nx_i, rg_nx_v, rg_wd_n, rg_wd_i, rg_wd_l, rg_wd_r, rg_clr_i, rg_clr_l, rg_clr_r, rg_clr_a, rg_clr_n, true_and, and_true, Nat.reduceAdd, Nat.reduceLeDiff, rg_rt_e, rg_fit_ie, rg_fit_ve, rg_fit_1e, rg_fit_0e, rg_fit_be, vf, cf, q4]
      exact ⟨fun _ => l2 0 _ _ ⟨by omega, hno⟩, fun h => absurd (nI_le hge (by omega)) h⟩
  have x1 : nI 40 * nI k' = nI (40 * k') := by rw [pk_mul]
  have v1 : vp_in (nI (40 * k')) 2000 := vp_in_nI (by omega) (by omega)
  have c1 : (nI (40 * k')).toNatClampNeg = 40 * k' := nI_clamp (by omega)
  have e1 : w.1 33 (40 * k') = nI (t.getD 0 0) := a3 0 b1
  have v2 : vp_in (nI (t.getD 0 0)) 81 := vp_in_nI (by omega) (by omega)
  have c2 : (nI (t.getD 0 0)).toNatClampNeg = t.getD 0 0 := nI_clamp (by omega)
  have e2 := (hE1.2 _ t0).1
  rw [hF] at e2
  refine hZ (rg_cut [21, 64, 98]) 400 0 _ _ _ ?_; simp only [rg_e_iconst (cut := rg_cut [21, 64, 98]) (f := true) d_M_spell_0 rfl 1 rfl (nI 0) rg_ki_0, rg_e_istore_3 (cut := rg_cut [21, 64, 98]) (f := false) d_M_spell_1 rfl 2 rfl, rg_e_aload_0 (cut := rg_cut [21, 64, 98]) (f := false) d_M_spell_2 rfl 3 rfl, rg_e_getr (P := P_M_spell) (cut := rg_cut [21, 64, 98]) (f := false) d_M_spell_3 rfl 6 rfl 18 4 10 25 rfl (fun _ => rfl), rg_e_aload_0 (cut := rg_cut [21, 64, 98]) (f := false) d_M_spell_6 rfl 7 rfl, rg_e_getr (P := P_M_spell) (cut := rg_cut [21, 64, 98]) (f := false) d_M_spell_7 rfl 10 rfl 18 4 19 33 rfl (fun _ => rfl), rg_e_bipush (cut := rg_cut [21, 64, 98]) (f := false) d_M_spell_10 rfl 12 rfl (nI 40) rg_kb_40, rg_e_iload_1 (cut := rg_cut [21, 64, 98]) (f := false) d_M_spell_12 rfl 13 rfl, rg_e_imul (cut := rg_cut [21, 64, 98]) (f := false) d_M_spell_13 rfl 14 rfl, rg_e_iald (cut := rg_cut [21, 64, 98]) (f := false) d_M_spell_14 rfl 15 rfl 33 2000 rfl, rg_e_iald (cut := rg_cut [21, 64, 98]) (f := false) d_M_spell_15 rfl 16 rfl 25 81 rfl, rg_e_istore_4 (cut := rg_cut [21, 64, 98]) (f := false) d_M_spell_16 rfl 18 rfl, rg_e_iconst (cut := rg_cut [21, 64, 98]) (f := false) d_M_spell_18 rfl 19 rfl (nI 0) rg_ki_0, rg_e_istore_5 (cut := rg_cut [21, 64, 98]) (f := false) d_M_spell_19 rfl 21 rfl, rg_e_cut (cut := rg_cut [21, 64, 98]) 21 rfl, rg_e_cut (cut := rg_cut [21, 64, 98]) 64 rfl, rg_e_cut (cut := rg_cut [21, 64, 98]) 98 rfl, rg_nx_i, rg_nx_v, rg_wd_n, rg_wd_i, rg_wd_l, rg_wd_r, rg_clr_i, rg_clr_l, rg_clr_r, rg_clr_a, rg_clr_n, true_and, and_true, Nat.reduceAdd, Nat.reduceLeDiff, rg_rt_e, rg_fit_ie, rg_fit_ve, rg_fit_1e, rg_fit_0e, rg_fit_be, x1, v1, c1, e1, v2, c2, e2]
  exact l1 0 ⟨by omega, fun i' hi' => absurd hi' (by omega)⟩ _ _
theorem spL_le {nr : Nat} {ln pk : Nat → Nat} {hg : Nat → Nat → Nat} {A : List (List Nat)} {w : rg_W} {k' : Nat} (hR : RdM nr ln pk w) (hH : HgL nr ln hg) (hA : AcM A w) (hA1 : AcOk hg A) (hk : k' < A.length) : spL ln hg (A.getD k' []) ≤ 492 := by
  obtain ⟨a1, -, -⟩ := hA.2.2 k' hk
  obtain ⟨b1, b2⟩ := hA1 _ (gDA_mem hk)
  generalize A.getD k' [] = t at *
  have t0 : t.getD 0 0 < eN hg := b2 _ (gD_mem b1)
  obtain ⟨s0, -, -⟩ := hH.e t0
  have q2 := (hR.1.2 _ s0).2.1
  have hle : ∀ e ∈ t, hE hg e ≤ 12 := fun e he => by
    obtain ⟨x1, x2, x3⟩ := hH.e (b2 e he)
    have := (hR.1.2 _ x2).2.1
    unfold hE
    omega
  have := sH_le t hle
  unfold spL
  omega
theorem m1_sub {L : Nat} (hL : L ≤ 492) : ((0 : Int32) ≤ -1 - nI L) = False ∧ (-1 : Int32) - (-1 - nI L) = nI L := by
  have key : ∀ L, L < 493 → ¬ ((0 : Int32) ≤ -1 - nI L) ∧ (-1 : Int32) - (-1 - nI L) = nI L := by decide +kernel
  exact ⟨eq_false (key L (by omega)).1, (key L (by omega)).2⟩
-- M.spelled
def P_M_spelled : rg_P := (rg_F_M, [(146, 2, 0, T_M_out), (267, 3, 0, T_M_spell), (161, 3, 0, T_M_throwing)], [], [], [], [], 0)
def T_M_spelled : rg_T := fun as w K => match as with
  | [.ref 18, .int k, .int i] => ∃ nr ln pk hg A, RdM nr ln pk w ∧ EgM ln hg w ∧ HgL nr ln hg ∧ AcM A w ∧ AcOk hg A ∧ ((decide (k < 0) || !decide (k < nI A.length)) = true → K (some (.int (nI 0))) (rg_up w 18 0 (nI 1))) ∧ ∀ k', k' < A.length → k = nI k' → ixC i (spL ln hg (A.getD k' [])) (K (some (.int (nI 0))) (rg_up w 18 0 (nI 2))) (K (some (.int (nI (spL ln hg (A.getD k' []))))) (rg_up w 18 0 (nI 0))) (fun q => K (some (.int (nI (spN ln pk hg (A.getD k' []) q)))) (rg_up w 18 0 (nI 0)))
  | _ => False
theorem Te_M_spelled (k : Int32) (i : Int32) (w : rg_W) (K : Option Value → rg_W → Prop) : T_M_spelled [.ref 18, .int k, .int i] w K = (∃ nr ln pk hg A, RdM nr ln pk w ∧ EgM ln hg w ∧ HgL nr ln hg ∧ AcM A w ∧ AcOk hg A ∧ ((decide (k < 0) || !decide (k < nI A.length)) = true → K (some (.int (nI 0))) (rg_up w 18 0 (nI 1))) ∧ ∀ k', k' < A.length → k = nI k' → ixC i (spL ln hg (A.getD k' [])) (K (some (.int (nI 0))) (rg_up w 18 0 (nI 2))) (K (some (.int (nI (spL ln hg (A.getD k' []))))) (rg_up w 18 0 (nI 0))) (fun q => K (some (.int (nI (spN ln pk hg (A.getD k' []) q)))) (rg_up w 18 0 (nI 0)))) := rfl
theorem r_M_spelled : ∀ as w K, T_M_spelled as w K → ∃ r, as = .ref 18 :: r := by
  intro as w K h
  unfold T_M_spelled at h
  split at h
  · exact ⟨_, rfl⟩
  · exact h.elim
theorem G_M_spelled (l : Launch) : rg_Good l y_M_spelled c_M_spelled 5 (some .int) 1 T_M_spelled := by
  refine rg_good_of (P := P_M_spelled) (by decide) (rg_pok rg_F_M_ok (rg_cons (cw_M_73 (G_M_out l) (by decide)) (rg_cons (cw_M_133 (G_M_spell l) (by decide) r_M_spell) (rg_cons (cw_M_80 (G_M_throwing l) (by decide) r_M_throwing) rg_nil)))) ?_
  intro as w K Z hT hZ
  unfold T_M_spelled at hT
  split at hT
  rotate_left
  · exact hT.elim
  rename_i k i
  refine ⟨Nat.le_of_ble_eq_true rfl, ?_⟩
  show Z 0 [.ref 18, .int k, .int i, .null, .null] [] w 0
  obtain ⟨nr, ln, pk, hg, A, hR, hE1, hH, hA, hA1, hK1, hK2⟩ := hT
  have hr := hA.1
  have h50 := hA.2.1
  have z1 : (zI true = 0) = False := by decide +kernel
  have z0 : (zI false = 0) = True := by decide +kernel
  have n0 : (nI 0 = 0) = True := by decide +kernel
  have n1 : (nI 1 = 0) = False := by decide +kernel
  have i0 : ((0 : Int32) ≤ nI 0) = True := by decide +kernel
  rcases in_or k (n := A.length) (by omega) with ⟨h, -⟩ | ⟨k', hk, rfl⟩
  · have hK1 := hK1 h
    refine hZ (rg_cut []) 400 0 _ _ _ ?_; simp only [rg_e_iload_1 (cut := rg_cut []) (f := true) d_M_spelled_0 rfl 1 rfl, rg_e_aload_0 (cut := rg_cut []) (f := false) d_M_spelled_1 rfl 2 rfl, rg_e_geti (P := P_M_spelled) (cut := rg_cut []) (f := false) d_M_spelled_2 rfl 5 rfl 18 4 17 rfl (fun _ => rfl), rg_e_cs2 (P := P_M_spelled) (cut := rg_cut []) (f := false) d_M_spelled_5 rfl T_M_out rfl, rg_e_istore_3 (cut := rg_cut []) (f := false) d_M_spelled_8 rfl 9 rfl, rg_e_iload_3 (cut := rg_cut []) (f := false) d_M_spelled_9 rfl 10 rfl, rg_e_if_eq (cut := rg_cut []) (f := false) d_M_spelled_10 rfl 13 rfl 17 rfl, rg_e_iconst (cut := rg_cut []) (f := false) d_M_spelled_13 rfl 14 rfl (nI 0) rg_ki_0, rg_e_goto (cut := rg_cut []) (f := false) d_M_spelled_14 rfl 23 rfl, rg_e_aload_0 (cut := rg_cut []) (f := false) d_M_spelled_17 rfl 18 rfl, rg_e_iload_1 (cut := rg_cut []) (f := false) d_M_spelled_18 rfl 19 rfl, rg_e_iload_2 (cut := rg_cut []) (f := false) d_M_spelled_19 rfl 20 rfl, rg_e_cv3 (P := P_M_spelled) (cut := rg_cut []) (f := false) d_M_spelled_20 rfl T_M_spell rfl, rg_e_istore_4 (cut := rg_cut []) (f := false) d_M_spelled_23 rfl 25 rfl, rg_e_aload_0 (cut := rg_cut []) (f := false) d_M_spelled_25 rfl 26 rfl, rg_e_iload_3 (cut := rg_cut []) (f := false) d_M_spelled_26 rfl 27 rfl, rg_e_iload_2 (cut := rg_cut []) (f := false) d_M_spelled_27 rfl 28 rfl, rg_e_iconst (cut := rg_cut []) (f := false) d_M_spelled_28 rfl 29 rfl (-1) rg_ki_m1, rg_e_icmp_lt (cut := rg_cut []) (f := false) d_M_spelled_29 rfl 32 rfl 41 rfl, rg_e_iload_2 (cut := rg_cut []) (f := false) d_M_spelled_32 rfl 33 rfl, rg_e_if_lt (cut := rg_cut []) (f := false) d_M_spelled_33 rfl 36 rfl 45 rfl, rg_e_iload_4 (cut := rg_cut []) (f := false) d_M_spelled_36 rfl 38 rfl, rg_e_if_ge (cut := rg_cut []) (f := false) d_M_spelled_38 rfl 41 rfl 45 rfl, rg_e_iconst (cut := rg_cut []) (f := false) d_M_spelled_41 rfl 42 rfl (nI 1) rg_ki_1, rg_e_goto (cut := rg_cut []) (f := false) d_M_spelled_42 rfl 46 rfl, rg_e_iconst (cut := rg_cut []) (f := false) d_M_spelled_45 rfl 46 rfl (nI 0) rg_ki_0, rg_e_cv3 (P := P_M_spelled) (cut := rg_cut []) (f := false) d_M_spelled_46 rfl T_M_throwing rfl, rg_e_if_eq (cut := rg_cut []) (f := false) d_M_spelled_49 rfl 52 rfl 54 rfl, rg_e_iconst (cut := rg_cut []) (f := false) d_M_spelled_52 rfl 53 rfl (nI 0) rg_ki_0, rg_e_iret (cut := rg_cut []) (f := false) d_M_spelled_53 rfl, rg_e_iload_2 (cut := rg_cut []) (f := false) d_M_spelled_54 rfl 55 rfl, rg_e_if_ge (cut := rg_cut []) (f := false) d_M_spelled_55 rfl 58 rfl 65 rfl, rg_e_iconst (cut := rg_cut []) (f := false) d_M_spelled_58 rfl 59 rfl (-1) rg_ki_m1, rg_e_iload_4 (cut := rg_cut []) (f := false) d_M_spelled_59 rfl 61 rfl, rg_e_isub (cut := rg_cut []) (f := false) d_M_spelled_61 rfl 62 rfl, rg_e_goto (cut := rg_cut []) (f := false) d_M_spelled_62 rfl 67 rfl, rg_e_iload_4 (cut := rg_cut []) (f := false) d_M_spelled_65 rfl 67 rfl, rg_e_iret (cut := rg_cut []) (f := false) d_M_spelled_67 rfl, rg_nx_i, rg_nx_v, rg_wd_n, rg_wd_i, rg_wd_l, rg_wd_r, rg_clr_i, rg_clr_l, rg_clr_r, rg_clr_a, rg_clr_n, true_and, and_true, Nat.reduceAdd, Nat.reduceLeDiff, ↓Te_M_out, ↓Te_M_spell, ↓Te_M_throwing, rg_rt_e, rg_fit_ie, rg_fit_ve, rg_fit_1e, rg_fit_0e, rg_fit_be, hr, h, z1, z0, n0, n1, i0, decide_true, decide_false, Bool.not_true, Bool.not_false, Bool.true_or, Bool.or_true, Bool.or_false, not_false_eq_true, forall_const, false_imp_iff, not_true_eq_false, if_false, if_true, reduceIte, and_true, true_and]
    exact ⟨fun _ => hK1, fun _ => ⟨fun _ => hK1, fun _ => hK1⟩⟩
  · have h := in_f hk (show A.length < 2 ^ 31 by omega)
    obtain ⟨h1, h2, h3⟩ := hK2 k' hk rfl
    refine hZ (rg_cut []) 400 0 _ _ _ ?_; simp only [rg_e_iload_1 (cut := rg_cut []) (f := true) d_M_spelled_0 rfl 1 rfl, rg_e_aload_0 (cut := rg_cut []) (f := false) d_M_spelled_1 rfl 2 rfl, rg_e_geti (P := P_M_spelled) (cut := rg_cut []) (f := false) d_M_spelled_2 rfl 5 rfl 18 4 17 rfl (fun _ => rfl), rg_e_cs2 (P := P_M_spelled) (cut := rg_cut []) (f := false) d_M_spelled_5 rfl T_M_out rfl, rg_e_istore_3 (cut := rg_cut []) (f := false) d_M_spelled_8 rfl 9 rfl, rg_e_iload_3 (cut := rg_cut []) (f := false) d_M_spelled_9 rfl 10 rfl, rg_e_if_eq (cut := rg_cut []) (f := false) d_M_spelled_10 rfl 13 rfl 17 rfl, rg_e_iconst (cut := rg_cut []) (f := false) d_M_spelled_13 rfl 14 rfl (nI 0) rg_ki_0, rg_e_goto (cut := rg_cut []) (f := false) d_M_spelled_14 rfl 23 rfl, rg_e_aload_0 (cut := rg_cut []) (f := false) d_M_spelled_17 rfl 18 rfl, rg_e_iload_1 (cut := rg_cut []) (f := false) d_M_spelled_18 rfl 19 rfl, rg_e_iload_2 (cut := rg_cut []) (f := false) d_M_spelled_19 rfl 20 rfl, rg_e_cv3 (P := P_M_spelled) (cut := rg_cut []) (f := false) d_M_spelled_20 rfl T_M_spell rfl, rg_e_istore_4 (cut := rg_cut []) (f := false) d_M_spelled_23 rfl 25 rfl, rg_e_aload_0 (cut := rg_cut []) (f := false) d_M_spelled_25 rfl 26 rfl, rg_e_iload_3 (cut := rg_cut []) (f := false) d_M_spelled_26 rfl 27 rfl, rg_e_iload_2 (cut := rg_cut []) (f := false) d_M_spelled_27 rfl 28 rfl, rg_e_iconst (cut := rg_cut []) (f := false) d_M_spelled_28 rfl 29 rfl (-1) rg_ki_m1, rg_e_icmp_lt (cut := rg_cut []) (f := false) d_M_spelled_29 rfl 32 rfl 41 rfl, rg_e_iload_2 (cut := rg_cut []) (f := false) d_M_spelled_32 rfl 33 rfl, rg_e_if_lt (cut := rg_cut []) (f := false) d_M_spelled_33 rfl 36 rfl 45 rfl, rg_e_iload_4 (cut := rg_cut []) (f := false) d_M_spelled_36 rfl 38 rfl, rg_e_if_ge (cut := rg_cut []) (f := false) d_M_spelled_38 rfl 41 rfl 45 rfl, rg_e_iconst (cut := rg_cut []) (f := false) d_M_spelled_41 rfl 42 rfl (nI 1) rg_ki_1, rg_e_goto (cut := rg_cut []) (f := false) d_M_spelled_42 rfl 46 rfl, rg_e_iconst (cut := rg_cut []) (f := false) d_M_spelled_45 rfl 46 rfl (nI 0) rg_ki_0, rg_e_cv3 (P := P_M_spelled) (cut := rg_cut []) (f := false) d_M_spelled_46 rfl T_M_throwing rfl, rg_e_if_eq (cut := rg_cut []) (f := false) d_M_spelled_49 rfl 52 rfl 54 rfl, rg_e_iconst (cut := rg_cut []) (f := false) d_M_spelled_52 rfl 53 rfl (nI 0) rg_ki_0, rg_e_iret (cut := rg_cut []) (f := false) d_M_spelled_53 rfl, rg_e_iload_2 (cut := rg_cut []) (f := false) d_M_spelled_54 rfl 55 rfl, rg_e_if_ge (cut := rg_cut []) (f := false) d_M_spelled_55 rfl 58 rfl 65 rfl, rg_e_iconst (cut := rg_cut []) (f := false) d_M_spelled_58 rfl 59 rfl (-1) rg_ki_m1, rg_e_iload_4 (cut := rg_cut []) (f := false) d_M_spelled_59 rfl 61 rfl, rg_e_isub (cut := rg_cut []) (f := false) d_M_spelled_61 rfl 62 rfl, rg_e_goto (cut := rg_cut []) (f := false) d_M_spelled_62 rfl 67 rfl, rg_e_iload_4 (cut := rg_cut []) (f := false) d_M_spelled_65 rfl 67 rfl, rg_e_iret (cut := rg_cut []) (f := false) d_M_spelled_67 rfl, rg_nx_i, rg_nx_v, rg_wd_n, rg_wd_i, rg_wd_l, rg_wd_r, rg_clr_i, rg_clr_l, rg_clr_r, rg_clr_a, rg_clr_n, true_and, and_true, Nat.reduceAdd, Nat.reduceLeDiff, ↓Te_M_out, ↓Te_M_spell, ↓Te_M_throwing, rg_rt_e, rg_fit_ie, rg_fit_ve, rg_fit_1e, rg_fit_0e, rg_fit_be, hr, h, z1, z0, n0, n1, decide_true, decide_false, Bool.not_true, Bool.not_false, Bool.true_or, Bool.or_true, Bool.or_false, not_false_eq_true, forall_const, false_imp_iff, not_true_eq_false, if_false, if_true, reduceIte, and_true, true_and]
    refine ⟨nr, ln, pk, hg, A, k', hR, hE1, hH, hA, hA1, rfl, hk, fun q hq e => ?_, fun hL hno => ?_⟩
    · have g1 := nI_ltm (q := q)
      subst e
      have hq31 : q < 2 ^ 31 := by
        have := nI_pos (n := q)
        rcases Nat.lt_or_ge q 493 with z | z
        · omega
        · exact absurd hq (Nat.not_lt.mpr (Nat.le_trans (spL_le hR hH hA hA1 hk) (by omega)))
      have g1 := g1 hq31
      have g2 : (nI q < 0) = False := eq_false (nI_pos hq31)
      have g3 : ((0 : Int32) ≤ nI q) = True := eq_true (Int32.not_lt.mp (nI_pos hq31))
      have g4 : ((0 : Int32) ≤ nI (spN ln pk hg (A.getD k' []) q)) = True := eq_true (Int32.not_lt.mp (nI_pos (by have := spN_lt ln pk hg (A.getD k' []) q; omega)))
      have := h3 q hq rfl
      rw [g1, g2, g3, g4]
      exact ⟨fun z => z.elim, fun _ => ⟨fun z => z.elim, fun _ => ⟨fun _ => ⟨fun _ => this, fun z => absurd trivial z⟩, fun z => absurd trivial z⟩⟩⟩
    · obtain ⟨m1, m2⟩ := m1_sub hL
      rw [m1, m2]
      rcases ix_or i (n := spL ln hg (A.getD k' [])) (by omega) with g | ⟨g1, g2, g3, g4⟩ | rfl | ⟨q, hq, e⟩
      · exact ⟨fun z => h1 (Or.inl z), fun z => absurd (of_eq_true g) z⟩
      · have := h1 (Or.inr ⟨g1, g2, g3, g4⟩)
        rw [g1, g3]
        exact ⟨fun z => z.elim, fun _ => ⟨fun z => z.elim, fun _ => ⟨fun z => z.elim, fun _ => this⟩⟩⟩
      · have g4 : ((0 : Int32) ≤ -1) = False := by decide +kernel
        rw [ix_m.2.1, ix_m.2.2, g4]
        exact ⟨fun z => z.elim, fun _ => ⟨fun _ => ⟨fun z => z.elim, fun _ => h2 rfl⟩, fun z => absurd trivial z⟩⟩
      · exact absurd e (hno q hq)
