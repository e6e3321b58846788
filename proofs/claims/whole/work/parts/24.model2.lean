/-! the reference: reads -/
def RdM (nr : Nat) (ln pk : Nat → Nat) (w : rg_W) : Prop := Lm nr ln pk w ∧ w.1 18 1 = nI nr ∧ ∀ i, i < nr → w.1 21 i = zI (!ndN nr ln pk i)
theorem RdM.fr {nr : Nat} {ln pk : Nat → Nat} {w w' : rg_W} (h : RdM nr ln pk w) (h1 : w'.1 19 = w.1 19) (h2 : w'.1 20 = w.1 20) (h3 : w'.1 21 = w.1 21) (h4 : w'.1 18 1 = w.1 18 1) : RdM nr ln pk w' :=
  ⟨h.1.fr h1 h2, by rw [h4]; exact h.2.1, by rw [h3]; exact h.2.2⟩
theorem not_lt_le {x y : Int32} : (!decide (x < y)) = decide (y ≤ x) := by
  by_cases h : x < y
  · rw [decide_eq_true h, decide_eq_false (Int32.not_le.mpr h)]; rfl
  · rw [decide_eq_false h, decide_eq_true (Int32.not_lt.mp h)]; rfl
/-- a number below n is a place -/
theorem in_or (x : Int32) {n : Nat} (hn : n < 2 ^ 31) : ((decide (x < 0) || !decide (x < nI n)) = true ∧ ∀ j, j < n → x ≠ nI j) ∨ ∃ j, j < n ∧ x = nI j := by
  rcases pk_ix x hn with h | h | ⟨j, hj, rfl⟩
  · left
    refine ⟨by rw [decide_eq_true h]; rfl, fun j hj e => ?_⟩
    subst e
    exact nI_pos (by omega) h
  · left
    refine ⟨by rw [not_lt_le, decide_eq_true h, Bool.or_true], fun j hj e => ?_⟩
    subst e
    exact nI_ge hj hn h
  · exact Or.inr ⟨j, hj, rfl⟩
theorem in_f {j n : Nat} (hj : j < n) (hn : n < 2 ^ 31) : (decide (nI j < 0) || !decide (nI j < nI n)) = false := by
  rw [decide_eq_false (nI_pos (by omega)), decide_eq_true (nI_lt hj hn)]
  rfl
theorem ndB_out {nr : Nat} {ln pk : Nat → Nat} {x : Int32} (h : (decide (x < 0) || !decide (x < nI nr)) = true) : ndB nr ln pk x = false := by
  unfold ndB
  rw [not_lt_le] at h
  cases h1 : decide (x < 0) with
  | true => rfl
  | false =>
    rw [h1, Bool.false_or] at h
    rw [h]
    rfl
-- M.isNode
def P_M_isNode : rg_P := (rg_F_M, [(146, 2, 0, T_M_out)], [], [], [], [], 0)
def T_M_isNode : rg_T := fun as w K => match as with
  | [.ref 18, .int x] => ∃ nr ln pk, RdM nr ln pk w ∧ K (some (.int (zI (ndB nr ln pk x)))) w
  | _ => False
theorem Te_M_isNode (x : Int32) (w : rg_W) (K : Option Value → rg_W → Prop) : T_M_isNode [.ref 18, .int x] w K = (∃ nr ln pk, RdM nr ln pk w ∧ K (some (.int (zI (ndB nr ln pk x)))) w) := rfl
theorem r_M_isNode : ∀ as w K, T_M_isNode as w K → ∃ r, as = .ref 18 :: r := by
  intro as w K h
  unfold T_M_isNode at h
  split at h
  · exact ⟨_, rfl⟩
  · exact h.elim
theorem G_M_isNode (l : Launch) : rg_Good l y_M_isNode c_M_isNode 2 (some .boolean) 1 T_M_isNode := by
  refine rg_good_of (P := P_M_isNode) (by decide) (rg_pok rg_F_M_ok (rg_cons (cw_M_73 (G_M_out l) (by decide)) rg_nil)) ?_
  intro as w K Z hT hZ
  unfold T_M_isNode at hT
  split at hT
  rotate_left
  · exact hT.elim
  rename_i x
  refine ⟨Nat.le_of_ble_eq_true rfl, ?_⟩
  show Z 0 [.ref 18, .int x] [] w 0
  obtain ⟨nr, ln, pk, hR, hK⟩ := hT
  obtain ⟨hL, hr, hc⟩ := id hR
  have hn9 := hL.1
  rcases in_or x (n := nr) (by omega) with ⟨h, -⟩ | ⟨j, hj, rfl⟩
  · have z1 : (zI true = 0) = False := by decide +kernel
    refine hZ (rg_cut []) 400 0 _ _ _ ?_; simp only [rg_e_iload_1 (cut := rg_cut []) (f := true) d_M_isNode_0 rfl 1 rfl, rg_e_aload_0 (cut := rg_cut []) (f := false) d_M_isNode_1 rfl 2 rfl, rg_e_geti (P := P_M_isNode) (cut := rg_cut []) (f := false) d_M_isNode_2 rfl 5 rfl 18 4 1 rfl (fun _ => rfl), rg_e_cs2 (P := P_M_isNode) (cut := rg_cut []) (f := false) d_M_isNode_5 rfl T_M_out rfl, rg_e_if_ne (cut := rg_cut []) (f := false) d_M_isNode_8 rfl 11 rfl 24 rfl, rg_e_aload_0 (cut := rg_cut []) (f := false) d_M_isNode_11 rfl 12 rfl, rg_e_getr (P := P_M_isNode) (cut := rg_cut []) (f := false) d_M_isNode_12 rfl 15 rfl 18 4 4 21 rfl (fun _ => rfl), rg_e_iload_1 (cut := rg_cut []) (f := false) d_M_isNode_15 rfl 16 rfl, rg_e_zald (cut := rg_cut []) (f := false) d_M_isNode_16 rfl 17 rfl 21 9 rfl, rg_e_if_ne (cut := rg_cut []) (f := false) d_M_isNode_17 rfl 20 rfl 24 rfl, rg_e_iconst (cut := rg_cut []) (f := false) d_M_isNode_20 rfl 21 rfl (nI 1) rg_ki_1, rg_e_goto (cut := rg_cut []) (f := false) d_M_isNode_21 rfl 25 rfl, rg_e_iconst (cut := rg_cut []) (f := false) d_M_isNode_24 rfl 25 rfl (nI 0) rg_ki_0, rg_e_iret (cut := rg_cut []) (f := false) d_M_isNode_25 rfl, rg_nx_i, rg_nx_v, rg_wd_n, rg_wd_i, rg_wd_l, rg_wd_r, rg_clr_i, rg_clr_l, rg_clr_r, rg_clr_a, rg_clr_n, true_and, and_true, Nat.reduceAdd, Nat.reduceLeDiff, ↓Te_M_out, rg_rt_e, rg_fit_ie, rg_fit_ve, rg_fit_1e, rg_fit_0e, rg_fit_be, hr, h, z1, not_false_eq_true, forall_const, false_imp_iff, not_true_eq_false]
    rw [ndB_out h] at hK
    exact hK
  · have h := in_f hj (by omega)
    have z0 : (zI false = 0) = True := by decide +kernel
    have vj : vp_in (nI j) 9 := vp_in_nI (by omega) (by omega)
    have cj : (nI j).toNatClampNeg = j := nI_clamp (by omega)
    have ec := hc j hj
    refine hZ (rg_cut []) 400 0 _ _ _ ?_; simp only [rg_e_iload_1 (cut := rg_cut []) (f := true) d_M_isNode_0 rfl 1 rfl, rg_e_aload_0 (cut := rg_cut []) (f := false) d_M_isNode_1 rfl 2 rfl, rg_e_geti (P := P_M_isNode) (cut := rg_cut []) (f := false) d_M_isNode_2 rfl 5 rfl 18 4 1 rfl (fun _ => rfl), rg_e_cs2 (P := P_M_isNode) (cut := rg_cut []) (f := false) d_M_isNode_5 rfl T_M_out rfl, rg_e_if_ne (cut := rg_cut []) (f := false) d_M_isNode_8 rfl 11 rfl 24 rfl, rg_e_aload_0 (cut := rg_cut []) (f := false) d_M_isNode_11 rfl 12 rfl, rg_e_getr (P := P_M_isNode) (cut := rg_cut []) (f := false) d_M_isNode_12 rfl 15 rfl 18 4 4 21 rfl (fun _ => rfl), rg_e_iload_1 (cut := rg_cut []) (f := false) d_M_isNode_15 rfl 16 rfl, rg_e_zald (cut := rg_cut []) (f := false) d_M_isNode_16 rfl 17 rfl 21 9 rfl, rg_e_if_ne (cut := rg_cut []) (f := false) d_M_isNode_17 rfl 20 rfl 24 rfl, rg_e_iconst (cut := rg_cut []) (f := false) d_M_isNode_20 rfl 21 rfl (nI 1) rg_ki_1, rg_e_goto (cut := rg_cut []) (f := false) d_M_isNode_21 rfl 25 rfl, rg_e_iconst (cut := rg_cut []) (f := false) d_M_isNode_24 rfl 25 rfl (nI 0) rg_ki_0, rg_e_iret (cut := rg_cut []) (f := false) d_M_isNode_25 rfl, rg_nx_i, rg_nx_v, rg_wd_n, rg_wd_i, rg_wd_l, rg_wd_r, rg_clr_i, rg_clr_l, rg_clr_r, rg_clr_a, rg_clr_n, true_and, and_true, Nat.reduceAdd, Nat.reduceLeDiff, ↓Te_M_out, rg_rt_e, rg_fit_ie, rg_fit_ve, rg_fit_1e, rg_fit_0e, rg_fit_be, hr, h, z0, vj, cj, ec, zI_eq, not_false_eq_true, forall_const, false_imp_iff, not_true_eq_false]
    rw [ndB_n (by omega) (by omega)] at hK
    refine ⟨fun h1 => ?_, fun h1 => ?_⟩
    · have h1 : ndN nr ln pk j = false := by simpa using h1
      rw [h1] at hK
      exact hK
    · have h1 : ndN nr ln pk j = true := by simpa using h1
      rw [h1] at hK
      exact hK
theorem bad_n (n : Int32) : (decide (n - nI 3 < 0) || !decide (n - nI 3 < nI 10)) = (decide (n < nI 3) || decide (nI 12 < n)) := by
  have e : ∀ k, k < 2 ^ 31 → (nI k).toInt = (k : Int) := fun k hk => nI_toInt hk
  rw [Bool.eq_iff_iff]
  simp only [Bool.or_eq_true, decide_eq_true_eq, Bool.not_eq_true', decide_eq_false_iff_not, Int32.lt_iff_toInt_lt, Int32.toInt_sub, e 3 (by decide), e 10 (by decide), e 12 (by decide), Int32.toInt_zero]
  have h1 := Int32.le_toInt n
  have h2 := Int32.toInt_lt n
  rw [Int.bmod_def]
  omega
theorem good_n {n : Int32} (h : (decide (n < nI 3) || decide (nI 12 < n)) = false) : ∃ k, 3 ≤ k ∧ k ≤ 12 ∧ n = nI k := by
  rw [Bool.or_eq_false_iff, decide_eq_false_iff_not, decide_eq_false_iff_not] at h
  have h0 : ¬ n < 0 := fun z => h.1 (Int32.lt_trans z (by decide +kernel))
  obtain ⟨j, hj, rfl⟩ := nI_of h0
  refine ⟨j, ?_, ?_, rfl⟩
  · rcases Nat.lt_or_ge j 3 with q | q
    · exact absurd (nI_lt q (by omega)) h.1
    · exact q
  · rcases Nat.lt_or_ge 12 j with q | q
    · exact absurd (nI_lt q (by omega)) h.2
    · exact q
/-- one more read -/
def lnA (nr : Nat) (ln : Nat → Nat) (n : Nat) : Nat → Nat := fun i => if i = nr then n else ln i
def pkA (nr : Nat) (pk : Nat → Nat) (x : Int32) (n : Nat) : Nat → Nat := fun i => if i = nr then x.toBitVec.toNat % 4 ^ n else pk i
/-- no graph, no walks -/
def NgM (w : rg_W) : Prop := w.1 18 5 = nI 0 ∧ w.1 18 9 = nI 0 ∧ w.1 18 17 = nI 0 ∧ (∀ t, t < 81 → w.1 28 t = nI 0) ∧ ∀ t, t < 6561 → w.1 29 t = nI 0
theorem ndN_in {nr : Nat} {ln pk : Nat → Nat} {i : Nat} (h : i < nr) : (!ndN nr ln pk i) = (List.range nr).any (fun o => sdB ln pk i o) := by
  unfold ndN
  rw [decide_eq_true h, Bool.true_and, Bool.not_not]
set_option maxHeartbeats 1000000 in
-- M.read
def P_M_read : rg_P := (rg_F_M, [(146, 2, 0, T_M_out), (161, 3, 0, T_M_throwing), (169, 1, 0, T_M_again), (175, 3, 0, T_M_isIn)], [], [], [], [], 0)
def T_M_read : rg_T := fun as w K => match as with
  | [.ref 18, .int x, .int n] => ∃ nr ln pk, RdM nr ln pk w ∧ ((decide (n < nI 3) || decide (nI 12 < n)) = true → K (some (.int (nI 0))) (rg_up w 18 0 (nI 1))) ∧ ((decide (n < nI 3) || decide (nI 12 < n)) = false → nr = 9 → K (some (.int (nI 0))) (rg_up w 18 0 (nI 2))) ∧ (nr < 9 → ∀ n', 3 ≤ n' → n' ≤ 12 → n = nI n' → ∀ w', rg_fr [18, 19, 20, 21, 28, 29] w w' → w'.1 18 0 = nI 0 → RdM (nr + 1) (lnA nr ln n') (pkA nr pk x n') w' → NgM w' → K (some (.int (nI nr))) w')
  | _ => False
theorem Te_M_read (x : Int32) (n : Int32) (w : rg_W) (K : Option Value → rg_W → Prop) : T_M_read [.ref 18, .int x, .int n] w K = (∃ nr ln pk, RdM nr ln pk w ∧ ((decide (n < nI 3) || decide (nI 12 < n)) = true → K (some (.int (nI 0))) (rg_up w 18 0 (nI 1))) ∧ ((decide (n < nI 3) || decide (nI 12 < n)) = false → nr = 9 → K (some (.int (nI 0))) (rg_up w 18 0 (nI 2))) ∧ (nr < 9 → ∀ n', 3 ≤ n' → n' ≤ 12 → n = nI n' → ∀ w', rg_fr [18, 19, 20, 21, 28, 29] w w' → w'.1 18 0 = nI 0 → RdM (nr + 1) (lnA nr ln n') (pkA nr pk x n') w' → NgM w' → K (some (.int (nI nr))) w')) := rfl
theorem r_M_read : ∀ as w K, T_M_read as w K → ∃ r, as = .ref 18 :: r := by
  intro as w K h
  unfold T_M_read at h
  split at h
  · exact ⟨_, rfl⟩
  · exact h.elim
theorem G_M_read (l : Launch) : rg_Good l y_M_read c_M_read 6 (some .int) 2 T_M_read := by
  refine rg_good_of (P := P_M_read) (by decide) (rg_pok rg_F_M_ok (rg_cons (cw_M_73 (G_M_out l) (by decide)) (rg_cons (cw_M_80 (G_M_throwing l) (by decide) r_M_throwing) (rg_cons (cw_M_84 (G_M_again l) (by decide) r_M_again) (rg_cons (cw_M_87 (G_M_isIn l) (by decide) r_M_isIn) rg_nil))))) ?_
  intro as w K Z hT hZ
  unfold T_M_read at hT
  split at hT
  rotate_left
  · exact hT.elim
  rename_i x n
  refine ⟨Nat.le_of_ble_eq_true rfl, ?_⟩
  show Z 0 [.ref 18, .int x, .int n, .null, .null, .null] [] w 0
  obtain ⟨nr, ln, pk, hR, hK1, hK2, hK3⟩ := hT
  obtain ⟨hL, hr, hc⟩ := id hR
  have hn9 := hL.1
  have z1 : (zI true = 0) = False := by decide +kernel
  have z0 : (zI false = 0) = True := by decide +kernel
  have n0 : (nI 0 = 0) = True := by decide +kernel
  have n1 : (nI 1 = 0) = False := by decide +kernel
  cases hb : (decide (n < nI 3) || decide (nI 12 < n)) with
  | true =>
    have h : (decide (n - nI 3 < 0) || !decide (n - nI 3 < nI 10)) = true := by rw [bad_n]; exact hb
    refine hZ (rg_cut [54, 106, 126]) 400 0 _ _ _ ?_; simp only [rg_e_iload_2 (cut := rg_cut [54, 106, 126]) (f := true) d_M_read_0 rfl 1 rfl, rg_e_iconst (cut := rg_cut [54, 106, 126]) (f := false) d_M_read_1 rfl 2 rfl (nI 3) rg_ki_3, rg_e_isub (cut := rg_cut [54, 106, 126]) (f := false) d_M_read_2 rfl 3 rfl, rg_e_bipush (cut := rg_cut [54, 106, 126]) (f := false) d_M_read_3 rfl 5 rfl (nI 10) rg_kb_10, rg_e_cs2 (P := P_M_read) (cut := rg_cut [54, 106, 126]) (f := false) d_M_read_5 rfl T_M_out rfl, rg_e_istore_3 (cut := rg_cut [54, 106, 126]) (f := false) d_M_read_8 rfl 9 rfl, rg_e_aload_0 (cut := rg_cut [54, 106, 126]) (f := false) d_M_read_9 rfl 10 rfl, rg_e_iload_3 (cut := rg_cut [54, 106, 126]) (f := false) d_M_read_10 rfl 11 rfl, rg_e_iload_3 (cut := rg_cut [54, 106, 126]) (f := false) d_M_read_11 rfl 12 rfl, rg_e_if_ne (cut := rg_cut [54, 106, 126]) (f := false) d_M_read_12 rfl 15 rfl 28 rfl, rg_e_aload_0 (cut := rg_cut [54, 106, 126]) (f := false) d_M_read_15 rfl 16 rfl, rg_e_geti (P := P_M_read) (cut := rg_cut [54, 106, 126]) (f := false) d_M_read_16 rfl 19 rfl 18 4 1 rfl (fun _ => rfl), rg_e_bipush (cut := rg_cut [54, 106, 126]) (f := false) d_M_read_19 rfl 21 rfl (nI 9) rg_kb_9, rg_e_icmp_ne (cut := rg_cut [54, 106, 126]) (f := false) d_M_read_21 rfl 24 rfl 28 rfl, rg_e_iconst (cut := rg_cut [54, 106, 126]) (f := false) d_M_read_24 rfl 25 rfl (nI 1) rg_ki_1, rg_e_goto (cut := rg_cut [54, 106, 126]) (f := false) d_M_read_25 rfl 29 rfl, rg_e_iconst (cut := rg_cut [54, 106, 126]) (f := false) d_M_read_28 rfl 29 rfl (nI 0) rg_ki_0, rg_e_cv3 (P := P_M_read) (cut := rg_cut [54, 106, 126]) (f := false) d_M_read_29 rfl T_M_throwing rfl, rg_e_if_eq (cut := rg_cut [54, 106, 126]) (f := false) d_M_read_32 rfl 35 rfl 37 rfl, rg_e_iconst (cut := rg_cut [54, 106, 126]) (f := false) d_M_read_35 rfl 36 rfl (nI 0) rg_ki_0, rg_e_iret (cut := rg_cut [54, 106, 126]) (f := false) d_M_read_36 rfl, rg_e_aload_0 (cut := rg_cut [54, 106, 126]) (f := false) d_M_read_37 rfl 38 rfl, rg_e_cv1 (P := P_M_read) (cut := rg_cut [54, 106, 126]) (f := false) d_M_read_38 rfl T_M_again rfl, rg_e_aload_0 (cut := rg_cut [54, 106, 126]) (f := false) d_M_read_41 rfl 42 rfl, rg_e_getr (P := P_M_read) (cut := rg_cut [54, 106, 126]) (f := false) d_M_read_42 rfl 45 rfl 18 4 2 19 rfl (fun _ => rfl), rg_e_aload_0 (cut := rg_cut [54, 106, 126]) (f := false) d_M_read_45 rfl 46 rfl, rg_e_geti (P := P_M_read) (cut := rg_cut [54, 106, 126]) (f := false) d_M_read_46 rfl 49 rfl 18 4 1 rfl (fun _ => rfl), rg_e_iload_2 (cut := rg_cut [54, 106, 126]) (f := false) d_M_read_49 rfl 50 rfl, rg_e_iast (cut := rg_cut [54, 106, 126]) (f := false) d_M_read_50 rfl 51 rfl 19 9 rfl, rg_e_iconst (cut := rg_cut [54, 106, 126]) (f := false) d_M_read_51 rfl 52 rfl (nI 0) rg_ki_0, rg_e_istore_4 (cut := rg_cut [54, 106, 126]) (f := false) d_M_read_52 rfl 54 rfl, rg_e_cut (cut := rg_cut [54, 106, 126]) 54 rfl, rg_e_cut (cut := rg_cut [54, 106, 126]) 106 rfl, rg_e_cut (cut := rg_cut [54, 106, 126]) 126 rfl, rg_nx_i, rg_nx_v, rg_wd_n, rg_wd_i, rg_wd_l, rg_wd_r, rg_clr_i, rg_clr_l, rg_clr_r, rg_clr_a, rg_clr_n, true_and, and_true, Nat.reduceAdd, Nat.reduceLeDiff, ↓Te_M_out, ↓Te_M_throwing, ↓Te_M_again, ↓Te_M_isIn, rg_rt_e, rg_fit_ie, rg_fit_ve, rg_fit_1e, rg_fit_0e, rg_fit_be, h, z1, z0, n0, n1, decide_true, decide_false, Bool.not_true, Bool.not_false, Bool.true_or, Bool.or_true, Bool.or_false, not_false_eq_true, forall_const, false_imp_iff, not_true_eq_false, if_false, if_true, reduceIte]
    exact hK1 hb
  | false =>
    have h : (decide (n - nI 3 < 0) || !decide (n - nI 3 < nI 10)) = false := by rw [bad_n]; exact hb
    by_cases h9 : nr = 9
    · subst h9
      refine hZ (rg_cut [54, 106, 126]) 400 0 _ _ _ ?_; simp only [rg_e_iload_2 (cut := rg_cut [54, 106, 126]) (f := true) d_M_read_0 rfl 1 rfl, rg_e_iconst (cut := rg_cut [54, 106, 126]) (f := false) d_M_read_1 rfl 2 rfl (nI 3) rg_ki_3, rg_e_isub (cut := rg_cut [54, 106, 126]) (f := false) d_M_read_2 rfl 3 rfl, rg_e_bipush (cut := rg_cut [54, 106, 126]) (f := false) d_M_read_3 rfl 5 rfl (nI 10) rg_kb_10, rg_e_cs2 (P := P_M_read) (cut := rg_cut [54, 106, 126]) (f := false) d_M_read_5 rfl T_M_out rfl, rg_e_istore_3 (cut := rg_cut [54, 106, 126]) (f := false) d_M_read_8 rfl 9 rfl, rg_e_aload_0 (cut := rg_cut [54, 106, 126]) (f := false) d_M_read_9 rfl 10 rfl, rg_e_iload_3 (cut := rg_cut [54, 106, 126]) (f := false) d_M_read_10 rfl 11 rfl, rg_e_iload_3 (cut := rg_cut [54, 106, 126]) (f := false) d_M_read_11 rfl 12 rfl, rg_e_if_ne (cut := rg_cut [54, 106, 126]) (f := false) d_M_read_12 rfl 15 rfl 28 rfl, rg_e_aload_0 (cut := rg_cut [54, 106, 126]) (f := false) d_M_read_15 rfl 16 rfl, rg_e_geti (P := P_M_read) (cut := rg_cut [54, 106, 126]) (f := false) d_M_read_16 rfl 19 rfl 18 4 1 rfl (fun _ => rfl), rg_e_bipush (cut := rg_cut [54, 106, 126]) (f := false) d_M_read_19 rfl 21 rfl (nI 9) rg_kb_9, rg_e_icmp_ne (cut := rg_cut [54, 106, 126]) (f := false) d_M_read_21 rfl 24 rfl 28 rfl, rg_e_iconst (cut := rg_cut [54, 106, 126]) (f := false) d_M_read_24 rfl 25 rfl (nI 1) rg_ki_1, rg_e_goto (cut := rg_cut [54, 106, 126]) (f := false) d_M_read_25 rfl 29 rfl, rg_e_iconst (cut := rg_cut [54, 106, 126]) (f := false) d_M_read_28 rfl 29 rfl (nI 0) rg_ki_0, rg_e_cv3 (P := P_M_read) (cut := rg_cut [54, 106, 126]) (f := false) d_M_read_29 rfl T_M_throwing rfl, rg_e_if_eq (cut := rg_cut [54, 106, 126]) (f := false) d_M_read_32 rfl 35 rfl 37 rfl, rg_e_iconst (cut := rg_cut [54, 106, 126]) (f := false) d_M_read_35 rfl 36 rfl (nI 0) rg_ki_0, rg_e_iret (cut := rg_cut [54, 106, 126]) (f := false) d_M_read_36 rfl, rg_e_aload_0 (cut := rg_cut [54, 106, 126]) (f := false) d_M_read_37 rfl 38 rfl, rg_e_cv1 (P := P_M_read) (cut := rg_cut [54, 106, 126]) (f := false) d_M_read_38 rfl T_M_again rfl, rg_e_aload_0 (cut := rg_cut [54, 106, 126]) (f := false) d_M_read_41 rfl 42 rfl, rg_e_getr (P := P_M_read) (cut := rg_cut [54, 106, 126]) (f := false) d_M_read_42 rfl 45 rfl 18 4 2 19 rfl (fun _ => rfl), rg_e_aload_0 (cut := rg_cut [54, 106, 126]) (f := false) d_M_read_45 rfl 46 rfl, rg_e_geti (P := P_M_read) (cut := rg_cut [54, 106, 126]) (f := false) d_M_read_46 rfl 49 rfl 18 4 1 rfl (fun _ => rfl), rg_e_iload_2 (cut := rg_cut [54, 106, 126]) (f := false) d_M_read_49 rfl 50 rfl, rg_e_iast (cut := rg_cut [54, 106, 126]) (f := false) d_M_read_50 rfl 51 rfl 19 9 rfl, rg_e_iconst (cut := rg_cut [54, 106, 126]) (f := false) d_M_read_51 rfl 52 rfl (nI 0) rg_ki_0, rg_e_istore_4 (cut := rg_cut [54, 106, 126]) (f := false) d_M_read_52 rfl 54 rfl, rg_e_cut (cut := rg_cut [54, 106, 126]) 54 rfl, rg_e_cut (cut := rg_cut [54, 106, 126]) 106 rfl, rg_e_cut (cut := rg_cut [54, 106, 126]) 126 rfl, rg_nx_i, rg_nx_v, rg_wd_n, rg_wd_i, rg_wd_l, rg_wd_r, rg_clr_i, rg_clr_l, rg_clr_r, rg_clr_a, rg_clr_n, true_and, and_true, Nat.reduceAdd, Nat.reduceLeDiff, ↓Te_M_out, ↓Te_M_throwing, ↓Te_M_again, ↓Te_M_isIn, rg_rt_e, rg_fit_ie, rg_fit_ve, rg_fit_1e, rg_fit_0e, rg_fit_be, h, z1, z0, n0, n1, hr, decide_true, decide_false, Bool.not_true, Bool.not_false, Bool.true_or, Bool.or_true, Bool.or_false, not_false_eq_true, forall_const, false_imp_iff, not_true_eq_false, if_false, if_true, reduceIte]
      exact hK2 hb rfl
    · obtain ⟨n', h3, h12, rfl⟩ := good_n hb
      have hlt : nr < 9 := by omega
      have hK3 := hK3 hlt n' h3 h12 rfl
      have e9 : (nI nr = nI 9) = False := by rw [nI_eqp (by omega) (by omega)]; exact eq_false h9
      have vr : vp_in (nI nr) 9 := vp_in_nI hlt (by omega)
      have cr : (nI nr).toNatClampNeg = nr := nI_clamp (by omega)
      -- the new read's letters
      have l1 : ∀ (k : Nat) (w1 : rg_W) (a5 : Value), (k ≤ n' ∧ rg_fr [18, 19, 20, 21, 28, 29] w w1 ∧ w1.1 18 0 = nI 0 ∧ w1.1 18 1 = nI nr ∧ NgM w1 ∧ (∀ i, i < nr → w1.1 19 i = w.1 19 i) ∧ w1.1 19 nr = nI n' ∧ (∀ q, q < 12 * nr → w1.1 20 q = w.1 20 q) ∧ ∀ b, b < k → w1.1 20 (12 * nr + b) = nI (lt4 n' (x.toBitVec.toNat % 4 ^ n') b)) →
          (∀ w2 : rg_W, rg_fr [18, 19, 20, 21, 28, 29] w w2 → w2.1 18 0 = nI 0 → w2.1 18 1 = nI (nr + 1) → NgM w2 → Lm (nr + 1) (lnA nr ln n') (pkA nr pk x n') w2 → ∀ a5 : Value, Z 106 [.ref 18, .int x, .int (nI n'), .int (nI 0), .int (nI 0), a5] [] w2 0) →
          Z 54 [.ref 18, .int x, .int (nI n'), .int (nI 0), .int (nI k), a5] [] w1 0 := by
        intro k w1 a5 hI hout
        revert k w1 a5
        refine rg_lp3 _ _ (fun k _ _ => n' - k) ?_
        intro k w1 a5 ⟨hk, hf, t0, hr1, hng, hs, hsn, hl, hln⟩ ih
        rcases Nat.lt_or_ge k n' with hk9 | hk9
        · have x1 : nI 12 * nI nr + nI k = nI (12 * nr + k) := by rw [pk_mul, nI_add]
          have v1 : vp_in (nI (12 * nr + k)) 108 := vp_in_nI (by omega) (by omega)
          have c1 : (nI (12 * nr + k)).toNatClampNeg = 12 * nr + k := nI_clamp (by omega)
          have sh : (x >>> ((nI 2 * (nI n' - nI 1 - nI k)) &&& 31)) &&& nI 3 = nI (lt4 n' (x.toBitVec.toNat % 4 ^ n') k) := by
            rw [pk_sub (by omega), pk_sub (by omega), lt_raw x (by omega)]
            unfold lt4
            rw [dg_mod _ _ _ (by omega)]
          refine hZ (rg_cut [54, 106, 126]) 400 54 _ _ _ ?_; simp only [rg_e_iload_4 (cut := rg_cut [54, 106, 126]) (f := true) d_M_read_54 rfl 56 rfl, rg_e_iload_2 (cut := rg_cut [54, 106, 126]) (f := false) d_M_read_56 rfl 57 rfl, rg_e_icmp_ge (cut := rg_cut [54, 106, 126]) (f := false) d_M_read_57 rfl 60 rfl 93 rfl, rg_e_aload_0 (cut := rg_cut [54, 106, 126]) (f := false) d_M_read_60 rfl 61 rfl, rg_e_getr (P := P_M_read) (cut := rg_cut [54, 106, 126]) (f := false) d_M_read_61 rfl 64 rfl 18 4 3 20 rfl (fun _ => rfl), rg_e_bipush (cut := rg_cut [54, 106, 126]) (f := false) d_M_read_64 rfl 66 rfl (nI 12) rg_kb_12, rg_e_aload_0 (cut := rg_cut [54, 106, 126]) (f := false) d_M_read_66 rfl 67 rfl, rg_e_geti (P := P_M_read) (cut := rg_cut [54, 106, 126]) (f := false) d_M_read_67 rfl 70 rfl 18 4 1 rfl (fun _ => rfl), rg_e_imul (cut := rg_cut [54, 106, 126]) (f := false) d_M_read_70 rfl 71 rfl, rg_e_iload_4 (cut := rg_cut [54, 106, 126]) (f := false) d_M_read_71 rfl 73 rfl, rg_e_iadd (cut := rg_cut [54, 106, 126]) (f := false) d_M_read_73 rfl 74 rfl, rg_e_iload_1 (cut := rg_cut [54, 106, 126]) (f := false) d_M_read_74 rfl 75 rfl, rg_e_iconst (cut := rg_cut [54, 106, 126]) (f := false) d_M_read_75 rfl 76 rfl (nI 2) rg_ki_2, rg_e_iload_2 (cut := rg_cut [54, 106, 126]) (f := false) d_M_read_76 rfl 77 rfl, rg_e_iconst (cut := rg_cut [54, 106, 126]) (f := false) d_M_read_77 rfl 78 rfl (nI 1) rg_ki_1, rg_e_isub (cut := rg_cut [54, 106, 126]) (f := false) d_M_read_78 rfl 79 rfl, rg_e_iload_4 (cut := rg_cut [54, 106, 126]) (f := false) d_M_read_79 rfl 81 rfl, rg_e_isub (cut := rg_cut [54, 106, 126]) (f := false) d_M_read_81 rfl 82 rfl, rg_e_imul (cut := rg_cut [54, 106, 126]) (f := false) d_M_read_82 rfl 83 rfl, rg_e_ishr (cut := rg_cut [54, 106, 126]) (f := false) d_M_read_83 rfl 84 rfl, rg_e_iconst (cut := rg_cut [54, 106, 126]) (f := false) d_M_read_84 rfl 85 rfl (nI 3) rg_ki_3, rg_e_iand (cut := rg_cut [54, 106, 126]) (f := false) d_M_read_85 rfl 86 rfl, rg_e_iast (cut := rg_cut [54, 106, 126]) (f := false) d_M_read_86 rfl 87 rfl 20 108 rfl, rg_e_iinc_4 (cut := rg_cut [54, 106, 126]) (f := false) d_M_read_87 rfl 90 rfl (nI 1) rg_ki_1, rg_e_goto (cut := rg_cut [54, 106, 126]) (f := false) d_M_read_90 rfl 54 rfl, rg_e_aload_0 (cut := rg_cut [54, 106, 126]) (f := false) d_M_read_93 rfl 94 rfl, rg_e_dupr (cut := rg_cut [54, 106, 126]) (f := false) d_M_read_94 rfl 95 rfl, rg_e_geti (P := P_M_read) (cut := rg_cut [54, 106, 126]) (f := false) d_M_read_95 rfl 98 rfl 18 4 1 rfl (fun _ => rfl), rg_e_iconst (cut := rg_cut [54, 106, 126]) (f := false) d_M_read_98 rfl 99 rfl (nI 1) rg_ki_1, rg_e_iadd (cut := rg_cut [54, 106, 126]) (f := false) d_M_read_99 rfl 100 rfl, rg_e_put (P := P_M_read) (cut := rg_cut [54, 106, 126]) (f := false) d_M_read_100 rfl 103 rfl 18 4 1 rfl rfl, rg_e_iconst (cut := rg_cut [54, 106, 126]) (f := false) d_M_read_103 rfl 104 rfl (nI 0) rg_ki_0, rg_e_istore_4 (cut := rg_cut [54, 106, 126]) (f := false) d_M_read_104 rfl 106 rfl, rg_e_cut (cut := rg_cut [54, 106, 126]) 54 rfl, rg_e_cut (cut := rg_cut [54, 106, 126]) 106 rfl, rg_e_cut (cut := rg_cut [54, 106, 126]) 126 rfl, rg_nx_i, rg_nx_v, rg_wd_n, rg_wd_i, rg_wd_l, rg_wd_r, rg_clr_i, rg_clr_l, rg_clr_r, rg_clr_a, rg_clr_n, true_and, and_true, Nat.reduceAdd, Nat.reduceLeDiff, ↓Te_M_out, ↓Te_M_throwing, ↓Te_M_again, ↓Te_M_isIn, rg_rt_e, rg_fit_ie, rg_fit_ve, rg_fit_1e, rg_fit_0e, rg_fit_be, hr1, x1, v1, c1, sh, nI_add]
          refine ⟨fun h => absurd h (nI_ge hk9 (by omega)), fun _ => ih (k + 1) _ _ ⟨by omega, rg_fr_up hf (by decide) _ _, ?_, ?_, ⟨?_, ?_, ?_, fun t ht => ?_, fun t ht => ?_⟩, fun i hi => ?_, ?_, fun q hq => ?_, fun b hb => ?_⟩ (by omega)⟩
          · rw [rg_up_n (by decide)]; exact t0
          · rw [rg_up_n (by decide)]; exact hr1
          · rw [rg_up_n (by decide)]; exact hng.1
          · rw [rg_up_n (by decide)]; exact hng.2.1
          · rw [rg_up_n (by decide)]; exact hng.2.2.1
          · rw [rg_up_n (by decide)]; exact hng.2.2.2.1 t ht
          · rw [rg_up_n (by decide)]; exact hng.2.2.2.2 t ht
          · rw [rg_up_n (by decide)]; exact hs i hi
          · rw [rg_up_n (by decide)]; exact hsn
          · rw [rg_up_s, upd_n (by omega)]; exact hl q hq
          · rw [rg_up_s]
            by_cases hbk : b = k
            · subst hbk; rw [upd_s]
            · rw [upd_n (by omega)]; exact hln b (by omega)
        · obtain rfl : k = n' := by omega
          refine hZ (rg_cut [54, 106, 126]) 400 54 _ _ _ ?_; simp only [rg_e_iload_4 (cut := rg_cut [54, 106, 126]) (f := true) d_M_read_54 rfl 56 rfl, rg_e_iload_2 (cut := rg_cut [54, 106, 126]) (f := false) d_M_read_56 rfl 57 rfl, rg_e_icmp_ge (cut := rg_cut [54, 106, 126]) (f := false) d_M_read_57 rfl 60 rfl 93 rfl, rg_e_aload_0 (cut := rg_cut [54, 106, 126]) (f := false) d_M_read_60 rfl 61 rfl, rg_e_getr (P := P_M_read) (cut := rg_cut [54, 106, 126]) (f := false) d_M_read_61 rfl 64 rfl 18 4 3 20 rfl (fun _ => rfl), rg_e_bipush (cut := rg_cut [54, 106, 126]) (f := false) d_M_read_64 rfl 66 rfl (nI 12) rg_kb_12, rg_e_aload_0 (cut := rg_cut [54, 106, 126]) (f := false) d_M_read_66 rfl 67 rfl, rg_e_geti (P := P_M_read) (cut := rg_cut [54, 106, 126]) (f := false) d_M_read_67 rfl 70 rfl 18 4 1 rfl (fun _ => rfl), rg_e_imul (cut := rg_cut [54, 106, 126]) (f := false) d_M_read_70 rfl 71 rfl, rg_e_iload_4 (cut := rg_cut [54, 106, 126]) (f := false) d_M_read_71 rfl 73 rfl, rg_e_iadd (cut := rg_cut [54, 106, 126]) (f := false) d_M_read_73 rfl 74 rfl, rg_e_iload_1 (cut := rg_cut [54, 106, 126]) (f := false) d_M_read_74 rfl 75 rfl, rg_e_iconst (cut := rg_cut [54, 106, 126]) (f := false) d_M_read_75 rfl 76 rfl (nI 2) rg_ki_2, rg_e_iload_2 (cut := rg_cut [54, 106, 126]) (f := false) d_M_read_76 rfl 77 rfl, rg_e_iconst (cut := rg_cut [54, 106, 126]) (f := false) d_M_read_77 rfl 78 rfl (nI 1) rg_ki_1, rg_e_isub (cut := rg_cut [54, 106, 126]) (f := false) d_M_read_78 rfl 79 rfl, rg_e_iload_4 (cut := rg_cut [54, 106, 126]) (f := false) d_M_read_79 rfl 81 rfl, rg_e_isub (cut := rg_cut [54, 106, 126]) (f := false) d_M_read_81 rfl 82 rfl, rg_e_imul (cut := rg_cut [54, 106, 126]) (f := false) d_M_read_82 rfl 83 rfl, rg_e_ishr (cut := rg_cut [54, 106, 126]) (f := false) d_M_read_83 rfl 84 rfl, rg_e_iconst (cut := rg_cut [54, 106, 126]) (f := false) d_M_read_84 rfl 85 rfl (nI 3) rg_ki_3, rg_e_iand (cut := rg_cut [54, 106, 126]) (f := false) d_M_read_85 rfl 86 rfl, rg_e_iast (cut := rg_cut [54, 106, 126]) (f := false) d_M_read_86 rfl 87 rfl 20 108 rfl, rg_e_iinc_4 (cut := rg_cut [54, 106, 126]) (f := false) d_M_read_87 rfl 90 rfl (nI 1) rg_ki_1, rg_e_goto (cut := rg_cut [54, 106, 126]) (f := false) d_M_read_90 rfl 54 rfl, rg_e_aload_0 (cut := rg_cut [54, 106, 126]) (f := false) d_M_read_93 rfl 94 rfl, rg_e_dupr (cut := rg_cut [54, 106, 126]) (f := false) d_M_read_94 rfl 95 rfl, rg_e_geti (P := P_M_read) (cut := rg_cut [54, 106, 126]) (f := false) d_M_read_95 rfl 98 rfl 18 4 1 rfl (fun _ => rfl), rg_e_iconst (cut := rg_cut [54, 106, 126]) (f := false) d_M_read_98 rfl 99 rfl (nI 1) rg_ki_1, rg_e_iadd (cut := rg_cut [54, 106, 126]) (f := false) d_M_read_99 rfl 100 rfl, rg_e_put (P := P_M_read) (cut := rg_cut [54, 106, 126]) (f := false) d_M_read_100 rfl 103 rfl 18 4 1 rfl rfl, rg_e_iconst (cut := rg_cut [54, 106, 126]) (f := false) d_M_read_103 rfl 104 rfl (nI 0) rg_ki_0, rg_e_istore_4 (cut := rg_cut [54, 106, 126]) (f := false) d_M_read_104 rfl 106 rfl, rg_e_cut (cut := rg_cut [54, 106, 126]) 54 rfl, rg_e_cut (cut := rg_cut [54, 106, 126]) 106 rfl, rg_e_cut (cut := rg_cut [54, 106, 126]) 126 rfl, rg_nx_i, rg_nx_v, rg_wd_n, rg_wd_i, rg_wd_l, rg_wd_r, rg_clr_i, rg_clr_l, rg_clr_r, rg_clr_a, rg_clr_n, true_and, and_true, Nat.reduceAdd, Nat.reduceLeDiff, ↓Te_M_out, ↓Te_M_throwing, ↓Te_M_again, ↓Te_M_isIn, rg_rt_e, rg_fit_ie, rg_fit_ve, rg_fit_1e, rg_fit_0e, rg_fit_be, hr1, nI_add]
          refine ⟨fun _ => hout _ (rg_fr_up hf (by decide) _ _) ?_ (rg_up_ss _ _ _ _) ⟨?_, ?_, ?_, fun t ht => ?_, fun t ht => ?_⟩ ⟨by omega, fun i hi => ?_⟩ _, fun h => absurd (nI_le hk9 (by omega)) h⟩
          · rw [rg_up_s, upd_n (by decide)]; exact t0
          · rw [rg_up_s, upd_n (by decide)]; exact hng.1
          · rw [rg_up_s, upd_n (by decide)]; exact hng.2.1
          · rw [rg_up_s, upd_n (by decide)]; exact hng.2.2.1
          · rw [rg_up_n (by decide)]; exact hng.2.2.2.1 t ht
          · rw [rg_up_n (by decide)]; exact hng.2.2.2.2 t ht
          · rw [rg_up_n (by decide), rg_up_n (by decide)]
            unfold lnA pkA
            by_cases hin : i = nr
            · subst hin
              rw [if_pos rfl, if_pos rfl]
              exact ⟨h3, h12, Nat.mod_lt _ (Nat.pow_pos (by decide)), hsn, hln⟩
            · rw [if_neg hin, if_neg hin]
              obtain ⟨q1, q2, q3, q4, q5⟩ := hL.2 i (by omega)
              exact ⟨q1, q2, q3, by rw [hs i (by omega)]; exact q4, fun c hc => by rw [hl _ (by omega)]; exact q5 c hc⟩
      -- which are contained
      have l3 : ∀ (w2 : rg_W), Lm (nr + 1) (lnA nr ln n') (pkA nr pk x n') w2 → rg_fr [18, 19, 20, 21, 28, 29] w w2 → w2.1 18 0 = nI 0 → w2.1 18 1 = nI (nr + 1) → NgM w2 → ∀ (i j : Nat) (w3 : rg_W), (i < nr + 1 ∧ j ≤ nr + 1 ∧ rg_fr [21] w2 w3 ∧ w3.1 21 i = zI ((List.range j).any (fun o => sdB (lnA nr ln n') (pkA nr pk x n') i o)) ∧ ∀ b, b < i → w3.1 21 b = zI (!ndN (nr + 1) (lnA nr ln n') (pkA nr pk x n') b)) →
          (∀ (w4 : rg_W), rg_fr [21] w2 w4 → (∀ b, b < i + 1 → w4.1 21 b = zI (!ndN (nr + 1) (lnA nr ln n') (pkA nr pk x n') b)) → ∀ a5 : Value, Z 106 [.ref 18, .int x, .int (nI n'), .int (nI 0), .int (nI (i + 1)), a5] [] w4 0) →
          Z 126 [.ref 18, .int x, .int (nI n'), .int (nI 0), .int (nI i), .int (nI j)] [] w3 0 := by
        intro w2 hL2 hf2 t2 hr2 hg2 i j w3 hI hout
        revert j w3
        refine rg_lp2 _ _ (fun j _ => nr + 1 - j) ?_
        intro j w3 ⟨hi, hj, hf, hcj, hcb⟩ ih
        have hr3 : w3.1 18 1 = nI (nr + 1) := by rw [hf.1 18 (by decide)]; exact hr2
        have hL3 : Lm (nr + 1) (lnA nr ln n') (pkA nr pk x n') w3 := hL2.fr (hf.1 19 (by decide)) (hf.1 20 (by decide))
        have vi : vp_in (nI i) 9 := vp_in_nI (by omega) (by omega)
        have ci : (nI i).toNatClampNeg = i := nI_clamp (by omega)
        rcases Nat.lt_or_ge j (nr + 1) with hj9 | hj9
        · have nx : ∀ (v : Int32), v = zI ((List.range (j + 1)).any (fun o => sdB (lnA nr ln n') (pkA nr pk x n') i o)) → Z 126 [.ref 18, .int x, .int (nI n'), .int (nI 0), .int (nI i), .int (nI (j + 1))] [] (rg_up w3 21 i v) 0 := by
            rintro v rfl
            refine ih (j + 1) _ ⟨hi, by omega, rg_fr_up hf (by decide) _ _, rg_up_ss _ _ _ _, fun b hb => ?_⟩ (by omega)
            rw [rg_up_s, upd_n (by omega)]
            exact hcb b hb
          refine hZ (rg_cut [54, 106, 126]) 400 126 _ _ _ ?_; simp only [rg_e_iload_5 (cut := rg_cut [54, 106, 126]) (f := true) d_M_read_126 rfl 128 rfl, rg_e_aload_0 (cut := rg_cut [54, 106, 126]) (f := false) d_M_read_128 rfl 129 rfl, rg_e_geti (P := P_M_read) (cut := rg_cut [54, 106, 126]) (f := false) d_M_read_129 rfl 132 rfl 18 4 1 rfl (fun _ => rfl), rg_e_icmp_ge (cut := rg_cut [54, 106, 126]) (f := false) d_M_read_132 rfl 135 rfl 174 rfl, rg_e_aload_0 (cut := rg_cut [54, 106, 126]) (f := false) d_M_read_135 rfl 136 rfl, rg_e_getr (P := P_M_read) (cut := rg_cut [54, 106, 126]) (f := false) d_M_read_136 rfl 139 rfl 18 4 4 21 rfl (fun _ => rfl), rg_e_iload_4 (cut := rg_cut [54, 106, 126]) (f := false) d_M_read_139 rfl 141 rfl, rg_e_aload_0 (cut := rg_cut [54, 106, 126]) (f := false) d_M_read_141 rfl 142 rfl, rg_e_getr (P := P_M_read) (cut := rg_cut [54, 106, 126]) (f := false) d_M_read_142 rfl 145 rfl 18 4 4 21 rfl (fun _ => rfl), rg_e_iload_4 (cut := rg_cut [54, 106, 126]) (f := false) d_M_read_145 rfl 147 rfl, rg_e_zald (cut := rg_cut [54, 106, 126]) (f := false) d_M_read_147 rfl 148 rfl 21 9 rfl, rg_e_if_ne (cut := rg_cut [54, 106, 126]) (f := false) d_M_read_148 rfl 151 rfl 162 rfl, rg_e_aload_0 (cut := rg_cut [54, 106, 126]) (f := false) d_M_read_151 rfl 152 rfl, rg_e_iload_4 (cut := rg_cut [54, 106, 126]) (f := false) d_M_read_152 rfl 154 rfl, rg_e_iload_5 (cut := rg_cut [54, 106, 126]) (f := false) d_M_read_154 rfl 156 rfl, rg_e_cv3 (P := P_M_read) (cut := rg_cut [54, 106, 126]) (f := false) d_M_read_156 rfl T_M_isIn rfl, rg_e_if_eq (cut := rg_cut [54, 106, 126]) (f := false) d_M_read_159 rfl 162 rfl 166 rfl, rg_e_iconst (cut := rg_cut [54, 106, 126]) (f := false) d_M_read_162 rfl 163 rfl (nI 1) rg_ki_1, rg_e_goto (cut := rg_cut [54, 106, 126]) (f := false) d_M_read_163 rfl 167 rfl, rg_e_iconst (cut := rg_cut [54, 106, 126]) (f := false) d_M_read_166 rfl 167 rfl (nI 0) rg_ki_0, rg_e_zast (cut := rg_cut [54, 106, 126]) (f := false) d_M_read_167 rfl 168 rfl 21 9 rfl, rg_e_iinc_5 (cut := rg_cut [54, 106, 126]) (f := false) d_M_read_168 rfl 171 rfl (nI 1) rg_ki_1, rg_e_goto (cut := rg_cut [54, 106, 126]) (f := false) d_M_read_171 rfl 126 rfl, rg_e_iinc_4 (cut := rg_cut [54, 106, 126]) (f := false) d_M_read_174 rfl 177 rfl (nI 1) rg_ki_1, rg_e_goto (cut := rg_cut [54, 106, 126]) (f := false) d_M_read_177 rfl 106 rfl, rg_e_cut (cut := rg_cut [54, 106, 126]) 54 rfl, rg_e_cut (cut := rg_cut [54, 106, 126]) 106 rfl, rg_e_cut (cut := rg_cut [54, 106, 126]) 126 rfl, rg_nx_i, rg_nx_v, rg_wd_n, rg_wd_i, rg_wd_l, rg_wd_r, rg_clr_i, rg_clr_l, rg_clr_r, rg_clr_a, rg_clr_n, true_and, and_true, Nat.reduceAdd, Nat.reduceLeDiff, ↓Te_M_out, ↓Te_M_throwing, ↓Te_M_again, ↓Te_M_isIn, rg_rt_e, rg_fit_ie, rg_fit_ve, rg_fit_1e, rg_fit_0e, rg_fit_be, hr3, vi, ci, hcj, zI_eq, nI_add, nar0, nar1]
          refine ⟨fun h => absurd h (nI_ge hj9 (by omega)), fun _ => ⟨fun h => nx _ ?_, fun h => ⟨nr + 1, lnA nr ln n', pkA nr pk x n', i, j, hL3, rfl, rfl, hi, hj9, fun h1 => nx _ ?_, fun h1 => nx _ ?_⟩⟩⟩
          · have h : (List.range j).any (fun o => sdB (lnA nr ln n') (pkA nr pk x n') i o) = true := by rw [← Bool.not_eq_false]; exact h
            rw [rg_any_s, h]; rfl
          · rw [rg_any_s, Classical.not_not.mp h, h1]; rfl
          · have h1 : sdB (lnA nr ln n') (pkA nr pk x n') i j = true := by rw [← Bool.not_eq_false]; exact h1
            rw [rg_any_s, h1, Bool.or_true]; rfl
        · obtain rfl : j = nr + 1 := by omega
          refine hZ (rg_cut [54, 106, 126]) 400 126 _ _ _ ?_; simp only [rg_e_iload_5 (cut := rg_cut [54, 106, 126]) (f := true) d_M_read_126 rfl 128 rfl, rg_e_aload_0 (cut := rg_cut [54, 106, 126]) (f := false) d_M_read_128 rfl 129 rfl, rg_e_geti (P := P_M_read) (cut := rg_cut [54, 106, 126]) (f := false) d_M_read_129 rfl 132 rfl 18 4 1 rfl (fun _ => rfl), rg_e_icmp_ge (cut := rg_cut [54, 106, 126]) (f := false) d_M_read_132 rfl 135 rfl 174 rfl, rg_e_aload_0 (cut := rg_cut [54, 106, 126]) (f := false) d_M_read_135 rfl 136 rfl, rg_e_getr (P := P_M_read) (cut := rg_cut [54, 106, 126]) (f := false) d_M_read_136 rfl 139 rfl 18 4 4 21 rfl (fun _ => rfl), rg_e_iload_4 (cut := rg_cut [54, 106, 126]) (f := false) d_M_read_139 rfl 141 rfl, rg_e_aload_0 (cut := rg_cut [54, 106, 126]) (f := false) d_M_read_141 rfl 142 rfl, rg_e_getr (P := P_M_read) (cut := rg_cut [54, 106, 126]) (f := false) d_M_read_142 rfl 145 rfl 18 4 4 21 rfl (fun _ => rfl), rg_e_iload_4 (cut := rg_cut [54, 106, 126]) (f := false) d_M_read_145 rfl 147 rfl, rg_e_zald (cut := rg_cut [54, 106, 126]) (f := false) d_M_read_147 rfl 148 rfl 21 9 rfl, rg_e_if_ne (cut := rg_cut [54, 106, 126]) (f := false) d_M_read_148 rfl 151 rfl 162 rfl, rg_e_aload_0 (cut := rg_cut [54, 106, 126]) (f := false) d_M_read_151 rfl 152 rfl, rg_e_iload_4 (cut := rg_cut [54, 106, 126]) (f := false) d_M_read_152 rfl 154 rfl, rg_e_iload_5 (cut := rg_cut [54, 106, 126]) (f := false) d_M_read_154 rfl 156 rfl, rg_e_cv3 (P := P_M_read) (cut := rg_cut [54, 106, 126]) (f := false) d_M_read_156 rfl T_M_isIn rfl, rg_e_if_eq (cut := rg_cut [54, 106, 126]) (f := false) d_M_read_159 rfl 162 rfl 166 rfl, rg_e_iconst (cut := rg_cut [54, 106, 126]) (f := false) d_M_read_162 rfl 163 rfl (nI 1) rg_ki_1, rg_e_goto (cut := rg_cut [54, 106, 126]) (f := false) d_M_read_163 rfl 167 rfl, rg_e_iconst (cut := rg_cut [54, 106, 126]) (f := false) d_M_read_166 rfl 167 rfl (nI 0) rg_ki_0, rg_e_zast (cut := rg_cut [54, 106, 126]) (f := false) d_M_read_167 rfl 168 rfl 21 9 rfl, rg_e_iinc_5 (cut := rg_cut [54, 106, 126]) (f := false) d_M_read_168 rfl 171 rfl (nI 1) rg_ki_1, rg_e_goto (cut := rg_cut [54, 106, 126]) (f := false) d_M_read_171 rfl 126 rfl, rg_e_iinc_4 (cut := rg_cut [54, 106, 126]) (f := false) d_M_read_174 rfl 177 rfl (nI 1) rg_ki_1, rg_e_goto (cut := rg_cut [54, 106, 126]) (f := false) d_M_read_177 rfl 106 rfl, rg_e_cut (cut := rg_cut [54, 106, 126]) 54 rfl, rg_e_cut (cut := rg_cut [54, 106, 126]) 106 rfl, rg_e_cut (cut := rg_cut [54, 106, 126]) 126 rfl, rg_nx_i, rg_nx_v, rg_wd_n, rg_wd_i, rg_wd_l, rg_wd_r, rg_clr_i, rg_clr_l, rg_clr_r, rg_clr_a, rg_clr_n, true_and, and_true, Nat.reduceAdd, Nat.reduceLeDiff, ↓Te_M_out, ↓Te_M_throwing, ↓Te_M_again, ↓Te_M_isIn, rg_rt_e, rg_fit_ie, rg_fit_ve, rg_fit_1e, rg_fit_0e, rg_fit_be, hr3, nI_add]
          refine ⟨fun _ => hout w3 hf (fun b hb => ?_) _, fun h => absurd (nI_le hj9 (by omega)) h⟩
          by_cases hbi : b = i
          · subst hbi
            rw [hcj, ndN_in hi]
          · exact hcb b (by omega)
      have l2 : ∀ (w2 : rg_W), Lm (nr + 1) (lnA nr ln n') (pkA nr pk x n') w2 → rg_fr [18, 19, 20, 21, 28, 29] w w2 → w2.1 18 0 = nI 0 → w2.1 18 1 = nI (nr + 1) → NgM w2 → ∀ (i : Nat) (w3 : rg_W) (a5 : Value), (i ≤ nr + 1 ∧ rg_fr [21] w2 w3 ∧ ∀ b, b < i → w3.1 21 b = zI (!ndN (nr + 1) (lnA nr ln n') (pkA nr pk x n') b)) →
          Z 106 [.ref 18, .int x, .int (nI n'), .int (nI 0), .int (nI i), a5] [] w3 0 := by
        intro w2 hL2 hf2 t2 hr2 hg2
        refine rg_lp3 _ _ (fun i _ _ => nr + 1 - i) ?_
        intro i w3 a5 ⟨hi, hf, hcb⟩ ih
        have hr3 : w3.1 18 1 = nI (nr + 1) := by rw [hf.1 18 (by decide)]; exact hr2
        rcases Nat.lt_or_ge i (nr + 1) with hi9 | hi9
        · have vi : vp_in (nI i) 9 := vp_in_nI (by omega) (by omega)
          have ci : (nI i).toNatClampNeg = i := nI_clamp (by omega)
          refine hZ (rg_cut [54, 106, 126]) 400 106 _ _ _ ?_; simp only [rg_e_iload_4 (cut := rg_cut [54, 106, 126]) (f := true) d_M_read_106 rfl 108 rfl, rg_e_aload_0 (cut := rg_cut [54, 106, 126]) (f := false) d_M_read_108 rfl 109 rfl, rg_e_geti (P := P_M_read) (cut := rg_cut [54, 106, 126]) (f := false) d_M_read_109 rfl 112 rfl 18 4 1 rfl (fun _ => rfl), rg_e_icmp_ge (cut := rg_cut [54, 106, 126]) (f := false) d_M_read_112 rfl 115 rfl 180 rfl, rg_e_aload_0 (cut := rg_cut [54, 106, 126]) (f := false) d_M_read_115 rfl 116 rfl, rg_e_getr (P := P_M_read) (cut := rg_cut [54, 106, 126]) (f := false) d_M_read_116 rfl 119 rfl 18 4 4 21 rfl (fun _ => rfl), rg_e_iload_4 (cut := rg_cut [54, 106, 126]) (f := false) d_M_read_119 rfl 121 rfl, rg_e_iconst (cut := rg_cut [54, 106, 126]) (f := false) d_M_read_121 rfl 122 rfl (nI 0) rg_ki_0, rg_e_zast (cut := rg_cut [54, 106, 126]) (f := false) d_M_read_122 rfl 123 rfl 21 9 rfl, rg_e_iconst (cut := rg_cut [54, 106, 126]) (f := false) d_M_read_123 rfl 124 rfl (nI 0) rg_ki_0, rg_e_istore_5 (cut := rg_cut [54, 106, 126]) (f := false) d_M_read_124 rfl 126 rfl, rg_e_aload_0 (cut := rg_cut [54, 106, 126]) (f := false) d_M_read_180 rfl 181 rfl, rg_e_geti (P := P_M_read) (cut := rg_cut [54, 106, 126]) (f := false) d_M_read_181 rfl 184 rfl 18 4 1 rfl (fun _ => rfl), rg_e_iconst (cut := rg_cut [54, 106, 126]) (f := false) d_M_read_184 rfl 185 rfl (nI 1) rg_ki_1, rg_e_isub (cut := rg_cut [54, 106, 126]) (f := false) d_M_read_185 rfl 186 rfl, rg_e_iret (cut := rg_cut [54, 106, 126]) (f := false) d_M_read_186 rfl, rg_e_cut (cut := rg_cut [54, 106, 126]) 54 rfl, rg_e_cut (cut := rg_cut [54, 106, 126]) 106 rfl, rg_e_cut (cut := rg_cut [54, 106, 126]) 126 rfl, rg_nx_i, rg_nx_v, rg_wd_n, rg_wd_i, rg_wd_l, rg_wd_r, rg_clr_i, rg_clr_l, rg_clr_r, rg_clr_a, rg_clr_n, true_and, and_true, Nat.reduceAdd, Nat.reduceLeDiff, ↓Te_M_out, ↓Te_M_throwing, ↓Te_M_again, ↓Te_M_isIn, rg_rt_e, rg_fit_ie, rg_fit_ve, rg_fit_1e, rg_fit_0e, rg_fit_be, hr3, vi, ci, nar0]
          refine ⟨fun h => absurd h (nI_ge hi9 (by omega)), fun _ => l3 w2 hL2 hf2 t2 hr2 hg2 i 0 _ ⟨hi9, by omega, rg_fr_up hf (by decide) _ _, rg_up_ss _ _ _ _, fun b hb => ?_⟩ (fun w4 g1 g2 a5 => ih (i + 1) w4 a5 ⟨by omega, g1, g2⟩ (by omega))⟩
          rw [rg_up_s, upd_n (by omega)]
          exact hcb b hb
        · obtain rfl : i = nr + 1 := by omega
          have s1 : nI (nr + 1) - nI 1 = nI nr := by rw [pk_sub (by omega), Nat.add_sub_cancel]
          refine hZ (rg_cut [54, 106, 126]) 400 106 _ _ _ ?_; simp only [rg_e_iload_4 (cut := rg_cut [54, 106, 126]) (f := true) d_M_read_106 rfl 108 rfl, rg_e_aload_0 (cut := rg_cut [54, 106, 126]) (f := false) d_M_read_108 rfl 109 rfl, rg_e_geti (P := P_M_read) (cut := rg_cut [54, 106, 126]) (f := false) d_M_read_109 rfl 112 rfl 18 4 1 rfl (fun _ => rfl), rg_e_icmp_ge (cut := rg_cut [54, 106, 126]) (f := false) d_M_read_112 rfl 115 rfl 180 rfl, rg_e_aload_0 (cut := rg_cut [54, 106, 126]) (f := false) d_M_read_115 rfl 116 rfl, rg_e_getr (P := P_M_read) (cut := rg_cut [54, 106, 126]) (f := false) d_M_read_116 rfl 119 rfl 18 4 4 21 rfl (fun _ => rfl), rg_e_iload_4 (cut := rg_cut [54, 106, 126]) (f := false) d_M_read_119 rfl 121 rfl, rg_e_iconst (cut := rg_cut [54, 106, 126]) (f := false) d_M_read_121 rfl 122 rfl (nI 0) rg_ki_0, rg_e_zast (cut := rg_cut [54, 106, 126]) (f := false) d_M_read_122 rfl 123 rfl 21 9 rfl, rg_e_iconst (cut := rg_cut [54, 106, 126]) (f := false) d_M_read_123 rfl 124 rfl (nI 0) rg_ki_0, rg_e_istore_5 (cut := rg_cut [54, 106, 126]) (f := false) d_M_read_124 rfl 126 rfl, rg_e_aload_0 (cut := rg_cut [54, 106, 126]) (f := false) d_M_read_180 rfl 181 rfl, rg_e_geti (P := P_M_read) (cut := rg_cut [54, 106, 126]) (f := false) d_M_read_181 rfl 184 rfl 18 4 1 rfl (fun _ => rfl), rg_e_iconst (cut := rg_cut [54, 106, 126]) (f := false) d_M_read_184 rfl 185 rfl (nI 1) rg_ki_1, rg_e_isub (cut := rg_cut [54, 106, 126]) (f := false) d_M_read_185 rfl 186 rfl, rg_e_iret (cut := rg_cut [54, 106, 126]) (f := false) d_M_read_186 rfl, rg_e_cut (cut := rg_cut [54, 106, 126]) 54 rfl, rg_e_cut (cut := rg_cut [54, 106, 126]) 106 rfl, rg_e_cut (cut := rg_cut [54, 106, 126]) 126 rfl, rg_nx_i, rg_nx_v, rg_wd_n, rg_wd_i, rg_wd_l, rg_wd_r, rg_clr_i, rg_clr_l, rg_clr_r, rg_clr_a, rg_clr_n, true_and, and_true, Nat.reduceAdd, Nat.reduceLeDiff, ↓Te_M_out, ↓Te_M_throwing, ↓Te_M_again, ↓Te_M_isIn, rg_rt_e, rg_fit_ie, rg_fit_ve, rg_fit_1e, rg_fit_0e, rg_fit_be, hr3, s1]
          refine ⟨fun _ => hK3 w3 (rg_fr_tr hf2 (rg_fr_sub hf (by decide))) ?_ ⟨hL2.fr (hf.1 19 (by decide)) (hf.1 20 (by decide)), hr3, hcb⟩ ⟨?_, ?_, ?_, fun t ht => ?_, fun t ht => ?_⟩, fun h => absurd (nI_le hi9 (by omega)) h⟩
          · rw [hf.1 18 (by decide)]; exact t2
          · rw [hf.1 18 (by decide)]; exact hg2.1
          · rw [hf.1 18 (by decide)]; exact hg2.2.1
          · rw [hf.1 18 (by decide)]; exact hg2.2.2.1
          · rw [hf.1 28 (by decide)]; exact hg2.2.2.2.1 t ht
          · rw [hf.1 29 (by decide)]; exact hg2.2.2.2.2 t ht
      refine hZ (rg_cut [54, 106, 126]) 400 0 _ _ _ ?_; simp only [rg_e_iload_2 (cut := rg_cut [54, 106, 126]) (f := true) d_M_read_0 rfl 1 rfl, rg_e_iconst (cut := rg_cut [54, 106, 126]) (f := false) d_M_read_1 rfl 2 rfl (nI 3) rg_ki_3, rg_e_isub (cut := rg_cut [54, 106, 126]) (f := false) d_M_read_2 rfl 3 rfl, rg_e_bipush (cut := rg_cut [54, 106, 126]) (f := false) d_M_read_3 rfl 5 rfl (nI 10) rg_kb_10, rg_e_cs2 (P := P_M_read) (cut := rg_cut [54, 106, 126]) (f := false) d_M_read_5 rfl T_M_out rfl, rg_e_istore_3 (cut := rg_cut [54, 106, 126]) (f := false) d_M_read_8 rfl 9 rfl, rg_e_aload_0 (cut := rg_cut [54, 106, 126]) (f := false) d_M_read_9 rfl 10 rfl, rg_e_iload_3 (cut := rg_cut [54, 106, 126]) (f := false) d_M_read_10 rfl 11 rfl, rg_e_iload_3 (cut := rg_cut [54, 106, 126]) (f := false) d_M_read_11 rfl 12 rfl, rg_e_if_ne (cut := rg_cut [54, 106, 126]) (f := false) d_M_read_12 rfl 15 rfl 28 rfl, rg_e_aload_0 (cut := rg_cut [54, 106, 126]) (f := false) d_M_read_15 rfl 16 rfl, rg_e_geti (P := P_M_read) (cut := rg_cut [54, 106, 126]) (f := false) d_M_read_16 rfl 19 rfl 18 4 1 rfl (fun _ => rfl), rg_e_bipush (cut := rg_cut [54, 106, 126]) (f := false) d_M_read_19 rfl 21 rfl (nI 9) rg_kb_9, rg_e_icmp_ne (cut := rg_cut [54, 106, 126]) (f := false) d_M_read_21 rfl 24 rfl 28 rfl, rg_e_iconst (cut := rg_cut [54, 106, 126]) (f := false) d_M_read_24 rfl 25 rfl (nI 1) rg_ki_1, rg_e_goto (cut := rg_cut [54, 106, 126]) (f := false) d_M_read_25 rfl 29 rfl, rg_e_iconst (cut := rg_cut [54, 106, 126]) (f := false) d_M_read_28 rfl 29 rfl (nI 0) rg_ki_0, rg_e_cv3 (P := P_M_read) (cut := rg_cut [54, 106, 126]) (f := false) d_M_read_29 rfl T_M_throwing rfl, rg_e_if_eq (cut := rg_cut [54, 106, 126]) (f := false) d_M_read_32 rfl 35 rfl 37 rfl, rg_e_iconst (cut := rg_cut [54, 106, 126]) (f := false) d_M_read_35 rfl 36 rfl (nI 0) rg_ki_0, rg_e_iret (cut := rg_cut [54, 106, 126]) (f := false) d_M_read_36 rfl, rg_e_aload_0 (cut := rg_cut [54, 106, 126]) (f := false) d_M_read_37 rfl 38 rfl, rg_e_cv1 (P := P_M_read) (cut := rg_cut [54, 106, 126]) (f := false) d_M_read_38 rfl T_M_again rfl, rg_e_aload_0 (cut := rg_cut [54, 106, 126]) (f := false) d_M_read_41 rfl 42 rfl, rg_e_getr (P := P_M_read) (cut := rg_cut [54, 106, 126]) (f := false) d_M_read_42 rfl 45 rfl 18 4 2 19 rfl (fun _ => rfl), rg_e_aload_0 (cut := rg_cut [54, 106, 126]) (f := false) d_M_read_45 rfl 46 rfl, rg_e_geti (P := P_M_read) (cut := rg_cut [54, 106, 126]) (f := false) d_M_read_46 rfl 49 rfl 18 4 1 rfl (fun _ => rfl), rg_e_iload_2 (cut := rg_cut [54, 106, 126]) (f := false) d_M_read_49 rfl 50 rfl, rg_e_iast (cut := rg_cut [54, 106, 126]) (f := false) d_M_read_50 rfl 51 rfl 19 9 rfl, rg_e_iconst (cut := rg_cut [54, 106, 126]) (f := false) d_M_read_51 rfl 52 rfl (nI 0) rg_ki_0, rg_e_istore_4 (cut := rg_cut [54, 106, 126]) (f := false) d_M_read_52 rfl 54 rfl, rg_e_cut (cut := rg_cut [54, 106, 126]) 54 rfl, rg_e_cut (cut := rg_cut [54, 106, 126]) 106 rfl, rg_e_cut (cut := rg_cut [54, 106, 126]) 126 rfl, rg_nx_i, rg_nx_v, rg_wd_n, rg_wd_i, rg_wd_l, rg_wd_r, rg_clr_i, rg_clr_l, rg_clr_r, rg_clr_a, rg_clr_n, true_and, and_true, Nat.reduceAdd, Nat.reduceLeDiff, ↓Te_M_out, ↓Te_M_throwing, ↓Te_M_again, ↓Te_M_isIn, rg_rt_e, rg_fit_ie, rg_fit_ve, rg_fit_1e, rg_fit_0e, rg_fit_be, h, z1, z0, n0, n1, hr, e9, decide_true, decide_false, Bool.not_true, Bool.not_false, Bool.true_or, Bool.or_true, Bool.or_false, not_false_eq_true, forall_const, false_imp_iff, not_true_eq_false, if_false, if_true, reduceIte]
      intro w1 ⟨hf, hq, q5, q9, q17, q28, q29⟩
      have r1 : w1.1 18 1 = nI nr := by rw [hq 1 (by decide) (by decide) (by decide), rg_up_s, upd_n (by decide)]; exact hr
      rw [r1, cr]
      refine ⟨vr, l1 0 _ _ ⟨by omega, rg_fr_up (rg_fr_tr (rg_fr_up (rg_fr_rf _ _) (by decide) _ _) (rg_fr_sub hf (by decide))) (by decide) _ _, ?_, ?_, ⟨?_, ?_, ?_, fun t ht => ?_, fun t ht => ?_⟩, fun i hi => ?_, rg_up_ss _ _ _ _, fun q hq => ?_, fun b hb => absurd hb (by omega)⟩ (fun w2 g1 g2 g3 g4 g5 a5 => l2 w2 g5 g1 g2 g3 g4 0 w2 a5 ⟨by omega, rg_fr_rf _ _, fun b hb => absurd hb (by omega)⟩)⟩
      · rw [rg_up_n (by decide), hq 0 (by decide) (by decide) (by decide), rg_up_ss]
      · rw [rg_up_n (by decide)]; exact r1
      · rw [rg_up_n (by decide)]; exact q5
      · rw [rg_up_n (by decide)]; exact q9
      · rw [rg_up_n (by decide)]; exact q17
      · rw [rg_up_n (by decide)]; exact q28 t ht
      · rw [rg_up_n (by decide)]; exact q29 t ht
      · rw [rg_up_s, upd_n (by omega), hf.1 19 (by decide), rg_up_n (by decide)]
      · rw [rg_up_n (by decide), hf.1 20 (by decide), rg_up_n (by decide)]
