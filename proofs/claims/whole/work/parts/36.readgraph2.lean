/-! ReadGraph: the methods that throw -/
theorem thC_w1 : (vx_atS "ReadGraph" 36 "java/lang/IllegalArgumentException" rg_sup).all (fun w => decide (w ∈ tables_1) && (goodWord w || rg_isDC w)) = true := by decide +kernel
theorem thC_w2 : (vx_atS "ReadGraph" 47 "java/lang/IllegalStateException" rg_sup).all (fun w => decide (w ∈ tables_1) && (goodWord w || rg_isDC w)) = true := by decide +kernel
theorem thC_w3 : (vx_atS "ReadGraph" 69 "java/lang/IndexOutOfBoundsException" rg_sup).all (fun w => decide (w ∈ tables_1) && (goodWord w || rg_isDC w)) = true := by decide +kernel
theorem thC_of {L : List Cond} (h : L.all (fun w => decide (w ∈ tables_1) && (goodWord w || rg_isDC w)) = true) : ∀ w ∈ L, w ∈ rg_TS ∨ w ∈ rg_DC := by
  intro w hw
  have := List.all_eq_true.mp h w hw
  rw [Bool.and_eq_true, Bool.or_eq_true, decide_eq_true_eq] at this
  rcases this.2 with g | g
  · exact Or.inl (rg_in g this.1)
  · exact Or.inr (List.mem_filter.mpr ⟨this.1, g⟩)
theorem thC_mk {k ik ic : Nat} (h1 : Bundle.fit (exN k) = true) (h2 : Cond.classLink "ReadGraph" ik (exN k) ∈ rg_TS) (h3 : Cond.initialized (exN k) ∈ rg_TS) (h4 : ∀ w ∈ vx_atS "ReadGraph" ic (exN k) rg_sup, w ∈ rg_TS ∨ w ∈ rg_DC) (a b : Nat) (t : String) : rg_ThC (a, k, ik, b, ic, t) := ⟨h1, h2, h3, h4⟩
theorem thC_1 (a b : Nat) (t : String) : rg_ThC (a, 1, 32, b, 36, t) := thC_mk (k := 1) (ik := 32) (ic := 36) (by decide +kernel) (rg_in rfl (by decide +kernel)) (rg_in rfl (by decide +kernel)) (thC_of thC_w1) a b t
theorem thC_2 (a b : Nat) (t : String) : rg_ThC (a, 2, 43, b, 47, t) := thC_mk (k := 2) (ik := 43) (ic := 47) (by decide +kernel) (rg_in rfl (by decide +kernel)) (rg_in rfl (by decide +kernel)) (thC_of thC_w2) a b t
theorem thC_3 (a b : Nat) (t : String) : rg_ThC (a, 3, 65, b, 69, t) := thC_mk (k := 3) (ik := 65) (ic := 69) (by decide +kernel) (rg_in rfl (by decide +kernel)) (rg_in rfl (by decide +kernel)) (thC_of thC_w3) a b t
theorem in_nf (x y : Int32) : (!decide (x < 0) && !decide (y ≤ x)) = !(decide (x < 0) || !decide (x < y)) := by
  rw [not_lt_le (x := x) (y := y)]
  cases decide (x < 0) <;> cases decide (y ≤ x) <;> rfl
-- G.contained
def P_G_contained : rg_P := (rg_F_G, [(111, 2, 0, T_R_has), (147, 2, 0, T_R_isNode)], [], [], [], [], 0)
def T_G_contained : rg_T := fun as w K => match as with
  | [.ref 0, .int r] => ∃ nr ln pk, Rd nr ln pk w ∧ ((decide (r < 0) || !decide (r < nI nr)) = true → K (some (.float (UInt32.ofNat 1))) w) ∧ ∀ i, i < nr → r = nI i → K (some (.int (zI (!ndN nr ln pk i)))) w
  | _ => False
theorem Te_G_contained (r : Int32) (w : rg_W) (K : Option Value → rg_W → Prop) : T_G_contained [.ref 0, .int r] w K = (∃ nr ln pk, Rd nr ln pk w ∧ ((decide (r < 0) || !decide (r < nI nr)) = true → K (some (.float (UInt32.ofNat 1))) w) ∧ ∀ i, i < nr → r = nI i → K (some (.int (zI (!ndN nr ln pk i)))) w) := rfl
theorem r_G_contained : ∀ as w K, T_G_contained as w K → ∃ r, as = .ref 0 :: r := by
  intro as w K h
  unfold T_G_contained at h
  split at h
  · exact ⟨_, rfl⟩
  · exact h.elim
theorem G_G_contained (l : Launch) (hl : l.stackTraces = false) : rg_GoodX l y_G_contained c_G_contained 2 (some .boolean) 6 T_G_contained := by
  refine rg_goodX_of (P := P_G_contained) (thr := [(11, 1, 32, 59, 36, "no such read")]) hl (by decide) (by decide) rfl (rg_pok rg_F_G_ok (rg_cons (cw_G_55 (G_R_has l) (by decide) r_R_has) (rg_cons (cw_G_73 (G_R_isNode l) (by decide) r_R_isNode) rg_nil))) (List.forall_mem_cons.mpr ⟨rfl, (List.forall_mem_cons.mpr ⟨rfl, (List.forall_mem_nil _)⟩)⟩) (List.forall_mem_cons.mpr ⟨⟨⟨d_G_contained_11, d_G_contained_14, d_G_contained_15, d_G_contained_17, d_G_contained_20, by decide +kernel, by decide, by decide⟩, thC_1 _ _ _⟩, List.forall_mem_nil _⟩) ?_
  intro as w K Z hT hZ hX
  unfold T_G_contained at hT
  split at hT
  rotate_left
  · exact hT.elim
  rename_i r
  refine ⟨Nat.le_of_ble_eq_true rfl, ?_⟩
  show Z 0 [.ref 0, .int r] [] w 0
  obtain ⟨nr, ln, pk, hR, hK1, hK2⟩ := hT
  have hc := hR.2.1
  have hn9 := hR.1
  have z1 : (zI true = 0) = False := by decide +kernel
  have z0 : (zI false = 0) = True := by decide +kernel
  rcases in_or r (n := nr) (by omega) with ⟨h, -⟩ | ⟨i, hi, rfl⟩
  · refine hZ (rg_cut [11]) 400 0 _ _ _ ?_; simp only [rg_e_aload_0 (cut := rg_cut [11]) (f := true) d_G_contained_0 rfl 1 rfl, rg_e_getr (P := P_G_contained) (cut := rg_cut [11]) (f := false) d_G_contained_1 rfl 4 rfl 0 0 0 1 rfl (fun _ => rfl), rg_e_iload_1 (cut := rg_cut [11]) (f := false) d_G_contained_4 rfl 5 rfl, rg_e_cv2 (P := P_G_contained) (cut := rg_cut [11]) (f := false) d_G_contained_5 rfl T_R_has rfl, rg_e_if_ne (cut := rg_cut [11]) (f := false) d_G_contained_8 rfl 11 rfl 21 rfl, rg_e_aload_0 (cut := rg_cut [11]) (f := false) d_G_contained_21 rfl 22 rfl, rg_e_getr (P := P_G_contained) (cut := rg_cut [11]) (f := false) d_G_contained_22 rfl 25 rfl 0 0 0 1 rfl (fun _ => rfl), rg_e_iload_1 (cut := rg_cut [11]) (f := false) d_G_contained_25 rfl 26 rfl, rg_e_cv2 (P := P_G_contained) (cut := rg_cut [11]) (f := false) d_G_contained_26 rfl T_R_isNode rfl, rg_e_if_ne (cut := rg_cut [11]) (f := false) d_G_contained_29 rfl 32 rfl 36 rfl, rg_e_iconst (cut := rg_cut [11]) (f := false) d_G_contained_32 rfl 33 rfl (nI 1) rg_ki_1, rg_e_goto (cut := rg_cut [11]) (f := false) d_G_contained_33 rfl 37 rfl, rg_e_iconst (cut := rg_cut [11]) (f := false) d_G_contained_36 rfl 37 rfl (nI 0) rg_ki_0, rg_e_iret (cut := rg_cut [11]) (f := false) d_G_contained_37 rfl, rg_e_cut (cut := rg_cut [11]) 11 rfl, rg_nx_i, rg_nx_v, rg_wd_n, rg_wd_i, rg_wd_l, rg_wd_r, rg_clr_i, rg_clr_l, rg_clr_r, rg_clr_a, rg_clr_n, true_and, and_true, Nat.reduceAdd, Nat.reduceLeDiff, ↓Te_R_has, ↓Te_R_isNode, rg_rt_e, rg_fit_ie, rg_fit_ve, rg_fit_1e, rg_fit_0e, rg_fit_be, hc, in_nf, h, z1, z0, Bool.not_true, Bool.not_false, not_false_eq_true, forall_const, false_imp_iff, not_true_eq_false, and_true, true_and]
    exact hX _ List.mem_cons_self _ _ (hK1 h)
  · have h := in_f hi (show nr < 2 ^ 31 by omega)
    have hK2 := hK2 i hi rfl
    refine hZ (rg_cut [11]) 400 0 _ _ _ ?_; simp only [rg_e_aload_0 (cut := rg_cut [11]) (f := true) d_G_contained_0 rfl 1 rfl, rg_e_getr (P := P_G_contained) (cut := rg_cut [11]) (f := false) d_G_contained_1 rfl 4 rfl 0 0 0 1 rfl (fun _ => rfl), rg_e_iload_1 (cut := rg_cut [11]) (f := false) d_G_contained_4 rfl 5 rfl, rg_e_cv2 (P := P_G_contained) (cut := rg_cut [11]) (f := false) d_G_contained_5 rfl T_R_has rfl, rg_e_if_ne (cut := rg_cut [11]) (f := false) d_G_contained_8 rfl 11 rfl 21 rfl, rg_e_aload_0 (cut := rg_cut [11]) (f := false) d_G_contained_21 rfl 22 rfl, rg_e_getr (P := P_G_contained) (cut := rg_cut [11]) (f := false) d_G_contained_22 rfl 25 rfl 0 0 0 1 rfl (fun _ => rfl), rg_e_iload_1 (cut := rg_cut [11]) (f := false) d_G_contained_25 rfl 26 rfl, rg_e_cv2 (P := P_G_contained) (cut := rg_cut [11]) (f := false) d_G_contained_26 rfl T_R_isNode rfl, rg_e_if_ne (cut := rg_cut [11]) (f := false) d_G_contained_29 rfl 32 rfl 36 rfl, rg_e_iconst (cut := rg_cut [11]) (f := false) d_G_contained_32 rfl 33 rfl (nI 1) rg_ki_1, rg_e_goto (cut := rg_cut [11]) (f := false) d_G_contained_33 rfl 37 rfl, rg_e_iconst (cut := rg_cut [11]) (f := false) d_G_contained_36 rfl 37 rfl (nI 0) rg_ki_0, rg_e_iret (cut := rg_cut [11]) (f := false) d_G_contained_37 rfl, rg_e_cut (cut := rg_cut [11]) 11 rfl, rg_nx_i, rg_nx_v, rg_wd_n, rg_wd_i, rg_wd_l, rg_wd_r, rg_clr_i, rg_clr_l, rg_clr_r, rg_clr_a, rg_clr_n, true_and, and_true, Nat.reduceAdd, Nat.reduceLeDiff, ↓Te_R_has, ↓Te_R_isNode, rg_rt_e, rg_fit_ie, rg_fit_ve, rg_fit_1e, rg_fit_0e, rg_fit_be, hc, in_nf, h, z1, z0, zI_eq, Bool.not_true, Bool.not_false, not_false_eq_true, forall_const, false_imp_iff, not_true_eq_false, and_true, true_and, Bool.true_eq_false]
    refine ⟨nr, ln, pk, hR, ?_⟩
    rw [ndB_n (by omega) (by omega)]
    cases hb : ndN nr ln pk i with
    | true =>
      rw [hb] at hK2
      exact ⟨fun _ => hK2, fun z => absurd (fun y => by cases y) z⟩
    | false =>
      rw [hb] at hK2
      exact ⟨fun z => absurd rfl z, fun _ => hK2⟩
-- G.letter
def P_G_letter : rg_P := (rg_F_G, [(111, 2, 0, T_R_has), (141, 3, 0, T_R_letterAt)], [], [], [], [], 0)
def T_G_letter : rg_T := fun as w K => match as with
  | [.ref 0, .int r, .int k] => ∃ nr ln pk, Rd nr ln pk w ∧ ((decide (r < 0) || !decide (r < nI nr)) = true → K (some (.float (UInt32.ofNat 1))) w) ∧ ∀ i, i < nr → r = nI i → ixC k (ln i) (K (some (.float (UInt32.ofNat 3))) w) (K (some (.int (nI (ln i)))) w) (fun q => K (some (.int (nI (lt4 (ln i) (pk i) q)))) w)
  | _ => False
theorem Te_G_letter (r : Int32) (k : Int32) (w : rg_W) (K : Option Value → rg_W → Prop) : T_G_letter [.ref 0, .int r, .int k] w K = (∃ nr ln pk, Rd nr ln pk w ∧ ((decide (r < 0) || !decide (r < nI nr)) = true → K (some (.float (UInt32.ofNat 1))) w) ∧ ∀ i, i < nr → r = nI i → ixC k (ln i) (K (some (.float (UInt32.ofNat 3))) w) (K (some (.int (nI (ln i)))) w) (fun q => K (some (.int (nI (lt4 (ln i) (pk i) q)))) w)) := rfl
theorem r_G_letter : ∀ as w K, T_G_letter as w K → ∃ r, as = .ref 0 :: r := by
  intro as w K h
  unfold T_G_letter at h
  split at h
  · exact ⟨_, rfl⟩
  · exact h.elim
theorem G_G_letter (l : Launch) (hl : l.stackTraces = false) : rg_GoodX l y_G_letter c_G_letter 3 (some .int) 6 T_G_letter := by
  refine rg_goodX_of (P := P_G_letter) (thr := [(11, 1, 32, 59, 36, "no such read"), (39, 3, 65, 67, 69, "no such letter")]) hl (by decide) (by decide) rfl (rg_pok rg_F_G_ok (rg_cons (cw_G_55 (G_R_has l) (by decide) r_R_has) (rg_cons (cw_G_70 (G_R_letterAt l) (by decide) r_R_letterAt) rg_nil))) (List.forall_mem_cons.mpr ⟨rfl, (List.forall_mem_cons.mpr ⟨rfl, (List.forall_mem_nil _)⟩)⟩) (List.forall_mem_cons.mpr ⟨⟨⟨d_G_letter_11, d_G_letter_14, d_G_letter_15, d_G_letter_17, d_G_letter_20, by decide +kernel, by decide, by decide⟩, thC_1 _ _ _⟩, (List.forall_mem_cons.mpr ⟨⟨⟨d_G_letter_39, d_G_letter_42, d_G_letter_43, d_G_letter_45, d_G_letter_48, by decide +kernel, by decide, by decide⟩, thC_3 _ _ _⟩, List.forall_mem_nil _⟩)⟩) ?_
  intro as w K Z hT hZ hX
  unfold T_G_letter at hT
  split at hT
  rotate_left
  · exact hT.elim
  rename_i r k
  refine ⟨Nat.le_of_ble_eq_true rfl, ?_⟩
  show Z 0 [.ref 0, .int r, .int k] [] w 0
  obtain ⟨nr, ln, pk, hR, hK1, hK2⟩ := hT
  have hc := hR.2.1
  have hn9 := hR.1
  have z1 : (zI true = 0) = False := by decide +kernel
  have z0 : (zI false = 0) = True := by decide +kernel
  rcases in_or r (n := nr) (by omega) with ⟨h, -⟩ | ⟨i, hi, rfl⟩
  · refine hZ (rg_cut [11, 39]) 400 0 _ _ _ ?_; simp only [rg_e_aload_0 (cut := rg_cut [11, 39]) (f := true) d_G_letter_0 rfl 1 rfl, rg_e_getr (P := P_G_letter) (cut := rg_cut [11, 39]) (f := false) d_G_letter_1 rfl 4 rfl 0 0 0 1 rfl (fun _ => rfl), rg_e_iload_1 (cut := rg_cut [11, 39]) (f := false) d_G_letter_4 rfl 5 rfl, rg_e_cv2 (P := P_G_letter) (cut := rg_cut [11, 39]) (f := false) d_G_letter_5 rfl T_R_has rfl, rg_e_if_ne (cut := rg_cut [11, 39]) (f := false) d_G_letter_8 rfl 11 rfl 21 rfl, rg_e_iload_2 (cut := rg_cut [11, 39]) (f := false) d_G_letter_21 rfl 22 rfl, rg_e_iconst (cut := rg_cut [11, 39]) (f := false) d_G_letter_22 rfl 23 rfl (-1) rg_ki_m1, rg_e_icmp_lt (cut := rg_cut [11, 39]) (f := false) d_G_letter_23 rfl 26 rfl 39 rfl, rg_e_iload_2 (cut := rg_cut [11, 39]) (f := false) d_G_letter_26 rfl 27 rfl, rg_e_aload_0 (cut := rg_cut [11, 39]) (f := false) d_G_letter_27 rfl 28 rfl, rg_e_getr (P := P_G_letter) (cut := rg_cut [11, 39]) (f := false) d_G_letter_28 rfl 31 rfl 0 0 0 1 rfl (fun _ => rfl), rg_e_getr (P := P_G_letter) (cut := rg_cut [11, 39]) (f := false) d_G_letter_31 rfl 34 rfl 1 1 1 3 rfl (fun _ => rfl), rg_e_iload_1 (cut := rg_cut [11, 39]) (f := false) d_G_letter_34 rfl 35 rfl, rg_e_iald (cut := rg_cut [11, 39]) (f := false) d_G_letter_35 rfl 36 rfl 3 9 rfl, rg_e_icmp_lt (cut := rg_cut [11, 39]) (f := false) d_G_letter_36 rfl 39 rfl 49 rfl, rg_e_iload_2 (cut := rg_cut [11, 39]) (f := false) d_G_letter_49 rfl 50 rfl, rg_e_iconst (cut := rg_cut [11, 39]) (f := false) d_G_letter_50 rfl 51 rfl (-1) rg_ki_m1, rg_e_icmp_ne (cut := rg_cut [11, 39]) (f := false) d_G_letter_51 rfl 54 rfl 66 rfl, rg_e_aload_0 (cut := rg_cut [11, 39]) (f := false) d_G_letter_54 rfl 55 rfl, rg_e_getr (P := P_G_letter) (cut := rg_cut [11, 39]) (f := false) d_G_letter_55 rfl 58 rfl 0 0 0 1 rfl (fun _ => rfl), rg_e_getr (P := P_G_letter) (cut := rg_cut [11, 39]) (f := false) d_G_letter_58 rfl 61 rfl 1 1 1 3 rfl (fun _ => rfl), rg_e_iload_1 (cut := rg_cut [11, 39]) (f := false) d_G_letter_61 rfl 62 rfl, rg_e_iald (cut := rg_cut [11, 39]) (f := false) d_G_letter_62 rfl 63 rfl 3 9 rfl, rg_e_goto (cut := rg_cut [11, 39]) (f := false) d_G_letter_63 rfl 75 rfl, rg_e_aload_0 (cut := rg_cut [11, 39]) (f := false) d_G_letter_66 rfl 67 rfl, rg_e_getr (P := P_G_letter) (cut := rg_cut [11, 39]) (f := false) d_G_letter_67 rfl 70 rfl 0 0 0 1 rfl (fun _ => rfl), rg_e_iload_1 (cut := rg_cut [11, 39]) (f := false) d_G_letter_70 rfl 71 rfl, rg_e_iload_2 (cut := rg_cut [11, 39]) (f := false) d_G_letter_71 rfl 72 rfl, rg_e_cv3 (P := P_G_letter) (cut := rg_cut [11, 39]) (f := false) d_G_letter_72 rfl T_R_letterAt rfl, rg_e_iret (cut := rg_cut [11, 39]) (f := false) d_G_letter_75 rfl, rg_e_cut (cut := rg_cut [11, 39]) 11 rfl, rg_e_cut (cut := rg_cut [11, 39]) 39 rfl, rg_nx_i, rg_nx_v, rg_wd_n, rg_wd_i, rg_wd_l, rg_wd_r, rg_clr_i, rg_clr_l, rg_clr_r, rg_clr_a, rg_clr_n, true_and, and_true, Nat.reduceAdd, Nat.reduceLeDiff, ↓Te_R_has, ↓Te_R_letterAt, rg_rt_e, rg_fit_ie, rg_fit_ve, rg_fit_1e, rg_fit_0e, rg_fit_be, hc, in_nf, h, z1, z0, Bool.not_true, Bool.not_false, not_false_eq_true, forall_const, false_imp_iff, not_true_eq_false, and_true, true_and, Bool.true_eq_false]
    exact hX _ List.mem_cons_self _ _ (hK1 h)
  · have h := in_f hi (show nr < 2 ^ 31 by omega)
    obtain ⟨h1, h2, h3⟩ := hK2 i hi rfl
    obtain ⟨q1, q2, q3, q4, q5⟩ := hR.2.2 i hi
    have vi : vp_in (nI i) 9 := vp_in_nI (by omega) (by omega)
    have ci : (nI i).toNatClampNeg = i := nI_clamp (by omega)
    rcases ix_or k (n := ln i) (by omega) with g | ⟨g1, g2, g3, g4⟩ | rfl | ⟨q, hq, rfl⟩
    · refine hZ (rg_cut [11, 39]) 400 0 _ _ _ ?_; simp only [rg_e_aload_0 (cut := rg_cut [11, 39]) (f := true) d_G_letter_0 rfl 1 rfl, rg_e_getr (P := P_G_letter) (cut := rg_cut [11, 39]) (f := false) d_G_letter_1 rfl 4 rfl 0 0 0 1 rfl (fun _ => rfl), rg_e_iload_1 (cut := rg_cut [11, 39]) (f := false) d_G_letter_4 rfl 5 rfl, rg_e_cv2 (P := P_G_letter) (cut := rg_cut [11, 39]) (f := false) d_G_letter_5 rfl T_R_has rfl, rg_e_if_ne (cut := rg_cut [11, 39]) (f := false) d_G_letter_8 rfl 11 rfl 21 rfl, rg_e_iload_2 (cut := rg_cut [11, 39]) (f := false) d_G_letter_21 rfl 22 rfl, rg_e_iconst (cut := rg_cut [11, 39]) (f := false) d_G_letter_22 rfl 23 rfl (-1) rg_ki_m1, rg_e_icmp_lt (cut := rg_cut [11, 39]) (f := false) d_G_letter_23 rfl 26 rfl 39 rfl, rg_e_iload_2 (cut := rg_cut [11, 39]) (f := false) d_G_letter_26 rfl 27 rfl, rg_e_aload_0 (cut := rg_cut [11, 39]) (f := false) d_G_letter_27 rfl 28 rfl, rg_e_getr (P := P_G_letter) (cut := rg_cut [11, 39]) (f := false) d_G_letter_28 rfl 31 rfl 0 0 0 1 rfl (fun _ => rfl), rg_e_getr (P := P_G_letter) (cut := rg_cut [11, 39]) (f := false) d_G_letter_31 rfl 34 rfl 1 1 1 3 rfl (fun _ => rfl), rg_e_iload_1 (cut := rg_cut [11, 39]) (f := false) d_G_letter_34 rfl 35 rfl, rg_e_iald (cut := rg_cut [11, 39]) (f := false) d_G_letter_35 rfl 36 rfl 3 9 rfl, rg_e_icmp_lt (cut := rg_cut [11, 39]) (f := false) d_G_letter_36 rfl 39 rfl 49 rfl, rg_e_iload_2 (cut := rg_cut [11, 39]) (f := false) d_G_letter_49 rfl 50 rfl, rg_e_iconst (cut := rg_cut [11, 39]) (f := false) d_G_letter_50 rfl 51 rfl (-1) rg_ki_m1, rg_e_icmp_ne (cut := rg_cut [11, 39]) (f := false) d_G_letter_51 rfl 54 rfl 66 rfl, rg_e_aload_0 (cut := rg_cut [11, 39]) (f := false) d_G_letter_54 rfl 55 rfl, rg_e_getr (P := P_G_letter) (cut := rg_cut [11, 39]) (f := false) d_G_letter_55 rfl 58 rfl 0 0 0 1 rfl (fun _ => rfl), rg_e_getr (P := P_G_letter) (cut := rg_cut [11, 39]) (f := false) d_G_letter_58 rfl 61 rfl 1 1 1 3 rfl (fun _ => rfl), rg_e_iload_1 (cut := rg_cut [11, 39]) (f := false) d_G_letter_61 rfl 62 rfl, rg_e_iald (cut := rg_cut [11, 39]) (f := false) d_G_letter_62 rfl 63 rfl 3 9 rfl, rg_e_goto (cut := rg_cut [11, 39]) (f := false) d_G_letter_63 rfl 75 rfl, rg_e_aload_0 (cut := rg_cut [11, 39]) (f := false) d_G_letter_66 rfl 67 rfl, rg_e_getr (P := P_G_letter) (cut := rg_cut [11, 39]) (f := false) d_G_letter_67 rfl 70 rfl 0 0 0 1 rfl (fun _ => rfl), rg_e_iload_1 (cut := rg_cut [11, 39]) (f := false) d_G_letter_70 rfl 71 rfl, rg_e_iload_2 (cut := rg_cut [11, 39]) (f := false) d_G_letter_71 rfl 72 rfl, rg_e_cv3 (P := P_G_letter) (cut := rg_cut [11, 39]) (f := false) d_G_letter_72 rfl T_R_letterAt rfl, rg_e_iret (cut := rg_cut [11, 39]) (f := false) d_G_letter_75 rfl, rg_e_cut (cut := rg_cut [11, 39]) 11 rfl, rg_e_cut (cut := rg_cut [11, 39]) 39 rfl, rg_nx_i, rg_nx_v, rg_wd_n, rg_wd_i, rg_wd_l, rg_wd_r, rg_clr_i, rg_clr_l, rg_clr_r, rg_clr_a, rg_clr_n, true_and, and_true, Nat.reduceAdd, Nat.reduceLeDiff, ↓Te_R_has, ↓Te_R_letterAt, rg_rt_e, rg_fit_ie, rg_fit_ve, rg_fit_1e, rg_fit_0e, rg_fit_be, hc, in_nf, h, g, z1, z0, Bool.not_true, Bool.not_false, not_false_eq_true, forall_const, false_imp_iff, not_true_eq_false, and_true, true_and, Bool.true_eq_false]
      exact hX _ (List.mem_cons_of_mem _ List.mem_cons_self) _ _ (h1 (Or.inl (of_eq_true g)))
    · refine hZ (rg_cut [11, 39]) 400 0 _ _ _ ?_; simp only [rg_e_aload_0 (cut := rg_cut [11, 39]) (f := true) d_G_letter_0 rfl 1 rfl, rg_e_getr (P := P_G_letter) (cut := rg_cut [11, 39]) (f := false) d_G_letter_1 rfl 4 rfl 0 0 0 1 rfl (fun _ => rfl), rg_e_iload_1 (cut := rg_cut [11, 39]) (f := false) d_G_letter_4 rfl 5 rfl, rg_e_cv2 (P := P_G_letter) (cut := rg_cut [11, 39]) (f := false) d_G_letter_5 rfl T_R_has rfl, rg_e_if_ne (cut := rg_cut [11, 39]) (f := false) d_G_letter_8 rfl 11 rfl 21 rfl, rg_e_iload_2 (cut := rg_cut [11, 39]) (f := false) d_G_letter_21 rfl 22 rfl, rg_e_iconst (cut := rg_cut [11, 39]) (f := false) d_G_letter_22 rfl 23 rfl (-1) rg_ki_m1, rg_e_icmp_lt (cut := rg_cut [11, 39]) (f := false) d_G_letter_23 rfl 26 rfl 39 rfl, rg_e_iload_2 (cut := rg_cut [11, 39]) (f := false) d_G_letter_26 rfl 27 rfl, rg_e_aload_0 (cut := rg_cut [11, 39]) (f := false) d_G_letter_27 rfl 28 rfl, rg_e_getr (P := P_G_letter) (cut := rg_cut [11, 39]) (f := false) d_G_letter_28 rfl 31 rfl 0 0 0 1 rfl (fun _ => rfl), rg_e_getr (P := P_G_letter) (cut := rg_cut [11, 39]) (f := false) d_G_letter_31 rfl 34 rfl 1 1 1 3 rfl (fun _ => rfl), rg_e_iload_1 (cut := rg_cut [11, 39]) (f := false) d_G_letter_34 rfl 35 rfl, rg_e_iald (cut := rg_cut [11, 39]) (f := false) d_G_letter_35 rfl 36 rfl 3 9 rfl, rg_e_icmp_lt (cut := rg_cut [11, 39]) (f := false) d_G_letter_36 rfl 39 rfl 49 rfl, rg_e_iload_2 (cut := rg_cut [11, 39]) (f := false) d_G_letter_49 rfl 50 rfl, rg_e_iconst (cut := rg_cut [11, 39]) (f := false) d_G_letter_50 rfl 51 rfl (-1) rg_ki_m1, rg_e_icmp_ne (cut := rg_cut [11, 39]) (f := false) d_G_letter_51 rfl 54 rfl 66 rfl, rg_e_aload_0 (cut := rg_cut [11, 39]) (f := false) d_G_letter_54 rfl 55 rfl, rg_e_getr (P := P_G_letter) (cut := rg_cut [11, 39]) (f := false) d_G_letter_55 rfl 58 rfl 0 0 0 1 rfl (fun _ => rfl), rg_e_getr (P := P_G_letter) (cut := rg_cut [11, 39]) (f := false) d_G_letter_58 rfl 61 rfl 1 1 1 3 rfl (fun _ => rfl), rg_e_iload_1 (cut := rg_cut [11, 39]) (f := false) d_G_letter_61 rfl 62 rfl, rg_e_iald (cut := rg_cut [11, 39]) (f := false) d_G_letter_62 rfl 63 rfl 3 9 rfl, rg_e_goto (cut := rg_cut [11, 39]) (f := false) d_G_letter_63 rfl 75 rfl, rg_e_aload_0 (cut := rg_cut [11, 39]) (f := false) d_G_letter_66 rfl 67 rfl, rg_e_getr (P := P_G_letter) (cut := rg_cut [11, 39]) (f := false) d_G_letter_67 rfl 70 rfl 0 0 0 1 rfl (fun _ => rfl), rg_e_iload_1 (cut := rg_cut [11, 39]) (f := false) d_G_letter_70 rfl 71 rfl, rg_e_iload_2 (cut := rg_cut [11, 39]) (f := false) d_G_letter_71 rfl 72 rfl, rg_e_cv3 (P := P_G_letter) (cut := rg_cut [11, 39]) (f := false) d_G_letter_72 rfl T_R_letterAt rfl, rg_e_iret (cut := rg_cut [11, 39]) (f := false) d_G_letter_75 rfl, rg_e_cut (cut := rg_cut [11, 39]) 11 rfl, rg_e_cut (cut := rg_cut [11, 39]) 39 rfl, rg_nx_i, rg_nx_v, rg_wd_n, rg_wd_i, rg_wd_l, rg_wd_r, rg_clr_i, rg_clr_l, rg_clr_r, rg_clr_a, rg_clr_n, true_and, and_true, Nat.reduceAdd, Nat.reduceLeDiff, ↓Te_R_has, ↓Te_R_letterAt, rg_rt_e, rg_fit_ie, rg_fit_ve, rg_fit_1e, rg_fit_0e, rg_fit_be, hc, in_nf, h, g1, g2, vi, ci, q4, z1, z0, Bool.not_true, Bool.not_false, not_false_eq_true, forall_const, false_imp_iff, not_true_eq_false, and_true, true_and, Bool.true_eq_false]
      exact hX _ (List.mem_cons_of_mem _ List.mem_cons_self) _ _ (h1 (Or.inr ⟨g1, g2, g3, g4⟩))
    · have g1 := ix_m.2.1
      have g3 := m1_lt (n := ln i) (by omega)
      refine hZ (rg_cut [11, 39]) 400 0 _ _ _ ?_; simp only [rg_e_aload_0 (cut := rg_cut [11, 39]) (f := true) d_G_letter_0 rfl 1 rfl, rg_e_getr (P := P_G_letter) (cut := rg_cut [11, 39]) (f := false) d_G_letter_1 rfl 4 rfl 0 0 0 1 rfl (fun _ => rfl), rg_e_iload_1 (cut := rg_cut [11, 39]) (f := false) d_G_letter_4 rfl 5 rfl, rg_e_cv2 (P := P_G_letter) (cut := rg_cut [11, 39]) (f := false) d_G_letter_5 rfl T_R_has rfl, rg_e_if_ne (cut := rg_cut [11, 39]) (f := false) d_G_letter_8 rfl 11 rfl 21 rfl, rg_e_iload_2 (cut := rg_cut [11, 39]) (f := false) d_G_letter_21 rfl 22 rfl, rg_e_iconst (cut := rg_cut [11, 39]) (f := false) d_G_letter_22 rfl 23 rfl (-1) rg_ki_m1, rg_e_icmp_lt (cut := rg_cut [11, 39]) (f := false) d_G_letter_23 rfl 26 rfl 39 rfl, rg_e_iload_2 (cut := rg_cut [11, 39]) (f := false) d_G_letter_26 rfl 27 rfl, rg_e_aload_0 (cut := rg_cut [11, 39]) (f := false) d_G_letter_27 rfl 28 rfl, rg_e_getr (P := P_G_letter) (cut := rg_cut [11, 39]) (f := false) d_G_letter_28 rfl 31 rfl 0 0 0 1 rfl (fun _ => rfl), rg_e_getr (P := P_G_letter) (cut := rg_cut [11, 39]) (f := false) d_G_letter_31 rfl 34 rfl 1 1 1 3 rfl (fun _ => rfl), rg_e_iload_1 (cut := rg_cut [11, 39]) (f := false) d_G_letter_34 rfl 35 rfl, rg_e_iald (cut := rg_cut [11, 39]) (f := false) d_G_letter_35 rfl 36 rfl 3 9 rfl, rg_e_icmp_lt (cut := rg_cut [11, 39]) (f := false) d_G_letter_36 rfl 39 rfl 49 rfl, rg_e_iload_2 (cut := rg_cut [11, 39]) (f := false) d_G_letter_49 rfl 50 rfl, rg_e_iconst (cut := rg_cut [11, 39]) (f := false) d_G_letter_50 rfl 51 rfl (-1) rg_ki_m1, rg_e_icmp_ne (cut := rg_cut [11, 39]) (f := false) d_G_letter_51 rfl 54 rfl 66 rfl, rg_e_aload_0 (cut := rg_cut [11, 39]) (f := false) d_G_letter_54 rfl 55 rfl, rg_e_getr (P := P_G_letter) (cut := rg_cut [11, 39]) (f := false) d_G_letter_55 rfl 58 rfl 0 0 0 1 rfl (fun _ => rfl), rg_e_getr (P := P_G_letter) (cut := rg_cut [11, 39]) (f := false) d_G_letter_58 rfl 61 rfl 1 1 1 3 rfl (fun _ => rfl), rg_e_iload_1 (cut := rg_cut [11, 39]) (f := false) d_G_letter_61 rfl 62 rfl, rg_e_iald (cut := rg_cut [11, 39]) (f := false) d_G_letter_62 rfl 63 rfl 3 9 rfl, rg_e_goto (cut := rg_cut [11, 39]) (f := false) d_G_letter_63 rfl 75 rfl, rg_e_aload_0 (cut := rg_cut [11, 39]) (f := false) d_G_letter_66 rfl 67 rfl, rg_e_getr (P := P_G_letter) (cut := rg_cut [11, 39]) (f := false) d_G_letter_67 rfl 70 rfl 0 0 0 1 rfl (fun _ => rfl), rg_e_iload_1 (cut := rg_cut [11, 39]) (f := false) d_G_letter_70 rfl 71 rfl, rg_e_iload_2 (cut := rg_cut [11, 39]) (f := false) d_G_letter_71 rfl 72 rfl, rg_e_cv3 (P := P_G_letter) (cut := rg_cut [11, 39]) (f := false) d_G_letter_72 rfl T_R_letterAt rfl, rg_e_iret (cut := rg_cut [11, 39]) (f := false) d_G_letter_75 rfl, rg_e_cut (cut := rg_cut [11, 39]) 11 rfl, rg_e_cut (cut := rg_cut [11, 39]) 39 rfl, rg_nx_i, rg_nx_v, rg_wd_n, rg_wd_i, rg_wd_l, rg_wd_r, rg_clr_i, rg_clr_l, rg_clr_r, rg_clr_a, rg_clr_n, true_and, and_true, Nat.reduceAdd, Nat.reduceLeDiff, ↓Te_R_has, ↓Te_R_letterAt, rg_rt_e, rg_fit_ie, rg_fit_ve, rg_fit_1e, rg_fit_0e, rg_fit_be, hc, in_nf, h, g1, g3, vi, ci, q4, z1, z0, Bool.not_true, Bool.not_false, not_false_eq_true, forall_const, false_imp_iff, not_true_eq_false, and_true, true_and, Bool.true_eq_false]
      exact h2 rfl
    · have g1 := nI_ltm (q := q) (by omega)
      have g3 : (nI q < nI (ln i)) = True := eq_true (nI_lt hq (by omega))
      have g4 : (nI q = -1) = False := eq_false fun z => nI_pos (n := q) (by omega) (by rw [z]; decide +kernel)
      have sh := letter_n (p := pk i) (L := ln i) (k := q) (by have := hR.pk_lt hi; omega) (by omega) hq
      refine hZ (rg_cut [11, 39]) 400 0 _ _ _ ?_; simp only [rg_e_aload_0 (cut := rg_cut [11, 39]) (f := true) d_G_letter_0 rfl 1 rfl, rg_e_getr (P := P_G_letter) (cut := rg_cut [11, 39]) (f := false) d_G_letter_1 rfl 4 rfl 0 0 0 1 rfl (fun _ => rfl), rg_e_iload_1 (cut := rg_cut [11, 39]) (f := false) d_G_letter_4 rfl 5 rfl, rg_e_cv2 (P := P_G_letter) (cut := rg_cut [11, 39]) (f := false) d_G_letter_5 rfl T_R_has rfl, rg_e_if_ne (cut := rg_cut [11, 39]) (f := false) d_G_letter_8 rfl 11 rfl 21 rfl, rg_e_iload_2 (cut := rg_cut [11, 39]) (f := false) d_G_letter_21 rfl 22 rfl, rg_e_iconst (cut := rg_cut [11, 39]) (f := false) d_G_letter_22 rfl 23 rfl (-1) rg_ki_m1, rg_e_icmp_lt (cut := rg_cut [11, 39]) (f := false) d_G_letter_23 rfl 26 rfl 39 rfl, rg_e_iload_2 (cut := rg_cut [11, 39]) (f := false) d_G_letter_26 rfl 27 rfl, rg_e_aload_0 (cut := rg_cut [11, 39]) (f := false) d_G_letter_27 rfl 28 rfl, rg_e_getr (P := P_G_letter) (cut := rg_cut [11, 39]) (f := false) d_G_letter_28 rfl 31 rfl 0 0 0 1 rfl (fun _ => rfl), rg_e_getr (P := P_G_letter) (cut := rg_cut [11, 39]) (f := false) d_G_letter_31 rfl 34 rfl 1 1 1 3 rfl (fun _ => rfl), rg_e_iload_1 (cut := rg_cut [11, 39]) (f := false) d_G_letter_34 rfl 35 rfl, rg_e_iald (cut := rg_cut [11, 39]) (f := false) d_G_letter_35 rfl 36 rfl 3 9 rfl, rg_e_icmp_lt (cut := rg_cut [11, 39]) (f := false) d_G_letter_36 rfl 39 rfl 49 rfl, rg_e_iload_2 (cut := rg_cut [11, 39]) (f := false) d_G_letter_49 rfl 50 rfl, rg_e_iconst (cut := rg_cut [11, 39]) (f := false) d_G_letter_50 rfl 51 rfl (-1) rg_ki_m1, rg_e_icmp_ne (cut := rg_cut [11, 39]) (f := false) d_G_letter_51 rfl 54 rfl 66 rfl, rg_e_aload_0 (cut := rg_cut [11, 39]) (f := false) d_G_letter_54 rfl 55 rfl, rg_e_getr (P := P_G_letter) (cut := rg_cut [11, 39]) (f := false) d_G_letter_55 rfl 58 rfl 0 0 0 1 rfl (fun _ => rfl), rg_e_getr (P := P_G_letter) (cut := rg_cut [11, 39]) (f := false) d_G_letter_58 rfl 61 rfl 1 1 1 3 rfl (fun _ => rfl), rg_e_iload_1 (cut := rg_cut [11, 39]) (f := false) d_G_letter_61 rfl 62 rfl, rg_e_iald (cut := rg_cut [11, 39]) (f := false) d_G_letter_62 rfl 63 rfl 3 9 rfl, rg_e_goto (cut := rg_cut [11, 39]) (f := false) d_G_letter_63 rfl 75 rfl, rg_e_aload_0 (cut := rg_cut [11, 39]) (f := false) d_G_letter_66 rfl 67 rfl, rg_e_getr (P := P_G_letter) (cut := rg_cut [11, 39]) (f := false) d_G_letter_67 rfl 70 rfl 0 0 0 1 rfl (fun _ => rfl), rg_e_iload_1 (cut := rg_cut [11, 39]) (f := false) d_G_letter_70 rfl 71 rfl, rg_e_iload_2 (cut := rg_cut [11, 39]) (f := false) d_G_letter_71 rfl 72 rfl, rg_e_cv3 (P := P_G_letter) (cut := rg_cut [11, 39]) (f := false) d_G_letter_72 rfl T_R_letterAt rfl, rg_e_iret (cut := rg_cut [11, 39]) (f := false) d_G_letter_75 rfl, rg_e_cut (cut := rg_cut [11, 39]) 11 rfl, rg_e_cut (cut := rg_cut [11, 39]) 39 rfl, rg_nx_i, rg_nx_v, rg_wd_n, rg_wd_i, rg_wd_l, rg_wd_r, rg_clr_i, rg_clr_l, rg_clr_r, rg_clr_a, rg_clr_n, true_and, and_true, Nat.reduceAdd, Nat.reduceLeDiff, ↓Te_R_has, ↓Te_R_letterAt, rg_rt_e, rg_fit_ie, rg_fit_ve, rg_fit_1e, rg_fit_0e, rg_fit_be, hc, in_nf, h, g1, g3, g4, vi, ci, q4, q5, sh, z1, z0, Bool.not_true, Bool.not_false, not_false_eq_true, forall_const, false_imp_iff, not_true_eq_false, and_true, true_and, Bool.true_eq_false]
      exact h3 q hq rfl
theorem lst_n (x : Int32) : (!decide (x < nI 1) && !decide (nI 12 < x)) = !(decide (x - nI 1 < 0) || !decide (x - nI 1 < nI 12)) := by
  have e : ∀ k, k < 2 ^ 31 → (nI k).toInt = (k : Int) := fun k hk => nI_toInt hk
  rw [Bool.eq_iff_iff]
  simp only [Bool.and_eq_true, Bool.or_eq_false_iff, Bool.not_eq_true', decide_eq_false_iff_not, Bool.not_eq_false', decide_eq_true_eq, Int32.lt_iff_toInt_lt, Int32.toInt_sub, e 1 (by decide), e 12 (by decide), Int32.toInt_zero]
  have h1 := Int32.le_toInt x
  have h2 := Int32.toInt_lt x
  rw [Int.bmod_def]
  omega
-- G.overlap
def P_G_overlap : rg_P := (rg_F_G, [(147, 2, 0, T_R_isNode), (156, 1, 0, T_G_isLeast), (167, 4, 0, T_R_lettersShared)], [], [], [], [], 0)
def T_G_overlap : rg_T := fun as w K => match as with
  | [.ref 0, .int x, .int y, .int z] => ∃ nr ln pk, Rd nr ln pk w ∧ (ndB nr ln pk x = false ∨ ndB nr ln pk y = false ∨ x = y ∨ (decide (z - nI 1 < 0) || !decide (z - nI 1 < nI 12)) = true → K (some (.float (UInt32.ofNat 1))) w) ∧ ∀ i j least, ndN nr ln pk i = true → ndN nr ln pk j = true → i ≠ j → 1 ≤ least → least ≤ 12 → x = nI i → y = nI j → z = nI least → K (some (.int (nI (ovN ln pk i j least)))) w
  | _ => False
theorem Te_G_overlap (x : Int32) (y : Int32) (z : Int32) (w : rg_W) (K : Option Value → rg_W → Prop) : T_G_overlap [.ref 0, .int x, .int y, .int z] w K = (∃ nr ln pk, Rd nr ln pk w ∧ (ndB nr ln pk x = false ∨ ndB nr ln pk y = false ∨ x = y ∨ (decide (z - nI 1 < 0) || !decide (z - nI 1 < nI 12)) = true → K (some (.float (UInt32.ofNat 1))) w) ∧ ∀ i j least, ndN nr ln pk i = true → ndN nr ln pk j = true → i ≠ j → 1 ≤ least → least ≤ 12 → x = nI i → y = nI j → z = nI least → K (some (.int (nI (ovN ln pk i j least)))) w) := rfl
theorem r_G_overlap : ∀ as w K, T_G_overlap as w K → ∃ r, as = .ref 0 :: r := by
  intro as w K h
  unfold T_G_overlap at h
  split at h
  · exact ⟨_, rfl⟩
  · exact h.elim
theorem G_G_overlap (l : Launch) (hl : l.stackTraces = false) : rg_GoodX l y_G_overlap c_G_overlap 4 (some .int) 6 T_G_overlap := by
  refine rg_goodX_of (P := P_G_overlap) (thr := [(27, 1, 32, 76, 36, "not two nodes"), (44, 1, 32, 81, 36, "least is 1 to 12")]) hl (by decide) (by decide) rfl (rg_pok rg_F_G_ok (rg_cons (cw_G_73 (G_R_isNode l) (by decide) r_R_isNode) (rg_cons (cw_G_78 (G_G_isLeast l) (by decide)) (rg_cons (cw_G_83 (G_R_lettersShared l) (by decide) r_R_lettersShared) rg_nil)))) (List.forall_mem_cons.mpr ⟨rfl, (List.forall_mem_cons.mpr ⟨rfl, (List.forall_mem_cons.mpr ⟨rfl, (List.forall_mem_nil _)⟩)⟩)⟩) (List.forall_mem_cons.mpr ⟨⟨⟨d_G_overlap_27, d_G_overlap_30, d_G_overlap_31, d_G_overlap_33, d_G_overlap_36, by decide +kernel, by decide, by decide⟩, thC_1 _ _ _⟩, (List.forall_mem_cons.mpr ⟨⟨⟨d_G_overlap_44, d_G_overlap_47, d_G_overlap_48, d_G_overlap_50, d_G_overlap_53, by decide +kernel, by decide, by decide⟩, thC_1 _ _ _⟩, List.forall_mem_nil _⟩)⟩) ?_
  intro as w K Z hT hZ hX
  unfold T_G_overlap at hT
  split at hT
  rotate_left
  · exact hT.elim
  rename_i x y z
  refine ⟨Nat.le_of_ble_eq_true rfl, ?_⟩
  show Z 0 [.ref 0, .int x, .int y, .int z] [] w 0
  obtain ⟨nr, ln, pk, hR, hK1, hK2⟩ := hT
  have hn9 := hR.1
  have z1 : (zI true = 0) = False := by decide +kernel
  have z0 : (zI false = 0) = True := by decide +kernel
  refine hZ (rg_cut [27, 44]) 400 0 _ _ _ ?_; simp only [rg_e_aload_0 (cut := rg_cut [27, 44]) (f := true) d_G_overlap_0 rfl 1 rfl, rg_e_getr (P := P_G_overlap) (cut := rg_cut [27, 44]) (f := false) d_G_overlap_1 rfl 4 rfl 0 0 0 1 rfl (fun _ => rfl), rg_e_iload_1 (cut := rg_cut [27, 44]) (f := false) d_G_overlap_4 rfl 5 rfl, rg_e_cv2 (P := P_G_overlap) (cut := rg_cut [27, 44]) (f := false) d_G_overlap_5 rfl T_R_isNode rfl, rg_e_if_eq (cut := rg_cut [27, 44]) (f := false) d_G_overlap_8 rfl 11 rfl 27 rfl, rg_e_aload_0 (cut := rg_cut [27, 44]) (f := false) d_G_overlap_11 rfl 12 rfl, rg_e_getr (P := P_G_overlap) (cut := rg_cut [27, 44]) (f := false) d_G_overlap_12 rfl 15 rfl 0 0 0 1 rfl (fun _ => rfl), rg_e_iload_2 (cut := rg_cut [27, 44]) (f := false) d_G_overlap_15 rfl 16 rfl, rg_e_cv2 (P := P_G_overlap) (cut := rg_cut [27, 44]) (f := false) d_G_overlap_16 rfl T_R_isNode rfl, rg_e_if_eq (cut := rg_cut [27, 44]) (f := false) d_G_overlap_19 rfl 22 rfl 27 rfl, rg_e_iload_1 (cut := rg_cut [27, 44]) (f := false) d_G_overlap_22 rfl 23 rfl, rg_e_iload_2 (cut := rg_cut [27, 44]) (f := false) d_G_overlap_23 rfl 24 rfl, rg_e_icmp_ne (cut := rg_cut [27, 44]) (f := false) d_G_overlap_24 rfl 27 rfl 37 rfl, rg_e_iload_3 (cut := rg_cut [27, 44]) (f := false) d_G_overlap_37 rfl 38 rfl, rg_e_cs1 (P := P_G_overlap) (cut := rg_cut [27, 44]) (f := false) d_G_overlap_38 rfl T_G_isLeast rfl, rg_e_if_ne (cut := rg_cut [27, 44]) (f := false) d_G_overlap_41 rfl 44 rfl 54 rfl, rg_e_aload_0 (cut := rg_cut [27, 44]) (f := false) d_G_overlap_54 rfl 55 rfl, rg_e_getr (P := P_G_overlap) (cut := rg_cut [27, 44]) (f := false) d_G_overlap_55 rfl 58 rfl 0 0 0 1 rfl (fun _ => rfl), rg_e_iload_1 (cut := rg_cut [27, 44]) (f := false) d_G_overlap_58 rfl 59 rfl, rg_e_iload_2 (cut := rg_cut [27, 44]) (f := false) d_G_overlap_59 rfl 60 rfl, rg_e_iload_3 (cut := rg_cut [27, 44]) (f := false) d_G_overlap_60 rfl 61 rfl, rg_e_cv4 (P := P_G_overlap) (cut := rg_cut [27, 44]) (f := false) d_G_overlap_61 rfl T_R_lettersShared rfl, rg_e_iret (cut := rg_cut [27, 44]) (f := false) d_G_overlap_64 rfl, rg_e_cut (cut := rg_cut [27, 44]) 27 rfl, rg_e_cut (cut := rg_cut [27, 44]) 44 rfl, rg_nx_i, rg_nx_v, rg_wd_n, rg_wd_i, rg_wd_l, rg_wd_r, rg_clr_i, rg_clr_l, rg_clr_r, rg_clr_a, rg_clr_n, true_and, and_true, Nat.reduceAdd, Nat.reduceLeDiff, ↓Te_R_isNode, ↓Te_G_isLeast, ↓Te_R_lettersShared, rg_rt_e, rg_fit_ie, rg_fit_ve, rg_fit_1e, rg_fit_0e, rg_fit_be, lst_n, zI_eq, z1, z0, Bool.not_true, Bool.not_false, not_false_eq_true, forall_const, false_imp_iff, not_true_eq_false, and_true, true_and, Bool.true_eq_false]
  refine ⟨nr, ln, pk, hR, fun h => hX _ List.mem_cons_self _ _ (hK1 (Or.inl h)), fun h => ⟨nr, ln, pk, hR, fun h1 => hX _ List.mem_cons_self _ _ (hK1 (Or.inr (Or.inl h1))), fun h1 => ?_⟩⟩
  refine ⟨fun h2 => ⟨fun h3 => ?_, fun h3 => hX _ (List.mem_cons_of_mem _ List.mem_cons_self) _ _ (hK1 (Or.inr (Or.inr (Or.inr (by have h3 := Classical.not_not.mp h3; rwa [Bool.not_eq_false'] at h3)))))⟩, fun h2 => hX _ List.mem_cons_self _ _ (hK1 (Or.inr (Or.inr (Or.inl (Classical.not_not.mp h2)))))⟩
  obtain ⟨i, hi, rfl, ni⟩ := ndB_some (nr := nr) (ln := ln) (pk := pk) (by omega) (by rw [← Bool.not_eq_false]; exact h)
  obtain ⟨j, hj, rfl, nj⟩ := ndB_some (nr := nr) (ln := ln) (pk := pk) (by omega) (by rw [← Bool.not_eq_false]; exact h1)
  rcases lst_or z with ⟨h4, -⟩ | ⟨least, k1, k2, rfl⟩
  · rw [h4] at h3; exact absurd rfl h3
  · exact ⟨nr, ln, pk, i, j, least, hR, rfl, rfl, hi, hj, rfl, k1, k2, hK2 i j least ni nj (fun z => h2 (by rw [z])) k1 k2 rfl rfl rfl⟩
-- G.build
def P_G_build : rg_P := (rg_F_G, [(156, 1, 0, T_G_isLeast), (97, 1, 0, T_G_forgetGraph), (175, 3, 0, T_E_make)], [], [], [], [], 0)
def T_G_build : rg_T := fun as w K => match as with
  | [.ref 0, .int z] => ∃ nr ln pk, Rd nr ln pk w ∧ ((decide (z - nI 1 < 0) || !decide (z - nI 1 < nI 12)) = true → K (some (.float (UInt32.ofNat 1))) w) ∧ ∀ least, 1 ≤ least → least ≤ 12 → z = nI least → ∀ w', rg_fr [4, 5, 6, 7, 8, 9, 10, 11, 12, 13] w w' → (∀ q, q ≠ 3 → w'.1 13 q = w.1 13 q) → w'.1 13 3 = nI 0 → GrW (ndN nr ln pk) (hgN nr ln pk least) w' → FoW (hgN nr ln pk least) w' → K (some (.int (nI (eN (hgN nr ln pk least))))) w'
  | _ => False
theorem Te_G_build (z : Int32) (w : rg_W) (K : Option Value → rg_W → Prop) : T_G_build [.ref 0, .int z] w K = (∃ nr ln pk, Rd nr ln pk w ∧ ((decide (z - nI 1 < 0) || !decide (z - nI 1 < nI 12)) = true → K (some (.float (UInt32.ofNat 1))) w) ∧ ∀ least, 1 ≤ least → least ≤ 12 → z = nI least → ∀ w', rg_fr [4, 5, 6, 7, 8, 9, 10, 11, 12, 13] w w' → (∀ q, q ≠ 3 → w'.1 13 q = w.1 13 q) → w'.1 13 3 = nI 0 → GrW (ndN nr ln pk) (hgN nr ln pk least) w' → FoW (hgN nr ln pk least) w' → K (some (.int (nI (eN (hgN nr ln pk least))))) w') := rfl
theorem r_G_build : ∀ as w K, T_G_build as w K → ∃ r, as = .ref 0 :: r := by
  intro as w K h
  unfold T_G_build at h
  split at h
  · exact ⟨_, rfl⟩
  · exact h.elim
theorem G_G_build (l : Launch) (hl : l.stackTraces = false) : rg_GoodX l y_G_build c_G_build 2 (some .int) 6 T_G_build := by
  refine rg_goodX_of (P := P_G_build) (thr := [(7, 1, 32, 81, 36, "least is 1 to 12")]) hl (by decide) (by decide) rfl (rg_pok rg_F_G_ok (rg_cons (cw_G_78 (G_G_isLeast l) (by decide)) (rg_cons (cw_G_48 (G_G_forgetGraph l) (by decide) r_G_forgetGraph) (rg_cons (cw_G_87 (G_E_make l) (by decide) r_E_make) rg_nil)))) (List.forall_mem_cons.mpr ⟨rfl, (List.forall_mem_cons.mpr ⟨rfl, (List.forall_mem_cons.mpr ⟨rfl, (List.forall_mem_nil _)⟩)⟩)⟩) (List.forall_mem_cons.mpr ⟨⟨⟨d_G_build_7, d_G_build_10, d_G_build_11, d_G_build_13, d_G_build_16, by decide +kernel, by decide, by decide⟩, thC_1 _ _ _⟩, List.forall_mem_nil _⟩) ?_
  intro as w K Z hT hZ hX
  unfold T_G_build at hT
  split at hT
  rotate_left
  · exact hT.elim
  rename_i z
  refine ⟨Nat.le_of_ble_eq_true rfl, ?_⟩
  show Z 0 [.ref 0, .int z] [] w 0
  obtain ⟨nr, ln, pk, hR, hK1, hK2⟩ := hT
  have z1 : (zI true = 0) = False := by decide +kernel
  have z0 : (zI false = 0) = True := by decide +kernel
  rcases lst_or z with ⟨h, -⟩ | ⟨least, k1, k2, rfl⟩
  · refine hZ (rg_cut [7]) 400 0 _ _ _ ?_; simp only [rg_e_iload_1 (cut := rg_cut [7]) (f := true) d_G_build_0 rfl 1 rfl, rg_e_cs1 (P := P_G_build) (cut := rg_cut [7]) (f := false) d_G_build_1 rfl T_G_isLeast rfl, rg_e_if_ne (cut := rg_cut [7]) (f := false) d_G_build_4 rfl 7 rfl 17 rfl, rg_e_aload_0 (cut := rg_cut [7]) (f := false) d_G_build_17 rfl 18 rfl, rg_e_cv1 (P := P_G_build) (cut := rg_cut [7]) (f := false) d_G_build_18 rfl T_G_forgetGraph rfl, rg_e_aload_0 (cut := rg_cut [7]) (f := false) d_G_build_21 rfl 22 rfl, rg_e_getr (P := P_G_build) (cut := rg_cut [7]) (f := false) d_G_build_22 rfl 25 rfl 0 0 1 4 rfl (fun _ => rfl), rg_e_aload_0 (cut := rg_cut [7]) (f := false) d_G_build_25 rfl 26 rfl, rg_e_getr (P := P_G_build) (cut := rg_cut [7]) (f := false) d_G_build_26 rfl 29 rfl 0 0 0 1 rfl (fun _ => rfl), rg_e_iload_1 (cut := rg_cut [7]) (f := false) d_G_build_29 rfl 30 rfl, rg_e_cv3 (P := P_G_build) (cut := rg_cut [7]) (f := false) d_G_build_30 rfl T_E_make rfl, rg_e_aload_0 (cut := rg_cut [7]) (f := false) d_G_build_33 rfl 34 rfl, rg_e_getr (P := P_G_build) (cut := rg_cut [7]) (f := false) d_G_build_34 rfl 37 rfl 0 0 1 4 rfl (fun _ => rfl), rg_e_geti (P := P_G_build) (cut := rg_cut [7]) (f := false) d_G_build_37 rfl 40 rfl 4 2 10 rfl (fun _ => rfl), rg_e_iret (cut := rg_cut [7]) (f := false) d_G_build_40 rfl, rg_e_cut (cut := rg_cut [7]) 7 rfl, rg_nx_i, rg_nx_v, rg_wd_n, rg_wd_i, rg_wd_l, rg_wd_r, rg_clr_i, rg_clr_l, rg_clr_r, rg_clr_a, rg_clr_n, true_and, and_true, Nat.reduceAdd, Nat.reduceLeDiff, ↓Te_G_isLeast, ↓Te_G_forgetGraph, ↓Te_E_make, rg_rt_e, rg_fit_ie, rg_fit_ve, rg_fit_1e, rg_fit_0e, rg_fit_be, lst_n, h, z1, z0, Bool.not_true, Bool.not_false, not_false_eq_true, forall_const, false_imp_iff, not_true_eq_false, and_true, true_and, Bool.true_eq_false]
    exact hX _ List.mem_cons_self _ _ (hK1 h)
  · have h := lst_f k1 k2
    have hK2 := hK2 least k1 k2 rfl
    refine hZ (rg_cut [7]) 400 0 _ _ _ ?_; simp only [rg_e_iload_1 (cut := rg_cut [7]) (f := true) d_G_build_0 rfl 1 rfl, rg_e_cs1 (P := P_G_build) (cut := rg_cut [7]) (f := false) d_G_build_1 rfl T_G_isLeast rfl, rg_e_if_ne (cut := rg_cut [7]) (f := false) d_G_build_4 rfl 7 rfl 17 rfl, rg_e_aload_0 (cut := rg_cut [7]) (f := false) d_G_build_17 rfl 18 rfl, rg_e_cv1 (P := P_G_build) (cut := rg_cut [7]) (f := false) d_G_build_18 rfl T_G_forgetGraph rfl, rg_e_aload_0 (cut := rg_cut [7]) (f := false) d_G_build_21 rfl 22 rfl, rg_e_getr (P := P_G_build) (cut := rg_cut [7]) (f := false) d_G_build_22 rfl 25 rfl 0 0 1 4 rfl (fun _ => rfl), rg_e_aload_0 (cut := rg_cut [7]) (f := false) d_G_build_25 rfl 26 rfl, rg_e_getr (P := P_G_build) (cut := rg_cut [7]) (f := false) d_G_build_26 rfl 29 rfl 0 0 0 1 rfl (fun _ => rfl), rg_e_iload_1 (cut := rg_cut [7]) (f := false) d_G_build_29 rfl 30 rfl, rg_e_cv3 (P := P_G_build) (cut := rg_cut [7]) (f := false) d_G_build_30 rfl T_E_make rfl, rg_e_aload_0 (cut := rg_cut [7]) (f := false) d_G_build_33 rfl 34 rfl, rg_e_getr (P := P_G_build) (cut := rg_cut [7]) (f := false) d_G_build_34 rfl 37 rfl 0 0 1 4 rfl (fun _ => rfl), rg_e_geti (P := P_G_build) (cut := rg_cut [7]) (f := false) d_G_build_37 rfl 40 rfl 4 2 10 rfl (fun _ => rfl), rg_e_iret (cut := rg_cut [7]) (f := false) d_G_build_40 rfl, rg_e_cut (cut := rg_cut [7]) 7 rfl, rg_nx_i, rg_nx_v, rg_wd_n, rg_wd_i, rg_wd_l, rg_wd_r, rg_clr_i, rg_clr_l, rg_clr_r, rg_clr_a, rg_clr_n, true_and, and_true, Nat.reduceAdd, Nat.reduceLeDiff, ↓Te_G_isLeast, ↓Te_G_forgetGraph, ↓Te_E_make, rg_rt_e, rg_fit_ie, rg_fit_ve, rg_fit_1e, rg_fit_0e, rg_fit_be, lst_n, h, z1, z0, Bool.not_true, Bool.not_false, not_false_eq_true, forall_const, false_imp_iff, not_true_eq_false, and_true, true_and, Bool.true_eq_false]
    intro w1 hF
    refine ⟨nr, ln, pk, least, hR.fr ?_ ?_ ?_, ?_, ?_, ?_, fun a ha => ?_, rfl, k1, k2, fun w2 f1 f2 f3 => ?_⟩
    · rw [rg_up_n (by decide), hF.1.1 1 (by decide)]
    · rw [rg_up_n (by decide), hF.1.1 2 (by decide)]
    · rw [rg_up_n (by decide), hF.1.1 3 (by decide)]
    · rw [rg_up_n (by decide)]; exact hF.2.2.1
    · rw [rg_up_n (by decide)]; exact hF.2.2.2.1
    · rw [rg_up_n (by decide)]; exact hF.2.2.2.2
    · rw [rg_up_n (by decide), rg_up_n (by decide)]; exact ⟨(hF.2.1 a ha).1, (hF.2.1 a ha).2.1⟩
    · rw [f2.2.2.1.1]
      refine hK2 w2 (rg_fr_tr (rg_fr_up (rg_fr_sub hF.1 (by decide)) (by decide) _ _) (rg_fr_sub f1 (by decide))) (fun q hq => ?_) ?_ f2 f3
      · rw [f1.1 13 (by decide), rg_up_s, upd_n hq, hF.1.1 13 (by decide)]
      · rw [f1.1 13 (by decide), rg_up_ss]
-- G.way
def P_G_way : rg_P := (rg_F_G, [(147, 2, 0, T_R_isNode), (234, 2, 0, T_G_holds)], [], [], [], [], 0)
def T_G_way : rg_T := fun as w K => match as with
  | [.ref 0, .int x, .int y] => ∃ nr ln pk nd hg, Rd nr ln pk w ∧ GrW nd hg w ∧ (ndB nr ln pk x = false ∨ ndB nr ln pk y = false → K (some (.float (UInt32.ofNat 1))) w) ∧ ∀ i j, ndN nr ln pk i = true → ndN nr ln pk j = true → x = nI i → y = nI j → K (some (.int (zI (rcB (kE hg) i j)))) w
  | _ => False
theorem Te_G_way (x : Int32) (y : Int32) (w : rg_W) (K : Option Value → rg_W → Prop) : T_G_way [.ref 0, .int x, .int y] w K = (∃ nr ln pk nd hg, Rd nr ln pk w ∧ GrW nd hg w ∧ (ndB nr ln pk x = false ∨ ndB nr ln pk y = false → K (some (.float (UInt32.ofNat 1))) w) ∧ ∀ i j, ndN nr ln pk i = true → ndN nr ln pk j = true → x = nI i → y = nI j → K (some (.int (zI (rcB (kE hg) i j)))) w) := rfl
theorem r_G_way : ∀ as w K, T_G_way as w K → ∃ r, as = .ref 0 :: r := by
  intro as w K h
  unfold T_G_way at h
  split at h
  · exact ⟨_, rfl⟩
  · exact h.elim
theorem G_G_way (l : Launch) (hl : l.stackTraces = false) : rg_GoodX l y_G_way c_G_way 3 (some .boolean) 6 T_G_way := by
  refine rg_goodX_of (P := P_G_way) (thr := [(22, 1, 32, 112, 36, "no such node")]) hl (by decide) (by decide) rfl (rg_pok rg_F_G_ok (rg_cons (cw_G_73 (G_R_isNode l) (by decide) r_R_isNode) (rg_cons (cw_G_117 (G_G_holds l) (by decide)) rg_nil))) (List.forall_mem_cons.mpr ⟨rfl, (List.forall_mem_cons.mpr ⟨rfl, (List.forall_mem_nil _)⟩)⟩) (List.forall_mem_cons.mpr ⟨⟨⟨d_G_way_22, d_G_way_25, d_G_way_26, d_G_way_28, d_G_way_31, by decide +kernel, by decide, by decide⟩, thC_1 _ _ _⟩, List.forall_mem_nil _⟩) ?_
  intro as w K Z hT hZ hX
  unfold T_G_way at hT
  split at hT
  rotate_left
  · exact hT.elim
  rename_i x y
  refine ⟨Nat.le_of_ble_eq_true rfl, ?_⟩
  show Z 0 [.ref 0, .int x, .int y] [] w 0
  obtain ⟨nr, ln, pk, nd, hg, hR, hG, hK1, hK2⟩ := hT
  have hn9 := hR.1
  have z1 : (zI true = 0) = False := by decide +kernel
  have z0 : (zI false = 0) = True := by decide +kernel
  refine hZ (rg_cut [22]) 400 0 _ _ _ ?_; simp only [rg_e_aload_0 (cut := rg_cut [22]) (f := true) d_G_way_0 rfl 1 rfl, rg_e_getr (P := P_G_way) (cut := rg_cut [22]) (f := false) d_G_way_1 rfl 4 rfl 0 0 0 1 rfl (fun _ => rfl), rg_e_iload_1 (cut := rg_cut [22]) (f := false) d_G_way_4 rfl 5 rfl, rg_e_cv2 (P := P_G_way) (cut := rg_cut [22]) (f := false) d_G_way_5 rfl T_R_isNode rfl, rg_e_if_eq (cut := rg_cut [22]) (f := false) d_G_way_8 rfl 11 rfl 22 rfl, rg_e_aload_0 (cut := rg_cut [22]) (f := false) d_G_way_11 rfl 12 rfl, rg_e_getr (P := P_G_way) (cut := rg_cut [22]) (f := false) d_G_way_12 rfl 15 rfl 0 0 0 1 rfl (fun _ => rfl), rg_e_iload_2 (cut := rg_cut [22]) (f := false) d_G_way_15 rfl 16 rfl, rg_e_cv2 (P := P_G_way) (cut := rg_cut [22]) (f := false) d_G_way_16 rfl T_R_isNode rfl, rg_e_if_ne (cut := rg_cut [22]) (f := false) d_G_way_19 rfl 22 rfl 32 rfl, rg_e_aload_0 (cut := rg_cut [22]) (f := false) d_G_way_32 rfl 33 rfl, rg_e_getr (P := P_G_way) (cut := rg_cut [22]) (f := false) d_G_way_33 rfl 36 rfl 0 0 1 4 rfl (fun _ => rfl), rg_e_getr (P := P_G_way) (cut := rg_cut [22]) (f := false) d_G_way_36 rfl 39 rfl 4 2 7 12 rfl (fun _ => rfl), rg_e_iload_1 (cut := rg_cut [22]) (f := false) d_G_way_39 rfl 40 rfl, rg_e_iald (cut := rg_cut [22]) (f := false) d_G_way_40 rfl 41 rfl 12 9 rfl, rg_e_iload_2 (cut := rg_cut [22]) (f := false) d_G_way_41 rfl 42 rfl, rg_e_cs2 (P := P_G_way) (cut := rg_cut [22]) (f := false) d_G_way_42 rfl T_G_holds rfl, rg_e_iret (cut := rg_cut [22]) (f := false) d_G_way_45 rfl, rg_e_cut (cut := rg_cut [22]) 22 rfl, rg_nx_i, rg_nx_v, rg_wd_n, rg_wd_i, rg_wd_l, rg_wd_r, rg_clr_i, rg_clr_l, rg_clr_r, rg_clr_a, rg_clr_n, true_and, and_true, Nat.reduceAdd, Nat.reduceLeDiff, ↓Te_R_isNode, ↓Te_G_holds, rg_rt_e, rg_fit_ie, rg_fit_ve, rg_fit_1e, rg_fit_0e, rg_fit_be, zI_eq, z1, z0, Bool.not_true, Bool.not_false, not_false_eq_true, forall_const, false_imp_iff, not_true_eq_false, and_true, true_and, Bool.true_eq_false]
  refine ⟨nr, ln, pk, hR, fun h => hX _ List.mem_cons_self _ _ (hK1 (Or.inl h)), fun h => ⟨nr, ln, pk, hR, fun h1 => ?_, fun h1 => hX _ List.mem_cons_self _ _ (hK1 (Or.inr (Classical.not_not.mp h1)))⟩⟩
  obtain ⟨i, hi, rfl, ni⟩ := ndB_some (nr := nr) (ln := ln) (pk := pk) (by omega) (by rw [← Bool.not_eq_false]; exact h)
  obtain ⟨j, hj, rfl, nj⟩ := ndB_some (nr := nr) (ln := ln) (pk := pk) (by omega) (by rw [← Bool.not_eq_false]; exact h1)
  have hK2 := hK2 i j ni nj rfl rfl
  rw [nI_clamp (by omega), (hG.2.2.2 i (by omega)).h (by omega)]
  exact ⟨vp_in_nI (by omega) (by omega), hK2⟩
-- G.safe
def P_G_safe : rg_P := (rg_F_G, [(255, 3, 0, T_G_isPackedWalk), (267, 3, 0, T_G_isPackedWalkSafe)], [], [], [], [], 0)
def T_G_safe : rg_T := fun as w K => match as with
  | [.ref 0, .long p, .int n] => ∃ hg, GrE hg w ∧ ((n < nI 1 ∨ ((n < nI 1) = False ∧ (n ≤ nI 8) = False)) → K (some (.float (UInt32.ofNat 1))) w) ∧ ∀ n', 1 ≤ n' → n' ≤ 8 → n = nI n' → ((List.range n').all (pwB hg p n') = false → K (some (.float (UInt32.ofNat 1))) w) ∧ ((List.range n').all (pwB hg p n') = true → K (some (.int (zI (swB hg (peN p n') n')))) w)
  | _ => False
theorem Te_G_safe (p : Int64) (n : Int32) (w : rg_W) (K : Option Value → rg_W → Prop) : T_G_safe [.ref 0, .long p, .int n] w K = (∃ hg, GrE hg w ∧ ((n < nI 1 ∨ ((n < nI 1) = False ∧ (n ≤ nI 8) = False)) → K (some (.float (UInt32.ofNat 1))) w) ∧ ∀ n', 1 ≤ n' → n' ≤ 8 → n = nI n' → ((List.range n').all (pwB hg p n') = false → K (some (.float (UInt32.ofNat 1))) w) ∧ ((List.range n').all (pwB hg p n') = true → K (some (.int (zI (swB hg (peN p n') n')))) w)) := rfl
theorem r_G_safe : ∀ as w K, T_G_safe as w K → ∃ r, as = .ref 0 :: r := by
  intro as w K h
  unfold T_G_safe at h
  split at h
  · exact ⟨_, rfl⟩
  · exact h.elim
theorem G_G_safe (l : Launch) (hl : l.stackTraces = false) : rg_GoodX l y_G_safe c_G_safe 4 (some .boolean) 6 T_G_safe := by
  refine rg_goodX_of (P := P_G_safe) (thr := [(11, 1, 32, 125, 36, "a walk here has 1 to 8 edges"), (30, 1, 32, 131, 36, "no such edge, or no walk")]) hl (by decide) (by decide) rfl (rg_pok rg_F_G_ok (rg_cons (cw_G_127 (G_G_isPackedWalk l) (by decide) r_G_isPackedWalk) (rg_cons (cw_G_133 (G_G_isPackedWalkSafe l) (by decide) r_G_isPackedWalkSafe) rg_nil))) (List.forall_mem_cons.mpr ⟨rfl, (List.forall_mem_cons.mpr ⟨rfl, (List.forall_mem_nil _)⟩)⟩) (List.forall_mem_cons.mpr ⟨⟨⟨d_G_safe_11, d_G_safe_14, d_G_safe_15, d_G_safe_17, d_G_safe_20, by decide +kernel, by decide, by decide⟩, thC_1 _ _ _⟩, (List.forall_mem_cons.mpr ⟨⟨⟨d_G_safe_30, d_G_safe_33, d_G_safe_34, d_G_safe_36, d_G_safe_39, by decide +kernel, by decide, by decide⟩, thC_1 _ _ _⟩, List.forall_mem_nil _⟩)⟩) ?_
  intro as w K Z hT hZ hX
  unfold T_G_safe at hT
  split at hT
  rotate_left
  · exact hT.elim
  rename_i p n
  refine ⟨Nat.le_of_ble_eq_true rfl, ?_⟩
  show Z 0 [.ref 0, .long p, .null, .int n] [] w 0
  obtain ⟨hg, hG, hK1, hK2⟩ := hT
  have z1 : (zI true = 0) = False := by decide +kernel
  have z0 : (zI false = 0) = True := by decide +kernel
  rcases n8_or n with h | ⟨h, h8⟩ | ⟨n', k1, k2, rfl⟩
  · refine hZ (rg_cut [11, 30]) 400 0 _ _ _ ?_; simp only [rg_e_iload_3 (cut := rg_cut [11, 30]) (f := true) d_G_safe_0 rfl 1 rfl, rg_e_iconst (cut := rg_cut [11, 30]) (f := false) d_G_safe_1 rfl 2 rfl (nI 1) rg_ki_1, rg_e_icmp_lt (cut := rg_cut [11, 30]) (f := false) d_G_safe_2 rfl 5 rfl 11 rfl, rg_e_iload_3 (cut := rg_cut [11, 30]) (f := false) d_G_safe_5 rfl 6 rfl, rg_e_bipush (cut := rg_cut [11, 30]) (f := false) d_G_safe_6 rfl 8 rfl (nI 8) rg_kb_8, rg_e_icmp_le (cut := rg_cut [11, 30]) (f := false) d_G_safe_8 rfl 11 rfl 21 rfl, rg_e_aload_0 (cut := rg_cut [11, 30]) (f := false) d_G_safe_21 rfl 22 rfl, rg_e_lload_1 (cut := rg_cut [11, 30]) (f := false) d_G_safe_22 rfl 23 rfl, rg_e_iload_3 (cut := rg_cut [11, 30]) (f := false) d_G_safe_23 rfl 24 rfl, rg_e_cv3 (P := P_G_safe) (cut := rg_cut [11, 30]) (f := false) d_G_safe_24 rfl T_G_isPackedWalk rfl, rg_e_if_ne (cut := rg_cut [11, 30]) (f := false) d_G_safe_27 rfl 30 rfl 40 rfl, rg_e_aload_0 (cut := rg_cut [11, 30]) (f := false) d_G_safe_40 rfl 41 rfl, rg_e_lload_1 (cut := rg_cut [11, 30]) (f := false) d_G_safe_41 rfl 42 rfl, rg_e_iload_3 (cut := rg_cut [11, 30]) (f := false) d_G_safe_42 rfl 43 rfl, rg_e_cv3 (P := P_G_safe) (cut := rg_cut [11, 30]) (f := false) d_G_safe_43 rfl T_G_isPackedWalkSafe rfl, rg_e_iret (cut := rg_cut [11, 30]) (f := false) d_G_safe_46 rfl, rg_e_cut (cut := rg_cut [11, 30]) 11 rfl, rg_e_cut (cut := rg_cut [11, 30]) 30 rfl, rg_nx_i, rg_nx_v, rg_wd_n, rg_wd_i, rg_wd_l, rg_wd_r, rg_clr_i, rg_clr_l, rg_clr_r, rg_clr_a, rg_clr_n, true_and, and_true, Nat.reduceAdd, Nat.reduceLeDiff, ↓Te_G_isPackedWalk, ↓Te_G_isPackedWalkSafe, rg_rt_e, rg_fit_ie, rg_fit_ve, rg_fit_1e, rg_fit_0e, rg_fit_be, h, z1, z0, Bool.not_true, Bool.not_false, not_false_eq_true, forall_const, false_imp_iff, not_true_eq_false, and_true, true_and, Bool.true_eq_false]
    exact hX _ List.mem_cons_self _ _ (hK1 (Or.inl (of_eq_true h)))
  · refine hZ (rg_cut [11, 30]) 400 0 _ _ _ ?_; simp only [rg_e_iload_3 (cut := rg_cut [11, 30]) (f := true) d_G_safe_0 rfl 1 rfl, rg_e_iconst (cut := rg_cut [11, 30]) (f := false) d_G_safe_1 rfl 2 rfl (nI 1) rg_ki_1, rg_e_icmp_lt (cut := rg_cut [11, 30]) (f := false) d_G_safe_2 rfl 5 rfl 11 rfl, rg_e_iload_3 (cut := rg_cut [11, 30]) (f := false) d_G_safe_5 rfl 6 rfl, rg_e_bipush (cut := rg_cut [11, 30]) (f := false) d_G_safe_6 rfl 8 rfl (nI 8) rg_kb_8, rg_e_icmp_le (cut := rg_cut [11, 30]) (f := false) d_G_safe_8 rfl 11 rfl 21 rfl, rg_e_aload_0 (cut := rg_cut [11, 30]) (f := false) d_G_safe_21 rfl 22 rfl, rg_e_lload_1 (cut := rg_cut [11, 30]) (f := false) d_G_safe_22 rfl 23 rfl, rg_e_iload_3 (cut := rg_cut [11, 30]) (f := false) d_G_safe_23 rfl 24 rfl, rg_e_cv3 (P := P_G_safe) (cut := rg_cut [11, 30]) (f := false) d_G_safe_24 rfl T_G_isPackedWalk rfl, rg_e_if_ne (cut := rg_cut [11, 30]) (f := false) d_G_safe_27 rfl 30 rfl 40 rfl, rg_e_aload_0 (cut := rg_cut [11, 30]) (f := false) d_G_safe_40 rfl 41 rfl, rg_e_lload_1 (cut := rg_cut [11, 30]) (f := false) d_G_safe_41 rfl 42 rfl, rg_e_iload_3 (cut := rg_cut [11, 30]) (f := false) d_G_safe_42 rfl 43 rfl, rg_e_cv3 (P := P_G_safe) (cut := rg_cut [11, 30]) (f := false) d_G_safe_43 rfl T_G_isPackedWalkSafe rfl, rg_e_iret (cut := rg_cut [11, 30]) (f := false) d_G_safe_46 rfl, rg_e_cut (cut := rg_cut [11, 30]) 11 rfl, rg_e_cut (cut := rg_cut [11, 30]) 30 rfl, rg_nx_i, rg_nx_v, rg_wd_n, rg_wd_i, rg_wd_l, rg_wd_r, rg_clr_i, rg_clr_l, rg_clr_r, rg_clr_a, rg_clr_n, true_and, and_true, Nat.reduceAdd, Nat.reduceLeDiff, ↓Te_G_isPackedWalk, ↓Te_G_isPackedWalkSafe, rg_rt_e, rg_fit_ie, rg_fit_ve, rg_fit_1e, rg_fit_0e, rg_fit_be, h, h8, z1, z0, Bool.not_true, Bool.not_false, not_false_eq_true, forall_const, false_imp_iff, not_true_eq_false, and_true, true_and, Bool.true_eq_false]
    exact hX _ List.mem_cons_self _ _ (hK1 (Or.inr ⟨h, h8⟩))
  · obtain ⟨hKf, hKt⟩ := hK2 n' k1 k2 rfl
    have h : (nI n' < nI 1) = False := by rw [nI_ltp (by omega) (by omega)]; exact eq_false (by omega)
    have h8 : (nI n' ≤ nI 8) = True := by rw [nI_lep (by omega) (by omega)]; exact eq_true k2
    refine hZ (rg_cut [11, 30]) 400 0 _ _ _ ?_; simp only [rg_e_iload_3 (cut := rg_cut [11, 30]) (f := true) d_G_safe_0 rfl 1 rfl, rg_e_iconst (cut := rg_cut [11, 30]) (f := false) d_G_safe_1 rfl 2 rfl (nI 1) rg_ki_1, rg_e_icmp_lt (cut := rg_cut [11, 30]) (f := false) d_G_safe_2 rfl 5 rfl 11 rfl, rg_e_iload_3 (cut := rg_cut [11, 30]) (f := false) d_G_safe_5 rfl 6 rfl, rg_e_bipush (cut := rg_cut [11, 30]) (f := false) d_G_safe_6 rfl 8 rfl (nI 8) rg_kb_8, rg_e_icmp_le (cut := rg_cut [11, 30]) (f := false) d_G_safe_8 rfl 11 rfl 21 rfl, rg_e_aload_0 (cut := rg_cut [11, 30]) (f := false) d_G_safe_21 rfl 22 rfl, rg_e_lload_1 (cut := rg_cut [11, 30]) (f := false) d_G_safe_22 rfl 23 rfl, rg_e_iload_3 (cut := rg_cut [11, 30]) (f := false) d_G_safe_23 rfl 24 rfl, rg_e_cv3 (P := P_G_safe) (cut := rg_cut [11, 30]) (f := false) d_G_safe_24 rfl T_G_isPackedWalk rfl, rg_e_if_ne (cut := rg_cut [11, 30]) (f := false) d_G_safe_27 rfl 30 rfl 40 rfl, rg_e_aload_0 (cut := rg_cut [11, 30]) (f := false) d_G_safe_40 rfl 41 rfl, rg_e_lload_1 (cut := rg_cut [11, 30]) (f := false) d_G_safe_41 rfl 42 rfl, rg_e_iload_3 (cut := rg_cut [11, 30]) (f := false) d_G_safe_42 rfl 43 rfl, rg_e_cv3 (P := P_G_safe) (cut := rg_cut [11, 30]) (f := false) d_G_safe_43 rfl T_G_isPackedWalkSafe rfl, rg_e_iret (cut := rg_cut [11, 30]) (f := false) d_G_safe_46 rfl, rg_e_cut (cut := rg_cut [11, 30]) 11 rfl, rg_e_cut (cut := rg_cut [11, 30]) 30 rfl, rg_nx_i, rg_nx_v, rg_wd_n, rg_wd_i, rg_wd_l, rg_wd_r, rg_clr_i, rg_clr_l, rg_clr_r, rg_clr_a, rg_clr_n, true_and, and_true, Nat.reduceAdd, Nat.reduceLeDiff, ↓Te_G_isPackedWalk, ↓Te_G_isPackedWalkSafe, rg_rt_e, rg_fit_ie, rg_fit_ve, rg_fit_1e, rg_fit_0e, rg_fit_be, h, h8, zI_eq, z1, z0, Bool.not_true, Bool.not_false, not_false_eq_true, forall_const, false_imp_iff, not_true_eq_false, and_true, true_and, Bool.true_eq_false]
    refine ⟨hg, n', hG, rfl, k2, fun h1 => ?_, fun h1 => ?_⟩
    · have h1 : (List.range n').all (pwB hg p n') = true := by rw [← Bool.not_eq_false]; exact h1
      refine ⟨hg, n', hG, rfl, k2, fun i hi => ?_, hKt h1⟩
      have := List.all_eq_true.mp h1 i (List.mem_range.mpr hi)
      unfold pwB at this
      rw [Bool.and_eq_true] at this
      exact of_decide_eq_true this.1
    · exact hX _ (List.mem_cons_of_mem _ List.mem_cons_self) _ _ (hKf (Classical.not_not.mp h1))
-- G.walks
def P_G_walks : rg_P := (rg_F_G, [(243, 1, 0, T_E_shape), (273, 1, 0, T_W_find)], [], [], [], [], 0)
def T_G_walks : rg_T := fun as w K => match as with
  | [.ref 0] => ∃ nd hg, GrW nd hg w ∧ (shN nd hg = 2 → FoW hg w) ∧ (∀ i, hg i i = 0) ∧ (∀ A w', shN nd hg = 2 → tpF hg (eN hg) 0 100000 [] = some A → rg_fr [13, 14, 15, 16, 17] w w' → Ac A w' → K (some (.int (nI A.length))) w') ∧ (¬ (shN nd hg = 2 ∧ ∃ A, tpF hg (eN hg) 0 100000 [] = some A) → ∀ w', rg_fr [13, 14, 15, 16, 17] w w' → w'.1 13 3 = nI 0 → K (some (.float (UInt32.ofNat 2))) w')
  | _ => False
theorem Te_G_walks  (w : rg_W) (K : Option Value → rg_W → Prop) : T_G_walks [.ref 0] w K = (∃ nd hg, GrW nd hg w ∧ (shN nd hg = 2 → FoW hg w) ∧ (∀ i, hg i i = 0) ∧ (∀ A w', shN nd hg = 2 → tpF hg (eN hg) 0 100000 [] = some A → rg_fr [13, 14, 15, 16, 17] w w' → Ac A w' → K (some (.int (nI A.length))) w') ∧ (¬ (shN nd hg = 2 ∧ ∃ A, tpF hg (eN hg) 0 100000 [] = some A) → ∀ w', rg_fr [13, 14, 15, 16, 17] w w' → w'.1 13 3 = nI 0 → K (some (.float (UInt32.ofNat 2))) w')) := rfl
theorem r_G_walks : ∀ as w K, T_G_walks as w K → ∃ r, as = .ref 0 :: r := by
  intro as w K h
  unfold T_G_walks at h
  split at h
  · exact ⟨_, rfl⟩
  · exact h.elim
theorem G_G_walks (l : Launch) (hl : l.stackTraces = false) : rg_GoodX l y_G_walks c_G_walks 1 (some .int) 6 T_G_walks := by
  refine rg_goodX_of (P := P_G_walks) (thr := [(29, 2, 43, 141, 47, "too many walks")]) hl (by decide) (by decide) rfl (rg_pok rg_F_G_ok (rg_cons (cw_G_121 (G_E_shape l) (by decide) r_E_shape) (rg_cons (cw_G_136 (G_W_find l) (by decide) r_W_find) rg_nil))) (List.forall_mem_cons.mpr ⟨rfl, (List.forall_mem_cons.mpr ⟨rfl, (List.forall_mem_nil _)⟩)⟩) (List.forall_mem_cons.mpr ⟨⟨⟨d_G_walks_29, d_G_walks_32, d_G_walks_33, d_G_walks_35, d_G_walks_38, by decide +kernel, by decide, by decide⟩, thC_2 _ _ _⟩, List.forall_mem_nil _⟩) ?_
  intro as w K Z hT hZ hX
  unfold T_G_walks at hT
  split at hT
  rotate_left
  · exact hT.elim
  refine ⟨Nat.le_of_ble_eq_true rfl, ?_⟩
  show Z 0 [.ref 0] [] w 0
  obtain ⟨nd, hg, hG, hF, h0, hK1, hK0⟩ := hT
  have z1 : (zI true = 0) = False := by decide +kernel
  have z0 : (zI false = 0) = True := by decide +kernel
  have hs2 := shN_le nd hg
  have p2 : (nI (shN nd hg) = nI 2) = (shN nd hg = 2) := nI_eqp (by omega) (by omega)
  have n0 : (nI 0 = 0) = True := by decide +kernel
  have n1 : (nI 1 = 0) = False := by decide +kernel
  refine hZ (rg_cut [29]) 400 0 _ _ _ ?_; simp only [rg_e_aload_0 (cut := rg_cut [29]) (f := true) d_G_walks_0 rfl 1 rfl, rg_e_getr (P := P_G_walks) (cut := rg_cut [29]) (f := false) d_G_walks_1 rfl 4 rfl 0 0 1 4 rfl (fun _ => rfl), rg_e_cv1 (P := P_G_walks) (cut := rg_cut [29]) (f := false) d_G_walks_4 rfl T_E_shape rfl, rg_e_iconst (cut := rg_cut [29]) (f := false) d_G_walks_7 rfl 8 rfl (nI 2) rg_ki_2, rg_e_icmp_ne (cut := rg_cut [29]) (f := false) d_G_walks_8 rfl 11 rfl 21 rfl, rg_e_aload_0 (cut := rg_cut [29]) (f := false) d_G_walks_11 rfl 12 rfl, rg_e_getr (P := P_G_walks) (cut := rg_cut [29]) (f := false) d_G_walks_12 rfl 15 rfl 0 0 2 13 rfl (fun _ => rfl), rg_e_cv1 (P := P_G_walks) (cut := rg_cut [29]) (f := false) d_G_walks_15 rfl T_W_find rfl, rg_e_if_ne (cut := rg_cut [29]) (f := false) d_G_walks_18 rfl 21 rfl 39 rfl, rg_e_aload_0 (cut := rg_cut [29]) (f := false) d_G_walks_21 rfl 22 rfl, rg_e_getr (P := P_G_walks) (cut := rg_cut [29]) (f := false) d_G_walks_22 rfl 25 rfl 0 0 2 13 rfl (fun _ => rfl), rg_e_iconst (cut := rg_cut [29]) (f := false) d_G_walks_25 rfl 26 rfl (nI 0) rg_ki_0, rg_e_put (P := P_G_walks) (cut := rg_cut [29]) (f := false) d_G_walks_26 rfl 29 rfl 13 3 3 rfl rfl, rg_e_aload_0 (cut := rg_cut [29]) (f := false) d_G_walks_39 rfl 40 rfl, rg_e_getr (P := P_G_walks) (cut := rg_cut [29]) (f := false) d_G_walks_40 rfl 43 rfl 0 0 2 13 rfl (fun _ => rfl), rg_e_geti (P := P_G_walks) (cut := rg_cut [29]) (f := false) d_G_walks_43 rfl 46 rfl 13 3 3 rfl (fun _ => rfl), rg_e_iret (cut := rg_cut [29]) (f := false) d_G_walks_46 rfl, rg_e_cut (cut := rg_cut [29]) 29 rfl, rg_nx_i, rg_nx_v, rg_wd_n, rg_wd_i, rg_wd_l, rg_wd_r, rg_clr_i, rg_clr_l, rg_clr_r, rg_clr_a, rg_clr_n, true_and, and_true, Nat.reduceAdd, Nat.reduceLeDiff, ↓Te_E_shape, ↓Te_W_find, rg_rt_e, rg_fit_ie, rg_fit_ve, rg_fit_1e, rg_fit_0e, rg_fit_be, p2, n0, n1, z1, z0, Bool.not_true, Bool.not_false, not_false_eq_true, forall_const, false_imp_iff, not_true_eq_false, and_true, true_and, Bool.true_eq_false]
  refine ⟨nd, hg, hG, h0, ?_⟩
  rw [p2]
  refine ⟨fun h => hX _ List.mem_cons_self _ _ (hK0 (fun z => h z.1) _ (rg_fr_up (rg_fr_rf _ _) (by decide) _ _) (rg_up_ss _ _ _ _)), fun h => ⟨hg, hG.e h0, hF (Classical.not_not.mp h), fun A w' q1 q2 q3 => ?_, fun q1 w' q2 => hX _ List.mem_cons_self _ _ (hK0 (fun z => ?_) _ (rg_fr_up q2 (by decide) _ _) (rg_up_ss _ _ _ _))⟩⟩
  · rw [q3.1]
    exact hK1 A w' (Classical.not_not.mp h) q1 q2 q3
  · obtain ⟨_, A, hA⟩ := z
    rw [q1] at hA
    cases hA
/-- no graph, no walks -/
def NgG (w : rg_W) : Prop := (∀ i, i < 9 → w.1 10 i = nI 0 ∧ w.1 11 i = nI 0 ∧ w.1 12 i = nI 0) ∧ w.1 4 8 = nI 0 ∧ w.1 4 9 = nI 0 ∧ w.1 4 10 = nI 0 ∧ w.1 13 3 = nI 0
theorem bad_or (n : Int32) : ((n < nI 3) = True) ∨ ((n < nI 3) = False ∧ (n ≤ nI 12) = False) ∨ ∃ k, 3 ≤ k ∧ k ≤ 12 ∧ n = nI k := by
  by_cases h : n < nI 3
  · exact Or.inl (eq_true h)
  · right
    by_cases h2 : n ≤ nI 12
    · right
      exact good_n (by rw [decide_eq_false h, decide_eq_false (Int32.not_lt.mpr h2)]; rfl)
    · exact Or.inl ⟨eq_false h, eq_false h2⟩
-- G.read
def P_G_read : rg_P := (rg_F_G, [(97, 1, 0, T_G_forgetGraph), (103, 3, 0, T_R_add)], [], [], [], [], 0)
def T_G_read : rg_T := fun as w K => match as with
  | [.ref 0, .int x, .int n] => ∃ nr ln pk, Rd nr ln pk w ∧ ((decide (n < nI 3) || decide (nI 12 < n)) = true → K (some (.float (UInt32.ofNat 1))) w) ∧ ((decide (n < nI 3) || decide (nI 12 < n)) = false → nr = 9 → K (some (.float (UInt32.ofNat 2))) w) ∧ (nr < 9 → ∀ n', 3 ≤ n' → n' ≤ 12 → n = nI n' → ∀ w', rg_fr [1, 2, 3, 4, 10, 11, 12, 13] w w' → Rd (nr + 1) (lnA nr ln n') (pkA nr pk x n') w' → NgG w' → K (some (.int (nI nr))) w')
  | _ => False
theorem Te_G_read (x : Int32) (n : Int32) (w : rg_W) (K : Option Value → rg_W → Prop) : T_G_read [.ref 0, .int x, .int n] w K = (∃ nr ln pk, Rd nr ln pk w ∧ ((decide (n < nI 3) || decide (nI 12 < n)) = true → K (some (.float (UInt32.ofNat 1))) w) ∧ ((decide (n < nI 3) || decide (nI 12 < n)) = false → nr = 9 → K (some (.float (UInt32.ofNat 2))) w) ∧ (nr < 9 → ∀ n', 3 ≤ n' → n' ≤ 12 → n = nI n' → ∀ w', rg_fr [1, 2, 3, 4, 10, 11, 12, 13] w w' → Rd (nr + 1) (lnA nr ln n') (pkA nr pk x n') w' → NgG w' → K (some (.int (nI nr))) w')) := rfl
theorem r_G_read : ∀ as w K, T_G_read as w K → ∃ r, as = .ref 0 :: r := by
  intro as w K h
  unfold T_G_read at h
  split at h
  · exact ⟨_, rfl⟩
  · exact h.elim
theorem G_G_read (l : Launch) (hl : l.stackTraces = false) : rg_GoodX l y_G_read c_G_read 3 (some .int) 6 T_G_read := by
  refine rg_goodX_of (P := P_G_read) (thr := [(11, 1, 32, 34, 36, "a read has 3 to 12 letters"), (33, 2, 43, 45, 47, "there are 9 reads")]) hl (by decide) (by decide) rfl (rg_pok rg_F_G_ok (rg_cons (cw_G_48 (G_G_forgetGraph l) (by decide) r_G_forgetGraph) (rg_cons (cw_G_51 (G_R_add l) (by decide) r_R_add) rg_nil))) (List.forall_mem_cons.mpr ⟨rfl, (List.forall_mem_cons.mpr ⟨rfl, (List.forall_mem_nil _)⟩)⟩) (List.forall_mem_cons.mpr ⟨⟨⟨d_G_read_11, d_G_read_14, d_G_read_15, d_G_read_17, d_G_read_20, by decide +kernel, by decide, by decide⟩, thC_1 _ _ _⟩, (List.forall_mem_cons.mpr ⟨⟨⟨d_G_read_33, d_G_read_36, d_G_read_37, d_G_read_39, d_G_read_42, by decide +kernel, by decide, by decide⟩, thC_2 _ _ _⟩, List.forall_mem_nil _⟩)⟩) ?_
  intro as w K Z hT hZ hX
  unfold T_G_read at hT
  split at hT
  rotate_left
  · exact hT.elim
  rename_i x n
  refine ⟨Nat.le_of_ble_eq_true rfl, ?_⟩
  show Z 0 [.ref 0, .int x, .int n] [] w 0
  obtain ⟨nr, ln, pk, hR, hK1, hK2, hK3⟩ := hT
  have hc := hR.2.1
  have hn9 := hR.1
  have z1 : (zI true = 0) = False := by decide +kernel
  have z0 : (zI false = 0) = True := by decide +kernel
  rcases bad_or n with h | ⟨h, h2⟩ | ⟨n', k3, k12, rfl⟩
  · refine hZ (rg_cut [11, 33]) 400 0 _ _ _ ?_; simp only [rg_e_iload_2 (cut := rg_cut [11, 33]) (f := true) d_G_read_0 rfl 1 rfl, rg_e_iconst (cut := rg_cut [11, 33]) (f := false) d_G_read_1 rfl 2 rfl (nI 3) rg_ki_3, rg_e_icmp_lt (cut := rg_cut [11, 33]) (f := false) d_G_read_2 rfl 5 rfl 11 rfl, rg_e_iload_2 (cut := rg_cut [11, 33]) (f := false) d_G_read_5 rfl 6 rfl, rg_e_bipush (cut := rg_cut [11, 33]) (f := false) d_G_read_6 rfl 8 rfl (nI 12) rg_kb_12, rg_e_icmp_le (cut := rg_cut [11, 33]) (f := false) d_G_read_8 rfl 11 rfl 21 rfl, rg_e_aload_0 (cut := rg_cut [11, 33]) (f := false) d_G_read_21 rfl 22 rfl, rg_e_getr (P := P_G_read) (cut := rg_cut [11, 33]) (f := false) d_G_read_22 rfl 25 rfl 0 0 0 1 rfl (fun _ => rfl), rg_e_geti (P := P_G_read) (cut := rg_cut [11, 33]) (f := false) d_G_read_25 rfl 28 rfl 1 1 2 rfl (fun _ => rfl), rg_e_bipush (cut := rg_cut [11, 33]) (f := false) d_G_read_28 rfl 30 rfl (nI 9) rg_kb_9, rg_e_icmp_ne (cut := rg_cut [11, 33]) (f := false) d_G_read_30 rfl 33 rfl 43 rfl, rg_e_aload_0 (cut := rg_cut [11, 33]) (f := false) d_G_read_43 rfl 44 rfl, rg_e_cv1 (P := P_G_read) (cut := rg_cut [11, 33]) (f := false) d_G_read_44 rfl T_G_forgetGraph rfl, rg_e_aload_0 (cut := rg_cut [11, 33]) (f := false) d_G_read_47 rfl 48 rfl, rg_e_getr (P := P_G_read) (cut := rg_cut [11, 33]) (f := false) d_G_read_48 rfl 51 rfl 0 0 0 1 rfl (fun _ => rfl), rg_e_iload_1 (cut := rg_cut [11, 33]) (f := false) d_G_read_51 rfl 52 rfl, rg_e_iload_2 (cut := rg_cut [11, 33]) (f := false) d_G_read_52 rfl 53 rfl, rg_e_cv3 (P := P_G_read) (cut := rg_cut [11, 33]) (f := false) d_G_read_53 rfl T_R_add rfl, rg_e_iret (cut := rg_cut [11, 33]) (f := false) d_G_read_56 rfl, rg_e_cut (cut := rg_cut [11, 33]) 11 rfl, rg_e_cut (cut := rg_cut [11, 33]) 33 rfl, rg_nx_i, rg_nx_v, rg_wd_n, rg_wd_i, rg_wd_l, rg_wd_r, rg_clr_i, rg_clr_l, rg_clr_r, rg_clr_a, rg_clr_n, true_and, and_true, Nat.reduceAdd, Nat.reduceLeDiff, ↓Te_G_forgetGraph, ↓Te_R_add, rg_rt_e, rg_fit_ie, rg_fit_ve, rg_fit_1e, rg_fit_0e, rg_fit_be, h, z1, z0, Bool.not_true, Bool.not_false, not_false_eq_true, forall_const, false_imp_iff, not_true_eq_false, and_true, true_and, Bool.true_eq_false]
    exact hX _ List.mem_cons_self _ _ (hK1 (by rw [decide_eq_true (of_eq_true h)]; rfl))
  · refine hZ (rg_cut [11, 33]) 400 0 _ _ _ ?_; simp only [rg_e_iload_2 (cut := rg_cut [11, 33]) (f := true) d_G_read_0 rfl 1 rfl, rg_e_iconst (cut := rg_cut [11, 33]) (f := false) d_G_read_1 rfl 2 rfl (nI 3) rg_ki_3, rg_e_icmp_lt (cut := rg_cut [11, 33]) (f := false) d_G_read_2 rfl 5 rfl 11 rfl, rg_e_iload_2 (cut := rg_cut [11, 33]) (f := false) d_G_read_5 rfl 6 rfl, rg_e_bipush (cut := rg_cut [11, 33]) (f := false) d_G_read_6 rfl 8 rfl (nI 12) rg_kb_12, rg_e_icmp_le (cut := rg_cut [11, 33]) (f := false) d_G_read_8 rfl 11 rfl 21 rfl, rg_e_aload_0 (cut := rg_cut [11, 33]) (f := false) d_G_read_21 rfl 22 rfl, rg_e_getr (P := P_G_read) (cut := rg_cut [11, 33]) (f := false) d_G_read_22 rfl 25 rfl 0 0 0 1 rfl (fun _ => rfl), rg_e_geti (P := P_G_read) (cut := rg_cut [11, 33]) (f := false) d_G_read_25 rfl 28 rfl 1 1 2 rfl (fun _ => rfl), rg_e_bipush (cut := rg_cut [11, 33]) (f := false) d_G_read_28 rfl 30 rfl (nI 9) rg_kb_9, rg_e_icmp_ne (cut := rg_cut [11, 33]) (f := false) d_G_read_30 rfl 33 rfl 43 rfl, rg_e_aload_0 (cut := rg_cut [11, 33]) (f := false) d_G_read_43 rfl 44 rfl, rg_e_cv1 (P := P_G_read) (cut := rg_cut [11, 33]) (f := false) d_G_read_44 rfl T_G_forgetGraph rfl, rg_e_aload_0 (cut := rg_cut [11, 33]) (f := false) d_G_read_47 rfl 48 rfl, rg_e_getr (P := P_G_read) (cut := rg_cut [11, 33]) (f := false) d_G_read_48 rfl 51 rfl 0 0 0 1 rfl (fun _ => rfl), rg_e_iload_1 (cut := rg_cut [11, 33]) (f := false) d_G_read_51 rfl 52 rfl, rg_e_iload_2 (cut := rg_cut [11, 33]) (f := false) d_G_read_52 rfl 53 rfl, rg_e_cv3 (P := P_G_read) (cut := rg_cut [11, 33]) (f := false) d_G_read_53 rfl T_R_add rfl, rg_e_iret (cut := rg_cut [11, 33]) (f := false) d_G_read_56 rfl, rg_e_cut (cut := rg_cut [11, 33]) 11 rfl, rg_e_cut (cut := rg_cut [11, 33]) 33 rfl, rg_nx_i, rg_nx_v, rg_wd_n, rg_wd_i, rg_wd_l, rg_wd_r, rg_clr_i, rg_clr_l, rg_clr_r, rg_clr_a, rg_clr_n, true_and, and_true, Nat.reduceAdd, Nat.reduceLeDiff, ↓Te_G_forgetGraph, ↓Te_R_add, rg_rt_e, rg_fit_ie, rg_fit_ve, rg_fit_1e, rg_fit_0e, rg_fit_be, h, h2, z1, z0, Bool.not_true, Bool.not_false, not_false_eq_true, forall_const, false_imp_iff, not_true_eq_false, and_true, true_and, Bool.true_eq_false]
    refine hX _ List.mem_cons_self _ _ (hK1 ?_)
    have : nI 12 < n := Int32.not_le.mp (of_eq_false h2)
    rw [decide_eq_true this, Bool.or_true]
  · have h : (nI n' < nI 3) = False := by rw [nI_ltp (by omega) (by omega)]; exact eq_false (by omega)
    have h2 : (nI n' ≤ nI 12) = True := by rw [nI_lep (by omega) (by omega)]; exact eq_true k12
    have p9 : (nI nr = nI 9) = (nr = 9) := nI_eqp (by omega) (by omega)
    refine hZ (rg_cut [11, 33]) 400 0 _ _ _ ?_; simp only [rg_e_iload_2 (cut := rg_cut [11, 33]) (f := true) d_G_read_0 rfl 1 rfl, rg_e_iconst (cut := rg_cut [11, 33]) (f := false) d_G_read_1 rfl 2 rfl (nI 3) rg_ki_3, rg_e_icmp_lt (cut := rg_cut [11, 33]) (f := false) d_G_read_2 rfl 5 rfl 11 rfl, rg_e_iload_2 (cut := rg_cut [11, 33]) (f := false) d_G_read_5 rfl 6 rfl, rg_e_bipush (cut := rg_cut [11, 33]) (f := false) d_G_read_6 rfl 8 rfl (nI 12) rg_kb_12, rg_e_icmp_le (cut := rg_cut [11, 33]) (f := false) d_G_read_8 rfl 11 rfl 21 rfl, rg_e_aload_0 (cut := rg_cut [11, 33]) (f := false) d_G_read_21 rfl 22 rfl, rg_e_getr (P := P_G_read) (cut := rg_cut [11, 33]) (f := false) d_G_read_22 rfl 25 rfl 0 0 0 1 rfl (fun _ => rfl), rg_e_geti (P := P_G_read) (cut := rg_cut [11, 33]) (f := false) d_G_read_25 rfl 28 rfl 1 1 2 rfl (fun _ => rfl), rg_e_bipush (cut := rg_cut [11, 33]) (f := false) d_G_read_28 rfl 30 rfl (nI 9) rg_kb_9, rg_e_icmp_ne (cut := rg_cut [11, 33]) (f := false) d_G_read_30 rfl 33 rfl 43 rfl, rg_e_aload_0 (cut := rg_cut [11, 33]) (f := false) d_G_read_43 rfl 44 rfl, rg_e_cv1 (P := P_G_read) (cut := rg_cut [11, 33]) (f := false) d_G_read_44 rfl T_G_forgetGraph rfl, rg_e_aload_0 (cut := rg_cut [11, 33]) (f := false) d_G_read_47 rfl 48 rfl, rg_e_getr (P := P_G_read) (cut := rg_cut [11, 33]) (f := false) d_G_read_48 rfl 51 rfl 0 0 0 1 rfl (fun _ => rfl), rg_e_iload_1 (cut := rg_cut [11, 33]) (f := false) d_G_read_51 rfl 52 rfl, rg_e_iload_2 (cut := rg_cut [11, 33]) (f := false) d_G_read_52 rfl 53 rfl, rg_e_cv3 (P := P_G_read) (cut := rg_cut [11, 33]) (f := false) d_G_read_53 rfl T_R_add rfl, rg_e_iret (cut := rg_cut [11, 33]) (f := false) d_G_read_56 rfl, rg_e_cut (cut := rg_cut [11, 33]) 11 rfl, rg_e_cut (cut := rg_cut [11, 33]) 33 rfl, rg_nx_i, rg_nx_v, rg_wd_n, rg_wd_i, rg_wd_l, rg_wd_r, rg_clr_i, rg_clr_l, rg_clr_r, rg_clr_a, rg_clr_n, true_and, and_true, Nat.reduceAdd, Nat.reduceLeDiff, ↓Te_G_forgetGraph, ↓Te_R_add, rg_rt_e, rg_fit_ie, rg_fit_ve, rg_fit_1e, rg_fit_0e, rg_fit_be, h, h2, hc, p9, z1, z0, Bool.not_true, Bool.not_false, not_false_eq_true, forall_const, false_imp_iff, not_true_eq_false, and_true, true_and, Bool.true_eq_false]
    have hb : (decide (nI n' < nI 3) || decide (nI 12 < nI n')) = false := by rw [decide_eq_false (of_eq_false h), decide_eq_false (Int32.not_lt.mpr (of_eq_true h2))]; rfl
    refine ⟨fun h9 w1 hF => ?_, fun h9 => hX _ (List.mem_cons_of_mem _ List.mem_cons_self) _ _ (hK2 hb (Classical.not_not.mp h9))⟩
    have hlt : nr < 9 := by omega
    have e1 : (rg_up w1 13 3 (nI 0)).1 1 2 = nI nr := by rw [rg_up_n (by decide), hF.1.1 1 (by decide)]; exact hc
    have s1 : nI nr + nI 1 - nI 1 = nI nr := by rw [nI_add, pk_sub (by omega), Nat.add_sub_cancel]
    rw [e1, nI_clamp (by omega), s1, nI_add, lowI_raw x k12]
    refine ⟨vp_in_nI hlt (by omega), hK3 hlt n' k3 k12 rfl _ ?_ ⟨by omega, rg_up_ss _ _ _ _, fun i hi => ?_⟩ ⟨fun i hi => ?_, ?_, ?_, ?_, ?_⟩⟩
    · exact rg_fr_up (rg_fr_up (rg_fr_up (rg_fr_up (rg_fr_sub hF.1 (by decide)) (by decide) _ _) (by decide) _ _) (by decide) _ _) (by decide) _ _
    · simp only [rg_up_s, rg_up_n, ne_eq, not_false_eq_true, Nat.reduceEqDiff]
      unfold lnA pkA
      by_cases e : i = nr
      · subst e
        rw [if_pos rfl, if_pos rfl, upd_s, upd_s]
        exact ⟨k3, k12, Nat.mod_lt _ (Nat.pow_pos (by decide)), rfl, rfl⟩
      · rw [if_neg e, if_neg e, upd_n e, upd_n e, hF.1.1 3 (by decide), hF.1.1 2 (by decide)]
        exact hR.2.2 i (by omega)
    · simp only [rg_up_s, rg_up_n, ne_eq, not_false_eq_true, Nat.reduceEqDiff]
      exact hF.2.1 i hi
    · simp only [rg_up_s, rg_up_n, ne_eq, not_false_eq_true, Nat.reduceEqDiff]; exact hF.2.2.1
    · simp only [rg_up_s, rg_up_n, ne_eq, not_false_eq_true, Nat.reduceEqDiff]; exact hF.2.2.2.1
    · simp only [rg_up_s, rg_up_n, ne_eq, not_false_eq_true, Nat.reduceEqDiff]; exact hF.2.2.2.2
    · simp only [rg_up_s, rg_up_n, ne_eq, not_false_eq_true, Nat.reduceEqDiff]; rw [upd_s]
