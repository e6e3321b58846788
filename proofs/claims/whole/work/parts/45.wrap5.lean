/-! the wrappers of the law -/
-- L.read
def hk_L_read : List rg_Hk := [(0, 10, 13, 13, 1), (0, 10, 17, 15, 2)]
def P_L_read : rg_P := ([], [(15, 3, 1, rg_upT T_G_read)], [], [], [], rg_hd hk_L_read, 1)
def T_L_read : rg_T := fun as w K => match as with
  | [.ref 0, .int x0, .int x1, .ref 34] => T_G_read [.ref 0, .int x0, .int x1] w (rg_wr [(1, 1), (2, 2)] (fun v => v.toInt64) K)
  | _ => False
theorem G_L_read (l : Launch) (hl : l.stackTraces = false) : rg_GoodW l y_L_read c_L_read 5 (some .int) hk_L_read 7 T_L_read := by
  refine rg_goodW_of (k := 7) (n := 3) (cpc := 5) (TG := T_G_read) (by decide) ⟨y_G_read, c_G_read, 3, (some .int), 6, 7, 2, G_G_read l hl, rfl, by decide, by decide, rg_in rfl (by decide +kernel), rg_in rfl (by decide +kernel), ⟨by decide, by decide, by decide +kernel⟩, rg_in rfl (by decide +kernel), rfl, rfl, rg_in rfl (by decide +kernel), rg_in rfl (by decide +kernel), fun as w K h => by obtain ⟨r, rfl⟩ := r_G_read as w K h; exact ⟨0, 0, _, Tn_G, 3, r, rfl, rfl, rfl⟩⟩ (List.forall_mem_cons.mpr ⟨⟨by decide +kernel, by decide, rg_in rfl (by decide +kernel), by decide, by decide⟩, (List.forall_mem_cons.mpr ⟨⟨by decide +kernel, by decide, rg_in rfl (by decide +kernel), by decide, by decide⟩, List.forall_mem_nil _⟩)⟩) (dec_at (by decide +kernel)) ?_
  intro as w K Z hT hZ
  unfold T_L_read at hT
  split at hT
  rotate_left
  · exact hT.elim
  rename_i x0 x1
  refine ⟨Nat.le_of_ble_eq_true rfl, ?_⟩
  show Z 0 [.ref 0, .int x0, .int x1, .ref 34, .null] [] w 0
  refine hZ (rg_cut []) 400 0 _ _ _ ?_
  show rg_run P_L_read none c_L_read (rg_cut []) Z (rg_rt (some .int) K) true 400 0 [.ref 0, .int x0, .int x1, .ref 34, .null] [] w 0
  simp only [rg_e_aload_3 (cut := rg_cut []) (f := true) d_L_read_0 rfl 1 rfl, rg_e_iconst (cut := rg_cut []) (f := false) d_L_read_1 rfl 2 rfl (nI 0) rg_ki_0, rg_e_aload_0 (cut := rg_cut []) (f := false) d_L_read_2 rfl 3 rfl, rg_e_iload_1 (cut := rg_cut []) (f := false) d_L_read_3 rfl 4 rfl, rg_e_iload_2 (cut := rg_cut []) (f := false) d_L_read_4 rfl 5 rfl, rg_e_cx3 (P := P_L_read) (cut := rg_cut []) (f := false) d_L_read_5 rfl (rg_upT T_G_read) rfl, rg_e_i2l (cut := rg_cut []) (f := false) d_L_read_8 rfl 9 rfl, rg_e_last (cut := rg_cut []) (f := false) d_L_read_9 rfl 10 rfl 34 1 rfl, rg_e_goto (cut := rg_cut []) (f := false) d_L_read_10 rfl 21 rfl, rg_e_xstore_4 (cut := rg_cut []) (f := false) d_L_read_13 rfl 15 rfl, rg_e_iconst (cut := rg_cut []) (f := false) d_L_read_15 rfl 16 rfl (nI 1) rg_ki_1, rg_e_iret (cut := rg_cut []) (f := false) d_L_read_16 rfl, rg_e_xstore_4 (cut := rg_cut []) (f := false) d_L_read_17 rfl 19 rfl, rg_e_iconst (cut := rg_cut []) (f := false) d_L_read_19 rfl 20 rfl (nI 2) rg_ki_2, rg_e_iret (cut := rg_cut []) (f := false) d_L_read_20 rfl, rg_e_iconst (cut := rg_cut []) (f := false) d_L_read_21 rfl 22 rfl (nI 0) rg_ki_0, rg_e_iret (cut := rg_cut []) (f := false) d_L_read_22 rfl, rg_nx_i, rg_nx_v, rg_wd_n, rg_wd_i, rg_wd_l, rg_wd_r, rg_clr_i, rg_clr_l, rg_clr_r, rg_clr_a, rg_clr_n, true_and, and_true, Nat.reduceAdd, Nat.reduceLeDiff, rg_rt_e, rg_fit_ie, rg_fit_ve, rg_fit_1e, rg_fit_0e, rg_fit_be, rg_nx_x, rg_c34]
  refine ⟨by decide, rg_wr [(1, 1), (2, 2)] (fun v => v.toInt64) K, hT, fun r w' h => ?_⟩
  cases r with
  | none => exact h.elim
  | some v =>
    cases v with
    | int v =>
      have h : K (some (.int (nI 0))) (rg_upL w' 34 0 ((fun v => v.toInt64) v)) := h
      simp only [rg_e_aload_3 (cut := rg_cut []) (f := true) d_L_read_0 rfl 1 rfl, rg_e_iconst (cut := rg_cut []) (f := false) d_L_read_1 rfl 2 rfl (nI 0) rg_ki_0, rg_e_aload_0 (cut := rg_cut []) (f := false) d_L_read_2 rfl 3 rfl, rg_e_iload_1 (cut := rg_cut []) (f := false) d_L_read_3 rfl 4 rfl, rg_e_iload_2 (cut := rg_cut []) (f := false) d_L_read_4 rfl 5 rfl, rg_e_cx3 (P := P_L_read) (cut := rg_cut []) (f := false) d_L_read_5 rfl (rg_upT T_G_read) rfl, rg_e_i2l (cut := rg_cut []) (f := false) d_L_read_8 rfl 9 rfl, rg_e_last (cut := rg_cut []) (f := false) d_L_read_9 rfl 10 rfl 34 1 rfl, rg_e_goto (cut := rg_cut []) (f := false) d_L_read_10 rfl 21 rfl, rg_e_xstore_4 (cut := rg_cut []) (f := false) d_L_read_13 rfl 15 rfl, rg_e_iconst (cut := rg_cut []) (f := false) d_L_read_15 rfl 16 rfl (nI 1) rg_ki_1, rg_e_iret (cut := rg_cut []) (f := false) d_L_read_16 rfl, rg_e_xstore_4 (cut := rg_cut []) (f := false) d_L_read_17 rfl 19 rfl, rg_e_iconst (cut := rg_cut []) (f := false) d_L_read_19 rfl 20 rfl (nI 2) rg_ki_2, rg_e_iret (cut := rg_cut []) (f := false) d_L_read_20 rfl, rg_e_iconst (cut := rg_cut []) (f := false) d_L_read_21 rfl 22 rfl (nI 0) rg_ki_0, rg_e_iret (cut := rg_cut []) (f := false) d_L_read_22 rfl, rg_nx_i, rg_nx_v, rg_wd_n, rg_wd_i, rg_wd_l, rg_wd_r, rg_clr_i, rg_clr_l, rg_clr_r, rg_clr_a, rg_clr_n, true_and, and_true, Nat.reduceAdd, Nat.reduceLeDiff, rg_rt_e, rg_fit_ie, rg_fit_ve, rg_fit_1e, rg_fit_0e, rg_fit_be, rg_nx_x, rg_c34]
      exact ⟨rg_in34, h⟩
    | float k =>
      rw [rg_nx_x]
      by_cases e0 : 1 = k.toNat
      · have h : rg_some (rg_lk [(1, 1), (2, 2)] k.toNat) (fun c => K (some (.int (nI c))) w') := h
        rw [← e0] at h ⊢
        have h : K (some (.int (nI 1))) w' := h
        intro a
        show rg_run P_L_read none c_L_read (rg_cut []) Z (rg_rt (some .int) K) false 394 13 [.ref 0, .int x0, .int x1, .ref 34, .null] [.retAddr a] w' 1
        simp only [rg_e_aload_3 (cut := rg_cut []) (f := true) d_L_read_0 rfl 1 rfl, rg_e_iconst (cut := rg_cut []) (f := false) d_L_read_1 rfl 2 rfl (nI 0) rg_ki_0, rg_e_aload_0 (cut := rg_cut []) (f := false) d_L_read_2 rfl 3 rfl, rg_e_iload_1 (cut := rg_cut []) (f := false) d_L_read_3 rfl 4 rfl, rg_e_iload_2 (cut := rg_cut []) (f := false) d_L_read_4 rfl 5 rfl, rg_e_cx3 (P := P_L_read) (cut := rg_cut []) (f := false) d_L_read_5 rfl (rg_upT T_G_read) rfl, rg_e_i2l (cut := rg_cut []) (f := false) d_L_read_8 rfl 9 rfl, rg_e_last (cut := rg_cut []) (f := false) d_L_read_9 rfl 10 rfl 34 1 rfl, rg_e_goto (cut := rg_cut []) (f := false) d_L_read_10 rfl 21 rfl, rg_e_xstore_4 (cut := rg_cut []) (f := false) d_L_read_13 rfl 15 rfl, rg_e_iconst (cut := rg_cut []) (f := false) d_L_read_15 rfl 16 rfl (nI 1) rg_ki_1, rg_e_iret (cut := rg_cut []) (f := false) d_L_read_16 rfl, rg_e_xstore_4 (cut := rg_cut []) (f := false) d_L_read_17 rfl 19 rfl, rg_e_iconst (cut := rg_cut []) (f := false) d_L_read_19 rfl 20 rfl (nI 2) rg_ki_2, rg_e_iret (cut := rg_cut []) (f := false) d_L_read_20 rfl, rg_e_iconst (cut := rg_cut []) (f := false) d_L_read_21 rfl 22 rfl (nI 0) rg_ki_0, rg_e_iret (cut := rg_cut []) (f := false) d_L_read_22 rfl, rg_nx_i, rg_nx_v, rg_wd_n, rg_wd_i, rg_wd_l, rg_wd_r, rg_clr_i, rg_clr_l, rg_clr_r, rg_clr_a, rg_clr_n, true_and, and_true, Nat.reduceAdd, Nat.reduceLeDiff, rg_rt_e, rg_fit_ie, rg_fit_ve, rg_fit_1e, rg_fit_0e, rg_fit_be, rg_nx_x, rg_c34]
        exact h
      · by_cases e1 : 2 = k.toNat
        · have h : rg_some (rg_lk [(1, 1), (2, 2)] k.toNat) (fun c => K (some (.int (nI c))) w') := h
          rw [← e1] at h ⊢
          have h : K (some (.int (nI 2))) w' := h
          intro a
          show rg_run P_L_read none c_L_read (rg_cut []) Z (rg_rt (some .int) K) false 394 17 [.ref 0, .int x0, .int x1, .ref 34, .null] [.retAddr a] w' 1
          simp only [rg_e_aload_3 (cut := rg_cut []) (f := true) d_L_read_0 rfl 1 rfl, rg_e_iconst (cut := rg_cut []) (f := false) d_L_read_1 rfl 2 rfl (nI 0) rg_ki_0, rg_e_aload_0 (cut := rg_cut []) (f := false) d_L_read_2 rfl 3 rfl, rg_e_iload_1 (cut := rg_cut []) (f := false) d_L_read_3 rfl 4 rfl, rg_e_iload_2 (cut := rg_cut []) (f := false) d_L_read_4 rfl 5 rfl, rg_e_cx3 (P := P_L_read) (cut := rg_cut []) (f := false) d_L_read_5 rfl (rg_upT T_G_read) rfl, rg_e_i2l (cut := rg_cut []) (f := false) d_L_read_8 rfl 9 rfl, rg_e_last (cut := rg_cut []) (f := false) d_L_read_9 rfl 10 rfl 34 1 rfl, rg_e_goto (cut := rg_cut []) (f := false) d_L_read_10 rfl 21 rfl, rg_e_xstore_4 (cut := rg_cut []) (f := false) d_L_read_13 rfl 15 rfl, rg_e_iconst (cut := rg_cut []) (f := false) d_L_read_15 rfl 16 rfl (nI 1) rg_ki_1, rg_e_iret (cut := rg_cut []) (f := false) d_L_read_16 rfl, rg_e_xstore_4 (cut := rg_cut []) (f := false) d_L_read_17 rfl 19 rfl, rg_e_iconst (cut := rg_cut []) (f := false) d_L_read_19 rfl 20 rfl (nI 2) rg_ki_2, rg_e_iret (cut := rg_cut []) (f := false) d_L_read_20 rfl, rg_e_iconst (cut := rg_cut []) (f := false) d_L_read_21 rfl 22 rfl (nI 0) rg_ki_0, rg_e_iret (cut := rg_cut []) (f := false) d_L_read_22 rfl, rg_nx_i, rg_nx_v, rg_wd_n, rg_wd_i, rg_wd_l, rg_wd_r, rg_clr_i, rg_clr_l, rg_clr_r, rg_clr_a, rg_clr_n, true_and, and_true, Nat.reduceAdd, Nat.reduceLeDiff, rg_rt_e, rg_fit_ie, rg_fit_ve, rg_fit_1e, rg_fit_0e, rg_fit_be, rg_nx_x, rg_c34]
          exact h
        · have h : rg_some (rg_lk [(1, 1), (2, 2)] k.toNat) (fun c => K (some (.int (nI c))) w') := h
          rw [show rg_lk [(1, 1), (2, 2)] k.toNat = none from by simp [rg_lk, e0, e1]] at h
          exact h.elim
    | long _ => exact h.elim
    | double _ => exact h.elim
    | null => exact h.elim
    | ref _ => exact h.elim
    | retAddr _ => exact h.elim
-- L.letter
def hk_L_letter : List rg_Hk := [(0, 10, 13, 13, 1), (0, 10, 17, 20, 3)]
def P_L_letter : rg_P := ([], [(35, 3, 1, rg_upT T_G_letter)], [], [], [], rg_hd hk_L_letter, 1)
def T_L_letter : rg_T := fun as w K => match as with
  | [.ref 0, .int x0, .int x1, .ref 34] => T_G_letter [.ref 0, .int x0, .int x1] w (rg_wr [(1, 1), (3, 2)] (fun v => v.toInt64) K)
  | _ => False
theorem G_L_letter (l : Launch) (hl : l.stackTraces = false) : rg_GoodW l y_L_letter c_L_letter 5 (some .int) hk_L_letter 7 T_L_letter := by
  refine rg_goodW_of (k := 17) (n := 3) (cpc := 5) (TG := T_G_letter) (by decide) ⟨y_G_letter, c_G_letter, 3, (some .int), 6, 17, 2, G_G_letter l hl, rfl, by decide, by decide, rg_in rfl (by decide +kernel), rg_in rfl (by decide +kernel), ⟨by decide, by decide, by decide +kernel⟩, rg_in rfl (by decide +kernel), rfl, rfl, rg_in rfl (by decide +kernel), rg_in rfl (by decide +kernel), fun as w K h => by obtain ⟨r, rfl⟩ := r_G_letter as w K h; exact ⟨0, 0, _, Tn_G, 3, r, rfl, rfl, rfl⟩⟩ (List.forall_mem_cons.mpr ⟨⟨by decide +kernel, by decide, rg_in rfl (by decide +kernel), by decide, by decide⟩, (List.forall_mem_cons.mpr ⟨⟨by decide +kernel, by decide, rg_in rfl (by decide +kernel), by decide, by decide⟩, List.forall_mem_nil _⟩)⟩) (dec_at (by decide +kernel)) ?_
  intro as w K Z hT hZ
  unfold T_L_letter at hT
  split at hT
  rotate_left
  · exact hT.elim
  rename_i x0 x1
  refine ⟨Nat.le_of_ble_eq_true rfl, ?_⟩
  show Z 0 [.ref 0, .int x0, .int x1, .ref 34, .null] [] w 0
  refine hZ (rg_cut []) 400 0 _ _ _ ?_
  show rg_run P_L_letter none c_L_letter (rg_cut []) Z (rg_rt (some .int) K) true 400 0 [.ref 0, .int x0, .int x1, .ref 34, .null] [] w 0
  simp only [rg_e_aload_3 (cut := rg_cut []) (f := true) d_L_letter_0 rfl 1 rfl, rg_e_iconst (cut := rg_cut []) (f := false) d_L_letter_1 rfl 2 rfl (nI 0) rg_ki_0, rg_e_aload_0 (cut := rg_cut []) (f := false) d_L_letter_2 rfl 3 rfl, rg_e_iload_1 (cut := rg_cut []) (f := false) d_L_letter_3 rfl 4 rfl, rg_e_iload_2 (cut := rg_cut []) (f := false) d_L_letter_4 rfl 5 rfl, rg_e_cx3 (P := P_L_letter) (cut := rg_cut []) (f := false) d_L_letter_5 rfl (rg_upT T_G_letter) rfl, rg_e_i2l (cut := rg_cut []) (f := false) d_L_letter_8 rfl 9 rfl, rg_e_last (cut := rg_cut []) (f := false) d_L_letter_9 rfl 10 rfl 34 1 rfl, rg_e_goto (cut := rg_cut []) (f := false) d_L_letter_10 rfl 21 rfl, rg_e_xstore_4 (cut := rg_cut []) (f := false) d_L_letter_13 rfl 15 rfl, rg_e_iconst (cut := rg_cut []) (f := false) d_L_letter_15 rfl 16 rfl (nI 1) rg_ki_1, rg_e_iret (cut := rg_cut []) (f := false) d_L_letter_16 rfl, rg_e_xstore_4 (cut := rg_cut []) (f := false) d_L_letter_17 rfl 19 rfl, rg_e_iconst (cut := rg_cut []) (f := false) d_L_letter_19 rfl 20 rfl (nI 2) rg_ki_2, rg_e_iret (cut := rg_cut []) (f := false) d_L_letter_20 rfl, rg_e_iconst (cut := rg_cut []) (f := false) d_L_letter_21 rfl 22 rfl (nI 0) rg_ki_0, rg_e_iret (cut := rg_cut []) (f := false) d_L_letter_22 rfl, rg_nx_i, rg_nx_v, rg_wd_n, rg_wd_i, rg_wd_l, rg_wd_r, rg_clr_i, rg_clr_l, rg_clr_r, rg_clr_a, rg_clr_n, true_and, and_true, Nat.reduceAdd, Nat.reduceLeDiff, rg_rt_e, rg_fit_ie, rg_fit_ve, rg_fit_1e, rg_fit_0e, rg_fit_be, rg_nx_x, rg_c34]
  refine ⟨by decide, rg_wr [(1, 1), (3, 2)] (fun v => v.toInt64) K, hT, fun r w' h => ?_⟩
  cases r with
  | none => exact h.elim
  | some v =>
    cases v with
    | int v =>
      have h : K (some (.int (nI 0))) (rg_upL w' 34 0 ((fun v => v.toInt64) v)) := h
      simp only [rg_e_aload_3 (cut := rg_cut []) (f := true) d_L_letter_0 rfl 1 rfl, rg_e_iconst (cut := rg_cut []) (f := false) d_L_letter_1 rfl 2 rfl (nI 0) rg_ki_0, rg_e_aload_0 (cut := rg_cut []) (f := false) d_L_letter_2 rfl 3 rfl, rg_e_iload_1 (cut := rg_cut []) (f := false) d_L_letter_3 rfl 4 rfl, rg_e_iload_2 (cut := rg_cut []) (f := false) d_L_letter_4 rfl 5 rfl, rg_e_cx3 (P := P_L_letter) (cut := rg_cut []) (f := false) d_L_letter_5 rfl (rg_upT T_G_letter) rfl, rg_e_i2l (cut := rg_cut []) (f := false) d_L_letter_8 rfl 9 rfl, rg_e_last (cut := rg_cut []) (f := false) d_L_letter_9 rfl 10 rfl 34 1 rfl, rg_e_goto (cut := rg_cut []) (f := false) d_L_letter_10 rfl 21 rfl, rg_e_xstore_4 (cut := rg_cut []) (f := false) d_L_letter_13 rfl 15 rfl, rg_e_iconst (cut := rg_cut []) (f := false) d_L_letter_15 rfl 16 rfl (nI 1) rg_ki_1, rg_e_iret (cut := rg_cut []) (f := false) d_L_letter_16 rfl, rg_e_xstore_4 (cut := rg_cut []) (f := false) d_L_letter_17 rfl 19 rfl, rg_e_iconst (cut := rg_cut []) (f := false) d_L_letter_19 rfl 20 rfl (nI 2) rg_ki_2, rg_e_iret (cut := rg_cut []) (f := false) d_L_letter_20 rfl, rg_e_iconst (cut := rg_cut []) (f := false) d_L_letter_21 rfl 22 rfl (nI 0) rg_ki_0, rg_e_iret (cut := rg_cut []) (f := false) d_L_letter_22 rfl, rg_nx_i, rg_nx_v, rg_wd_n, rg_wd_i, rg_wd_l, rg_wd_r, rg_clr_i, rg_clr_l, rg_clr_r, rg_clr_a, rg_clr_n, true_and, and_true, Nat.reduceAdd, Nat.reduceLeDiff, rg_rt_e, rg_fit_ie, rg_fit_ve, rg_fit_1e, rg_fit_0e, rg_fit_be, rg_nx_x, rg_c34]
      exact ⟨rg_in34, h⟩
    | float k =>
      rw [rg_nx_x]
      by_cases e0 : 1 = k.toNat
      · have h : rg_some (rg_lk [(1, 1), (3, 2)] k.toNat) (fun c => K (some (.int (nI c))) w') := h
        rw [← e0] at h ⊢
        have h : K (some (.int (nI 1))) w' := h
        intro a
        show rg_run P_L_letter none c_L_letter (rg_cut []) Z (rg_rt (some .int) K) false 394 13 [.ref 0, .int x0, .int x1, .ref 34, .null] [.retAddr a] w' 1
        simp only [rg_e_aload_3 (cut := rg_cut []) (f := true) d_L_letter_0 rfl 1 rfl, rg_e_iconst (cut := rg_cut []) (f := false) d_L_letter_1 rfl 2 rfl (nI 0) rg_ki_0, rg_e_aload_0 (cut := rg_cut []) (f := false) d_L_letter_2 rfl 3 rfl, rg_e_iload_1 (cut := rg_cut []) (f := false) d_L_letter_3 rfl 4 rfl, rg_e_iload_2 (cut := rg_cut []) (f := false) d_L_letter_4 rfl 5 rfl, rg_e_cx3 (P := P_L_letter) (cut := rg_cut []) (f := false) d_L_letter_5 rfl (rg_upT T_G_letter) rfl, rg_e_i2l (cut := rg_cut []) (f := false) d_L_letter_8 rfl 9 rfl, rg_e_last (cut := rg_cut []) (f := false) d_L_letter_9 rfl 10 rfl 34 1 rfl, rg_e_goto (cut := rg_cut []) (f := false) d_L_letter_10 rfl 21 rfl, rg_e_xstore_4 (cut := rg_cut []) (f := false) d_L_letter_13 rfl 15 rfl, rg_e_iconst (cut := rg_cut []) (f := false) d_L_letter_15 rfl 16 rfl (nI 1) rg_ki_1, rg_e_iret (cut := rg_cut []) (f := false) d_L_letter_16 rfl, rg_e_xstore_4 (cut := rg_cut []) (f := false) d_L_letter_17 rfl 19 rfl, rg_e_iconst (cut := rg_cut []) (f := false) d_L_letter_19 rfl 20 rfl (nI 2) rg_ki_2, rg_e_iret (cut := rg_cut []) (f := false) d_L_letter_20 rfl, rg_e_iconst (cut := rg_cut []) (f := false) d_L_letter_21 rfl 22 rfl (nI 0) rg_ki_0, rg_e_iret (cut := rg_cut []) (f := false) d_L_letter_22 rfl, rg_nx_i, rg_nx_v, rg_wd_n, rg_wd_i, rg_wd_l, rg_wd_r, rg_clr_i, rg_clr_l, rg_clr_r, rg_clr_a, rg_clr_n, true_and, and_true, Nat.reduceAdd, Nat.reduceLeDiff, rg_rt_e, rg_fit_ie, rg_fit_ve, rg_fit_1e, rg_fit_0e, rg_fit_be, rg_nx_x, rg_c34]
        exact h
      · by_cases e1 : 3 = k.toNat
        · have h : rg_some (rg_lk [(1, 1), (3, 2)] k.toNat) (fun c => K (some (.int (nI c))) w') := h
          rw [← e1] at h ⊢
          have h : K (some (.int (nI 2))) w' := h
          intro a
          show rg_run P_L_letter none c_L_letter (rg_cut []) Z (rg_rt (some .int) K) false 394 17 [.ref 0, .int x0, .int x1, .ref 34, .null] [.retAddr a] w' 1
          simp only [rg_e_aload_3 (cut := rg_cut []) (f := true) d_L_letter_0 rfl 1 rfl, rg_e_iconst (cut := rg_cut []) (f := false) d_L_letter_1 rfl 2 rfl (nI 0) rg_ki_0, rg_e_aload_0 (cut := rg_cut []) (f := false) d_L_letter_2 rfl 3 rfl, rg_e_iload_1 (cut := rg_cut []) (f := false) d_L_letter_3 rfl 4 rfl, rg_e_iload_2 (cut := rg_cut []) (f := false) d_L_letter_4 rfl 5 rfl, rg_e_cx3 (P := P_L_letter) (cut := rg_cut []) (f := false) d_L_letter_5 rfl (rg_upT T_G_letter) rfl, rg_e_i2l (cut := rg_cut []) (f := false) d_L_letter_8 rfl 9 rfl, rg_e_last (cut := rg_cut []) (f := false) d_L_letter_9 rfl 10 rfl 34 1 rfl, rg_e_goto (cut := rg_cut []) (f := false) d_L_letter_10 rfl 21 rfl, rg_e_xstore_4 (cut := rg_cut []) (f := false) d_L_letter_13 rfl 15 rfl, rg_e_iconst (cut := rg_cut []) (f := false) d_L_letter_15 rfl 16 rfl (nI 1) rg_ki_1, rg_e_iret (cut := rg_cut []) (f := false) d_L_letter_16 rfl, rg_e_xstore_4 (cut := rg_cut []) (f := false) d_L_letter_17 rfl 19 rfl, rg_e_iconst (cut := rg_cut []) (f := false) d_L_letter_19 rfl 20 rfl (nI 2) rg_ki_2, rg_e_iret (cut := rg_cut []) (f := false) d_L_letter_20 rfl, rg_e_iconst (cut := rg_cut []) (f := false) d_L_letter_21 rfl 22 rfl (nI 0) rg_ki_0, rg_e_iret (cut := rg_cut []) (f := false) d_L_letter_22 rfl, rg_nx_i, rg_nx_v, rg_wd_n, rg_wd_i, rg_wd_l, rg_wd_r, rg_clr_i, rg_clr_l, rg_clr_r, rg_clr_a, rg_clr_n, true_and, and_true, Nat.reduceAdd, Nat.reduceLeDiff, rg_rt_e, rg_fit_ie, rg_fit_ve, rg_fit_1e, rg_fit_0e, rg_fit_be, rg_nx_x, rg_c34]
          exact h
        · have h : rg_some (rg_lk [(1, 1), (3, 2)] k.toNat) (fun c => K (some (.int (nI c))) w') := h
          rw [show rg_lk [(1, 1), (3, 2)] k.toNat = none from by simp [rg_lk, e0, e1]] at h
          exact h.elim
    | long _ => exact h.elim
    | double _ => exact h.elim
    | null => exact h.elim
    | ref _ => exact h.elim
    | retAddr _ => exact h.elim
-- L.contained
def hk_L_contained : List rg_Hk := [(0, 16, 19, 13, 1)]
def P_L_contained : rg_P := ([], [(45, 2, 1, rg_upT T_G_contained)], [], [], [], rg_hd hk_L_contained, 1)
def T_L_contained : rg_T := fun as w K => match as with
  | [.ref 0, .int x0, .ref 34] => T_G_contained [.ref 0, .int x0] w (rg_wr [(1, 1)] (fun v => if v = 0 then 0 else 1) K)
  | _ => False
theorem G_L_contained (l : Launch) (hl : l.stackTraces = false) : rg_GoodW l y_L_contained c_L_contained 4 (some .int) hk_L_contained 7 T_L_contained := by
  refine rg_goodW_of (k := 22) (n := 2) (cpc := 4) (TG := T_G_contained) (by decide) ⟨y_G_contained, c_G_contained, 2, (some .boolean), 6, 22, 1, G_G_contained l hl, rfl, by decide, by decide, rg_in rfl (by decide +kernel), rg_in rfl (by decide +kernel), ⟨by decide, by decide, by decide +kernel⟩, rg_in rfl (by decide +kernel), rfl, rfl, rg_in rfl (by decide +kernel), rg_in rfl (by decide +kernel), fun as w K h => by obtain ⟨r, rfl⟩ := r_G_contained as w K h; exact ⟨0, 0, _, Tn_G, 3, r, rfl, rfl, rfl⟩⟩ (List.forall_mem_cons.mpr ⟨⟨by decide +kernel, by decide, rg_in rfl (by decide +kernel), by decide, by decide⟩, List.forall_mem_nil _⟩) (dec_at (by decide +kernel)) ?_
  intro as w K Z hT hZ
  unfold T_L_contained at hT
  split at hT
  rotate_left
  · exact hT.elim
  rename_i x0
  refine ⟨Nat.le_of_ble_eq_true rfl, ?_⟩
  show Z 0 [.ref 0, .int x0, .ref 34, .null] [] w 0
  refine hZ (rg_cut []) 400 0 _ _ _ ?_
  show rg_run P_L_contained none c_L_contained (rg_cut []) Z (rg_rt (some .int) K) true 400 0 [.ref 0, .int x0, .ref 34, .null] [] w 0
  simp only [rg_e_aload_2 (cut := rg_cut []) (f := true) d_L_contained_0 rfl 1 rfl, rg_e_iconst (cut := rg_cut []) (f := false) d_L_contained_1 rfl 2 rfl (nI 0) rg_ki_0, rg_e_aload_0 (cut := rg_cut []) (f := false) d_L_contained_2 rfl 3 rfl, rg_e_iload_1 (cut := rg_cut []) (f := false) d_L_contained_3 rfl 4 rfl, rg_e_cx2 (P := P_L_contained) (cut := rg_cut []) (f := false) d_L_contained_4 rfl (rg_upT T_G_contained) rfl, rg_e_if_eq (cut := rg_cut []) (f := false) d_L_contained_7 rfl 10 rfl 14 rfl, rg_e_lconst (cut := rg_cut []) (f := false) d_L_contained_10 rfl 11 rfl 1 rfl, rg_e_goto (cut := rg_cut []) (f := false) d_L_contained_11 rfl 15 rfl, rg_e_lconst (cut := rg_cut []) (f := false) d_L_contained_14 rfl 15 rfl 0 rfl, rg_e_last (cut := rg_cut []) (f := false) d_L_contained_15 rfl 16 rfl 34 1 rfl, rg_e_goto (cut := rg_cut []) (f := false) d_L_contained_16 rfl 22 rfl, rg_e_xstore_3 (cut := rg_cut []) (f := false) d_L_contained_19 rfl 20 rfl, rg_e_iconst (cut := rg_cut []) (f := false) d_L_contained_20 rfl 21 rfl (nI 1) rg_ki_1, rg_e_iret (cut := rg_cut []) (f := false) d_L_contained_21 rfl, rg_e_iconst (cut := rg_cut []) (f := false) d_L_contained_22 rfl 23 rfl (nI 0) rg_ki_0, rg_e_iret (cut := rg_cut []) (f := false) d_L_contained_23 rfl, rg_nx_i, rg_nx_v, rg_wd_n, rg_wd_i, rg_wd_l, rg_wd_r, rg_clr_i, rg_clr_l, rg_clr_r, rg_clr_a, rg_clr_n, true_and, and_true, Nat.reduceAdd, Nat.reduceLeDiff, rg_rt_e, rg_fit_ie, rg_fit_ve, rg_fit_1e, rg_fit_0e, rg_fit_be, rg_nx_x, rg_c34]
  refine ⟨by decide, rg_wr [(1, 1)] (fun v => if v = 0 then 0 else 1) K, hT, fun r w' h => ?_⟩
  cases r with
  | none => exact h.elim
  | some v =>
    cases v with
    | int v =>
      have h : K (some (.int (nI 0))) (rg_upL w' 34 0 ((fun v => if v = 0 then 0 else 1) v)) := h
      simp only [rg_e_aload_2 (cut := rg_cut []) (f := true) d_L_contained_0 rfl 1 rfl, rg_e_iconst (cut := rg_cut []) (f := false) d_L_contained_1 rfl 2 rfl (nI 0) rg_ki_0, rg_e_aload_0 (cut := rg_cut []) (f := false) d_L_contained_2 rfl 3 rfl, rg_e_iload_1 (cut := rg_cut []) (f := false) d_L_contained_3 rfl 4 rfl, rg_e_cx2 (P := P_L_contained) (cut := rg_cut []) (f := false) d_L_contained_4 rfl (rg_upT T_G_contained) rfl, rg_e_if_eq (cut := rg_cut []) (f := false) d_L_contained_7 rfl 10 rfl 14 rfl, rg_e_lconst (cut := rg_cut []) (f := false) d_L_contained_10 rfl 11 rfl 1 rfl, rg_e_goto (cut := rg_cut []) (f := false) d_L_contained_11 rfl 15 rfl, rg_e_lconst (cut := rg_cut []) (f := false) d_L_contained_14 rfl 15 rfl 0 rfl, rg_e_last (cut := rg_cut []) (f := false) d_L_contained_15 rfl 16 rfl 34 1 rfl, rg_e_goto (cut := rg_cut []) (f := false) d_L_contained_16 rfl 22 rfl, rg_e_xstore_3 (cut := rg_cut []) (f := false) d_L_contained_19 rfl 20 rfl, rg_e_iconst (cut := rg_cut []) (f := false) d_L_contained_20 rfl 21 rfl (nI 1) rg_ki_1, rg_e_iret (cut := rg_cut []) (f := false) d_L_contained_21 rfl, rg_e_iconst (cut := rg_cut []) (f := false) d_L_contained_22 rfl 23 rfl (nI 0) rg_ki_0, rg_e_iret (cut := rg_cut []) (f := false) d_L_contained_23 rfl, rg_nx_i, rg_nx_v, rg_wd_n, rg_wd_i, rg_wd_l, rg_wd_r, rg_clr_i, rg_clr_l, rg_clr_r, rg_clr_a, rg_clr_n, true_and, and_true, Nat.reduceAdd, Nat.reduceLeDiff, rg_rt_e, rg_fit_ie, rg_fit_ve, rg_fit_1e, rg_fit_0e, rg_fit_be, rg_nx_x, rg_c34]
      refine ⟨fun z => ⟨rg_in34, ?_⟩, fun z => ⟨rg_in34, ?_⟩⟩
      · dsimp only at h
        rw [if_pos z] at h
        exact h
      · dsimp only at h
        rw [if_neg z] at h
        exact h
    | float k =>
      rw [rg_nx_x]
      by_cases e0 : 1 = k.toNat
      · have h : rg_some (rg_lk [(1, 1)] k.toNat) (fun c => K (some (.int (nI c))) w') := h
        rw [← e0] at h ⊢
        have h : K (some (.int (nI 1))) w' := h
        intro a
        show rg_run P_L_contained none c_L_contained (rg_cut []) Z (rg_rt (some .int) K) false 395 19 [.ref 0, .int x0, .ref 34, .null] [.retAddr a] w' 1
        simp only [rg_e_aload_2 (cut := rg_cut []) (f := true) d_L_contained_0 rfl 1 rfl, rg_e_iconst (cut := rg_cut []) (f := false) d_L_contained_1 rfl 2 rfl (nI 0) rg_ki_0, rg_e_aload_0 (cut := rg_cut []) (f := false) d_L_contained_2 rfl 3 rfl, rg_e_iload_1 (cut := rg_cut []) (f := false) d_L_contained_3 rfl 4 rfl, rg_e_cx2 (P := P_L_contained) (cut := rg_cut []) (f := false) d_L_contained_4 rfl (rg_upT T_G_contained) rfl, rg_e_if_eq (cut := rg_cut []) (f := false) d_L_contained_7 rfl 10 rfl 14 rfl, rg_e_lconst (cut := rg_cut []) (f := false) d_L_contained_10 rfl 11 rfl 1 rfl, rg_e_goto (cut := rg_cut []) (f := false) d_L_contained_11 rfl 15 rfl, rg_e_lconst (cut := rg_cut []) (f := false) d_L_contained_14 rfl 15 rfl 0 rfl, rg_e_last (cut := rg_cut []) (f := false) d_L_contained_15 rfl 16 rfl 34 1 rfl, rg_e_goto (cut := rg_cut []) (f := false) d_L_contained_16 rfl 22 rfl, rg_e_xstore_3 (cut := rg_cut []) (f := false) d_L_contained_19 rfl 20 rfl, rg_e_iconst (cut := rg_cut []) (f := false) d_L_contained_20 rfl 21 rfl (nI 1) rg_ki_1, rg_e_iret (cut := rg_cut []) (f := false) d_L_contained_21 rfl, rg_e_iconst (cut := rg_cut []) (f := false) d_L_contained_22 rfl 23 rfl (nI 0) rg_ki_0, rg_e_iret (cut := rg_cut []) (f := false) d_L_contained_23 rfl, rg_nx_i, rg_nx_v, rg_wd_n, rg_wd_i, rg_wd_l, rg_wd_r, rg_clr_i, rg_clr_l, rg_clr_r, rg_clr_a, rg_clr_n, true_and, and_true, Nat.reduceAdd, Nat.reduceLeDiff, rg_rt_e, rg_fit_ie, rg_fit_ve, rg_fit_1e, rg_fit_0e, rg_fit_be, rg_nx_x, rg_c34]
        exact h
      · have h : rg_some (rg_lk [(1, 1)] k.toNat) (fun c => K (some (.int (nI c))) w') := h
        rw [show rg_lk [(1, 1)] k.toNat = none from by simp [rg_lk, e0]] at h
        exact h.elim
    | long _ => exact h.elim
    | double _ => exact h.elim
    | null => exact h.elim
    | ref _ => exact h.elim
    | retAddr _ => exact h.elim
-- L.overlap
def hk_L_overlap : List rg_Hk := [(0, 12, 15, 13, 1)]
def P_L_overlap : rg_P := ([], [(53, 4, 1, rg_upT T_G_overlap)], [], [], [], rg_hd hk_L_overlap, 1)
def T_L_overlap : rg_T := fun as w K => match as with
  | [.ref 0, .int x0, .int x1, .int x2, .ref 34] => T_G_overlap [.ref 0, .int x0, .int x1, .int x2] w (rg_wr [(1, 1)] (fun v => v.toInt64) K)
  | _ => False
theorem G_L_overlap (l : Launch) (hl : l.stackTraces = false) : rg_GoodW l y_L_overlap c_L_overlap 6 (some .int) hk_L_overlap 7 T_L_overlap := by
  refine rg_goodW_of (k := 26) (n := 4) (cpc := 7) (TG := T_G_overlap) (by decide) ⟨y_G_overlap, c_G_overlap, 4, (some .int), 6, 26, 3, G_G_overlap l hl, rfl, by decide, by decide, rg_in rfl (by decide +kernel), rg_in rfl (by decide +kernel), ⟨by decide, by decide, by decide +kernel⟩, rg_in rfl (by decide +kernel), rfl, rfl, rg_in rfl (by decide +kernel), rg_in rfl (by decide +kernel), fun as w K h => by obtain ⟨r, rfl⟩ := r_G_overlap as w K h; exact ⟨0, 0, _, Tn_G, 3, r, rfl, rfl, rfl⟩⟩ (List.forall_mem_cons.mpr ⟨⟨by decide +kernel, by decide, rg_in rfl (by decide +kernel), by decide, by decide⟩, List.forall_mem_nil _⟩) (dec_at (by decide +kernel)) ?_
  intro as w K Z hT hZ
  unfold T_L_overlap at hT
  split at hT
  rotate_left
  · exact hT.elim
  rename_i x0 x1 x2
  refine ⟨Nat.le_of_ble_eq_true rfl, ?_⟩
  show Z 0 [.ref 0, .int x0, .int x1, .int x2, .ref 34, .null] [] w 0
  refine hZ (rg_cut []) 400 0 _ _ _ ?_
  show rg_run P_L_overlap none c_L_overlap (rg_cut []) Z (rg_rt (some .int) K) true 400 0 [.ref 0, .int x0, .int x1, .int x2, .ref 34, .null] [] w 0
  simp only [rg_e_aload_4 (cut := rg_cut []) (f := true) d_L_overlap_0 rfl 2 rfl, rg_e_iconst (cut := rg_cut []) (f := false) d_L_overlap_2 rfl 3 rfl (nI 0) rg_ki_0, rg_e_aload_0 (cut := rg_cut []) (f := false) d_L_overlap_3 rfl 4 rfl, rg_e_iload_1 (cut := rg_cut []) (f := false) d_L_overlap_4 rfl 5 rfl, rg_e_iload_2 (cut := rg_cut []) (f := false) d_L_overlap_5 rfl 6 rfl, rg_e_iload_3 (cut := rg_cut []) (f := false) d_L_overlap_6 rfl 7 rfl, rg_e_cx4 (P := P_L_overlap) (cut := rg_cut []) (f := false) d_L_overlap_7 rfl (rg_upT T_G_overlap) rfl, rg_e_i2l (cut := rg_cut []) (f := false) d_L_overlap_10 rfl 11 rfl, rg_e_last (cut := rg_cut []) (f := false) d_L_overlap_11 rfl 12 rfl 34 1 rfl, rg_e_goto (cut := rg_cut []) (f := false) d_L_overlap_12 rfl 19 rfl, rg_e_xstore_5 (cut := rg_cut []) (f := false) d_L_overlap_15 rfl 17 rfl, rg_e_iconst (cut := rg_cut []) (f := false) d_L_overlap_17 rfl 18 rfl (nI 1) rg_ki_1, rg_e_iret (cut := rg_cut []) (f := false) d_L_overlap_18 rfl, rg_e_iconst (cut := rg_cut []) (f := false) d_L_overlap_19 rfl 20 rfl (nI 0) rg_ki_0, rg_e_iret (cut := rg_cut []) (f := false) d_L_overlap_20 rfl, rg_nx_i, rg_nx_v, rg_wd_n, rg_wd_i, rg_wd_l, rg_wd_r, rg_clr_i, rg_clr_l, rg_clr_r, rg_clr_a, rg_clr_n, true_and, and_true, Nat.reduceAdd, Nat.reduceLeDiff, rg_rt_e, rg_fit_ie, rg_fit_ve, rg_fit_1e, rg_fit_0e, rg_fit_be, rg_nx_x, rg_c34]
  refine ⟨by decide, rg_wr [(1, 1)] (fun v => v.toInt64) K, hT, fun r w' h => ?_⟩
  cases r with
  | none => exact h.elim
  | some v =>
    cases v with
    | int v =>
      have h : K (some (.int (nI 0))) (rg_upL w' 34 0 ((fun v => v.toInt64) v)) := h
      simp only [rg_e_aload_4 (cut := rg_cut []) (f := true) d_L_overlap_0 rfl 2 rfl, rg_e_iconst (cut := rg_cut []) (f := false) d_L_overlap_2 rfl 3 rfl (nI 0) rg_ki_0, rg_e_aload_0 (cut := rg_cut []) (f := false) d_L_overlap_3 rfl 4 rfl, rg_e_iload_1 (cut := rg_cut []) (f := false) d_L_overlap_4 rfl 5 rfl, rg_e_iload_2 (cut := rg_cut []) (f := false) d_L_overlap_5 rfl 6 rfl, rg_e_iload_3 (cut := rg_cut []) (f := false) d_L_overlap_6 rfl 7 rfl, rg_e_cx4 (P := P_L_overlap) (cut := rg_cut []) (f := false) d_L_overlap_7 rfl (rg_upT T_G_overlap) rfl, rg_e_i2l (cut := rg_cut []) (f := false) d_L_overlap_10 rfl 11 rfl, rg_e_last (cut := rg_cut []) (f := false) d_L_overlap_11 rfl 12 rfl 34 1 rfl, rg_e_goto (cut := rg_cut []) (f := false) d_L_overlap_12 rfl 19 rfl, rg_e_xstore_5 (cut := rg_cut []) (f := false) d_L_overlap_15 rfl 17 rfl, rg_e_iconst (cut := rg_cut []) (f := false) d_L_overlap_17 rfl 18 rfl (nI 1) rg_ki_1, rg_e_iret (cut := rg_cut []) (f := false) d_L_overlap_18 rfl, rg_e_iconst (cut := rg_cut []) (f := false) d_L_overlap_19 rfl 20 rfl (nI 0) rg_ki_0, rg_e_iret (cut := rg_cut []) (f := false) d_L_overlap_20 rfl, rg_nx_i, rg_nx_v, rg_wd_n, rg_wd_i, rg_wd_l, rg_wd_r, rg_clr_i, rg_clr_l, rg_clr_r, rg_clr_a, rg_clr_n, true_and, and_true, Nat.reduceAdd, Nat.reduceLeDiff, rg_rt_e, rg_fit_ie, rg_fit_ve, rg_fit_1e, rg_fit_0e, rg_fit_be, rg_nx_x, rg_c34]
      exact ⟨rg_in34, h⟩
    | float k =>
      rw [rg_nx_x]
      by_cases e0 : 1 = k.toNat
      · have h : rg_some (rg_lk [(1, 1)] k.toNat) (fun c => K (some (.int (nI c))) w') := h
        rw [← e0] at h ⊢
        have h : K (some (.int (nI 1))) w' := h
        intro a
        show rg_run P_L_overlap none c_L_overlap (rg_cut []) Z (rg_rt (some .int) K) false 393 15 [.ref 0, .int x0, .int x1, .int x2, .ref 34, .null] [.retAddr a] w' 1
        simp only [rg_e_aload_4 (cut := rg_cut []) (f := true) d_L_overlap_0 rfl 2 rfl, rg_e_iconst (cut := rg_cut []) (f := false) d_L_overlap_2 rfl 3 rfl (nI 0) rg_ki_0, rg_e_aload_0 (cut := rg_cut []) (f := false) d_L_overlap_3 rfl 4 rfl, rg_e_iload_1 (cut := rg_cut []) (f := false) d_L_overlap_4 rfl 5 rfl, rg_e_iload_2 (cut := rg_cut []) (f := false) d_L_overlap_5 rfl 6 rfl, rg_e_iload_3 (cut := rg_cut []) (f := false) d_L_overlap_6 rfl 7 rfl, rg_e_cx4 (P := P_L_overlap) (cut := rg_cut []) (f := false) d_L_overlap_7 rfl (rg_upT T_G_overlap) rfl, rg_e_i2l (cut := rg_cut []) (f := false) d_L_overlap_10 rfl 11 rfl, rg_e_last (cut := rg_cut []) (f := false) d_L_overlap_11 rfl 12 rfl 34 1 rfl, rg_e_goto (cut := rg_cut []) (f := false) d_L_overlap_12 rfl 19 rfl, rg_e_xstore_5 (cut := rg_cut []) (f := false) d_L_overlap_15 rfl 17 rfl, rg_e_iconst (cut := rg_cut []) (f := false) d_L_overlap_17 rfl 18 rfl (nI 1) rg_ki_1, rg_e_iret (cut := rg_cut []) (f := false) d_L_overlap_18 rfl, rg_e_iconst (cut := rg_cut []) (f := false) d_L_overlap_19 rfl 20 rfl (nI 0) rg_ki_0, rg_e_iret (cut := rg_cut []) (f := false) d_L_overlap_20 rfl, rg_nx_i, rg_nx_v, rg_wd_n, rg_wd_i, rg_wd_l, rg_wd_r, rg_clr_i, rg_clr_l, rg_clr_r, rg_clr_a, rg_clr_n, true_and, and_true, Nat.reduceAdd, Nat.reduceLeDiff, rg_rt_e, rg_fit_ie, rg_fit_ve, rg_fit_1e, rg_fit_0e, rg_fit_be, rg_nx_x, rg_c34]
        exact h
      · have h : rg_some (rg_lk [(1, 1)] k.toNat) (fun c => K (some (.int (nI c))) w') := h
        rw [show rg_lk [(1, 1)] k.toNat = none from by simp [rg_lk, e0]] at h
        exact h.elim
    | long _ => exact h.elim
    | double _ => exact h.elim
    | null => exact h.elim
    | ref _ => exact h.elim
    | retAddr _ => exact h.elim
-- L.build
def hk_L_build : List rg_Hk := [(0, 9, 12, 13, 1)]
def P_L_build : rg_P := ([], [(61, 2, 1, rg_upT T_G_build)], [], [], [], rg_hd hk_L_build, 1)
def T_L_build : rg_T := fun as w K => match as with
  | [.ref 0, .int x0, .ref 34] => T_G_build [.ref 0, .int x0] w (rg_wr [(1, 1)] (fun v => v.toInt64) K)
  | _ => False
theorem G_L_build (l : Launch) (hl : l.stackTraces = false) : rg_GoodW l y_L_build c_L_build 4 (some .int) hk_L_build 7 T_L_build := by
  refine rg_goodW_of (k := 30) (n := 2) (cpc := 4) (TG := T_G_build) (by decide) ⟨y_G_build, c_G_build, 2, (some .int), 6, 30, 1, G_G_build l hl, rfl, by decide, by decide, rg_in rfl (by decide +kernel), rg_in rfl (by decide +kernel), ⟨by decide, by decide, by decide +kernel⟩, rg_in rfl (by decide +kernel), rfl, rfl, rg_in rfl (by decide +kernel), rg_in rfl (by decide +kernel), fun as w K h => by obtain ⟨r, rfl⟩ := r_G_build as w K h; exact ⟨0, 0, _, Tn_G, 3, r, rfl, rfl, rfl⟩⟩ (List.forall_mem_cons.mpr ⟨⟨by decide +kernel, by decide, rg_in rfl (by decide +kernel), by decide, by decide⟩, List.forall_mem_nil _⟩) (dec_at (by decide +kernel)) ?_
  intro as w K Z hT hZ
  unfold T_L_build at hT
  split at hT
  rotate_left
  · exact hT.elim
  rename_i x0
  refine ⟨Nat.le_of_ble_eq_true rfl, ?_⟩
  show Z 0 [.ref 0, .int x0, .ref 34, .null] [] w 0
  refine hZ (rg_cut []) 400 0 _ _ _ ?_
  show rg_run P_L_build none c_L_build (rg_cut []) Z (rg_rt (some .int) K) true 400 0 [.ref 0, .int x0, .ref 34, .null] [] w 0
  simp only [rg_e_aload_2 (cut := rg_cut []) (f := true) d_L_build_0 rfl 1 rfl, rg_e_iconst (cut := rg_cut []) (f := false) d_L_build_1 rfl 2 rfl (nI 0) rg_ki_0, rg_e_aload_0 (cut := rg_cut []) (f := false) d_L_build_2 rfl 3 rfl, rg_e_iload_1 (cut := rg_cut []) (f := false) d_L_build_3 rfl 4 rfl, rg_e_cx2 (P := P_L_build) (cut := rg_cut []) (f := false) d_L_build_4 rfl (rg_upT T_G_build) rfl, rg_e_i2l (cut := rg_cut []) (f := false) d_L_build_7 rfl 8 rfl, rg_e_last (cut := rg_cut []) (f := false) d_L_build_8 rfl 9 rfl 34 1 rfl, rg_e_goto (cut := rg_cut []) (f := false) d_L_build_9 rfl 15 rfl, rg_e_xstore_3 (cut := rg_cut []) (f := false) d_L_build_12 rfl 13 rfl, rg_e_iconst (cut := rg_cut []) (f := false) d_L_build_13 rfl 14 rfl (nI 1) rg_ki_1, rg_e_iret (cut := rg_cut []) (f := false) d_L_build_14 rfl, rg_e_iconst (cut := rg_cut []) (f := false) d_L_build_15 rfl 16 rfl (nI 0) rg_ki_0, rg_e_iret (cut := rg_cut []) (f := false) d_L_build_16 rfl, rg_nx_i, rg_nx_v, rg_wd_n, rg_wd_i, rg_wd_l, rg_wd_r, rg_clr_i, rg_clr_l, rg_clr_r, rg_clr_a, rg_clr_n, true_and, and_true, Nat.reduceAdd, Nat.reduceLeDiff, rg_rt_e, rg_fit_ie, rg_fit_ve, rg_fit_1e, rg_fit_0e, rg_fit_be, rg_nx_x, rg_c34]
  refine ⟨by decide, rg_wr [(1, 1)] (fun v => v.toInt64) K, hT, fun r w' h => ?_⟩
  cases r with
  | none => exact h.elim
  | some v =>
    cases v with
    | int v =>
      have h : K (some (.int (nI 0))) (rg_upL w' 34 0 ((fun v => v.toInt64) v)) := h
      simp only [rg_e_aload_2 (cut := rg_cut []) (f := true) d_L_build_0 rfl 1 rfl, rg_e_iconst (cut := rg_cut []) (f := false) d_L_build_1 rfl 2 rfl (nI 0) rg_ki_0, rg_e_aload_0 (cut := rg_cut []) (f := false) d_L_build_2 rfl 3 rfl, rg_e_iload_1 (cut := rg_cut []) (f := false) d_L_build_3 rfl 4 rfl, rg_e_cx2 (P := P_L_build) (cut := rg_cut []) (f := false) d_L_build_4 rfl (rg_upT T_G_build) rfl, rg_e_i2l (cut := rg_cut []) (f := false) d_L_build_7 rfl 8 rfl, rg_e_last (cut := rg_cut []) (f := false) d_L_build_8 rfl 9 rfl 34 1 rfl, rg_e_goto (cut := rg_cut []) (f := false) d_L_build_9 rfl 15 rfl, rg_e_xstore_3 (cut := rg_cut []) (f := false) d_L_build_12 rfl 13 rfl, rg_e_iconst (cut := rg_cut []) (f := false) d_L_build_13 rfl 14 rfl (nI 1) rg_ki_1, rg_e_iret (cut := rg_cut []) (f := false) d_L_build_14 rfl, rg_e_iconst (cut := rg_cut []) (f := false) d_L_build_15 rfl 16 rfl (nI 0) rg_ki_0, rg_e_iret (cut := rg_cut []) (f := false) d_L_build_16 rfl, rg_nx_i, rg_nx_v, rg_wd_n, rg_wd_i, rg_wd_l, rg_wd_r, rg_clr_i, rg_clr_l, rg_clr_r, rg_clr_a, rg_clr_n, true_and, and_true, Nat.reduceAdd, Nat.reduceLeDiff, rg_rt_e, rg_fit_ie, rg_fit_ve, rg_fit_1e, rg_fit_0e, rg_fit_be, rg_nx_x, rg_c34]
      exact ⟨rg_in34, h⟩
    | float k =>
      rw [rg_nx_x]
      by_cases e0 : 1 = k.toNat
      · have h : rg_some (rg_lk [(1, 1)] k.toNat) (fun c => K (some (.int (nI c))) w') := h
        rw [← e0] at h ⊢
        have h : K (some (.int (nI 1))) w' := h
        intro a
        show rg_run P_L_build none c_L_build (rg_cut []) Z (rg_rt (some .int) K) false 395 12 [.ref 0, .int x0, .ref 34, .null] [.retAddr a] w' 1
        simp only [rg_e_aload_2 (cut := rg_cut []) (f := true) d_L_build_0 rfl 1 rfl, rg_e_iconst (cut := rg_cut []) (f := false) d_L_build_1 rfl 2 rfl (nI 0) rg_ki_0, rg_e_aload_0 (cut := rg_cut []) (f := false) d_L_build_2 rfl 3 rfl, rg_e_iload_1 (cut := rg_cut []) (f := false) d_L_build_3 rfl 4 rfl, rg_e_cx2 (P := P_L_build) (cut := rg_cut []) (f := false) d_L_build_4 rfl (rg_upT T_G_build) rfl, rg_e_i2l (cut := rg_cut []) (f := false) d_L_build_7 rfl 8 rfl, rg_e_last (cut := rg_cut []) (f := false) d_L_build_8 rfl 9 rfl 34 1 rfl, rg_e_goto (cut := rg_cut []) (f := false) d_L_build_9 rfl 15 rfl, rg_e_xstore_3 (cut := rg_cut []) (f := false) d_L_build_12 rfl 13 rfl, rg_e_iconst (cut := rg_cut []) (f := false) d_L_build_13 rfl 14 rfl (nI 1) rg_ki_1, rg_e_iret (cut := rg_cut []) (f := false) d_L_build_14 rfl, rg_e_iconst (cut := rg_cut []) (f := false) d_L_build_15 rfl 16 rfl (nI 0) rg_ki_0, rg_e_iret (cut := rg_cut []) (f := false) d_L_build_16 rfl, rg_nx_i, rg_nx_v, rg_wd_n, rg_wd_i, rg_wd_l, rg_wd_r, rg_clr_i, rg_clr_l, rg_clr_r, rg_clr_a, rg_clr_n, true_and, and_true, Nat.reduceAdd, Nat.reduceLeDiff, rg_rt_e, rg_fit_ie, rg_fit_ve, rg_fit_1e, rg_fit_0e, rg_fit_be, rg_nx_x, rg_c34]
        exact h
      · have h : rg_some (rg_lk [(1, 1)] k.toNat) (fun c => K (some (.int (nI c))) w') := h
        rw [show rg_lk [(1, 1)] k.toNat = none from by simp [rg_lk, e0]] at h
        exact h.elim
    | long _ => exact h.elim
    | double _ => exact h.elim
    | null => exact h.elim
    | ref _ => exact h.elim
    | retAddr _ => exact h.elim
-- L.edge
def hk_L_edge : List rg_Hk := [(0, 10, 13, 13, 1), (0, 10, 17, 37, 4)]
def P_L_edge : rg_P := ([], [(69, 3, 1, rg_upT T_G_edge)], [], [], [], rg_hd hk_L_edge, 1)
def T_L_edge : rg_T := fun as w K => match as with
  | [.ref 0, .int x0, .int x1, .ref 34] => T_G_edge [.ref 0, .int x0, .int x1] w (rg_wr [(1, 1), (4, 2)] (fun v => v.toInt64) K)
  | _ => False
theorem G_L_edge (l : Launch) (hl : l.stackTraces = false) : rg_GoodW l y_L_edge c_L_edge 5 (some .int) hk_L_edge 7 T_L_edge := by
  refine rg_goodW_of (k := 34) (n := 3) (cpc := 5) (TG := T_G_edge) (by decide) ⟨y_G_edge, c_G_edge, 3, (some .int), 6, 34, 2, G_G_edge l hl, rfl, by decide, by decide, rg_in rfl (by decide +kernel), rg_in rfl (by decide +kernel), ⟨by decide, by decide, by decide +kernel⟩, rg_in rfl (by decide +kernel), rfl, rfl, rg_in rfl (by decide +kernel), rg_in rfl (by decide +kernel), fun as w K h => by obtain ⟨r, rfl⟩ := r_G_edge as w K h; exact ⟨0, 0, _, Tn_G, 3, r, rfl, rfl, rfl⟩⟩ (List.forall_mem_cons.mpr ⟨⟨by decide +kernel, by decide, rg_in rfl (by decide +kernel), by decide, by decide⟩, (List.forall_mem_cons.mpr ⟨⟨by decide +kernel, by decide, rg_in rfl (by decide +kernel), by decide, by decide⟩, List.forall_mem_nil _⟩)⟩) (dec_at (by decide +kernel)) ?_
  intro as w K Z hT hZ
  unfold T_L_edge at hT
  split at hT
  rotate_left
  · exact hT.elim
  rename_i x0 x1
  refine ⟨Nat.le_of_ble_eq_true rfl, ?_⟩
  show Z 0 [.ref 0, .int x0, .int x1, .ref 34, .null] [] w 0
  refine hZ (rg_cut []) 400 0 _ _ _ ?_
  show rg_run P_L_edge none c_L_edge (rg_cut []) Z (rg_rt (some .int) K) true 400 0 [.ref 0, .int x0, .int x1, .ref 34, .null] [] w 0
  simp only [rg_e_aload_3 (cut := rg_cut []) (f := true) d_L_edge_0 rfl 1 rfl, rg_e_iconst (cut := rg_cut []) (f := false) d_L_edge_1 rfl 2 rfl (nI 0) rg_ki_0, rg_e_aload_0 (cut := rg_cut []) (f := false) d_L_edge_2 rfl 3 rfl, rg_e_iload_1 (cut := rg_cut []) (f := false) d_L_edge_3 rfl 4 rfl, rg_e_iload_2 (cut := rg_cut []) (f := false) d_L_edge_4 rfl 5 rfl, rg_e_cx3 (P := P_L_edge) (cut := rg_cut []) (f := false) d_L_edge_5 rfl (rg_upT T_G_edge) rfl, rg_e_i2l (cut := rg_cut []) (f := false) d_L_edge_8 rfl 9 rfl, rg_e_last (cut := rg_cut []) (f := false) d_L_edge_9 rfl 10 rfl 34 1 rfl, rg_e_goto (cut := rg_cut []) (f := false) d_L_edge_10 rfl 21 rfl, rg_e_xstore_4 (cut := rg_cut []) (f := false) d_L_edge_13 rfl 15 rfl, rg_e_iconst (cut := rg_cut []) (f := false) d_L_edge_15 rfl 16 rfl (nI 1) rg_ki_1, rg_e_iret (cut := rg_cut []) (f := false) d_L_edge_16 rfl, rg_e_xstore_4 (cut := rg_cut []) (f := false) d_L_edge_17 rfl 19 rfl, rg_e_iconst (cut := rg_cut []) (f := false) d_L_edge_19 rfl 20 rfl (nI 2) rg_ki_2, rg_e_iret (cut := rg_cut []) (f := false) d_L_edge_20 rfl, rg_e_iconst (cut := rg_cut []) (f := false) d_L_edge_21 rfl 22 rfl (nI 0) rg_ki_0, rg_e_iret (cut := rg_cut []) (f := false) d_L_edge_22 rfl, rg_nx_i, rg_nx_v, rg_wd_n, rg_wd_i, rg_wd_l, rg_wd_r, rg_clr_i, rg_clr_l, rg_clr_r, rg_clr_a, rg_clr_n, true_and, and_true, Nat.reduceAdd, Nat.reduceLeDiff, rg_rt_e, rg_fit_ie, rg_fit_ve, rg_fit_1e, rg_fit_0e, rg_fit_be, rg_nx_x, rg_c34]
  refine ⟨by decide, rg_wr [(1, 1), (4, 2)] (fun v => v.toInt64) K, hT, fun r w' h => ?_⟩
  cases r with
  | none => exact h.elim
  | some v =>
    cases v with
    | int v =>
      have h : K (some (.int (nI 0))) (rg_upL w' 34 0 ((fun v => v.toInt64) v)) := h
      simp only [rg_e_aload_3 (cut := rg_cut []) (f := true) d_L_edge_0 rfl 1 rfl, rg_e_iconst (cut := rg_cut []) (f := false) d_L_edge_1 rfl 2 rfl (nI 0) rg_ki_0, rg_e_aload_0 (cut := rg_cut []) (f := false) d_L_edge_2 rfl 3 rfl, rg_e_iload_1 (cut := rg_cut []) (f := false) d_L_edge_3 rfl 4 rfl, rg_e_iload_2 (cut := rg_cut []) (f := false) d_L_edge_4 rfl 5 rfl, rg_e_cx3 (P := P_L_edge) (cut := rg_cut []) (f := false) d_L_edge_5 rfl (rg_upT T_G_edge) rfl, rg_e_i2l (cut := rg_cut []) (f := false) d_L_edge_8 rfl 9 rfl, rg_e_last (cut := rg_cut []) (f := false) d_L_edge_9 rfl 10 rfl 34 1 rfl, rg_e_goto (cut := rg_cut []) (f := false) d_L_edge_10 rfl 21 rfl, rg_e_xstore_4 (cut := rg_cut []) (f := false) d_L_edge_13 rfl 15 rfl, rg_e_iconst (cut := rg_cut []) (f := false) d_L_edge_15 rfl 16 rfl (nI 1) rg_ki_1, rg_e_iret (cut := rg_cut []) (f := false) d_L_edge_16 rfl, rg_e_xstore_4 (cut := rg_cut []) (f := false) d_L_edge_17 rfl 19 rfl, rg_e_iconst (cut := rg_cut []) (f := false) d_L_edge_19 rfl 20 rfl (nI 2) rg_ki_2, rg_e_iret (cut := rg_cut []) (f := false) d_L_edge_20 rfl, rg_e_iconst (cut := rg_cut []) (f := false) d_L_edge_21 rfl 22 rfl (nI 0) rg_ki_0, rg_e_iret (cut := rg_cut []) (f := false) d_L_edge_22 rfl, rg_nx_i, rg_nx_v, rg_wd_n, rg_wd_i, rg_wd_l, rg_wd_r, rg_clr_i, rg_clr_l, rg_clr_r, rg_clr_a, rg_clr_n, true_and, and_true, Nat.reduceAdd, Nat.reduceLeDiff, rg_rt_e, rg_fit_ie, rg_fit_ve, rg_fit_1e, rg_fit_0e, rg_fit_be, rg_nx_x, rg_c34]
      exact ⟨rg_in34, h⟩
    | float k =>
      rw [rg_nx_x]
      by_cases e0 : 1 = k.toNat
      · have h : rg_some (rg_lk [(1, 1), (4, 2)] k.toNat) (fun c => K (some (.int (nI c))) w') := h
        rw [← e0] at h ⊢
        have h : K (some (.int (nI 1))) w' := h
        intro a
        show rg_run P_L_edge none c_L_edge (rg_cut []) Z (rg_rt (some .int) K) false 394 13 [.ref 0, .int x0, .int x1, .ref 34, .null] [.retAddr a] w' 1
        simp only [rg_e_aload_3 (cut := rg_cut []) (f := true) d_L_edge_0 rfl 1 rfl, rg_e_iconst (cut := rg_cut []) (f := false) d_L_edge_1 rfl 2 rfl (nI 0) rg_ki_0, rg_e_aload_0 (cut := rg_cut []) (f := false) d_L_edge_2 rfl 3 rfl, rg_e_iload_1 (cut := rg_cut []) (f := false) d_L_edge_3 rfl 4 rfl, rg_e_iload_2 (cut := rg_cut []) (f := false) d_L_edge_4 rfl 5 rfl, rg_e_cx3 (P := P_L_edge) (cut := rg_cut []) (f := false) d_L_edge_5 rfl (rg_upT T_G_edge) rfl, rg_e_i2l (cut := rg_cut []) (f := false) d_L_edge_8 rfl 9 rfl, rg_e_last (cut := rg_cut []) (f := false) d_L_edge_9 rfl 10 rfl 34 1 rfl, rg_e_goto (cut := rg_cut []) (f := false) d_L_edge_10 rfl 21 rfl, rg_e_xstore_4 (cut := rg_cut []) (f := false) d_L_edge_13 rfl 15 rfl, rg_e_iconst (cut := rg_cut []) (f := false) d_L_edge_15 rfl 16 rfl (nI 1) rg_ki_1, rg_e_iret (cut := rg_cut []) (f := false) d_L_edge_16 rfl, rg_e_xstore_4 (cut := rg_cut []) (f := false) d_L_edge_17 rfl 19 rfl, rg_e_iconst (cut := rg_cut []) (f := false) d_L_edge_19 rfl 20 rfl (nI 2) rg_ki_2, rg_e_iret (cut := rg_cut []) (f := false) d_L_edge_20 rfl, rg_e_iconst (cut := rg_cut []) (f := false) d_L_edge_21 rfl 22 rfl (nI 0) rg_ki_0, rg_e_iret (cut := rg_cut []) (f := false) d_L_edge_22 rfl, rg_nx_i, rg_nx_v, rg_wd_n, rg_wd_i, rg_wd_l, rg_wd_r, rg_clr_i, rg_clr_l, rg_clr_r, rg_clr_a, rg_clr_n, true_and, and_true, Nat.reduceAdd, Nat.reduceLeDiff, rg_rt_e, rg_fit_ie, rg_fit_ve, rg_fit_1e, rg_fit_0e, rg_fit_be, rg_nx_x, rg_c34]
        exact h
      · by_cases e1 : 4 = k.toNat
        · have h : rg_some (rg_lk [(1, 1), (4, 2)] k.toNat) (fun c => K (some (.int (nI c))) w') := h
          rw [← e1] at h ⊢
          have h : K (some (.int (nI 2))) w' := h
          intro a
          show rg_run P_L_edge none c_L_edge (rg_cut []) Z (rg_rt (some .int) K) false 394 17 [.ref 0, .int x0, .int x1, .ref 34, .null] [.retAddr a] w' 1
          simp only [rg_e_aload_3 (cut := rg_cut []) (f := true) d_L_edge_0 rfl 1 rfl, rg_e_iconst (cut := rg_cut []) (f := false) d_L_edge_1 rfl 2 rfl (nI 0) rg_ki_0, rg_e_aload_0 (cut := rg_cut []) (f := false) d_L_edge_2 rfl 3 rfl, rg_e_iload_1 (cut := rg_cut []) (f := false) d_L_edge_3 rfl 4 rfl, rg_e_iload_2 (cut := rg_cut []) (f := false) d_L_edge_4 rfl 5 rfl, rg_e_cx3 (P := P_L_edge) (cut := rg_cut []) (f := false) d_L_edge_5 rfl (rg_upT T_G_edge) rfl, rg_e_i2l (cut := rg_cut []) (f := false) d_L_edge_8 rfl 9 rfl, rg_e_last (cut := rg_cut []) (f := false) d_L_edge_9 rfl 10 rfl 34 1 rfl, rg_e_goto (cut := rg_cut []) (f := false) d_L_edge_10 rfl 21 rfl, rg_e_xstore_4 (cut := rg_cut []) (f := false) d_L_edge_13 rfl 15 rfl, rg_e_iconst (cut := rg_cut []) (f := false) d_L_edge_15 rfl 16 rfl (nI 1) rg_ki_1, rg_e_iret (cut := rg_cut []) (f := false) d_L_edge_16 rfl, rg_e_xstore_4 (cut := rg_cut []) (f := false) d_L_edge_17 rfl 19 rfl, rg_e_iconst (cut := rg_cut []) (f := false) d_L_edge_19 rfl 20 rfl (nI 2) rg_ki_2, rg_e_iret (cut := rg_cut []) (f := false) d_L_edge_20 rfl, rg_e_iconst (cut := rg_cut []) (f := false) d_L_edge_21 rfl 22 rfl (nI 0) rg_ki_0, rg_e_iret (cut := rg_cut []) (f := false) d_L_edge_22 rfl, rg_nx_i, rg_nx_v, rg_wd_n, rg_wd_i, rg_wd_l, rg_wd_r, rg_clr_i, rg_clr_l, rg_clr_r, rg_clr_a, rg_clr_n, true_and, and_true, Nat.reduceAdd, Nat.reduceLeDiff, rg_rt_e, rg_fit_ie, rg_fit_ve, rg_fit_1e, rg_fit_0e, rg_fit_be, rg_nx_x, rg_c34]
          exact h
        · have h : rg_some (rg_lk [(1, 1), (4, 2)] k.toNat) (fun c => K (some (.int (nI c))) w') := h
          rw [show rg_lk [(1, 1), (4, 2)] k.toNat = none from by simp [rg_lk, e0, e1]] at h
          exact h.elim
    | long _ => exact h.elim
    | double _ => exact h.elim
    | null => exact h.elim
    | ref _ => exact h.elim
    | retAddr _ => exact h.elim
-- L.way
def hk_L_way : List rg_Hk := [(0, 17, 20, 13, 1)]
def P_L_way : rg_P := ([], [(79, 3, 1, rg_upT T_G_way)], [], [], [], rg_hd hk_L_way, 1)
def T_L_way : rg_T := fun as w K => match as with
  | [.ref 0, .int x0, .int x1, .ref 34] => T_G_way [.ref 0, .int x0, .int x1] w (rg_wr [(1, 1)] (fun v => if v = 0 then 0 else 1) K)
  | _ => False
theorem G_L_way (l : Launch) (hl : l.stackTraces = false) : rg_GoodW l y_L_way c_L_way 5 (some .int) hk_L_way 7 T_L_way := by
  refine rg_goodW_of (k := 39) (n := 3) (cpc := 5) (TG := T_G_way) (by decide) ⟨y_G_way, c_G_way, 3, (some .boolean), 6, 39, 2, G_G_way l hl, rfl, by decide, by decide, rg_in rfl (by decide +kernel), rg_in rfl (by decide +kernel), ⟨by decide, by decide, by decide +kernel⟩, rg_in rfl (by decide +kernel), rfl, rfl, rg_in rfl (by decide +kernel), rg_in rfl (by decide +kernel), fun as w K h => by obtain ⟨r, rfl⟩ := r_G_way as w K h; exact ⟨0, 0, _, Tn_G, 3, r, rfl, rfl, rfl⟩⟩ (List.forall_mem_cons.mpr ⟨⟨by decide +kernel, by decide, rg_in rfl (by decide +kernel), by decide, by decide⟩, List.forall_mem_nil _⟩) (dec_at (by decide +kernel)) ?_
  intro as w K Z hT hZ
  unfold T_L_way at hT
  split at hT
  rotate_left
  · exact hT.elim
  rename_i x0 x1
  refine ⟨Nat.le_of_ble_eq_true rfl, ?_⟩
  show Z 0 [.ref 0, .int x0, .int x1, .ref 34, .null] [] w 0
  refine hZ (rg_cut []) 400 0 _ _ _ ?_
  show rg_run P_L_way none c_L_way (rg_cut []) Z (rg_rt (some .int) K) true 400 0 [.ref 0, .int x0, .int x1, .ref 34, .null] [] w 0
  simp only [rg_e_aload_3 (cut := rg_cut []) (f := true) d_L_way_0 rfl 1 rfl, rg_e_iconst (cut := rg_cut []) (f := false) d_L_way_1 rfl 2 rfl (nI 0) rg_ki_0, rg_e_aload_0 (cut := rg_cut []) (f := false) d_L_way_2 rfl 3 rfl, rg_e_iload_1 (cut := rg_cut []) (f := false) d_L_way_3 rfl 4 rfl, rg_e_iload_2 (cut := rg_cut []) (f := false) d_L_way_4 rfl 5 rfl, rg_e_cx3 (P := P_L_way) (cut := rg_cut []) (f := false) d_L_way_5 rfl (rg_upT T_G_way) rfl, rg_e_if_eq (cut := rg_cut []) (f := false) d_L_way_8 rfl 11 rfl 15 rfl, rg_e_lconst (cut := rg_cut []) (f := false) d_L_way_11 rfl 12 rfl 1 rfl, rg_e_goto (cut := rg_cut []) (f := false) d_L_way_12 rfl 16 rfl, rg_e_lconst (cut := rg_cut []) (f := false) d_L_way_15 rfl 16 rfl 0 rfl, rg_e_last (cut := rg_cut []) (f := false) d_L_way_16 rfl 17 rfl 34 1 rfl, rg_e_goto (cut := rg_cut []) (f := false) d_L_way_17 rfl 24 rfl, rg_e_xstore_4 (cut := rg_cut []) (f := false) d_L_way_20 rfl 22 rfl, rg_e_iconst (cut := rg_cut []) (f := false) d_L_way_22 rfl 23 rfl (nI 1) rg_ki_1, rg_e_iret (cut := rg_cut []) (f := false) d_L_way_23 rfl, rg_e_iconst (cut := rg_cut []) (f := false) d_L_way_24 rfl 25 rfl (nI 0) rg_ki_0, rg_e_iret (cut := rg_cut []) (f := false) d_L_way_25 rfl, rg_nx_i, rg_nx_v, rg_wd_n, rg_wd_i, rg_wd_l, rg_wd_r, rg_clr_i, rg_clr_l, rg_clr_r, rg_clr_a, rg_clr_n, true_and, and_true, Nat.reduceAdd, Nat.reduceLeDiff, rg_rt_e, rg_fit_ie, rg_fit_ve, rg_fit_1e, rg_fit_0e, rg_fit_be, rg_nx_x, rg_c34]
  refine ⟨by decide, rg_wr [(1, 1)] (fun v => if v = 0 then 0 else 1) K, hT, fun r w' h => ?_⟩
  cases r with
  | none => exact h.elim
  | some v =>
    cases v with
    | int v =>
      have h : K (some (.int (nI 0))) (rg_upL w' 34 0 ((fun v => if v = 0 then 0 else 1) v)) := h
      simp only [rg_e_aload_3 (cut := rg_cut []) (f := true) d_L_way_0 rfl 1 rfl, rg_e_iconst (cut := rg_cut []) (f := false) d_L_way_1 rfl 2 rfl (nI 0) rg_ki_0, rg_e_aload_0 (cut := rg_cut []) (f := false) d_L_way_2 rfl 3 rfl, rg_e_iload_1 (cut := rg_cut []) (f := false) d_L_way_3 rfl 4 rfl, rg_e_iload_2 (cut := rg_cut []) (f := false) d_L_way_4 rfl 5 rfl, rg_e_cx3 (P := P_L_way) (cut := rg_cut []) (f := false) d_L_way_5 rfl (rg_upT T_G_way) rfl, rg_e_if_eq (cut := rg_cut []) (f := false) d_L_way_8 rfl 11 rfl 15 rfl, rg_e_lconst (cut := rg_cut []) (f := false) d_L_way_11 rfl 12 rfl 1 rfl, rg_e_goto (cut := rg_cut []) (f := false) d_L_way_12 rfl 16 rfl, rg_e_lconst (cut := rg_cut []) (f := false) d_L_way_15 rfl 16 rfl 0 rfl, rg_e_last (cut := rg_cut []) (f := false) d_L_way_16 rfl 17 rfl 34 1 rfl, rg_e_goto (cut := rg_cut []) (f := false) d_L_way_17 rfl 24 rfl, rg_e_xstore_4 (cut := rg_cut []) (f := false) d_L_way_20 rfl 22 rfl, rg_e_iconst (cut := rg_cut []) (f := false) d_L_way_22 rfl 23 rfl (nI 1) rg_ki_1, rg_e_iret (cut := rg_cut []) (f := false) d_L_way_23 rfl, rg_e_iconst (cut := rg_cut []) (f := false) d_L_way_24 rfl 25 rfl (nI 0) rg_ki_0, rg_e_iret (cut := rg_cut []) (f := false) d_L_way_25 rfl, rg_nx_i, rg_nx_v, rg_wd_n, rg_wd_i, rg_wd_l, rg_wd_r, rg_clr_i, rg_clr_l, rg_clr_r, rg_clr_a, rg_clr_n, true_and, and_true, Nat.reduceAdd, Nat.reduceLeDiff, rg_rt_e, rg_fit_ie, rg_fit_ve, rg_fit_1e, rg_fit_0e, rg_fit_be, rg_nx_x, rg_c34]
      refine ⟨fun z => ⟨rg_in34, ?_⟩, fun z => ⟨rg_in34, ?_⟩⟩
      · dsimp only at h
        rw [if_pos z] at h
        exact h
      · dsimp only at h
        rw [if_neg z] at h
        exact h
    | float k =>
      rw [rg_nx_x]
      by_cases e0 : 1 = k.toNat
      · have h : rg_some (rg_lk [(1, 1)] k.toNat) (fun c => K (some (.int (nI c))) w') := h
        rw [← e0] at h ⊢
        have h : K (some (.int (nI 1))) w' := h
        intro a
        show rg_run P_L_way none c_L_way (rg_cut []) Z (rg_rt (some .int) K) false 394 20 [.ref 0, .int x0, .int x1, .ref 34, .null] [.retAddr a] w' 1
        simp only [rg_e_aload_3 (cut := rg_cut []) (f := true) d_L_way_0 rfl 1 rfl, rg_e_iconst (cut := rg_cut []) (f := false) d_L_way_1 rfl 2 rfl (nI 0) rg_ki_0, rg_e_aload_0 (cut := rg_cut []) (f := false) d_L_way_2 rfl 3 rfl, rg_e_iload_1 (cut := rg_cut []) (f := false) d_L_way_3 rfl 4 rfl, rg_e_iload_2 (cut := rg_cut []) (f := false) d_L_way_4 rfl 5 rfl, rg_e_cx3 (P := P_L_way) (cut := rg_cut []) (f := false) d_L_way_5 rfl (rg_upT T_G_way) rfl, rg_e_if_eq (cut := rg_cut []) (f := false) d_L_way_8 rfl 11 rfl 15 rfl, rg_e_lconst (cut := rg_cut []) (f := false) d_L_way_11 rfl 12 rfl 1 rfl, rg_e_goto (cut := rg_cut []) (f := false) d_L_way_12 rfl 16 rfl, rg_e_lconst (cut := rg_cut []) (f := false) d_L_way_15 rfl 16 rfl 0 rfl, rg_e_last (cut := rg_cut []) (f := false) d_L_way_16 rfl 17 rfl 34 1 rfl, rg_e_goto (cut := rg_cut []) (f := false) d_L_way_17 rfl 24 rfl, rg_e_xstore_4 (cut := rg_cut []) (f := false) d_L_way_20 rfl 22 rfl, rg_e_iconst (cut := rg_cut []) (f := false) d_L_way_22 rfl 23 rfl (nI 1) rg_ki_1, rg_e_iret (cut := rg_cut []) (f := false) d_L_way_23 rfl, rg_e_iconst (cut := rg_cut []) (f := false) d_L_way_24 rfl 25 rfl (nI 0) rg_ki_0, rg_e_iret (cut := rg_cut []) (f := false) d_L_way_25 rfl, rg_nx_i, rg_nx_v, rg_wd_n, rg_wd_i, rg_wd_l, rg_wd_r, rg_clr_i, rg_clr_l, rg_clr_r, rg_clr_a, rg_clr_n, true_and, and_true, Nat.reduceAdd, Nat.reduceLeDiff, rg_rt_e, rg_fit_ie, rg_fit_ve, rg_fit_1e, rg_fit_0e, rg_fit_be, rg_nx_x, rg_c34]
        exact h
      · have h : rg_some (rg_lk [(1, 1)] k.toNat) (fun c => K (some (.int (nI c))) w') := h
        rw [show rg_lk [(1, 1)] k.toNat = none from by simp [rg_lk, e0]] at h
        exact h.elim
    | long _ => exact h.elim
    | double _ => exact h.elim
    | null => exact h.elim
    | ref _ => exact h.elim
    | retAddr _ => exact h.elim
-- L.safe
def hk_L_safe : List rg_Hk := [(0, 18, 21, 13, 1)]
def P_L_safe : rg_P := ([], [(87, 3, 1, rg_upT T_G_safe)], [], [], [], rg_hd hk_L_safe, 1)
def T_L_safe : rg_T := fun as w K => match as with
  | [.ref 0, .long x0, .int x1, .ref 34] => T_G_safe [.ref 0, .long x0, .int x1] w (rg_wr [(1, 1)] (fun v => if v = 0 then 0 else 1) K)
  | _ => False
theorem G_L_safe (l : Launch) (hl : l.stackTraces = false) : rg_GoodW l y_L_safe c_L_safe 6 (some .int) hk_L_safe 7 T_L_safe := by
  refine rg_goodW_of (k := 43) (n := 3) (cpc := 6) (TG := T_G_safe) (by decide) ⟨y_G_safe, c_G_safe, 4, (some .boolean), 6, 43, 2, G_G_safe l hl, rfl, by decide, by decide, rg_in rfl (by decide +kernel), rg_in rfl (by decide +kernel), ⟨by decide, by decide, by decide +kernel⟩, rg_in rfl (by decide +kernel), rfl, rfl, rg_in rfl (by decide +kernel), rg_in rfl (by decide +kernel), fun as w K h => by obtain ⟨r, rfl⟩ := r_G_safe as w K h; exact ⟨0, 0, _, Tn_G, 3, r, rfl, rfl, rfl⟩⟩ (List.forall_mem_cons.mpr ⟨⟨by decide +kernel, by decide, rg_in rfl (by decide +kernel), by decide, by decide⟩, List.forall_mem_nil _⟩) (dec_at (by decide +kernel)) ?_
  intro as w K Z hT hZ
  unfold T_L_safe at hT
  split at hT
  rotate_left
  · exact hT.elim
  rename_i x0 x1
  refine ⟨Nat.le_of_ble_eq_true rfl, ?_⟩
  show Z 0 [.ref 0, .long x0, .null, .int x1, .ref 34, .null] [] w 0
  refine hZ (rg_cut []) 400 0 _ _ _ ?_
  show rg_run P_L_safe none c_L_safe (rg_cut []) Z (rg_rt (some .int) K) true 400 0 [.ref 0, .long x0, .null, .int x1, .ref 34, .null] [] w 0
  simp only [rg_e_aload_4 (cut := rg_cut []) (f := true) d_L_safe_0 rfl 2 rfl, rg_e_iconst (cut := rg_cut []) (f := false) d_L_safe_2 rfl 3 rfl (nI 0) rg_ki_0, rg_e_aload_0 (cut := rg_cut []) (f := false) d_L_safe_3 rfl 4 rfl, rg_e_lload_1 (cut := rg_cut []) (f := false) d_L_safe_4 rfl 5 rfl, rg_e_iload_3 (cut := rg_cut []) (f := false) d_L_safe_5 rfl 6 rfl, rg_e_cx3 (P := P_L_safe) (cut := rg_cut []) (f := false) d_L_safe_6 rfl (rg_upT T_G_safe) rfl, rg_e_if_eq (cut := rg_cut []) (f := false) d_L_safe_9 rfl 12 rfl 16 rfl, rg_e_lconst (cut := rg_cut []) (f := false) d_L_safe_12 rfl 13 rfl 1 rfl, rg_e_goto (cut := rg_cut []) (f := false) d_L_safe_13 rfl 17 rfl, rg_e_lconst (cut := rg_cut []) (f := false) d_L_safe_16 rfl 17 rfl 0 rfl, rg_e_last (cut := rg_cut []) (f := false) d_L_safe_17 rfl 18 rfl 34 1 rfl, rg_e_goto (cut := rg_cut []) (f := false) d_L_safe_18 rfl 25 rfl, rg_e_xstore_5 (cut := rg_cut []) (f := false) d_L_safe_21 rfl 23 rfl, rg_e_iconst (cut := rg_cut []) (f := false) d_L_safe_23 rfl 24 rfl (nI 1) rg_ki_1, rg_e_iret (cut := rg_cut []) (f := false) d_L_safe_24 rfl, rg_e_iconst (cut := rg_cut []) (f := false) d_L_safe_25 rfl 26 rfl (nI 0) rg_ki_0, rg_e_iret (cut := rg_cut []) (f := false) d_L_safe_26 rfl, rg_nx_i, rg_nx_v, rg_wd_n, rg_wd_i, rg_wd_l, rg_wd_r, rg_clr_i, rg_clr_l, rg_clr_r, rg_clr_a, rg_clr_n, true_and, and_true, Nat.reduceAdd, Nat.reduceLeDiff, rg_rt_e, rg_fit_ie, rg_fit_ve, rg_fit_1e, rg_fit_0e, rg_fit_be, rg_nx_x, rg_c34]
  refine ⟨by decide, rg_wr [(1, 1)] (fun v => if v = 0 then 0 else 1) K, hT, fun r w' h => ?_⟩
  cases r with
  | none => exact h.elim
  | some v =>
    cases v with
    | int v =>
      have h : K (some (.int (nI 0))) (rg_upL w' 34 0 ((fun v => if v = 0 then 0 else 1) v)) := h
      simp only [rg_e_aload_4 (cut := rg_cut []) (f := true) d_L_safe_0 rfl 2 rfl, rg_e_iconst (cut := rg_cut []) (f := false) d_L_safe_2 rfl 3 rfl (nI 0) rg_ki_0, rg_e_aload_0 (cut := rg_cut []) (f := false) d_L_safe_3 rfl 4 rfl, rg_e_lload_1 (cut := rg_cut []) (f := false) d_L_safe_4 rfl 5 rfl, rg_e_iload_3 (cut := rg_cut []) (f := false) d_L_safe_5 rfl 6 rfl, rg_e_cx3 (P := P_L_safe) (cut := rg_cut []) (f := false) d_L_safe_6 rfl (rg_upT T_G_safe) rfl, rg_e_if_eq (cut := rg_cut []) (f := false) d_L_safe_9 rfl 12 rfl 16 rfl, rg_e_lconst (cut := rg_cut []) (f := false) d_L_safe_12 rfl 13 rfl 1 rfl, rg_e_goto (cut := rg_cut []) (f := false) d_L_safe_13 rfl 17 rfl, rg_e_lconst (cut := rg_cut []) (f := false) d_L_safe_16 rfl 17 rfl 0 rfl, rg_e_last (cut := rg_cut []) (f := false) d_L_safe_17 rfl 18 rfl 34 1 rfl, rg_e_goto (cut := rg_cut []) (f := false) d_L_safe_18 rfl 25 rfl, rg_e_xstore_5 (cut := rg_cut []) (f := false) d_L_safe_21 rfl 23 rfl, rg_e_iconst (cut := rg_cut []) (f := false) d_L_safe_23 rfl 24 rfl (nI 1) rg_ki_1, rg_e_iret (cut := rg_cut []) (f := false) d_L_safe_24 rfl, rg_e_iconst (cut := rg_cut []) (f := false) d_L_safe_25 rfl 26 rfl (nI 0) rg_ki_0, rg_e_iret (cut := rg_cut []) (f := false) d_L_safe_26 rfl, rg_nx_i, rg_nx_v, rg_wd_n, rg_wd_i, rg_wd_l, rg_wd_r, rg_clr_i, rg_clr_l, rg_clr_r, rg_clr_a, rg_clr_n, true_and, and_true, Nat.reduceAdd, Nat.reduceLeDiff, rg_rt_e, rg_fit_ie, rg_fit_ve, rg_fit_1e, rg_fit_0e, rg_fit_be, rg_nx_x, rg_c34]
      refine ⟨fun z => ⟨rg_in34, ?_⟩, fun z => ⟨rg_in34, ?_⟩⟩
      · dsimp only at h
        rw [if_pos z] at h
        exact h
      · dsimp only at h
        rw [if_neg z] at h
        exact h
    | float k =>
      rw [rg_nx_x]
      by_cases e0 : 1 = k.toNat
      · have h : rg_some (rg_lk [(1, 1)] k.toNat) (fun c => K (some (.int (nI c))) w') := h
        rw [← e0] at h ⊢
        have h : K (some (.int (nI 1))) w' := h
        intro a
        show rg_run P_L_safe none c_L_safe (rg_cut []) Z (rg_rt (some .int) K) false 394 21 [.ref 0, .long x0, .null, .int x1, .ref 34, .null] [.retAddr a] w' 1
        simp only [rg_e_aload_4 (cut := rg_cut []) (f := true) d_L_safe_0 rfl 2 rfl, rg_e_iconst (cut := rg_cut []) (f := false) d_L_safe_2 rfl 3 rfl (nI 0) rg_ki_0, rg_e_aload_0 (cut := rg_cut []) (f := false) d_L_safe_3 rfl 4 rfl, rg_e_lload_1 (cut := rg_cut []) (f := false) d_L_safe_4 rfl 5 rfl, rg_e_iload_3 (cut := rg_cut []) (f := false) d_L_safe_5 rfl 6 rfl, rg_e_cx3 (P := P_L_safe) (cut := rg_cut []) (f := false) d_L_safe_6 rfl (rg_upT T_G_safe) rfl, rg_e_if_eq (cut := rg_cut []) (f := false) d_L_safe_9 rfl 12 rfl 16 rfl, rg_e_lconst (cut := rg_cut []) (f := false) d_L_safe_12 rfl 13 rfl 1 rfl, rg_e_goto (cut := rg_cut []) (f := false) d_L_safe_13 rfl 17 rfl, rg_e_lconst (cut := rg_cut []) (f := false) d_L_safe_16 rfl 17 rfl 0 rfl, rg_e_last (cut := rg_cut []) (f := false) d_L_safe_17 rfl 18 rfl 34 1 rfl, rg_e_goto (cut := rg_cut []) (f := false) d_L_safe_18 rfl 25 rfl, rg_e_xstore_5 (cut := rg_cut []) (f := false) d_L_safe_21 rfl 23 rfl, rg_e_iconst (cut := rg_cut []) (f := false) d_L_safe_23 rfl 24 rfl (nI 1) rg_ki_1, rg_e_iret (cut := rg_cut []) (f := false) d_L_safe_24 rfl, rg_e_iconst (cut := rg_cut []) (f := false) d_L_safe_25 rfl 26 rfl (nI 0) rg_ki_0, rg_e_iret (cut := rg_cut []) (f := false) d_L_safe_26 rfl, rg_nx_i, rg_nx_v, rg_wd_n, rg_wd_i, rg_wd_l, rg_wd_r, rg_clr_i, rg_clr_l, rg_clr_r, rg_clr_a, rg_clr_n, true_and, and_true, Nat.reduceAdd, Nat.reduceLeDiff, rg_rt_e, rg_fit_ie, rg_fit_ve, rg_fit_1e, rg_fit_0e, rg_fit_be, rg_nx_x, rg_c34]
        exact h
      · have h : rg_some (rg_lk [(1, 1)] k.toNat) (fun c => K (some (.int (nI c))) w') := h
        rw [show rg_lk [(1, 1)] k.toNat = none from by simp [rg_lk, e0]] at h
        exact h.elim
    | long _ => exact h.elim
    | double _ => exact h.elim
    | null => exact h.elim
    | ref _ => exact h.elim
    | retAddr _ => exact h.elim
-- L.walks
def hk_L_walks : List rg_Hk := [(0, 8, 11, 15, 2)]
def P_L_walks : rg_P := ([], [(95, 1, 1, rg_upT T_G_walks)], [], [], [], rg_hd hk_L_walks, 1)
def T_L_walks : rg_T := fun as w K => match as with
  | [.ref 0, .ref 34] => T_G_walks [.ref 0] w (rg_wr [(2, 1)] (fun v => v.toInt64) K)
  | _ => False
theorem G_L_walks (l : Launch) (hl : l.stackTraces = false) : rg_GoodW l y_L_walks c_L_walks 3 (some .int) hk_L_walks 7 T_L_walks := by
  refine rg_goodW_of (k := 47) (n := 1) (cpc := 3) (TG := T_G_walks) (by decide) ⟨y_G_walks, c_G_walks, 1, (some .int), 6, 47, 0, G_G_walks l hl, rfl, by decide, by decide, rg_in rfl (by decide +kernel), rg_in rfl (by decide +kernel), ⟨by decide, by decide, by decide +kernel⟩, rg_in rfl (by decide +kernel), rfl, rfl, rg_in rfl (by decide +kernel), rg_in rfl (by decide +kernel), fun as w K h => by obtain ⟨r, rfl⟩ := r_G_walks as w K h; exact ⟨0, 0, _, Tn_G, 3, r, rfl, rfl, rfl⟩⟩ (List.forall_mem_cons.mpr ⟨⟨by decide +kernel, by decide, rg_in rfl (by decide +kernel), by decide, by decide⟩, List.forall_mem_nil _⟩) (dec_at (by decide +kernel)) ?_
  intro as w K Z hT hZ
  unfold T_L_walks at hT
  split at hT
  rotate_left
  · exact hT.elim

  refine ⟨Nat.le_of_ble_eq_true rfl, ?_⟩
  show Z 0 [.ref 0, .ref 34, .null] [] w 0
  refine hZ (rg_cut []) 400 0 _ _ _ ?_
  show rg_run P_L_walks none c_L_walks (rg_cut []) Z (rg_rt (some .int) K) true 400 0 [.ref 0, .ref 34, .null] [] w 0
  simp only [rg_e_aload_1 (cut := rg_cut []) (f := true) d_L_walks_0 rfl 1 rfl, rg_e_iconst (cut := rg_cut []) (f := false) d_L_walks_1 rfl 2 rfl (nI 0) rg_ki_0, rg_e_aload_0 (cut := rg_cut []) (f := false) d_L_walks_2 rfl 3 rfl, rg_e_cx1 (P := P_L_walks) (cut := rg_cut []) (f := false) d_L_walks_3 rfl (rg_upT T_G_walks) rfl, rg_e_i2l (cut := rg_cut []) (f := false) d_L_walks_6 rfl 7 rfl, rg_e_last (cut := rg_cut []) (f := false) d_L_walks_7 rfl 8 rfl 34 1 rfl, rg_e_goto (cut := rg_cut []) (f := false) d_L_walks_8 rfl 14 rfl, rg_e_xstore_2 (cut := rg_cut []) (f := false) d_L_walks_11 rfl 12 rfl, rg_e_iconst (cut := rg_cut []) (f := false) d_L_walks_12 rfl 13 rfl (nI 1) rg_ki_1, rg_e_iret (cut := rg_cut []) (f := false) d_L_walks_13 rfl, rg_e_iconst (cut := rg_cut []) (f := false) d_L_walks_14 rfl 15 rfl (nI 0) rg_ki_0, rg_e_iret (cut := rg_cut []) (f := false) d_L_walks_15 rfl, rg_nx_i, rg_nx_v, rg_wd_n, rg_wd_i, rg_wd_l, rg_wd_r, rg_clr_i, rg_clr_l, rg_clr_r, rg_clr_a, rg_clr_n, true_and, and_true, Nat.reduceAdd, Nat.reduceLeDiff, rg_rt_e, rg_fit_ie, rg_fit_ve, rg_fit_1e, rg_fit_0e, rg_fit_be, rg_nx_x, rg_c34]
  refine ⟨by decide, rg_wr [(2, 1)] (fun v => v.toInt64) K, hT, fun r w' h => ?_⟩
  cases r with
  | none => exact h.elim
  | some v =>
    cases v with
    | int v =>
      have h : K (some (.int (nI 0))) (rg_upL w' 34 0 ((fun v => v.toInt64) v)) := h
      simp only [rg_e_aload_1 (cut := rg_cut []) (f := true) d_L_walks_0 rfl 1 rfl, rg_e_iconst (cut := rg_cut []) (f := false) d_L_walks_1 rfl 2 rfl (nI 0) rg_ki_0, rg_e_aload_0 (cut := rg_cut []) (f := false) d_L_walks_2 rfl 3 rfl, rg_e_cx1 (P := P_L_walks) (cut := rg_cut []) (f := false) d_L_walks_3 rfl (rg_upT T_G_walks) rfl, rg_e_i2l (cut := rg_cut []) (f := false) d_L_walks_6 rfl 7 rfl, rg_e_last (cut := rg_cut []) (f := false) d_L_walks_7 rfl 8 rfl 34 1 rfl, rg_e_goto (cut := rg_cut []) (f := false) d_L_walks_8 rfl 14 rfl, rg_e_xstore_2 (cut := rg_cut []) (f := false) d_L_walks_11 rfl 12 rfl, rg_e_iconst (cut := rg_cut []) (f := false) d_L_walks_12 rfl 13 rfl (nI 1) rg_ki_1, rg_e_iret (cut := rg_cut []) (f := false) d_L_walks_13 rfl, rg_e_iconst (cut := rg_cut []) (f := false) d_L_walks_14 rfl 15 rfl (nI 0) rg_ki_0, rg_e_iret (cut := rg_cut []) (f := false) d_L_walks_15 rfl, rg_nx_i, rg_nx_v, rg_wd_n, rg_wd_i, rg_wd_l, rg_wd_r, rg_clr_i, rg_clr_l, rg_clr_r, rg_clr_a, rg_clr_n, true_and, and_true, Nat.reduceAdd, Nat.reduceLeDiff, rg_rt_e, rg_fit_ie, rg_fit_ve, rg_fit_1e, rg_fit_0e, rg_fit_be, rg_nx_x, rg_c34]
      exact ⟨rg_in34, h⟩
    | float k =>
      rw [rg_nx_x]
      by_cases e0 : 2 = k.toNat
      · have h : rg_some (rg_lk [(2, 1)] k.toNat) (fun c => K (some (.int (nI c))) w') := h
        rw [← e0] at h ⊢
        have h : K (some (.int (nI 1))) w' := h
        intro a
        show rg_run P_L_walks none c_L_walks (rg_cut []) Z (rg_rt (some .int) K) false 396 11 [.ref 0, .ref 34, .null] [.retAddr a] w' 1
        simp only [rg_e_aload_1 (cut := rg_cut []) (f := true) d_L_walks_0 rfl 1 rfl, rg_e_iconst (cut := rg_cut []) (f := false) d_L_walks_1 rfl 2 rfl (nI 0) rg_ki_0, rg_e_aload_0 (cut := rg_cut []) (f := false) d_L_walks_2 rfl 3 rfl, rg_e_cx1 (P := P_L_walks) (cut := rg_cut []) (f := false) d_L_walks_3 rfl (rg_upT T_G_walks) rfl, rg_e_i2l (cut := rg_cut []) (f := false) d_L_walks_6 rfl 7 rfl, rg_e_last (cut := rg_cut []) (f := false) d_L_walks_7 rfl 8 rfl 34 1 rfl, rg_e_goto (cut := rg_cut []) (f := false) d_L_walks_8 rfl 14 rfl, rg_e_xstore_2 (cut := rg_cut []) (f := false) d_L_walks_11 rfl 12 rfl, rg_e_iconst (cut := rg_cut []) (f := false) d_L_walks_12 rfl 13 rfl (nI 1) rg_ki_1, rg_e_iret (cut := rg_cut []) (f := false) d_L_walks_13 rfl, rg_e_iconst (cut := rg_cut []) (f := false) d_L_walks_14 rfl 15 rfl (nI 0) rg_ki_0, rg_e_iret (cut := rg_cut []) (f := false) d_L_walks_15 rfl, rg_nx_i, rg_nx_v, rg_wd_n, rg_wd_i, rg_wd_l, rg_wd_r, rg_clr_i, rg_clr_l, rg_clr_r, rg_clr_a, rg_clr_n, true_and, and_true, Nat.reduceAdd, Nat.reduceLeDiff, rg_rt_e, rg_fit_ie, rg_fit_ve, rg_fit_1e, rg_fit_0e, rg_fit_be, rg_nx_x, rg_c34]
        exact h
      · have h : rg_some (rg_lk [(2, 1)] k.toNat) (fun c => K (some (.int (nI c))) w') := h
        rw [show rg_lk [(2, 1)] k.toNat = none from by simp [rg_lk, e0]] at h
        exact h.elim
    | long _ => exact h.elim
    | double _ => exact h.elim
    | null => exact h.elim
    | ref _ => exact h.elim
    | retAddr _ => exact h.elim
-- L.walk
def hk_L_walk : List rg_Hk := [(0, 10, 13, 37, 4), (0, 10, 17, 20, 3)]
def P_L_walk : rg_P := ([], [(103, 3, 1, rg_upT T_G_walk)], [], [], [], rg_hd hk_L_walk, 1)
def T_L_walk : rg_T := fun as w K => match as with
  | [.ref 0, .int x0, .int x1, .ref 34] => T_G_walk [.ref 0, .int x0, .int x1] w (rg_wr [(4, 1), (3, 2)] (fun v => v.toInt64) K)
  | _ => False
theorem G_L_walk (l : Launch) (hl : l.stackTraces = false) : rg_GoodW l y_L_walk c_L_walk 5 (some .int) hk_L_walk 7 T_L_walk := by
  refine rg_goodW_of (k := 51) (n := 3) (cpc := 5) (TG := T_G_walk) (by decide) ⟨y_G_walk, c_G_walk, 3, (some .int), 6, 51, 2, G_G_walk l hl, rfl, by decide, by decide, rg_in rfl (by decide +kernel), rg_in rfl (by decide +kernel), ⟨by decide, by decide, by decide +kernel⟩, rg_in rfl (by decide +kernel), rfl, rfl, rg_in rfl (by decide +kernel), rg_in rfl (by decide +kernel), fun as w K h => by obtain ⟨r, rfl⟩ := r_G_walk as w K h; exact ⟨0, 0, _, Tn_G, 3, r, rfl, rfl, rfl⟩⟩ (List.forall_mem_cons.mpr ⟨⟨by decide +kernel, by decide, rg_in rfl (by decide +kernel), by decide, by decide⟩, (List.forall_mem_cons.mpr ⟨⟨by decide +kernel, by decide, rg_in rfl (by decide +kernel), by decide, by decide⟩, List.forall_mem_nil _⟩)⟩) (dec_at (by decide +kernel)) ?_
  intro as w K Z hT hZ
  unfold T_L_walk at hT
  split at hT
  rotate_left
  · exact hT.elim
  rename_i x0 x1
  refine ⟨Nat.le_of_ble_eq_true rfl, ?_⟩
  show Z 0 [.ref 0, .int x0, .int x1, .ref 34, .null] [] w 0
  refine hZ (rg_cut []) 400 0 _ _ _ ?_
  show rg_run P_L_walk none c_L_walk (rg_cut []) Z (rg_rt (some .int) K) true 400 0 [.ref 0, .int x0, .int x1, .ref 34, .null] [] w 0
  simp only [rg_e_aload_3 (cut := rg_cut []) (f := true) d_L_walk_0 rfl 1 rfl, rg_e_iconst (cut := rg_cut []) (f := false) d_L_walk_1 rfl 2 rfl (nI 0) rg_ki_0, rg_e_aload_0 (cut := rg_cut []) (f := false) d_L_walk_2 rfl 3 rfl, rg_e_iload_1 (cut := rg_cut []) (f := false) d_L_walk_3 rfl 4 rfl, rg_e_iload_2 (cut := rg_cut []) (f := false) d_L_walk_4 rfl 5 rfl, rg_e_cx3 (P := P_L_walk) (cut := rg_cut []) (f := false) d_L_walk_5 rfl (rg_upT T_G_walk) rfl, rg_e_i2l (cut := rg_cut []) (f := false) d_L_walk_8 rfl 9 rfl, rg_e_last (cut := rg_cut []) (f := false) d_L_walk_9 rfl 10 rfl 34 1 rfl, rg_e_goto (cut := rg_cut []) (f := false) d_L_walk_10 rfl 21 rfl, rg_e_xstore_4 (cut := rg_cut []) (f := false) d_L_walk_13 rfl 15 rfl, rg_e_iconst (cut := rg_cut []) (f := false) d_L_walk_15 rfl 16 rfl (nI 1) rg_ki_1, rg_e_iret (cut := rg_cut []) (f := false) d_L_walk_16 rfl, rg_e_xstore_4 (cut := rg_cut []) (f := false) d_L_walk_17 rfl 19 rfl, rg_e_iconst (cut := rg_cut []) (f := false) d_L_walk_19 rfl 20 rfl (nI 2) rg_ki_2, rg_e_iret (cut := rg_cut []) (f := false) d_L_walk_20 rfl, rg_e_iconst (cut := rg_cut []) (f := false) d_L_walk_21 rfl 22 rfl (nI 0) rg_ki_0, rg_e_iret (cut := rg_cut []) (f := false) d_L_walk_22 rfl, rg_nx_i, rg_nx_v, rg_wd_n, rg_wd_i, rg_wd_l, rg_wd_r, rg_clr_i, rg_clr_l, rg_clr_r, rg_clr_a, rg_clr_n, true_and, and_true, Nat.reduceAdd, Nat.reduceLeDiff, rg_rt_e, rg_fit_ie, rg_fit_ve, rg_fit_1e, rg_fit_0e, rg_fit_be, rg_nx_x, rg_c34]
  refine ⟨by decide, rg_wr [(4, 1), (3, 2)] (fun v => v.toInt64) K, hT, fun r w' h => ?_⟩
  cases r with
  | none => exact h.elim
  | some v =>
    cases v with
    | int v =>
      have h : K (some (.int (nI 0))) (rg_upL w' 34 0 ((fun v => v.toInt64) v)) := h
      simp only [rg_e_aload_3 (cut := rg_cut []) (f := true) d_L_walk_0 rfl 1 rfl, rg_e_iconst (cut := rg_cut []) (f := false) d_L_walk_1 rfl 2 rfl (nI 0) rg_ki_0, rg_e_aload_0 (cut := rg_cut []) (f := false) d_L_walk_2 rfl 3 rfl, rg_e_iload_1 (cut := rg_cut []) (f := false) d_L_walk_3 rfl 4 rfl, rg_e_iload_2 (cut := rg_cut []) (f := false) d_L_walk_4 rfl 5 rfl, rg_e_cx3 (P := P_L_walk) (cut := rg_cut []) (f := false) d_L_walk_5 rfl (rg_upT T_G_walk) rfl, rg_e_i2l (cut := rg_cut []) (f := false) d_L_walk_8 rfl 9 rfl, rg_e_last (cut := rg_cut []) (f := false) d_L_walk_9 rfl 10 rfl 34 1 rfl, rg_e_goto (cut := rg_cut []) (f := false) d_L_walk_10 rfl 21 rfl, rg_e_xstore_4 (cut := rg_cut []) (f := false) d_L_walk_13 rfl 15 rfl, rg_e_iconst (cut := rg_cut []) (f := false) d_L_walk_15 rfl 16 rfl (nI 1) rg_ki_1, rg_e_iret (cut := rg_cut []) (f := false) d_L_walk_16 rfl, rg_e_xstore_4 (cut := rg_cut []) (f := false) d_L_walk_17 rfl 19 rfl, rg_e_iconst (cut := rg_cut []) (f := false) d_L_walk_19 rfl 20 rfl (nI 2) rg_ki_2, rg_e_iret (cut := rg_cut []) (f := false) d_L_walk_20 rfl, rg_e_iconst (cut := rg_cut []) (f := false) d_L_walk_21 rfl 22 rfl (nI 0) rg_ki_0, rg_e_iret (cut := rg_cut []) (f := false) d_L_walk_22 rfl, rg_nx_i, rg_nx_v, rg_wd_n, rg_wd_i, rg_wd_l, rg_wd_r, rg_clr_i, rg_clr_l, rg_clr_r, rg_clr_a, rg_clr_n, true_and, and_true, Nat.reduceAdd, Nat.reduceLeDiff, rg_rt_e, rg_fit_ie, rg_fit_ve, rg_fit_1e, rg_fit_0e, rg_fit_be, rg_nx_x, rg_c34]
      exact ⟨rg_in34, h⟩
    | float k =>
      rw [rg_nx_x]
      by_cases e0 : 4 = k.toNat
      · have h : rg_some (rg_lk [(4, 1), (3, 2)] k.toNat) (fun c => K (some (.int (nI c))) w') := h
        rw [← e0] at h ⊢
        have h : K (some (.int (nI 1))) w' := h
        intro a
        show rg_run P_L_walk none c_L_walk (rg_cut []) Z (rg_rt (some .int) K) false 394 13 [.ref 0, .int x0, .int x1, .ref 34, .null] [.retAddr a] w' 1
        simp only [rg_e_aload_3 (cut := rg_cut []) (f := true) d_L_walk_0 rfl 1 rfl, rg_e_iconst (cut := rg_cut []) (f := false) d_L_walk_1 rfl 2 rfl (nI 0) rg_ki_0, rg_e_aload_0 (cut := rg_cut []) (f := false) d_L_walk_2 rfl 3 rfl, rg_e_iload_1 (cut := rg_cut []) (f := false) d_L_walk_3 rfl 4 rfl, rg_e_iload_2 (cut := rg_cut []) (f := false) d_L_walk_4 rfl 5 rfl, rg_e_cx3 (P := P_L_walk) (cut := rg_cut []) (f := false) d_L_walk_5 rfl (rg_upT T_G_walk) rfl, rg_e_i2l (cut := rg_cut []) (f := false) d_L_walk_8 rfl 9 rfl, rg_e_last (cut := rg_cut []) (f := false) d_L_walk_9 rfl 10 rfl 34 1 rfl, rg_e_goto (cut := rg_cut []) (f := false) d_L_walk_10 rfl 21 rfl, rg_e_xstore_4 (cut := rg_cut []) (f := false) d_L_walk_13 rfl 15 rfl, rg_e_iconst (cut := rg_cut []) (f := false) d_L_walk_15 rfl 16 rfl (nI 1) rg_ki_1, rg_e_iret (cut := rg_cut []) (f := false) d_L_walk_16 rfl, rg_e_xstore_4 (cut := rg_cut []) (f := false) d_L_walk_17 rfl 19 rfl, rg_e_iconst (cut := rg_cut []) (f := false) d_L_walk_19 rfl 20 rfl (nI 2) rg_ki_2, rg_e_iret (cut := rg_cut []) (f := false) d_L_walk_20 rfl, rg_e_iconst (cut := rg_cut []) (f := false) d_L_walk_21 rfl 22 rfl (nI 0) rg_ki_0, rg_e_iret (cut := rg_cut []) (f := false) d_L_walk_22 rfl, rg_nx_i, rg_nx_v, rg_wd_n, rg_wd_i, rg_wd_l, rg_wd_r, rg_clr_i, rg_clr_l, rg_clr_r, rg_clr_a, rg_clr_n, true_and, and_true, Nat.reduceAdd, Nat.reduceLeDiff, rg_rt_e, rg_fit_ie, rg_fit_ve, rg_fit_1e, rg_fit_0e, rg_fit_be, rg_nx_x, rg_c34]
        exact h
      · by_cases e1 : 3 = k.toNat
        · have h : rg_some (rg_lk [(4, 1), (3, 2)] k.toNat) (fun c => K (some (.int (nI c))) w') := h
          rw [← e1] at h ⊢
          have h : K (some (.int (nI 2))) w' := h
          intro a
          show rg_run P_L_walk none c_L_walk (rg_cut []) Z (rg_rt (some .int) K) false 394 17 [.ref 0, .int x0, .int x1, .ref 34, .null] [.retAddr a] w' 1
          simp only [rg_e_aload_3 (cut := rg_cut []) (f := true) d_L_walk_0 rfl 1 rfl, rg_e_iconst (cut := rg_cut []) (f := false) d_L_walk_1 rfl 2 rfl (nI 0) rg_ki_0, rg_e_aload_0 (cut := rg_cut []) (f := false) d_L_walk_2 rfl 3 rfl, rg_e_iload_1 (cut := rg_cut []) (f := false) d_L_walk_3 rfl 4 rfl, rg_e_iload_2 (cut := rg_cut []) (f := false) d_L_walk_4 rfl 5 rfl, rg_e_cx3 (P := P_L_walk) (cut := rg_cut []) (f := false) d_L_walk_5 rfl (rg_upT T_G_walk) rfl, rg_e_i2l (cut := rg_cut []) (f := false) d_L_walk_8 rfl 9 rfl, rg_e_last (cut := rg_cut []) (f := false) d_L_walk_9 rfl 10 rfl 34 1 rfl, rg_e_goto (cut := rg_cut []) (f := false) d_L_walk_10 rfl 21 rfl, rg_e_xstore_4 (cut := rg_cut []) (f := false) d_L_walk_13 rfl 15 rfl, rg_e_iconst (cut := rg_cut []) (f := false) d_L_walk_15 rfl 16 rfl (nI 1) rg_ki_1, rg_e_iret (cut := rg_cut []) (f := false) d_L_walk_16 rfl, rg_e_xstore_4 (cut := rg_cut []) (f := false) d_L_walk_17 rfl 19 rfl, rg_e_iconst (cut := rg_cut []) (f := false) d_L_walk_19 rfl 20 rfl (nI 2) rg_ki_2, rg_e_iret (cut := rg_cut []) (f := false) d_L_walk_20 rfl, rg_e_iconst (cut := rg_cut []) (f := false) d_L_walk_21 rfl 22 rfl (nI 0) rg_ki_0, rg_e_iret (cut := rg_cut []) (f := false) d_L_walk_22 rfl, rg_nx_i, rg_nx_v, rg_wd_n, rg_wd_i, rg_wd_l, rg_wd_r, rg_clr_i, rg_clr_l, rg_clr_r, rg_clr_a, rg_clr_n, true_and, and_true, Nat.reduceAdd, Nat.reduceLeDiff, rg_rt_e, rg_fit_ie, rg_fit_ve, rg_fit_1e, rg_fit_0e, rg_fit_be, rg_nx_x, rg_c34]
          exact h
        · have h : rg_some (rg_lk [(4, 1), (3, 2)] k.toNat) (fun c => K (some (.int (nI c))) w') := h
          rw [show rg_lk [(4, 1), (3, 2)] k.toNat = none from by simp [rg_lk, e0, e1]] at h
          exact h.elim
    | long _ => exact h.elim
    | double _ => exact h.elim
    | null => exact h.elim
    | ref _ => exact h.elim
    | retAddr _ => exact h.elim
-- L.spelled
def hk_L_spelled : List rg_Hk := [(0, 10, 13, 37, 4), (0, 10, 17, 20, 3)]
def P_L_spelled : rg_P := ([], [(109, 3, 1, rg_upT T_G_spelled)], [], [], [], rg_hd hk_L_spelled, 1)
def T_L_spelled : rg_T := fun as w K => match as with
  | [.ref 0, .int x0, .int x1, .ref 34] => T_G_spelled [.ref 0, .int x0, .int x1] w (rg_wr [(4, 1), (3, 2)] (fun v => v.toInt64) K)
  | _ => False
theorem G_L_spelled (l : Launch) (hl : l.stackTraces = false) : rg_GoodW l y_L_spelled c_L_spelled 5 (some .int) hk_L_spelled 7 T_L_spelled := by
  refine rg_goodW_of (k := 54) (n := 3) (cpc := 5) (TG := T_G_spelled) (by decide) ⟨y_G_spelled, c_G_spelled, 4, (some .int), 6, 54, 2, G_G_spelled l hl, rfl, by decide, by decide, rg_in rfl (by decide +kernel), rg_in rfl (by decide +kernel), ⟨by decide, by decide, by decide +kernel⟩, rg_in rfl (by decide +kernel), rfl, rfl, rg_in rfl (by decide +kernel), rg_in rfl (by decide +kernel), fun as w K h => by obtain ⟨r, rfl⟩ := r_G_spelled as w K h; exact ⟨0, 0, _, Tn_G, 3, r, rfl, rfl, rfl⟩⟩ (List.forall_mem_cons.mpr ⟨⟨by decide +kernel, by decide, rg_in rfl (by decide +kernel), by decide, by decide⟩, (List.forall_mem_cons.mpr ⟨⟨by decide +kernel, by decide, rg_in rfl (by decide +kernel), by decide, by decide⟩, List.forall_mem_nil _⟩)⟩) (dec_at (by decide +kernel)) ?_
  intro as w K Z hT hZ
  unfold T_L_spelled at hT
  split at hT
  rotate_left
  · exact hT.elim
  rename_i x0 x1
  refine ⟨Nat.le_of_ble_eq_true rfl, ?_⟩
  show Z 0 [.ref 0, .int x0, .int x1, .ref 34, .null] [] w 0
  refine hZ (rg_cut []) 400 0 _ _ _ ?_
  show rg_run P_L_spelled none c_L_spelled (rg_cut []) Z (rg_rt (some .int) K) true 400 0 [.ref 0, .int x0, .int x1, .ref 34, .null] [] w 0
  simp only [rg_e_aload_3 (cut := rg_cut []) (f := true) d_L_spelled_0 rfl 1 rfl, rg_e_iconst (cut := rg_cut []) (f := false) d_L_spelled_1 rfl 2 rfl (nI 0) rg_ki_0, rg_e_aload_0 (cut := rg_cut []) (f := false) d_L_spelled_2 rfl 3 rfl, rg_e_iload_1 (cut := rg_cut []) (f := false) d_L_spelled_3 rfl 4 rfl, rg_e_iload_2 (cut := rg_cut []) (f := false) d_L_spelled_4 rfl 5 rfl, rg_e_cx3 (P := P_L_spelled) (cut := rg_cut []) (f := false) d_L_spelled_5 rfl (rg_upT T_G_spelled) rfl, rg_e_i2l (cut := rg_cut []) (f := false) d_L_spelled_8 rfl 9 rfl, rg_e_last (cut := rg_cut []) (f := false) d_L_spelled_9 rfl 10 rfl 34 1 rfl, rg_e_goto (cut := rg_cut []) (f := false) d_L_spelled_10 rfl 21 rfl, rg_e_xstore_4 (cut := rg_cut []) (f := false) d_L_spelled_13 rfl 15 rfl, rg_e_iconst (cut := rg_cut []) (f := false) d_L_spelled_15 rfl 16 rfl (nI 1) rg_ki_1, rg_e_iret (cut := rg_cut []) (f := false) d_L_spelled_16 rfl, rg_e_xstore_4 (cut := rg_cut []) (f := false) d_L_spelled_17 rfl 19 rfl, rg_e_iconst (cut := rg_cut []) (f := false) d_L_spelled_19 rfl 20 rfl (nI 2) rg_ki_2, rg_e_iret (cut := rg_cut []) (f := false) d_L_spelled_20 rfl, rg_e_iconst (cut := rg_cut []) (f := false) d_L_spelled_21 rfl 22 rfl (nI 0) rg_ki_0, rg_e_iret (cut := rg_cut []) (f := false) d_L_spelled_22 rfl, rg_nx_i, rg_nx_v, rg_wd_n, rg_wd_i, rg_wd_l, rg_wd_r, rg_clr_i, rg_clr_l, rg_clr_r, rg_clr_a, rg_clr_n, true_and, and_true, Nat.reduceAdd, Nat.reduceLeDiff, rg_rt_e, rg_fit_ie, rg_fit_ve, rg_fit_1e, rg_fit_0e, rg_fit_be, rg_nx_x, rg_c34]
  refine ⟨by decide, rg_wr [(4, 1), (3, 2)] (fun v => v.toInt64) K, hT, fun r w' h => ?_⟩
  cases r with
  | none => exact h.elim
  | some v =>
    cases v with
    | int v =>
      have h : K (some (.int (nI 0))) (rg_upL w' 34 0 ((fun v => v.toInt64) v)) := h
      simp only [rg_e_aload_3 (cut := rg_cut []) (f := true) d_L_spelled_0 rfl 1 rfl, rg_e_iconst (cut := rg_cut []) (f := false) d_L_spelled_1 rfl 2 rfl (nI 0) rg_ki_0, rg_e_aload_0 (cut := rg_cut []) (f := false) d_L_spelled_2 rfl 3 rfl, rg_e_iload_1 (cut := rg_cut []) (f := false) d_L_spelled_3 rfl 4 rfl, rg_e_iload_2 (cut := rg_cut []) (f := false) d_L_spelled_4 rfl 5 rfl, rg_e_cx3 (P := P_L_spelled) (cut := rg_cut []) (f := false) d_L_spelled_5 rfl (rg_upT T_G_spelled) rfl, rg_e_i2l (cut := rg_cut []) (f := false) d_L_spelled_8 rfl 9 rfl, rg_e_last (cut := rg_cut []) (f := false) d_L_spelled_9 rfl 10 rfl 34 1 rfl, rg_e_goto (cut := rg_cut []) (f := false) d_L_spelled_10 rfl 21 rfl, rg_e_xstore_4 (cut := rg_cut []) (f := false) d_L_spelled_13 rfl 15 rfl, rg_e_iconst (cut := rg_cut []) (f := false) d_L_spelled_15 rfl 16 rfl (nI 1) rg_ki_1, rg_e_iret (cut := rg_cut []) (f := false) d_L_spelled_16 rfl, rg_e_xstore_4 (cut := rg_cut []) (f := false) d_L_spelled_17 rfl 19 rfl, rg_e_iconst (cut := rg_cut []) (f := false) d_L_spelled_19 rfl 20 rfl (nI 2) rg_ki_2, rg_e_iret (cut := rg_cut []) (f := false) d_L_spelled_20 rfl, rg_e_iconst (cut := rg_cut []) (f := false) d_L_spelled_21 rfl 22 rfl (nI 0) rg_ki_0, rg_e_iret (cut := rg_cut []) (f := false) d_L_spelled_22 rfl, rg_nx_i, rg_nx_v, rg_wd_n, rg_wd_i, rg_wd_l, rg_wd_r, rg_clr_i, rg_clr_l, rg_clr_r, rg_clr_a, rg_clr_n, true_and, and_true, Nat.reduceAdd, Nat.reduceLeDiff, rg_rt_e, rg_fit_ie, rg_fit_ve, rg_fit_1e, rg_fit_0e, rg_fit_be, rg_nx_x, rg_c34]
      exact ⟨rg_in34, h⟩
    | float k =>
      rw [rg_nx_x]
      by_cases e0 : 4 = k.toNat
      · have h : rg_some (rg_lk [(4, 1), (3, 2)] k.toNat) (fun c => K (some (.int (nI c))) w') := h
        rw [← e0] at h ⊢
        have h : K (some (.int (nI 1))) w' := h
        intro a
        show rg_run P_L_spelled none c_L_spelled (rg_cut []) Z (rg_rt (some .int) K) false 394 13 [.ref 0, .int x0, .int x1, .ref 34, .null] [.retAddr a] w' 1
        simp only [rg_e_aload_3 (cut := rg_cut []) (f := true) d_L_spelled_0 rfl 1 rfl, rg_e_iconst (cut := rg_cut []) (f := false) d_L_spelled_1 rfl 2 rfl (nI 0) rg_ki_0, rg_e_aload_0 (cut := rg_cut []) (f := false) d_L_spelled_2 rfl 3 rfl, rg_e_iload_1 (cut := rg_cut []) (f := false) d_L_spelled_3 rfl 4 rfl, rg_e_iload_2 (cut := rg_cut []) (f := false) d_L_spelled_4 rfl 5 rfl, rg_e_cx3 (P := P_L_spelled) (cut := rg_cut []) (f := false) d_L_spelled_5 rfl (rg_upT T_G_spelled) rfl, rg_e_i2l (cut := rg_cut []) (f := false) d_L_spelled_8 rfl 9 rfl, rg_e_last (cut := rg_cut []) (f := false) d_L_spelled_9 rfl 10 rfl 34 1 rfl, rg_e_goto (cut := rg_cut []) (f := false) d_L_spelled_10 rfl 21 rfl, rg_e_xstore_4 (cut := rg_cut []) (f := false) d_L_spelled_13 rfl 15 rfl, rg_e_iconst (cut := rg_cut []) (f := false) d_L_spelled_15 rfl 16 rfl (nI 1) rg_ki_1, rg_e_iret (cut := rg_cut []) (f := false) d_L_spelled_16 rfl, rg_e_xstore_4 (cut := rg_cut []) (f := false) d_L_spelled_17 rfl 19 rfl, rg_e_iconst (cut := rg_cut []) (f := false) d_L_spelled_19 rfl 20 rfl (nI 2) rg_ki_2, rg_e_iret (cut := rg_cut []) (f := false) d_L_spelled_20 rfl, rg_e_iconst (cut := rg_cut []) (f := false) d_L_spelled_21 rfl 22 rfl (nI 0) rg_ki_0, rg_e_iret (cut := rg_cut []) (f := false) d_L_spelled_22 rfl, rg_nx_i, rg_nx_v, rg_wd_n, rg_wd_i, rg_wd_l, rg_wd_r, rg_clr_i, rg_clr_l, rg_clr_r, rg_clr_a, rg_clr_n, true_and, and_true, Nat.reduceAdd, Nat.reduceLeDiff, rg_rt_e, rg_fit_ie, rg_fit_ve, rg_fit_1e, rg_fit_0e, rg_fit_be, rg_nx_x, rg_c34]
        exact h
      · by_cases e1 : 3 = k.toNat
        · have h : rg_some (rg_lk [(4, 1), (3, 2)] k.toNat) (fun c => K (some (.int (nI c))) w') := h
          rw [← e1] at h ⊢
          have h : K (some (.int (nI 2))) w' := h
          intro a
          show rg_run P_L_spelled none c_L_spelled (rg_cut []) Z (rg_rt (some .int) K) false 394 17 [.ref 0, .int x0, .int x1, .ref 34, .null] [.retAddr a] w' 1
          simp only [rg_e_aload_3 (cut := rg_cut []) (f := true) d_L_spelled_0 rfl 1 rfl, rg_e_iconst (cut := rg_cut []) (f := false) d_L_spelled_1 rfl 2 rfl (nI 0) rg_ki_0, rg_e_aload_0 (cut := rg_cut []) (f := false) d_L_spelled_2 rfl 3 rfl, rg_e_iload_1 (cut := rg_cut []) (f := false) d_L_spelled_3 rfl 4 rfl, rg_e_iload_2 (cut := rg_cut []) (f := false) d_L_spelled_4 rfl 5 rfl, rg_e_cx3 (P := P_L_spelled) (cut := rg_cut []) (f := false) d_L_spelled_5 rfl (rg_upT T_G_spelled) rfl, rg_e_i2l (cut := rg_cut []) (f := false) d_L_spelled_8 rfl 9 rfl, rg_e_last (cut := rg_cut []) (f := false) d_L_spelled_9 rfl 10 rfl 34 1 rfl, rg_e_goto (cut := rg_cut []) (f := false) d_L_spelled_10 rfl 21 rfl, rg_e_xstore_4 (cut := rg_cut []) (f := false) d_L_spelled_13 rfl 15 rfl, rg_e_iconst (cut := rg_cut []) (f := false) d_L_spelled_15 rfl 16 rfl (nI 1) rg_ki_1, rg_e_iret (cut := rg_cut []) (f := false) d_L_spelled_16 rfl, rg_e_xstore_4 (cut := rg_cut []) (f := false) d_L_spelled_17 rfl 19 rfl, rg_e_iconst (cut := rg_cut []) (f := false) d_L_spelled_19 rfl 20 rfl (nI 2) rg_ki_2, rg_e_iret (cut := rg_cut []) (f := false) d_L_spelled_20 rfl, rg_e_iconst (cut := rg_cut []) (f := false) d_L_spelled_21 rfl 22 rfl (nI 0) rg_ki_0, rg_e_iret (cut := rg_cut []) (f := false) d_L_spelled_22 rfl, rg_nx_i, rg_nx_v, rg_wd_n, rg_wd_i, rg_wd_l, rg_wd_r, rg_clr_i, rg_clr_l, rg_clr_r, rg_clr_a, rg_clr_n, true_and, and_true, Nat.reduceAdd, Nat.reduceLeDiff, rg_rt_e, rg_fit_ie, rg_fit_ve, rg_fit_1e, rg_fit_0e, rg_fit_be, rg_nx_x, rg_c34]
          exact h
        · have h : rg_some (rg_lk [(4, 1), (3, 2)] k.toNat) (fun c => K (some (.int (nI c))) w') := h
          rw [show rg_lk [(4, 1), (3, 2)] k.toNat = none from by simp [rg_lk, e0, e1]] at h
          exact h.elim
    | long _ => exact h.elim
    | double _ => exact h.elim
    | null => exact h.elim
    | ref _ => exact h.elim
    | retAddr _ => exact h.elim
