/-! Walks: steps of the search -/
def eN (hg : Nat → Nat → Nat) : Nat := (esT hg 81).length
def sr (hg : Nat → Nat → Nat) (e : Nat) : Nat := (esT hg 81).getD e 0 / 9
def ds (hg : Nat → Nat → Nat) (e : Nat) : Nat := (esT hg 81).getD e 0 % 9
theorem eN_le {hg : Nat → Nat → Nat} (h0 : ∀ i, hg i i = 0) : eN hg ≤ 72 := by
  have := esT_len h0 81 (by omega)
  unfold eN
  omega
theorem sr_lt {hg : Nat → Nat → Nat} {e : Nat} (h : e < eN hg) : sr hg e < 9 ∧ ds hg e < 9 := by
  have := (esT_lt h).1
  unfold sr ds
  omega
theorem GrE.at {hg : Nat → Nat → Nat} {w : rg_W} (h : GrE hg w) {e : Nat} (he : e < eN hg) : w.1 6 e = nI (sr hg e) ∧ w.1 7 e = nI (ds hg e) ∧ w.1 8 e = nI (hg (sr hg e) (ds hg e)) := h.1.2.1 e he
theorem GrE.fr {hg : Nat → Nat → Nat} {w w' : rg_W} (h : GrE hg w) (hf : rg_fr [13, 14, 15, 16, 17] w w') : GrE hg w' :=
  ⟨h.1.fr (by rw [hf.1 4 (by decide)]) (hf.1 6 (by decide)) (hf.1 7 (by decide)) (hf.1 8 (by decide)) (hf.1 10 (by decide)) (hf.1 11 (by decide)), fun a ha => by rw [hf.1 12 (by decide)]; exact h.2.1 a ha, h.2.2⟩
theorem FoW.fr {hg : Nat → Nat → Nat} {w w' : rg_W} (h : FoW hg w) (hf : rg_fr [13, 14, 15, 16, 17] w w') : FoW hg w' := fun i hi => by rw [hf.1 9 (by decide)]; exact h i hi
theorem gD_mem {t : List Nat} {i : Nat} (h : i < t.length) : t.getD i 0 ∈ t := by
  rw [List.getD_eq_getElem?_getD, List.getElem?_eq_getElem h]
  exact List.getElem_mem h
theorem all_ix {t : List Nat} {p : Nat → Bool} : t.all p = true ↔ ∀ i, i < t.length → p (t.getD i 0) = true := by
  rw [List.all_eq_true]
  constructor
  · exact fun h i hi => h _ (gD_mem hi)
  · intro h x hx
    obtain ⟨i, hi⟩ := List.getElem?_of_mem hx
    have hl := (List.getElem?_eq_some_iff.mp hi).1
    have := h i hl
    rwa [List.getD_eq_getElem?_getD, hi] at this
theorem all_no {t : List Nat} {p : Nat → Bool} {i : Nat} (hi : i < t.length) (h : p (t.getD i 0) = false) : t.all p = false := by
  rw [Bool.eq_false_iff]
  intro z
  have := all_ix.mp z i hi
  rw [h] at this
  cases this
/-- the trail -/
def Tr (hg : Nat → Nat → Nat) (t : List Nat) (w : rg_W) : Prop := w.1 13 6 = nI t.length ∧ t.length ≤ 40 ∧ (∀ f ∈ t, f < eN hg) ∧ ∀ i, i < t.length → w.1 16 i = nI (t.getD i 0)
-- W.stepOn
def P_W_stepOn : rg_P := (rg_F_W, [], [], [], [], [], 0)
def T_W_stepOn : rg_T := fun as w K => match as with
  | [.ref 13, .int e] => ∃ hg e' m, GrE hg w ∧ FoW hg w ∧ e = nI e' ∧ e' < eN hg ∧ w.1 13 6 = nI m ∧ m < 40 ∧ K none (rg_up (rg_up (rg_up w 16 m (nI e')) 17 m (nI (esT hg (9 * ds hg e')).length)) 13 6 (nI (m + 1)))
  | _ => False
theorem Te_W_stepOn (e : Int32) (w : rg_W) (K : Option Value → rg_W → Prop) : T_W_stepOn [.ref 13, .int e] w K = (∃ hg e' m, GrE hg w ∧ FoW hg w ∧ e = nI e' ∧ e' < eN hg ∧ w.1 13 6 = nI m ∧ m < 40 ∧ K none (rg_up (rg_up (rg_up w 16 m (nI e')) 17 m (nI (esT hg (9 * ds hg e')).length)) 13 6 (nI (m + 1)))) := rfl
theorem r_W_stepOn : ∀ as w K, T_W_stepOn as w K → ∃ r, as = .ref 13 :: r := by
  intro as w K h
  unfold T_W_stepOn at h
  split at h
  · exact ⟨_, rfl⟩
  · exact h.elim
theorem G_W_stepOn (l : Launch) : rg_Good l y_W_stepOn c_W_stepOn 2 none 0 T_W_stepOn := by
  refine rg_good_of (P := P_W_stepOn) (by decide) (rg_pok rg_F_W_ok rg_nil) ?_
  intro as w K Z hT hZ
  unfold T_W_stepOn at hT
  split at hT
  rotate_left
  · exact hT.elim
  rename_i e
  refine ⟨Nat.le_of_ble_eq_true rfl, ?_⟩
  show Z 0 [.ref 13, .int e] [] w 0
  obtain ⟨hg, e', m, hG, hF, rfl, he, hm, hm40, hK⟩ := hT
  have h72 := eN_le hG.2.2
  have hl := sr_lt he
  have vm : vp_in (nI m) 40 := vp_in_nI hm40 (by omega)
  have cm : (nI m).toNatClampNeg = m := nI_clamp (by omega)
  have ve : vp_in (nI e') 72 := vp_in_nI (by omega) (by omega)
  have ce : (nI e').toNatClampNeg = e' := nI_clamp (by omega)
  have vd : vp_in (nI (ds hg e')) 10 := vp_in_nI (by omega) (by omega)
  have cd : (nI (ds hg e')).toNatClampNeg = ds hg e' := nI_clamp (by omega)
  have e7 := (hG.at he).2.1
  have e9 := hF (ds hg e') (by omega)
  refine hZ (rg_cut []) 400 0 _ _ _ ?_; simp only [rg_e_aload_0 (cut := rg_cut []) (f := true) d_W_stepOn_0 rfl 1 rfl, rg_e_getr (P := P_W_stepOn) (cut := rg_cut []) (f := false) d_W_stepOn_1 rfl 4 rfl 13 3 4 16 rfl (fun _ => rfl), rg_e_aload_0 (cut := rg_cut []) (f := false) d_W_stepOn_4 rfl 5 rfl, rg_e_geti (P := P_W_stepOn) (cut := rg_cut []) (f := false) d_W_stepOn_5 rfl 8 rfl 13 3 6 rfl (fun _ => rfl), rg_e_iload_1 (cut := rg_cut []) (f := false) d_W_stepOn_8 rfl 9 rfl, rg_e_iast (cut := rg_cut []) (f := false) d_W_stepOn_9 rfl 10 rfl 16 40 rfl, rg_e_aload_0 (cut := rg_cut []) (f := false) d_W_stepOn_10 rfl 11 rfl, rg_e_getr (P := P_W_stepOn) (cut := rg_cut []) (f := false) d_W_stepOn_11 rfl 14 rfl 13 3 5 17 rfl (fun _ => rfl), rg_e_aload_0 (cut := rg_cut []) (f := false) d_W_stepOn_14 rfl 15 rfl, rg_e_geti (P := P_W_stepOn) (cut := rg_cut []) (f := false) d_W_stepOn_15 rfl 18 rfl 13 3 6 rfl (fun _ => rfl), rg_e_aload_0 (cut := rg_cut []) (f := false) d_W_stepOn_18 rfl 19 rfl, rg_e_getr (P := P_W_stepOn) (cut := rg_cut []) (f := false) d_W_stepOn_19 rfl 22 rfl 13 3 0 4 rfl (fun _ => rfl), rg_e_getr (P := P_W_stepOn) (cut := rg_cut []) (f := false) d_W_stepOn_22 rfl 25 rfl 4 2 4 9 rfl (fun _ => rfl), rg_e_aload_0 (cut := rg_cut []) (f := false) d_W_stepOn_25 rfl 26 rfl, rg_e_getr (P := P_W_stepOn) (cut := rg_cut []) (f := false) d_W_stepOn_26 rfl 29 rfl 13 3 0 4 rfl (fun _ => rfl), rg_e_getr (P := P_W_stepOn) (cut := rg_cut []) (f := false) d_W_stepOn_29 rfl 32 rfl 4 2 2 7 rfl (fun _ => rfl), rg_e_iload_1 (cut := rg_cut []) (f := false) d_W_stepOn_32 rfl 33 rfl, rg_e_iald (cut := rg_cut []) (f := false) d_W_stepOn_33 rfl 34 rfl 7 72 rfl, rg_e_iald (cut := rg_cut []) (f := false) d_W_stepOn_34 rfl 35 rfl 9 10 rfl, rg_e_iast (cut := rg_cut []) (f := false) d_W_stepOn_35 rfl 36 rfl 17 40 rfl, rg_e_aload_0 (cut := rg_cut []) (f := false) d_W_stepOn_36 rfl 37 rfl, rg_e_dupr (cut := rg_cut []) (f := false) d_W_stepOn_37 rfl 38 rfl, rg_e_geti (P := P_W_stepOn) (cut := rg_cut []) (f := false) d_W_stepOn_38 rfl 41 rfl 13 3 6 rfl (fun _ => rfl), rg_e_iconst (cut := rg_cut []) (f := false) d_W_stepOn_41 rfl 42 rfl (nI 1) rg_ki_1, rg_e_iadd (cut := rg_cut []) (f := false) d_W_stepOn_42 rfl 43 rfl, rg_e_put (P := P_W_stepOn) (cut := rg_cut []) (f := false) d_W_stepOn_43 rfl 46 rfl 13 3 6 rfl rfl, rg_e_vret (cut := rg_cut []) (f := false) d_W_stepOn_46 rfl, rg_nx_i, rg_nx_v, rg_wd_n, rg_wd_i, rg_wd_l, rg_wd_r, rg_clr_i, rg_clr_l, rg_clr_r, rg_clr_a, rg_clr_n, true_and, and_true, Nat.reduceAdd, Nat.reduceLeDiff, rg_rt_e, rg_fit_ie, rg_fit_ve, rg_fit_1e, rg_fit_0e, rg_fit_be, vm, cm, ve, ce, vd, cd, e7, e9, hm, nI_add, rg_up_n, ne_eq, not_false_eq_true, Nat.reduceEqDiff]
  exact hK
-- W.staysSafeBehind
def P_W_staysSafeBehind : rg_P := (rg_F_W, [(137, 3, 0, T_E_isPassedBy)], [], [], [], [], 0)
def T_W_staysSafeBehind : rg_T := fun as w K => match as with
  | [.ref 13, .int e] => ∃ hg e' t, GrE hg w ∧ Tr hg t w ∧ e = nI e' ∧ e' < eN hg ∧ K (some (.int (zI (t.all (fun f => !pbE hg f e'))))) w
  | _ => False
theorem Te_W_staysSafeBehind (e : Int32) (w : rg_W) (K : Option Value → rg_W → Prop) : T_W_staysSafeBehind [.ref 13, .int e] w K = (∃ hg e' t, GrE hg w ∧ Tr hg t w ∧ e = nI e' ∧ e' < eN hg ∧ K (some (.int (zI (t.all (fun f => !pbE hg f e'))))) w) := rfl
theorem r_W_staysSafeBehind : ∀ as w K, T_W_staysSafeBehind as w K → ∃ r, as = .ref 13 :: r := by
  intro as w K h
  unfold T_W_staysSafeBehind at h
  split at h
  · exact ⟨_, rfl⟩
  · exact h.elim
theorem G_W_staysSafeBehind (l : Launch) : rg_Good l y_W_staysSafeBehind c_W_staysSafeBehind 3 (some .boolean) 2 T_W_staysSafeBehind := by
  refine rg_good_of (P := P_W_staysSafeBehind) (by decide) (rg_pok rg_F_W_ok (rg_cons (cw_W_68 (G_E_isPassedBy l) (by decide) r_E_isPassedBy) rg_nil)) ?_
  intro as w K Z hT hZ
  unfold T_W_staysSafeBehind at hT
  split at hT
  rotate_left
  · exact hT.elim
  rename_i e
  refine ⟨Nat.le_of_ble_eq_true rfl, ?_⟩
  show Z 0 [.ref 13, .int e, .null] [] w 0
  obtain ⟨hg, e', t, hG, hT, rfl, he, hK⟩ := hT
  obtain ⟨h1, h2, h3, h4⟩ := id hT
  have loop : ∀ i, (i ≤ t.length ∧ ∀ b, b < i → (!pbE hg (t.getD b 0) e') = true) → Z 2 [.ref 13, .int (nI e'), .int (nI i)] [] w 0 := by
    refine rg_lp1 _ _ (fun i => t.length - i) ?_
    intro i ⟨hi, hno⟩ ih
    rcases Nat.lt_or_ge i t.length with hi9 | hi9
    · have vi : vp_in (nI i) 40 := vp_in_nI (by omega) (by omega)
      have ci : (nI i).toNatClampNeg = i := nI_clamp (by omega)
      have et := h4 i hi9
      refine hZ (rg_cut [2]) 400 2 _ _ _ ?_; simp only [rg_e_iload_2 (cut := rg_cut [2]) (f := true) d_W_staysSafeBehind_2 rfl 3 rfl, rg_e_aload_0 (cut := rg_cut [2]) (f := false) d_W_staysSafeBehind_3 rfl 4 rfl, rg_e_geti (P := P_W_staysSafeBehind) (cut := rg_cut [2]) (f := false) d_W_staysSafeBehind_4 rfl 7 rfl 13 3 6 rfl (fun _ => rfl), rg_e_icmp_ge (cut := rg_cut [2]) (f := false) d_W_staysSafeBehind_7 rfl 10 rfl 35 rfl, rg_e_aload_0 (cut := rg_cut [2]) (f := false) d_W_staysSafeBehind_10 rfl 11 rfl, rg_e_getr (P := P_W_staysSafeBehind) (cut := rg_cut [2]) (f := false) d_W_staysSafeBehind_11 rfl 14 rfl 13 3 0 4 rfl (fun _ => rfl), rg_e_aload_0 (cut := rg_cut [2]) (f := false) d_W_staysSafeBehind_14 rfl 15 rfl, rg_e_getr (P := P_W_staysSafeBehind) (cut := rg_cut [2]) (f := false) d_W_staysSafeBehind_15 rfl 18 rfl 13 3 4 16 rfl (fun _ => rfl), rg_e_iload_2 (cut := rg_cut [2]) (f := false) d_W_staysSafeBehind_18 rfl 19 rfl, rg_e_iald (cut := rg_cut [2]) (f := false) d_W_staysSafeBehind_19 rfl 20 rfl 16 40 rfl, rg_e_iload_1 (cut := rg_cut [2]) (f := false) d_W_staysSafeBehind_20 rfl 21 rfl, rg_e_cv3 (P := P_W_staysSafeBehind) (cut := rg_cut [2]) (f := false) d_W_staysSafeBehind_21 rfl T_E_isPassedBy rfl, rg_e_if_eq (cut := rg_cut [2]) (f := false) d_W_staysSafeBehind_24 rfl 27 rfl 29 rfl, rg_e_iconst (cut := rg_cut [2]) (f := false) d_W_staysSafeBehind_27 rfl 28 rfl (nI 0) rg_ki_0, rg_e_iret (cut := rg_cut [2]) (f := false) d_W_staysSafeBehind_28 rfl, rg_e_iinc_2 (cut := rg_cut [2]) (f := false) d_W_staysSafeBehind_29 rfl 32 rfl (nI 1) rg_ki_1, rg_e_goto (cut := rg_cut [2]) (f := false) d_W_staysSafeBehind_32 rfl 2 rfl, rg_e_iconst (cut := rg_cut [2]) (f := false) d_W_staysSafeBehind_35 rfl 36 rfl (nI 1) rg_ki_1, rg_e_iret (cut := rg_cut [2]) (f := false) d_W_staysSafeBehind_36 rfl, rg_e_cut (cut := rg_cut [2]) 2 rfl, rg_nx_i, rg_nx_v, rg_wd_n, rg_wd_i, rg_wd_l, rg_wd_r, rg_clr_i, rg_clr_l, rg_clr_r, rg_clr_a, rg_clr_n, true_and, and_true, Nat.reduceAdd, Nat.reduceLeDiff, ↓Te_E_isPassedBy, rg_rt_e, rg_fit_ie, rg_fit_ve, rg_fit_1e, rg_fit_0e, rg_fit_be, vi, ci, et, h1, zI_eq, nI_add]
      refine ⟨fun h => absurd h (nI_ge hi9 (by omega)), fun _ => ⟨hg, t.getD i 0, e', hG, rfl, rfl, h3 _ (gD_mem hi9), he, fun h => ?_, fun h => ?_⟩⟩
      · refine ih (i + 1) ⟨by omega, fun b hb => ?_⟩ (by omega)
        by_cases hbi : b = i
        · subst hbi; rw [h]; rfl
        · exact hno b (by omega)
      · have h : pbE hg (t.getD i 0) e' = true := by simpa using h
        rw [all_no (p := fun f => !pbE hg f e') hi9 (by rw [h]; rfl)] at hK
        exact hK
    · obtain rfl : i = t.length := by omega
      refine hZ (rg_cut [2]) 400 2 _ _ _ ?_; simp only [rg_e_iload_2 (cut := rg_cut [2]) (f := true) d_W_staysSafeBehind_2 rfl 3 rfl, rg_e_aload_0 (cut := rg_cut [2]) (f := false) d_W_staysSafeBehind_3 rfl 4 rfl, rg_e_geti (P := P_W_staysSafeBehind) (cut := rg_cut [2]) (f := false) d_W_staysSafeBehind_4 rfl 7 rfl 13 3 6 rfl (fun _ => rfl), rg_e_icmp_ge (cut := rg_cut [2]) (f := false) d_W_staysSafeBehind_7 rfl 10 rfl 35 rfl, rg_e_aload_0 (cut := rg_cut [2]) (f := false) d_W_staysSafeBehind_10 rfl 11 rfl, rg_e_getr (P := P_W_staysSafeBehind) (cut := rg_cut [2]) (f := false) d_W_staysSafeBehind_11 rfl 14 rfl 13 3 0 4 rfl (fun _ => rfl), rg_e_aload_0 (cut := rg_cut [2]) (f := false) d_W_staysSafeBehind_14 rfl 15 rfl, rg_e_getr (P := P_W_staysSafeBehind) (cut := rg_cut [2]) (f := false) d_W_staysSafeBehind_15 rfl 18 rfl 13 3 4 16 rfl (fun _ => rfl), rg_e_iload_2 (cut := rg_cut [2]) (f := false) d_W_staysSafeBehind_18 rfl 19 rfl, rg_e_iald (cut := rg_cut [2]) (f := false) d_W_staysSafeBehind_19 rfl 20 rfl 16 40 rfl, rg_e_iload_1 (cut := rg_cut [2]) (f := false) d_W_staysSafeBehind_20 rfl 21 rfl, rg_e_cv3 (P := P_W_staysSafeBehind) (cut := rg_cut [2]) (f := false) d_W_staysSafeBehind_21 rfl T_E_isPassedBy rfl, rg_e_if_eq (cut := rg_cut [2]) (f := false) d_W_staysSafeBehind_24 rfl 27 rfl 29 rfl, rg_e_iconst (cut := rg_cut [2]) (f := false) d_W_staysSafeBehind_27 rfl 28 rfl (nI 0) rg_ki_0, rg_e_iret (cut := rg_cut [2]) (f := false) d_W_staysSafeBehind_28 rfl, rg_e_iinc_2 (cut := rg_cut [2]) (f := false) d_W_staysSafeBehind_29 rfl 32 rfl (nI 1) rg_ki_1, rg_e_goto (cut := rg_cut [2]) (f := false) d_W_staysSafeBehind_32 rfl 2 rfl, rg_e_iconst (cut := rg_cut [2]) (f := false) d_W_staysSafeBehind_35 rfl 36 rfl (nI 1) rg_ki_1, rg_e_iret (cut := rg_cut [2]) (f := false) d_W_staysSafeBehind_36 rfl, rg_e_cut (cut := rg_cut [2]) 2 rfl, rg_nx_i, rg_nx_v, rg_wd_n, rg_wd_i, rg_wd_l, rg_wd_r, rg_clr_i, rg_clr_l, rg_clr_r, rg_clr_a, rg_clr_n, true_and, and_true, Nat.reduceAdd, Nat.reduceLeDiff, ↓Te_E_isPassedBy, rg_rt_e, rg_fit_ie, rg_fit_ve, rg_fit_1e, rg_fit_0e, rg_fit_be, h1]
      refine ⟨fun _ => ?_, fun h => absurd (nI_le (Nat.le_refl _) (by omega)) h⟩
      rw [all_ix.mpr hno] at hK
      exact hK
  refine hZ (rg_cut [2]) 400 0 _ _ _ ?_; simp only [rg_e_iconst (cut := rg_cut [2]) (f := true) d_W_staysSafeBehind_0 rfl 1 rfl (nI 0) rg_ki_0, rg_e_istore_2 (cut := rg_cut [2]) (f := false) d_W_staysSafeBehind_1 rfl 2 rfl, rg_e_cut (cut := rg_cut [2]) 2 rfl, rg_nx_i, rg_nx_v, rg_wd_n, rg_wd_i, rg_wd_l, rg_wd_r, rg_clr_i, rg_clr_l, rg_clr_r, rg_clr_a, rg_clr_n, true_and, and_true, Nat.reduceAdd, Nat.reduceLeDiff, ↓Te_E_isPassedBy, rg_rt_e, rg_fit_ie, rg_fit_ve, rg_fit_1e, rg_fit_0e, rg_fit_be]
  exact loop 0 ⟨by omega, fun b hb => absurd hb (by omega)⟩
-- W.staysSafeBefore
def P_W_staysSafeBefore : rg_P := (rg_F_W, [(137, 3, 0, T_E_isPassedBy)], [], [], [], [], 0)
def T_W_staysSafeBefore : rg_T := fun as w K => match as with
  | [.ref 13, .int e] => ∃ hg e' t, GrE hg w ∧ Tr hg t w ∧ e = nI e' ∧ e' < eN hg ∧ K (some (.int (zI (t.all (fun f => !pbE hg e' f))))) w
  | _ => False
theorem Te_W_staysSafeBefore (e : Int32) (w : rg_W) (K : Option Value → rg_W → Prop) : T_W_staysSafeBefore [.ref 13, .int e] w K = (∃ hg e' t, GrE hg w ∧ Tr hg t w ∧ e = nI e' ∧ e' < eN hg ∧ K (some (.int (zI (t.all (fun f => !pbE hg e' f))))) w) := rfl
theorem r_W_staysSafeBefore : ∀ as w K, T_W_staysSafeBefore as w K → ∃ r, as = .ref 13 :: r := by
  intro as w K h
  unfold T_W_staysSafeBefore at h
  split at h
  · exact ⟨_, rfl⟩
  · exact h.elim
theorem G_W_staysSafeBefore (l : Launch) : rg_Good l y_W_staysSafeBefore c_W_staysSafeBefore 3 (some .boolean) 2 T_W_staysSafeBefore := by
  refine rg_good_of (P := P_W_staysSafeBefore) (by decide) (rg_pok rg_F_W_ok (rg_cons (cw_W_68 (G_E_isPassedBy l) (by decide) r_E_isPassedBy) rg_nil)) ?_
  intro as w K Z hT hZ
  unfold T_W_staysSafeBefore at hT
  split at hT
  rotate_left
  · exact hT.elim
  rename_i e
  refine ⟨Nat.le_of_ble_eq_true rfl, ?_⟩
  show Z 0 [.ref 13, .int e, .null] [] w 0
  obtain ⟨hg, e', t, hG, hT, rfl, he, hK⟩ := hT
  obtain ⟨h1, h2, h3, h4⟩ := id hT
  have loop : ∀ i, (i ≤ t.length ∧ ∀ b, b < i → (!pbE hg e' (t.getD b 0)) = true) → Z 2 [.ref 13, .int (nI e'), .int (nI i)] [] w 0 := by
    refine rg_lp1 _ _ (fun i => t.length - i) ?_
    intro i ⟨hi, hno⟩ ih
    rcases Nat.lt_or_ge i t.length with hi9 | hi9
    · have vi : vp_in (nI i) 40 := vp_in_nI (by omega) (by omega)
      have ci : (nI i).toNatClampNeg = i := nI_clamp (by omega)
      have et := h4 i hi9
      refine hZ (rg_cut [2]) 400 2 _ _ _ ?_; simp only [rg_e_iload_2 (cut := rg_cut [2]) (f := true) d_W_staysSafeBefore_2 rfl 3 rfl, rg_e_aload_0 (cut := rg_cut [2]) (f := false) d_W_staysSafeBefore_3 rfl 4 rfl, rg_e_geti (P := P_W_staysSafeBefore) (cut := rg_cut [2]) (f := false) d_W_staysSafeBefore_4 rfl 7 rfl 13 3 6 rfl (fun _ => rfl), rg_e_icmp_ge (cut := rg_cut [2]) (f := false) d_W_staysSafeBefore_7 rfl 10 rfl 35 rfl, rg_e_aload_0 (cut := rg_cut [2]) (f := false) d_W_staysSafeBefore_10 rfl 11 rfl, rg_e_getr (P := P_W_staysSafeBefore) (cut := rg_cut [2]) (f := false) d_W_staysSafeBefore_11 rfl 14 rfl 13 3 0 4 rfl (fun _ => rfl), rg_e_iload_1 (cut := rg_cut [2]) (f := false) d_W_staysSafeBefore_14 rfl 15 rfl, rg_e_aload_0 (cut := rg_cut [2]) (f := false) d_W_staysSafeBefore_15 rfl 16 rfl, rg_e_getr (P := P_W_staysSafeBefore) (cut := rg_cut [2]) (f := false) d_W_staysSafeBefore_16 rfl 19 rfl 13 3 4 16 rfl (fun _ => rfl), rg_e_iload_2 (cut := rg_cut [2]) (f := false) d_W_staysSafeBefore_19 rfl 20 rfl, rg_e_iald (cut := rg_cut [2]) (f := false) d_W_staysSafeBefore_20 rfl 21 rfl 16 40 rfl, rg_e_cv3 (P := P_W_staysSafeBefore) (cut := rg_cut [2]) (f := false) d_W_staysSafeBefore_21 rfl T_E_isPassedBy rfl, rg_e_if_eq (cut := rg_cut [2]) (f := false) d_W_staysSafeBefore_24 rfl 27 rfl 29 rfl, rg_e_iconst (cut := rg_cut [2]) (f := false) d_W_staysSafeBefore_27 rfl 28 rfl (nI 0) rg_ki_0, rg_e_iret (cut := rg_cut [2]) (f := false) d_W_staysSafeBefore_28 rfl, rg_e_iinc_2 (cut := rg_cut [2]) (f := false) d_W_staysSafeBefore_29 rfl 32 rfl (nI 1) rg_ki_1, rg_e_goto (cut := rg_cut [2]) (f := false) d_W_staysSafeBefore_32 rfl 2 rfl, rg_e_iconst (cut := rg_cut [2]) (f := false) d_W_staysSafeBefore_35 rfl 36 rfl (nI 1) rg_ki_1, rg_e_iret (cut := rg_cut [2]) (f := false) d_W_staysSafeBefore_36 rfl, rg_e_cut (cut := rg_cut [2]) 2 rfl, rg_nx_i, rg_nx_v, rg_wd_n, rg_wd_i, rg_wd_l, rg_wd_r, rg_clr_i, rg_clr_l, rg_clr_r, rg_clr_a, rg_clr_n, true_and, and_true, Nat.reduceAdd, Nat.reduceLeDiff, ↓Te_E_isPassedBy, rg_rt_e, rg_fit_ie, rg_fit_ve, rg_fit_1e, rg_fit_0e, rg_fit_be, vi, ci, et, h1, zI_eq, nI_add]
      refine ⟨fun h => absurd h (nI_ge hi9 (by omega)), fun _ => ⟨hg, e', t.getD i 0, hG, rfl, rfl, he, h3 _ (gD_mem hi9), fun h => ?_, fun h => ?_⟩⟩
      · refine ih (i + 1) ⟨by omega, fun b hb => ?_⟩ (by omega)
        by_cases hbi : b = i
        · subst hbi; rw [h]; rfl
        · exact hno b (by omega)
      · have h : pbE hg e' (t.getD i 0) = true := by simpa using h
        rw [all_no (p := fun f => !pbE hg e' f) hi9 (by rw [h]; rfl)] at hK
        exact hK
    · obtain rfl : i = t.length := by omega
      refine hZ (rg_cut [2]) 400 2 _ _ _ ?_; simp only [rg_e_iload_2 (cut := rg_cut [2]) (f := true) d_W_staysSafeBefore_2 rfl 3 rfl, rg_e_aload_0 (cut := rg_cut [2]) (f := false) d_W_staysSafeBefore_3 rfl 4 rfl, rg_e_geti (P := P_W_staysSafeBefore) (cut := rg_cut [2]) (f := false) d_W_staysSafeBefore_4 rfl 7 rfl 13 3 6 rfl (fun _ => rfl), rg_e_icmp_ge (cut := rg_cut [2]) (f := false) d_W_staysSafeBefore_7 rfl 10 rfl 35 rfl, rg_e_aload_0 (cut := rg_cut [2]) (f := false) d_W_staysSafeBefore_10 rfl 11 rfl, rg_e_getr (P := P_W_staysSafeBefore) (cut := rg_cut [2]) (f := false) d_W_staysSafeBefore_11 rfl 14 rfl 13 3 0 4 rfl (fun _ => rfl), rg_e_iload_1 (cut := rg_cut [2]) (f := false) d_W_staysSafeBefore_14 rfl 15 rfl, rg_e_aload_0 (cut := rg_cut [2]) (f := false) d_W_staysSafeBefore_15 rfl 16 rfl, rg_e_getr (P := P_W_staysSafeBefore) (cut := rg_cut [2]) (f := false) d_W_staysSafeBefore_16 rfl 19 rfl 13 3 4 16 rfl (fun _ => rfl), rg_e_iload_2 (cut := rg_cut [2]) (f := false) d_W_staysSafeBefore_19 rfl 20 rfl, rg_e_iald (cut := rg_cut [2]) (f := false) d_W_staysSafeBefore_20 rfl 21 rfl 16 40 rfl, rg_e_cv3 (P := P_W_staysSafeBefore) (cut := rg_cut [2]) (f := false) d_W_staysSafeBefore_21 rfl T_E_isPassedBy rfl, rg_e_if_eq (cut := rg_cut [2]) (f := false) d_W_staysSafeBefore_24 rfl 27 rfl 29 rfl, rg_e_iconst (cut := rg_cut [2]) (f := false) d_W_staysSafeBefore_27 rfl 28 rfl (nI 0) rg_ki_0, rg_e_iret (cut := rg_cut [2]) (f := false) d_W_staysSafeBefore_28 rfl, rg_e_iinc_2 (cut := rg_cut [2]) (f := false) d_W_staysSafeBefore_29 rfl 32 rfl (nI 1) rg_ki_1, rg_e_goto (cut := rg_cut [2]) (f := false) d_W_staysSafeBefore_32 rfl 2 rfl, rg_e_iconst (cut := rg_cut [2]) (f := false) d_W_staysSafeBefore_35 rfl 36 rfl (nI 1) rg_ki_1, rg_e_iret (cut := rg_cut [2]) (f := false) d_W_staysSafeBefore_36 rfl, rg_e_cut (cut := rg_cut [2]) 2 rfl, rg_nx_i, rg_nx_v, rg_wd_n, rg_wd_i, rg_wd_l, rg_wd_r, rg_clr_i, rg_clr_l, rg_clr_r, rg_clr_a, rg_clr_n, true_and, and_true, Nat.reduceAdd, Nat.reduceLeDiff, ↓Te_E_isPassedBy, rg_rt_e, rg_fit_ie, rg_fit_ve, rg_fit_1e, rg_fit_0e, rg_fit_be, h1]
      refine ⟨fun _ => ?_, fun h => absurd (nI_le (Nat.le_refl _) (by omega)) h⟩
      rw [all_ix.mpr hno] at hK
      exact hK
  refine hZ (rg_cut [2]) 400 0 _ _ _ ?_; simp only [rg_e_iconst (cut := rg_cut [2]) (f := true) d_W_staysSafeBefore_0 rfl 1 rfl (nI 0) rg_ki_0, rg_e_istore_2 (cut := rg_cut [2]) (f := false) d_W_staysSafeBefore_1 rfl 2 rfl, rg_e_cut (cut := rg_cut [2]) 2 rfl, rg_nx_i, rg_nx_v, rg_wd_n, rg_wd_i, rg_wd_l, rg_wd_r, rg_clr_i, rg_clr_l, rg_clr_r, rg_clr_a, rg_clr_n, true_and, and_true, Nat.reduceAdd, Nat.reduceLeDiff, ↓Te_E_isPassedBy, rg_rt_e, rg_fit_ie, rg_fit_ve, rg_fit_1e, rg_fit_0e, rg_fit_be]
  exact loop 0 ⟨by omega, fun b hb => absurd hb (by omega)⟩
/-- the first of k numbers from x on that has p -/
def nbF (p : Nat → Bool) : Nat → Nat → Option Nat
  | _, 0 => none
  | x, k + 1 => if p x = true then some x else nbF p (x + 1) k
/-- the last edge of a trail -/
def lst (t : List Nat) : Nat := t.getD (t.length - 1) 0
noncomputable def sfB (hg : Nat → Nat → Nat) (t : List Nat) (e : Nat) : Bool := t.all (fun f => !pbE hg f e)
theorem esT_mono (hg : Nat → Nat → Nat) {s t : Nat} (h : s ≤ t) : (esT hg s).length ≤ (esT hg t).length := by
  induction t with
  | zero =>
    obtain rfl : s = 0 := by omega
    exact Nat.le_refl _
  | succ t ih =>
    by_cases hs : s = t + 1
    · subst hs; exact Nat.le_refl _
    · rw [esT_s, List.length_append]
      have := ih (by omega)
      omega
-- W.nextBehind
def P_W_nextBehind : rg_P := (rg_F_W, [(129, 2, 0, T_W_staysSafeBehind)], [], [], [], [], 0)
def T_W_nextBehind : rg_T := fun as w K => match as with
  | [.ref 13] => ∃ hg t x, GrE hg w ∧ FoW hg w ∧ Tr hg t w ∧ 0 < t.length ∧ w.1 17 (t.length - 1) = nI x ∧ x < 2 ^ 30 ∧ (∀ e, nbF (sfB hg t) x ((esT hg (9 * (ds hg (lst t) + 1))).length - x) = some e → K (some (.int (nI e))) (rg_up w 17 (t.length - 1) (nI (e + 1)))) ∧ (nbF (sfB hg t) x ((esT hg (9 * (ds hg (lst t) + 1))).length - x) = none → K (some (.int (-1))) w)
  | _ => False
theorem Te_W_nextBehind  (w : rg_W) (K : Option Value → rg_W → Prop) : T_W_nextBehind [.ref 13] w K = (∃ hg t x, GrE hg w ∧ FoW hg w ∧ Tr hg t w ∧ 0 < t.length ∧ w.1 17 (t.length - 1) = nI x ∧ x < 2 ^ 30 ∧ (∀ e, nbF (sfB hg t) x ((esT hg (9 * (ds hg (lst t) + 1))).length - x) = some e → K (some (.int (nI e))) (rg_up w 17 (t.length - 1) (nI (e + 1)))) ∧ (nbF (sfB hg t) x ((esT hg (9 * (ds hg (lst t) + 1))).length - x) = none → K (some (.int (-1))) w)) := rfl
theorem r_W_nextBehind : ∀ as w K, T_W_nextBehind as w K → ∃ r, as = .ref 13 :: r := by
  intro as w K h
  unfold T_W_nextBehind at h
  split at h
  · exact ⟨_, rfl⟩
  · exact h.elim
theorem G_W_nextBehind (l : Launch) : rg_Good l y_W_nextBehind c_W_nextBehind 3 (some .int) 3 T_W_nextBehind := by
  refine rg_good_of (P := P_W_nextBehind) (by decide) (rg_pok rg_F_W_ok (rg_cons (cw_W_64 (G_W_staysSafeBehind l) (by decide) r_W_staysSafeBehind) rg_nil)) ?_
  intro as w K Z hT hZ
  unfold T_W_nextBehind at hT
  split at hT
  rotate_left
  · exact hT.elim
  refine ⟨Nat.le_of_ble_eq_true rfl, ?_⟩
  show Z 0 [.ref 13, .null, .null] [] w 0
  obtain ⟨hg, t, x, hG, hF, hT, ht0, hx, hx30, hK1, hK2⟩ := hT
  obtain ⟨h1, h2, h3, h4⟩ := id hT
  have h72 := eN_le hG.2.2
  have hle : lst t < eN hg := h3 _ (gD_mem (by omega))
  have hd := (sr_lt hle).2
  have s1 : nI t.length - nI 1 = nI (t.length - 1) := pk_sub (by omega)
  have v1 : vp_in (nI (t.length - 1)) 40 := vp_in_nI (by omega) (by omega)
  have c1 : (nI (t.length - 1)).toNatClampNeg = t.length - 1 := nI_clamp (by omega)
  have e1 := h4 (t.length - 1) (by omega)
  have v2 : vp_in (nI (t.getD (t.length - 1) 0)) 72 := vp_in_nI (by have := hle; unfold lst at this; omega) (by omega)
  have c2 : (nI (t.getD (t.length - 1) 0)).toNatClampNeg = lst t := nI_clamp (by have := hle; unfold lst at this; omega)
  have e2 := (hG.at hle).2.1
  have v3 : vp_in (nI (ds hg (lst t) + 1)) 10 := vp_in_nI (by omega) (by omega)
  have c3 : (nI (ds hg (lst t) + 1)).toNatClampNeg = ds hg (lst t) + 1 := nI_clamp (by omega)
  have e3 := hF (ds hg (lst t) + 1) (by omega)
  have hm := esT_mono hg (s := 9 * (ds hg (lst t) + 1)) (t := 81) (by omega)
  have hm2 : (esT hg (9 * (ds hg (lst t) + 1))).length ≤ eN hg := hm
  have loop : ∀ e, (nbF (sfB hg t) x ((esT hg (9 * (ds hg (lst t) + 1))).length - x) = nbF (sfB hg t) e ((esT hg (9 * (ds hg (lst t) + 1))).length - e) ∧ e < 2 ^ 30) → Z 32 [.ref 13, .int (nI (ds hg (lst t))), .int (nI e)] [] w 0 := by
    refine rg_lp1 _ _ (fun e => (esT hg (9 * (ds hg (lst t) + 1))).length - e) ?_
    intro e ⟨he, he30⟩ ih
    refine hZ (rg_cut [32]) 400 32 _ _ _ ?_; simp only [rg_e_iload_2 (cut := rg_cut [32]) (f := true) d_W_nextBehind_32 rfl 33 rfl, rg_e_aload_0 (cut := rg_cut [32]) (f := false) d_W_nextBehind_33 rfl 34 rfl, rg_e_getr (P := P_W_nextBehind) (cut := rg_cut [32]) (f := false) d_W_nextBehind_34 rfl 37 rfl 13 3 0 4 rfl (fun _ => rfl), rg_e_getr (P := P_W_nextBehind) (cut := rg_cut [32]) (f := false) d_W_nextBehind_37 rfl 40 rfl 4 2 4 9 rfl (fun _ => rfl), rg_e_iload_1 (cut := rg_cut [32]) (f := false) d_W_nextBehind_40 rfl 41 rfl, rg_e_iconst (cut := rg_cut [32]) (f := false) d_W_nextBehind_41 rfl 42 rfl (nI 1) rg_ki_1, rg_e_iadd (cut := rg_cut [32]) (f := false) d_W_nextBehind_42 rfl 43 rfl, rg_e_iald (cut := rg_cut [32]) (f := false) d_W_nextBehind_43 rfl 44 rfl 9 10 rfl, rg_e_icmp_ge (cut := rg_cut [32]) (f := false) d_W_nextBehind_44 rfl 47 rfl 77 rfl, rg_e_aload_0 (cut := rg_cut [32]) (f := false) d_W_nextBehind_47 rfl 48 rfl, rg_e_iload_2 (cut := rg_cut [32]) (f := false) d_W_nextBehind_48 rfl 49 rfl, rg_e_cv2 (P := P_W_nextBehind) (cut := rg_cut [32]) (f := false) d_W_nextBehind_49 rfl T_W_staysSafeBehind rfl, rg_e_if_eq (cut := rg_cut [32]) (f := false) d_W_nextBehind_52 rfl 55 rfl 71 rfl, rg_e_aload_0 (cut := rg_cut [32]) (f := false) d_W_nextBehind_55 rfl 56 rfl, rg_e_getr (P := P_W_nextBehind) (cut := rg_cut [32]) (f := false) d_W_nextBehind_56 rfl 59 rfl 13 3 5 17 rfl (fun _ => rfl), rg_e_aload_0 (cut := rg_cut [32]) (f := false) d_W_nextBehind_59 rfl 60 rfl, rg_e_geti (P := P_W_nextBehind) (cut := rg_cut [32]) (f := false) d_W_nextBehind_60 rfl 63 rfl 13 3 6 rfl (fun _ => rfl), rg_e_iconst (cut := rg_cut [32]) (f := false) d_W_nextBehind_63 rfl 64 rfl (nI 1) rg_ki_1, rg_e_isub (cut := rg_cut [32]) (f := false) d_W_nextBehind_64 rfl 65 rfl, rg_e_iload_2 (cut := rg_cut [32]) (f := false) d_W_nextBehind_65 rfl 66 rfl, rg_e_iconst (cut := rg_cut [32]) (f := false) d_W_nextBehind_66 rfl 67 rfl (nI 1) rg_ki_1, rg_e_iadd (cut := rg_cut [32]) (f := false) d_W_nextBehind_67 rfl 68 rfl, rg_e_iast (cut := rg_cut [32]) (f := false) d_W_nextBehind_68 rfl 69 rfl 17 40 rfl, rg_e_iload_2 (cut := rg_cut [32]) (f := false) d_W_nextBehind_69 rfl 70 rfl, rg_e_iret (cut := rg_cut [32]) (f := false) d_W_nextBehind_70 rfl, rg_e_iinc_2 (cut := rg_cut [32]) (f := false) d_W_nextBehind_71 rfl 74 rfl (nI 1) rg_ki_1, rg_e_goto (cut := rg_cut [32]) (f := false) d_W_nextBehind_74 rfl 32 rfl, rg_e_iconst (cut := rg_cut [32]) (f := false) d_W_nextBehind_77 rfl 78 rfl (-1) rg_ki_m1, rg_e_iret (cut := rg_cut [32]) (f := false) d_W_nextBehind_78 rfl, rg_e_cut (cut := rg_cut [32]) 32 rfl, rg_nx_i, rg_nx_v, rg_wd_n, rg_wd_i, rg_wd_l, rg_wd_r, rg_clr_i, rg_clr_l, rg_clr_r, rg_clr_a, rg_clr_n, true_and, and_true, Nat.reduceAdd, Nat.reduceLeDiff, ↓Te_W_staysSafeBehind, rg_rt_e, rg_fit_ie, rg_fit_ve, rg_fit_1e, rg_fit_0e, rg_fit_be, s1, v1, c1, v3, c3, e3, h1, zI_eq, nI_add]
    rw [nI_lep (by omega) (by omega)]
    refine ⟨fun h => hK2 ?_, fun h => ⟨hg, e, t, hG, hT, rfl, by omega, fun h1 => ?_, fun h1 => ?_⟩⟩
    · rw [he, Nat.sub_eq_zero_of_le h, nbF]
    · have h1 : sfB hg t e = false := h1
      refine ih (e + 1) ⟨?_, by omega⟩ (by omega)
      rw [he, show (esT hg (9 * (ds hg (lst t) + 1))).length - e = ((esT hg (9 * (ds hg (lst t) + 1))).length - (e + 1)) + 1 by omega, nbF, if_neg (by rw [h1]; decide)]
    · have h1 : sfB hg t e = true := by rw [← Bool.not_eq_false]; exact h1
      refine hK1 e ?_
      rw [he, show (esT hg (9 * (ds hg (lst t) + 1))).length - e = ((esT hg (9 * (ds hg (lst t) + 1))).length - (e + 1)) + 1 by omega, nbF, if_pos h1]
  refine hZ (rg_cut [32]) 400 0 _ _ _ ?_; simp only [rg_e_aload_0 (cut := rg_cut [32]) (f := true) d_W_nextBehind_0 rfl 1 rfl, rg_e_getr (P := P_W_nextBehind) (cut := rg_cut [32]) (f := false) d_W_nextBehind_1 rfl 4 rfl 13 3 0 4 rfl (fun _ => rfl), rg_e_getr (P := P_W_nextBehind) (cut := rg_cut [32]) (f := false) d_W_nextBehind_4 rfl 7 rfl 4 2 2 7 rfl (fun _ => rfl), rg_e_aload_0 (cut := rg_cut [32]) (f := false) d_W_nextBehind_7 rfl 8 rfl, rg_e_getr (P := P_W_nextBehind) (cut := rg_cut [32]) (f := false) d_W_nextBehind_8 rfl 11 rfl 13 3 4 16 rfl (fun _ => rfl), rg_e_aload_0 (cut := rg_cut [32]) (f := false) d_W_nextBehind_11 rfl 12 rfl, rg_e_geti (P := P_W_nextBehind) (cut := rg_cut [32]) (f := false) d_W_nextBehind_12 rfl 15 rfl 13 3 6 rfl (fun _ => rfl), rg_e_iconst (cut := rg_cut [32]) (f := false) d_W_nextBehind_15 rfl 16 rfl (nI 1) rg_ki_1, rg_e_isub (cut := rg_cut [32]) (f := false) d_W_nextBehind_16 rfl 17 rfl, rg_e_iald (cut := rg_cut [32]) (f := false) d_W_nextBehind_17 rfl 18 rfl 16 40 rfl, rg_e_iald (cut := rg_cut [32]) (f := false) d_W_nextBehind_18 rfl 19 rfl 7 72 rfl, rg_e_istore_1 (cut := rg_cut [32]) (f := false) d_W_nextBehind_19 rfl 20 rfl, rg_e_aload_0 (cut := rg_cut [32]) (f := false) d_W_nextBehind_20 rfl 21 rfl, rg_e_getr (P := P_W_nextBehind) (cut := rg_cut [32]) (f := false) d_W_nextBehind_21 rfl 24 rfl 13 3 5 17 rfl (fun _ => rfl), rg_e_aload_0 (cut := rg_cut [32]) (f := false) d_W_nextBehind_24 rfl 25 rfl, rg_e_geti (P := P_W_nextBehind) (cut := rg_cut [32]) (f := false) d_W_nextBehind_25 rfl 28 rfl 13 3 6 rfl (fun _ => rfl), rg_e_iconst (cut := rg_cut [32]) (f := false) d_W_nextBehind_28 rfl 29 rfl (nI 1) rg_ki_1, rg_e_isub (cut := rg_cut [32]) (f := false) d_W_nextBehind_29 rfl 30 rfl, rg_e_iald (cut := rg_cut [32]) (f := false) d_W_nextBehind_30 rfl 31 rfl 17 40 rfl, rg_e_istore_2 (cut := rg_cut [32]) (f := false) d_W_nextBehind_31 rfl 32 rfl, rg_e_cut (cut := rg_cut [32]) 32 rfl, rg_nx_i, rg_nx_v, rg_wd_n, rg_wd_i, rg_wd_l, rg_wd_r, rg_clr_i, rg_clr_l, rg_clr_r, rg_clr_a, rg_clr_n, true_and, and_true, Nat.reduceAdd, Nat.reduceLeDiff, ↓Te_W_staysSafeBehind, rg_rt_e, rg_fit_ie, rg_fit_ve, rg_fit_1e, rg_fit_0e, rg_fit_be, s1, v1, c1, e1, v2, c2, e2, hx, h1]
  exact loop x ⟨rfl, hx30⟩
noncomputable def preB (hg : Nat → Nat → Nat) (t : List Nat) : Bool := (List.range (eN hg)).any (fun e => decide (ds hg e = sr hg (t.getD 0 0)) && t.all (fun f => !pbE hg e f))
-- W.hasBefore
def P_W_hasBefore : rg_P := (rg_F_W, [(151, 2, 0, T_W_staysSafeBefore)], [], [], [], [], 0)
def T_W_hasBefore : rg_T := fun as w K => match as with
  | [.ref 13] => ∃ hg t, GrE hg w ∧ Tr hg t w ∧ 0 < t.length ∧ K (some (.int (zI (preB hg t)))) w
  | _ => False
theorem Te_W_hasBefore  (w : rg_W) (K : Option Value → rg_W → Prop) : T_W_hasBefore [.ref 13] w K = (∃ hg t, GrE hg w ∧ Tr hg t w ∧ 0 < t.length ∧ K (some (.int (zI (preB hg t)))) w) := rfl
theorem r_W_hasBefore : ∀ as w K, T_W_hasBefore as w K → ∃ r, as = .ref 13 :: r := by
  intro as w K h
  unfold T_W_hasBefore at h
  split at h
  · exact ⟨_, rfl⟩
  · exact h.elim
theorem G_W_hasBefore (l : Launch) : rg_Good l y_W_hasBefore c_W_hasBefore 2 (some .boolean) 3 T_W_hasBefore := by
  refine rg_good_of (P := P_W_hasBefore) (by decide) (rg_pok rg_F_W_ok (rg_cons (cw_W_75 (G_W_staysSafeBefore l) (by decide) r_W_staysSafeBefore) rg_nil)) ?_
  intro as w K Z hT hZ
  unfold T_W_hasBefore at hT
  split at hT
  rotate_left
  · exact hT.elim
  refine ⟨Nat.le_of_ble_eq_true rfl, ?_⟩
  show Z 0 [.ref 13, .null] [] w 0
  obtain ⟨hg, t, hG, hT, ht0, hK⟩ := hT
  obtain ⟨h1, h2, h3, h4⟩ := id hT
  have h72 := eN_le hG.2.2
  have h0 : t.getD 0 0 < eN hg := h3 _ (gD_mem ht0)
  have s0 := sr_lt h0
  have v0 : vp_in (nI 0) 40 := vp_in_nI (by omega) (by omega)
  have c0 : (nI 0).toNatClampNeg = 0 := nI_clamp (by omega)
  have e0 := h4 0 ht0
  have v1 : vp_in (nI (t.getD 0 0)) 72 := vp_in_nI (by omega) (by omega)
  have c1 : (nI (t.getD 0 0)).toNatClampNeg = t.getD 0 0 := nI_clamp (by omega)
  have e1 := (hG.at h0).1
  have hc : w.1 4 10 = nI (eN hg) := hG.1.1
  have loop : ∀ e, (e ≤ eN hg ∧ ∀ b, b < e → (decide (ds hg b = sr hg (t.getD 0 0)) && t.all (fun f => !pbE hg b f)) = false) → Z 2 [.ref 13, .int (nI e)] [] w 0 := by
    refine rg_lp1 _ _ (fun e => eN hg - e) ?_
    intro e ⟨he, hno⟩ ih
    rcases Nat.lt_or_ge e (eN hg) with he9 | he9
    · have ve : vp_in (nI e) 72 := vp_in_nI (by omega) (by omega)
      have ce : (nI e).toNatClampNeg = e := nI_clamp (by omega)
      have ee := (hG.at he9).2.1
      have se := sr_lt he9
      have next : (decide (ds hg e = sr hg (t.getD 0 0)) && t.all (fun f => !pbE hg e f)) = false → Z 2 [.ref 13, .int (nI (e + 1))] [] w 0 := fun h =>
        ih (e + 1) ⟨by omega, fun b hb => by
          by_cases hbi : b = e
          · subst hbi; exact h
          · exact hno b (by omega)⟩ (by omega)
      refine hZ (rg_cut [2]) 400 2 _ _ _ ?_; simp only [rg_e_iload_1 (cut := rg_cut [2]) (f := true) d_W_hasBefore_2 rfl 3 rfl, rg_e_aload_0 (cut := rg_cut [2]) (f := false) d_W_hasBefore_3 rfl 4 rfl, rg_e_getr (P := P_W_hasBefore) (cut := rg_cut [2]) (f := false) d_W_hasBefore_4 rfl 7 rfl 13 3 0 4 rfl (fun _ => rfl), rg_e_geti (P := P_W_hasBefore) (cut := rg_cut [2]) (f := false) d_W_hasBefore_7 rfl 10 rfl 4 2 10 rfl (fun _ => rfl), rg_e_icmp_ge (cut := rg_cut [2]) (f := false) d_W_hasBefore_10 rfl 13 rfl 55 rfl, rg_e_aload_0 (cut := rg_cut [2]) (f := false) d_W_hasBefore_13 rfl 14 rfl, rg_e_getr (P := P_W_hasBefore) (cut := rg_cut [2]) (f := false) d_W_hasBefore_14 rfl 17 rfl 13 3 0 4 rfl (fun _ => rfl), rg_e_getr (P := P_W_hasBefore) (cut := rg_cut [2]) (f := false) d_W_hasBefore_17 rfl 20 rfl 4 2 2 7 rfl (fun _ => rfl), rg_e_iload_1 (cut := rg_cut [2]) (f := false) d_W_hasBefore_20 rfl 21 rfl, rg_e_iald (cut := rg_cut [2]) (f := false) d_W_hasBefore_21 rfl 22 rfl 7 72 rfl, rg_e_aload_0 (cut := rg_cut [2]) (f := false) d_W_hasBefore_22 rfl 23 rfl, rg_e_getr (P := P_W_hasBefore) (cut := rg_cut [2]) (f := false) d_W_hasBefore_23 rfl 26 rfl 13 3 0 4 rfl (fun _ => rfl), rg_e_getr (P := P_W_hasBefore) (cut := rg_cut [2]) (f := false) d_W_hasBefore_26 rfl 29 rfl 4 2 1 6 rfl (fun _ => rfl), rg_e_aload_0 (cut := rg_cut [2]) (f := false) d_W_hasBefore_29 rfl 30 rfl, rg_e_getr (P := P_W_hasBefore) (cut := rg_cut [2]) (f := false) d_W_hasBefore_30 rfl 33 rfl 13 3 4 16 rfl (fun _ => rfl), rg_e_iconst (cut := rg_cut [2]) (f := false) d_W_hasBefore_33 rfl 34 rfl (nI 0) rg_ki_0, rg_e_iald (cut := rg_cut [2]) (f := false) d_W_hasBefore_34 rfl 35 rfl 16 40 rfl, rg_e_iald (cut := rg_cut [2]) (f := false) d_W_hasBefore_35 rfl 36 rfl 6 72 rfl, rg_e_icmp_ne (cut := rg_cut [2]) (f := false) d_W_hasBefore_36 rfl 39 rfl 49 rfl, rg_e_aload_0 (cut := rg_cut [2]) (f := false) d_W_hasBefore_39 rfl 40 rfl, rg_e_iload_1 (cut := rg_cut [2]) (f := false) d_W_hasBefore_40 rfl 41 rfl, rg_e_cv2 (P := P_W_hasBefore) (cut := rg_cut [2]) (f := false) d_W_hasBefore_41 rfl T_W_staysSafeBefore rfl, rg_e_if_eq (cut := rg_cut [2]) (f := false) d_W_hasBefore_44 rfl 47 rfl 49 rfl, rg_e_iconst (cut := rg_cut [2]) (f := false) d_W_hasBefore_47 rfl 48 rfl (nI 1) rg_ki_1, rg_e_iret (cut := rg_cut [2]) (f := false) d_W_hasBefore_48 rfl, rg_e_iinc_1 (cut := rg_cut [2]) (f := false) d_W_hasBefore_49 rfl 52 rfl (nI 1) rg_ki_1, rg_e_goto (cut := rg_cut [2]) (f := false) d_W_hasBefore_52 rfl 2 rfl, rg_e_iconst (cut := rg_cut [2]) (f := false) d_W_hasBefore_55 rfl 56 rfl (nI 0) rg_ki_0, rg_e_iret (cut := rg_cut [2]) (f := false) d_W_hasBefore_56 rfl, rg_e_cut (cut := rg_cut [2]) 2 rfl, rg_nx_i, rg_nx_v, rg_wd_n, rg_wd_i, rg_wd_l, rg_wd_r, rg_clr_i, rg_clr_l, rg_clr_r, rg_clr_a, rg_clr_n, true_and, and_true, Nat.reduceAdd, Nat.reduceLeDiff, ↓Te_W_staysSafeBefore, rg_rt_e, rg_fit_ie, rg_fit_ve, rg_fit_1e, rg_fit_0e, rg_fit_be, ve, ce, ee, v0, c0, e0, v1, c1, e1, hc, zI_eq, nI_add]
      rw [nI_eqp (by omega) (by omega)]
      refine ⟨fun h => absurd h (nI_ge he9 (by omega)), fun _ => ⟨fun h => next (by rw [decide_eq_false h, Bool.false_and]), fun h => ⟨hg, e, t, hG, hT, rfl, he9, fun h1 => next (by rw [h1, Bool.and_false]), fun h1 => ?_⟩⟩⟩
      have h1 : t.all (fun f => !pbE hg e f) = true := by simpa using h1
      have : preB hg t = true := List.any_eq_true.mpr ⟨e, List.mem_range.mpr he9, by rw [h1, decide_eq_true (Classical.not_not.mp h)]; rfl⟩
      rw [this] at hK
      exact hK
    · obtain rfl : e = eN hg := by omega
      refine hZ (rg_cut [2]) 400 2 _ _ _ ?_; simp only [rg_e_iload_1 (cut := rg_cut [2]) (f := true) d_W_hasBefore_2 rfl 3 rfl, rg_e_aload_0 (cut := rg_cut [2]) (f := false) d_W_hasBefore_3 rfl 4 rfl, rg_e_getr (P := P_W_hasBefore) (cut := rg_cut [2]) (f := false) d_W_hasBefore_4 rfl 7 rfl 13 3 0 4 rfl (fun _ => rfl), rg_e_geti (P := P_W_hasBefore) (cut := rg_cut [2]) (f := false) d_W_hasBefore_7 rfl 10 rfl 4 2 10 rfl (fun _ => rfl), rg_e_icmp_ge (cut := rg_cut [2]) (f := false) d_W_hasBefore_10 rfl 13 rfl 55 rfl, rg_e_aload_0 (cut := rg_cut [2]) (f := false) d_W_hasBefore_13 rfl 14 rfl, rg_e_getr (P := P_W_hasBefore) (cut := rg_cut [2]) (f := false) d_W_hasBefore_14 rfl 17 rfl 13 3 0 4 rfl (fun _ => rfl), rg_e_getr (P := P_W_hasBefore) (cut := rg_cut [2]) (f := false) d_W_hasBefore_17 rfl 20 rfl 4 2 2 7 rfl (fun _ => rfl), rg_e_iload_1 (cut := rg_cut [2]) (f := false) d_W_hasBefore_20 rfl 21 rfl, rg_e_iald (cut := rg_cut [2]) (f := false) d_W_hasBefore_21 rfl 22 rfl 7 72 rfl, rg_e_aload_0 (cut := rg_cut [2]) (f := false) d_W_hasBefore_22 rfl 23 rfl, rg_e_getr (P := P_W_hasBefore) (cut := rg_cut [2]) (f := false) d_W_hasBefore_23 rfl 26 rfl 13 3 0 4 rfl (fun _ => rfl), rg_e_getr (P := P_W_hasBefore) (cut := rg_cut [2]) (f := false) d_W_hasBefore_26 rfl 29 rfl 4 2 1 6 rfl (fun _ => rfl), rg_e_aload_0 (cut := rg_cut [2]) (f := false) d_W_hasBefore_29 rfl 30 rfl, rg_e_getr (P := P_W_hasBefore) (cut := rg_cut [2]) (f := false) d_W_hasBefore_30 rfl 33 rfl 13 3 4 16 rfl (fun _ => rfl), rg_e_iconst (cut := rg_cut [2]) (f := false) d_W_hasBefore_33 rfl 34 rfl (nI 0) rg_ki_0, rg_e_iald (cut := rg_cut [2]) (f := false) d_W_hasBefore_34 rfl 35 rfl 16 40 rfl, rg_e_iald (cut := rg_cut [2]) (f := false) d_W_hasBefore_35 rfl 36 rfl 6 72 rfl, rg_e_icmp_ne (cut := rg_cut [2]) (f := false) d_W_hasBefore_36 rfl 39 rfl 49 rfl, rg_e_aload_0 (cut := rg_cut [2]) (f := false) d_W_hasBefore_39 rfl 40 rfl, rg_e_iload_1 (cut := rg_cut [2]) (f := false) d_W_hasBefore_40 rfl 41 rfl, rg_e_cv2 (P := P_W_hasBefore) (cut := rg_cut [2]) (f := false) d_W_hasBefore_41 rfl T_W_staysSafeBefore rfl, rg_e_if_eq (cut := rg_cut [2]) (f := false) d_W_hasBefore_44 rfl 47 rfl 49 rfl, rg_e_iconst (cut := rg_cut [2]) (f := false) d_W_hasBefore_47 rfl 48 rfl (nI 1) rg_ki_1, rg_e_iret (cut := rg_cut [2]) (f := false) d_W_hasBefore_48 rfl, rg_e_iinc_1 (cut := rg_cut [2]) (f := false) d_W_hasBefore_49 rfl 52 rfl (nI 1) rg_ki_1, rg_e_goto (cut := rg_cut [2]) (f := false) d_W_hasBefore_52 rfl 2 rfl, rg_e_iconst (cut := rg_cut [2]) (f := false) d_W_hasBefore_55 rfl 56 rfl (nI 0) rg_ki_0, rg_e_iret (cut := rg_cut [2]) (f := false) d_W_hasBefore_56 rfl, rg_e_cut (cut := rg_cut [2]) 2 rfl, rg_nx_i, rg_nx_v, rg_wd_n, rg_wd_i, rg_wd_l, rg_wd_r, rg_clr_i, rg_clr_l, rg_clr_r, rg_clr_a, rg_clr_n, true_and, and_true, Nat.reduceAdd, Nat.reduceLeDiff, ↓Te_W_staysSafeBefore, rg_rt_e, rg_fit_ie, rg_fit_ve, rg_fit_1e, rg_fit_0e, rg_fit_be, hc]
      refine ⟨fun _ => ?_, fun h => absurd (nI_le (Nat.le_refl _) (by omega)) h⟩
      have : preB hg t = false := List.any_eq_false.mpr (fun b hb => by rw [hno b (List.mem_range.mp hb)]; decide)
      rw [this] at hK
      exact hK
  refine hZ (rg_cut [2]) 400 0 _ _ _ ?_; simp only [rg_e_iconst (cut := rg_cut [2]) (f := true) d_W_hasBefore_0 rfl 1 rfl (nI 0) rg_ki_0, rg_e_istore_1 (cut := rg_cut [2]) (f := false) d_W_hasBefore_1 rfl 2 rfl, rg_e_cut (cut := rg_cut [2]) 2 rfl, rg_nx_i, rg_nx_v, rg_wd_n, rg_wd_i, rg_wd_l, rg_wd_r, rg_clr_i, rg_clr_l, rg_clr_r, rg_clr_a, rg_clr_n, true_and, and_true, Nat.reduceAdd, Nat.reduceLeDiff, ↓Te_W_staysSafeBefore, rg_rt_e, rg_fit_ie, rg_fit_ve, rg_fit_1e, rg_fit_0e, rg_fit_be]
  exact loop 0 ⟨by omega, fun b hb => absurd hb (by omega)⟩
/-- the walks that are kept -/
def Ac (A : List (List Nat)) (w : rg_W) : Prop := w.1 13 3 = nI A.length ∧ A.length ≤ 50 ∧ ∀ k, k < A.length → (A.getD k []).length ≤ 40 ∧ w.1 15 k = nI (A.getD k []).length ∧ ∀ i, i < (A.getD k []).length → w.1 14 (40 * k + i) = nI ((A.getD k []).getD i 0)
theorem upd_id {f : Nat → Int32} {k : Nat} {x : Int32} (h : f k = x) : upd f k x = f := by
  funext j
  unfold upd
  by_cases e : j = k
  · rw [if_pos e, e, h]
  · rw [if_neg e]
-- W.keepTrail
def P_W_keepTrail : rg_P := (rg_F_W, [], [], [], [], [], 0)
def T_W_keepTrail : rg_T := fun as w K => match as with
  | [.ref 13] => ∃ hg t A, Tr hg t w ∧ Ac A w ∧ (A.length = 50 → K (some (.int (nI 0))) w) ∧ (A.length < 50 → ∀ w', rg_fr [13, 14, 15] w w' → (∀ q, q ≠ 3 → w'.1 13 q = w.1 13 q) → Ac (A ++ [t]) w' → K (some (.int (nI 1))) w')
  | _ => False
theorem Te_W_keepTrail  (w : rg_W) (K : Option Value → rg_W → Prop) : T_W_keepTrail [.ref 13] w K = (∃ hg t A, Tr hg t w ∧ Ac A w ∧ (A.length = 50 → K (some (.int (nI 0))) w) ∧ (A.length < 50 → ∀ w', rg_fr [13, 14, 15] w w' → (∀ q, q ≠ 3 → w'.1 13 q = w.1 13 q) → Ac (A ++ [t]) w' → K (some (.int (nI 1))) w')) := rfl
theorem r_W_keepTrail : ∀ as w K, T_W_keepTrail as w K → ∃ r, as = .ref 13 :: r := by
  intro as w K h
  unfold T_W_keepTrail at h
  split at h
  · exact ⟨_, rfl⟩
  · exact h.elim
theorem G_W_keepTrail (l : Launch) : rg_Good l y_W_keepTrail c_W_keepTrail 2 (some .boolean) 0 T_W_keepTrail := by
  refine rg_good_of (P := P_W_keepTrail) (by decide) (rg_pok rg_F_W_ok rg_nil) ?_
  intro as w K Z hT hZ
  unfold T_W_keepTrail at hT
  split at hT
  rotate_left
  · exact hT.elim
  refine ⟨Nat.le_of_ble_eq_true rfl, ?_⟩
  show Z 0 [.ref 13, .null] [] w 0
  obtain ⟨hg, t, A, hT, hA, hK0, hK1⟩ := hT
  obtain ⟨h1, h2, h3, h4⟩ := id hT
  obtain ⟨a1, a2, a3⟩ := id hA
  have loop : ∀ (i : Nat) (w1 : rg_W), (i ≤ t.length ∧ A.length < 50 ∧ rg_fr [13, 14, 15] w w1 ∧ w1.1 13 = w.1 13 ∧ w1.1 15 = w.1 15 ∧ (∀ q, q < 40 * A.length → w1.1 14 q = w.1 14 q) ∧ ∀ b, b < i → w1.1 14 (40 * A.length + b) = nI (t.getD b 0)) → Z 13 [.ref 13, .int (nI i)] [] w1 0 := by
    refine rg_lp2 _ _ (fun i _ => t.length - i) ?_
    intro i w1 ⟨hi, hl, hf, g13, g15, g14, gi⟩ ih
    have hc : w1.1 13 3 = nI A.length := by rw [g13]; exact a1
    have hln : w1.1 13 6 = nI t.length := by rw [g13]; exact h1
    rcases Nat.lt_or_ge i t.length with hi9 | hi9
    · have vi : vp_in (nI i) 40 := vp_in_nI (by omega) (by omega)
      have ci : (nI i).toNatClampNeg = i := nI_clamp (by omega)
      have x1 : nI A.length * nI 40 + nI i = nI (40 * A.length + i) := by rw [pk_mul, nI_add, Nat.mul_comm]
      have v1 : vp_in (nI (40 * A.length + i)) 2000 := vp_in_nI (by omega) (by omega)
      have c1 : (nI (40 * A.length + i)).toNatClampNeg = 40 * A.length + i := nI_clamp (by omega)
      have et : w1.1 16 i = nI (t.getD i 0) := by rw [hf.1 16 (by decide)]; exact h4 i hi9
      refine hZ (rg_cut [13]) 400 13 _ _ _ ?_; simp only [rg_e_iload_1 (cut := rg_cut [13]) (f := true) d_W_keepTrail_13 rfl 14 rfl, rg_e_aload_0 (cut := rg_cut [13]) (f := false) d_W_keepTrail_14 rfl 15 rfl, rg_e_geti (P := P_W_keepTrail) (cut := rg_cut [13]) (f := false) d_W_keepTrail_15 rfl 18 rfl 13 3 6 rfl (fun _ => rfl), rg_e_icmp_ge (cut := rg_cut [13]) (f := false) d_W_keepTrail_18 rfl 21 rfl 47 rfl, rg_e_aload_0 (cut := rg_cut [13]) (f := false) d_W_keepTrail_21 rfl 22 rfl, rg_e_getr (P := P_W_keepTrail) (cut := rg_cut [13]) (f := false) d_W_keepTrail_22 rfl 25 rfl 13 3 1 14 rfl (fun _ => rfl), rg_e_aload_0 (cut := rg_cut [13]) (f := false) d_W_keepTrail_25 rfl 26 rfl, rg_e_geti (P := P_W_keepTrail) (cut := rg_cut [13]) (f := false) d_W_keepTrail_26 rfl 29 rfl 13 3 3 rfl (fun _ => rfl), rg_e_bipush (cut := rg_cut [13]) (f := false) d_W_keepTrail_29 rfl 31 rfl (nI 40) rg_kb_40, rg_e_imul (cut := rg_cut [13]) (f := false) d_W_keepTrail_31 rfl 32 rfl, rg_e_iload_1 (cut := rg_cut [13]) (f := false) d_W_keepTrail_32 rfl 33 rfl, rg_e_iadd (cut := rg_cut [13]) (f := false) d_W_keepTrail_33 rfl 34 rfl, rg_e_aload_0 (cut := rg_cut [13]) (f := false) d_W_keepTrail_34 rfl 35 rfl, rg_e_getr (P := P_W_keepTrail) (cut := rg_cut [13]) (f := false) d_W_keepTrail_35 rfl 38 rfl 13 3 4 16 rfl (fun _ => rfl), rg_e_iload_1 (cut := rg_cut [13]) (f := false) d_W_keepTrail_38 rfl 39 rfl, rg_e_iald (cut := rg_cut [13]) (f := false) d_W_keepTrail_39 rfl 40 rfl 16 40 rfl, rg_e_iast (cut := rg_cut [13]) (f := false) d_W_keepTrail_40 rfl 41 rfl 14 2000 rfl, rg_e_iinc_1 (cut := rg_cut [13]) (f := false) d_W_keepTrail_41 rfl 44 rfl (nI 1) rg_ki_1, rg_e_goto (cut := rg_cut [13]) (f := false) d_W_keepTrail_44 rfl 13 rfl, rg_e_aload_0 (cut := rg_cut [13]) (f := false) d_W_keepTrail_47 rfl 48 rfl, rg_e_getr (P := P_W_keepTrail) (cut := rg_cut [13]) (f := false) d_W_keepTrail_48 rfl 51 rfl 13 3 2 15 rfl (fun _ => rfl), rg_e_aload_0 (cut := rg_cut [13]) (f := false) d_W_keepTrail_51 rfl 52 rfl, rg_e_geti (P := P_W_keepTrail) (cut := rg_cut [13]) (f := false) d_W_keepTrail_52 rfl 55 rfl 13 3 3 rfl (fun _ => rfl), rg_e_aload_0 (cut := rg_cut [13]) (f := false) d_W_keepTrail_55 rfl 56 rfl, rg_e_geti (P := P_W_keepTrail) (cut := rg_cut [13]) (f := false) d_W_keepTrail_56 rfl 59 rfl 13 3 6 rfl (fun _ => rfl), rg_e_iast (cut := rg_cut [13]) (f := false) d_W_keepTrail_59 rfl 60 rfl 15 50 rfl, rg_e_aload_0 (cut := rg_cut [13]) (f := false) d_W_keepTrail_60 rfl 61 rfl, rg_e_dupr (cut := rg_cut [13]) (f := false) d_W_keepTrail_61 rfl 62 rfl, rg_e_geti (P := P_W_keepTrail) (cut := rg_cut [13]) (f := false) d_W_keepTrail_62 rfl 65 rfl 13 3 3 rfl (fun _ => rfl), rg_e_iconst (cut := rg_cut [13]) (f := false) d_W_keepTrail_65 rfl 66 rfl (nI 1) rg_ki_1, rg_e_iadd (cut := rg_cut [13]) (f := false) d_W_keepTrail_66 rfl 67 rfl, rg_e_put (P := P_W_keepTrail) (cut := rg_cut [13]) (f := false) d_W_keepTrail_67 rfl 70 rfl 13 3 3 rfl rfl, rg_e_iconst (cut := rg_cut [13]) (f := false) d_W_keepTrail_70 rfl 71 rfl (nI 1) rg_ki_1, rg_e_iret (cut := rg_cut [13]) (f := false) d_W_keepTrail_71 rfl, rg_e_cut (cut := rg_cut [13]) 13 rfl, rg_nx_i, rg_nx_v, rg_wd_n, rg_wd_i, rg_wd_l, rg_wd_r, rg_clr_i, rg_clr_l, rg_clr_r, rg_clr_a, rg_clr_n, true_and, and_true, Nat.reduceAdd, Nat.reduceLeDiff, rg_rt_e, rg_fit_ie, rg_fit_ve, rg_fit_1e, rg_fit_0e, rg_fit_be, vi, ci, x1, v1, c1, et, hc, hln, nI_add]
      refine ⟨fun h => absurd h (nI_ge hi9 (by omega)), fun _ => ih (i + 1) _ ⟨by omega, hl, rg_fr_up hf (by decide) _ _, by rw [rg_up_n (by decide)]; exact g13, by rw [rg_up_n (by decide)]; exact g15, fun q hq => ?_, fun b hb => ?_⟩ (by omega)⟩
      · rw [rg_up_s, upd_n (by omega)]
        exact g14 q hq
      · rw [rg_up_s]
        by_cases hbi : b = i
        · subst hbi; rw [upd_s]
        · rw [upd_n (by omega)]
          exact gi b (by omega)
    · obtain rfl : i = t.length := by omega
      have vA : vp_in (nI A.length) 50 := vp_in_nI hl (by omega)
      have cA : (nI A.length).toNatClampNeg = A.length := nI_clamp (by omega)
      refine hZ (rg_cut [13]) 400 13 _ _ _ ?_; simp only [rg_e_iload_1 (cut := rg_cut [13]) (f := true) d_W_keepTrail_13 rfl 14 rfl, rg_e_aload_0 (cut := rg_cut [13]) (f := false) d_W_keepTrail_14 rfl 15 rfl, rg_e_geti (P := P_W_keepTrail) (cut := rg_cut [13]) (f := false) d_W_keepTrail_15 rfl 18 rfl 13 3 6 rfl (fun _ => rfl), rg_e_icmp_ge (cut := rg_cut [13]) (f := false) d_W_keepTrail_18 rfl 21 rfl 47 rfl, rg_e_aload_0 (cut := rg_cut [13]) (f := false) d_W_keepTrail_21 rfl 22 rfl, rg_e_getr (P := P_W_keepTrail) (cut := rg_cut [13]) (f := false) d_W_keepTrail_22 rfl 25 rfl 13 3 1 14 rfl (fun _ => rfl), rg_e_aload_0 (cut := rg_cut [13]) (f := false) d_W_keepTrail_25 rfl 26 rfl, rg_e_geti (P := P_W_keepTrail) (cut := rg_cut [13]) (f := false) d_W_keepTrail_26 rfl 29 rfl 13 3 3 rfl (fun _ => rfl), rg_e_bipush (cut := rg_cut [13]) (f := false) d_W_keepTrail_29 rfl 31 rfl (nI 40) rg_kb_40, rg_e_imul (cut := rg_cut [13]) (f := false) d_W_keepTrail_31 rfl 32 rfl, rg_e_iload_1 (cut := rg_cut [13]) (f := false) d_W_keepTrail_32 rfl 33 rfl, rg_e_iadd (cut := rg_cut [13]) (f := false) d_W_keepTrail_33 rfl 34 rfl, rg_e_aload_0 (cut := rg_cut [13]) (f := false) d_W_keepTrail_34 rfl 35 rfl, rg_e_getr (P := P_W_keepTrail) (cut := rg_cut [13]) (f := false) d_W_keepTrail_35 rfl 38 rfl 13 3 4 16 rfl (fun _ => rfl), rg_e_iload_1 (cut := rg_cut [13]) (f := false) d_W_keepTrail_38 rfl 39 rfl, rg_e_iald (cut := rg_cut [13]) (f := false) d_W_keepTrail_39 rfl 40 rfl 16 40 rfl, rg_e_iast (cut := rg_cut [13]) (f := false) d_W_keepTrail_40 rfl 41 rfl 14 2000 rfl, rg_e_iinc_1 (cut := rg_cut [13]) (f := false) d_W_keepTrail_41 rfl 44 rfl (nI 1) rg_ki_1, rg_e_goto (cut := rg_cut [13]) (f := false) d_W_keepTrail_44 rfl 13 rfl, rg_e_aload_0 (cut := rg_cut [13]) (f := false) d_W_keepTrail_47 rfl 48 rfl, rg_e_getr (P := P_W_keepTrail) (cut := rg_cut [13]) (f := false) d_W_keepTrail_48 rfl 51 rfl 13 3 2 15 rfl (fun _ => rfl), rg_e_aload_0 (cut := rg_cut [13]) (f := false) d_W_keepTrail_51 rfl 52 rfl, rg_e_geti (P := P_W_keepTrail) (cut := rg_cut [13]) (f := false) d_W_keepTrail_52 rfl 55 rfl 13 3 3 rfl (fun _ => rfl), rg_e_aload_0 (cut := rg_cut [13]) (f := false) d_W_keepTrail_55 rfl 56 rfl, rg_e_geti (P := P_W_keepTrail) (cut := rg_cut [13]) (f := false) d_W_keepTrail_56 rfl 59 rfl 13 3 6 rfl (fun _ => rfl), rg_e_iast (cut := rg_cut [13]) (f := false) d_W_keepTrail_59 rfl 60 rfl 15 50 rfl, rg_e_aload_0 (cut := rg_cut [13]) (f := false) d_W_keepTrail_60 rfl 61 rfl, rg_e_dupr (cut := rg_cut [13]) (f := false) d_W_keepTrail_61 rfl 62 rfl, rg_e_geti (P := P_W_keepTrail) (cut := rg_cut [13]) (f := false) d_W_keepTrail_62 rfl 65 rfl 13 3 3 rfl (fun _ => rfl), rg_e_iconst (cut := rg_cut [13]) (f := false) d_W_keepTrail_65 rfl 66 rfl (nI 1) rg_ki_1, rg_e_iadd (cut := rg_cut [13]) (f := false) d_W_keepTrail_66 rfl 67 rfl, rg_e_put (P := P_W_keepTrail) (cut := rg_cut [13]) (f := false) d_W_keepTrail_67 rfl 70 rfl 13 3 3 rfl rfl, rg_e_iconst (cut := rg_cut [13]) (f := false) d_W_keepTrail_70 rfl 71 rfl (nI 1) rg_ki_1, rg_e_iret (cut := rg_cut [13]) (f := false) d_W_keepTrail_71 rfl, rg_e_cut (cut := rg_cut [13]) 13 rfl, rg_nx_i, rg_nx_v, rg_wd_n, rg_wd_i, rg_wd_l, rg_wd_r, rg_clr_i, rg_clr_l, rg_clr_r, rg_clr_a, rg_clr_n, true_and, and_true, Nat.reduceAdd, Nat.reduceLeDiff, rg_rt_e, rg_fit_ie, rg_fit_ve, rg_fit_1e, rg_fit_0e, rg_fit_be, vA, cA, hc, hln, nI_add, rg_up_n, ne_eq, not_false_eq_true, Nat.reduceEqDiff]
      refine ⟨fun _ => hK1 hl _ (rg_fr_up (rg_fr_up hf (by decide) _ _) (by decide) _ _) (fun q hq => ?_) ⟨?_, ?_, fun k hk => ?_⟩, fun h => absurd (nI_le (Nat.le_refl _) (by omega)) h⟩
      · rw [rg_up_s, upd_n hq, rg_up_n (by decide), g13]
      · rw [rg_up_ss, List.length_append, List.length_singleton]
      · rw [List.length_append, List.length_singleton]; omega
      · rw [List.length_append, List.length_singleton] at hk
        simp only [rg_up_s, rg_up_n, ne_eq, not_false_eq_true, Nat.reduceEqDiff]
        by_cases hke : k = A.length
        · subst hke
          rw [getD_e, upd_s]
          exact ⟨h2, rfl, gi⟩
        · rw [getD_l (by omega), upd_n hke, g15]
          obtain ⟨q1, q2, q3⟩ := a3 k (by omega)
          exact ⟨q1, q2, fun i hi => by rw [g14 _ (by omega)]; exact q3 i hi⟩
  refine hZ (rg_cut [13]) 400 0 _ _ _ ?_; simp only [rg_e_aload_0 (cut := rg_cut [13]) (f := true) d_W_keepTrail_0 rfl 1 rfl, rg_e_geti (P := P_W_keepTrail) (cut := rg_cut [13]) (f := false) d_W_keepTrail_1 rfl 4 rfl 13 3 3 rfl (fun _ => rfl), rg_e_bipush (cut := rg_cut [13]) (f := false) d_W_keepTrail_4 rfl 6 rfl (nI 50) rg_kb_50, rg_e_icmp_ne (cut := rg_cut [13]) (f := false) d_W_keepTrail_6 rfl 9 rfl 11 rfl, rg_e_iconst (cut := rg_cut [13]) (f := false) d_W_keepTrail_9 rfl 10 rfl (nI 0) rg_ki_0, rg_e_iret (cut := rg_cut [13]) (f := false) d_W_keepTrail_10 rfl, rg_e_iconst (cut := rg_cut [13]) (f := false) d_W_keepTrail_11 rfl 12 rfl (nI 0) rg_ki_0, rg_e_istore_1 (cut := rg_cut [13]) (f := false) d_W_keepTrail_12 rfl 13 rfl, rg_e_cut (cut := rg_cut [13]) 13 rfl, rg_nx_i, rg_nx_v, rg_wd_n, rg_wd_i, rg_wd_l, rg_wd_r, rg_clr_i, rg_clr_l, rg_clr_r, rg_clr_a, rg_clr_n, true_and, and_true, Nat.reduceAdd, Nat.reduceLeDiff, rg_rt_e, rg_fit_ie, rg_fit_ve, rg_fit_1e, rg_fit_0e, rg_fit_be, a1]
  rw [nI_eqp (by omega) (by omega)]
  refine ⟨fun h => loop 0 w ⟨by omega, by omega, rg_fr_rf _ _, rfl, rfl, fun _ _ => rfl, fun b hb => absurd hb (by omega)⟩, fun h => hK0 (Classical.not_not.mp h)⟩
