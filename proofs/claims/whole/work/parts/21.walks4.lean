/-! Walks: find -/
/-- the search from edge e on, k edges, with M steps left, A found -/
noncomputable def tpF (hg : Nat → Nat → Nat) : Nat → Nat → Nat → List (List Nat) → Option (List (List Nat))
  | 0, _, _, A => some A
  | k + 1, e, M, A => match vis hg 40 [e] with
    | none => none
    | some R => if A.length + R.length ≤ 50 ∧ szV hg 40 [e] ≤ M then tpF hg k (e + 1) (M - szV hg 40 [e] + 1) (A ++ R) else none
theorem tpF_t {hg : Nat → Nat → Nat} {k e M : Nat} {A R : List (List Nat)} (h1 : vis hg 40 [e] = some R) (h2 : A.length + R.length ≤ 50) (h3 : szV hg 40 [e] ≤ M) : tpF hg (k + 1) e M A = tpF hg k (e + 1) (M - szV hg 40 [e] + 1) (A ++ R) := by
  rw [tpF, h1]
  exact if_pos ⟨h2, h3⟩
theorem tpF_f {hg : Nat → Nat → Nat} {k e M : Nat} {A : List (List Nat)} (h : ¬ ∃ R, vis hg 40 [e] = some R ∧ A.length + R.length ≤ 50 ∧ szV hg 40 [e] ≤ M) : tpF hg (k + 1) e M A = none := by
  rw [tpF]
  cases hv : vis hg 40 [e] with
  | none => rfl
  | some R => exact if_neg (fun z => h ⟨R, hv, z.1, z.2⟩)
theorem cL_pos (C : List Nat → Nat) (t : List Nat) : ∀ cs, 1 ≤ cL C t cs
  | [] => Nat.le_refl _
  | e :: cs => by
    have := cL_pos C t cs
    rw [cL]
    omega
-- W.find
def P_W_find : rg_P := (rg_F_W, [(79, 2, 0, T_W_stepOn), (87, 2, 0, T_W_findFrom)], [(32, (nI 100000))], [], [], [], 0)
def T_W_find : rg_T := fun as w K => match as with
  | [.ref 13] => ∃ hg, GrE hg w ∧ FoW hg w ∧ (∀ A w', tpF hg (eN hg) 0 100000 [] = some A → rg_fr [13, 14, 15, 16, 17] w w' → Ac A w' → K (some (.int (nI 1))) w') ∧ (tpF hg (eN hg) 0 100000 [] = none → ∀ w', rg_fr [13, 14, 15, 16, 17] w w' → K (some (.int (nI 0))) w')
  | _ => False
theorem Te_W_find  (w : rg_W) (K : Option Value → rg_W → Prop) : T_W_find [.ref 13] w K = (∃ hg, GrE hg w ∧ FoW hg w ∧ (∀ A w', tpF hg (eN hg) 0 100000 [] = some A → rg_fr [13, 14, 15, 16, 17] w w' → Ac A w' → K (some (.int (nI 1))) w') ∧ (tpF hg (eN hg) 0 100000 [] = none → ∀ w', rg_fr [13, 14, 15, 16, 17] w w' → K (some (.int (nI 0))) w')) := rfl
theorem r_W_find : ∀ as w K, T_W_find as w K → ∃ r, as = .ref 13 :: r := by
  intro as w K h
  unfold T_W_find at h
  split at h
  · exact ⟨_, rfl⟩
  · exact h.elim
theorem G_W_find (l : Launch) : rg_Good l y_W_find c_W_find 3 (some .boolean) 5 T_W_find := by
  refine rg_good_of (P := P_W_find) (by decide) (⟨rg_F_W_ok, (rg_cons (cw_W_39 (G_W_stepOn l) (by decide) r_W_stepOn) (rg_cons (cw_W_43 (G_W_findFrom l) (by decide) r_W_findFrom) rg_nil)), by simp only [P_W_find, List.mem_cons, List.not_mem_nil, or_false, forall_eq_or_imp, forall_eq]; exact rg_in rfl (by decide +kernel), fun _ h => absurd h List.not_mem_nil, rfl⟩) ?_
  intro as w K Z hT hZ
  unfold T_W_find at hT
  split at hT
  rotate_left
  · exact hT.elim
  refine ⟨Nat.le_of_ble_eq_true rfl, ?_⟩
  show Z 0 [.ref 13, .null, .null] [] w 0
  obtain ⟨hg, hG, hF, hK1, hK0⟩ := hT
  have h72 := eN_le hG.2.2
  have loop : ∀ (e M : Nat) (A : List (List Nat)) (w1 : rg_W), (e ≤ eN hg ∧ M ≤ 100000 ∧ rg_fr [13, 14, 15, 16, 17] w w1 ∧ Ac A w1 ∧ tpF hg (eN hg) 0 100000 [] = tpF hg (eN hg - e) e M A) → Z 10 [.ref 13, .int (nI M), .int (nI e)] [] w1 0 := by
    refine rg_lp4 _ _ (fun e _ _ _ => eN hg - e) ?_
    intro e M A w1 ⟨he, hM, hf, hA, htp⟩ ih
    have hG1 := hG.fr hf
    have hc : w1.1 4 10 = nI (eN hg) := hG1.1.1
    rcases Nat.lt_or_ge e (eN hg) with he9 | he9
    · have hN : eN hg - e = (eN hg - (e + 1)) + 1 := by omega
      refine hZ (rg_cut [10]) 400 10 _ _ _ ?_; simp only [rg_e_iload_2 (cut := rg_cut [10]) (f := true) d_W_find_10 rfl 11 rfl, rg_e_aload_0 (cut := rg_cut [10]) (f := false) d_W_find_11 rfl 12 rfl, rg_e_getr (P := P_W_find) (cut := rg_cut [10]) (f := false) d_W_find_12 rfl 15 rfl 13 3 0 4 rfl (fun _ => rfl), rg_e_geti (P := P_W_find) (cut := rg_cut [10]) (f := false) d_W_find_15 rfl 18 rfl 4 2 10 rfl (fun _ => rfl), rg_e_icmp_ge (cut := rg_cut [10]) (f := false) d_W_find_18 rfl 21 rfl 49 rfl, rg_e_aload_0 (cut := rg_cut [10]) (f := false) d_W_find_21 rfl 22 rfl, rg_e_iconst (cut := rg_cut [10]) (f := false) d_W_find_22 rfl 23 rfl (nI 0) rg_ki_0, rg_e_put (P := P_W_find) (cut := rg_cut [10]) (f := false) d_W_find_23 rfl 26 rfl 13 3 6 rfl rfl, rg_e_aload_0 (cut := rg_cut [10]) (f := false) d_W_find_26 rfl 27 rfl, rg_e_iload_2 (cut := rg_cut [10]) (f := false) d_W_find_27 rfl 28 rfl, rg_e_cv2 (P := P_W_find) (cut := rg_cut [10]) (f := false) d_W_find_28 rfl T_W_stepOn rfl, rg_e_aload_0 (cut := rg_cut [10]) (f := false) d_W_find_31 rfl 32 rfl, rg_e_iload_1 (cut := rg_cut [10]) (f := false) d_W_find_32 rfl 33 rfl, rg_e_cv2 (P := P_W_find) (cut := rg_cut [10]) (f := false) d_W_find_33 rfl T_W_findFrom rfl, rg_e_istore_1 (cut := rg_cut [10]) (f := false) d_W_find_36 rfl 37 rfl, rg_e_iload_1 (cut := rg_cut [10]) (f := false) d_W_find_37 rfl 38 rfl, rg_e_if_ge (cut := rg_cut [10]) (f := false) d_W_find_38 rfl 41 rfl 43 rfl, rg_e_iconst (cut := rg_cut [10]) (f := false) d_W_find_41 rfl 42 rfl (nI 0) rg_ki_0, rg_e_iret (cut := rg_cut [10]) (f := false) d_W_find_42 rfl, rg_e_iinc_2 (cut := rg_cut [10]) (f := false) d_W_find_43 rfl 46 rfl (nI 1) rg_ki_1, rg_e_goto (cut := rg_cut [10]) (f := false) d_W_find_46 rfl 10 rfl, rg_e_iconst (cut := rg_cut [10]) (f := false) d_W_find_49 rfl 50 rfl (nI 1) rg_ki_1, rg_e_iret (cut := rg_cut [10]) (f := false) d_W_find_50 rfl, rg_e_cut (cut := rg_cut [10]) 10 rfl, rg_nx_i, rg_nx_v, rg_wd_n, rg_wd_i, rg_wd_l, rg_wd_r, rg_clr_i, rg_clr_l, rg_clr_r, rg_clr_a, rg_clr_n, true_and, and_true, Nat.reduceAdd, Nat.reduceLeDiff, ↓Te_W_stepOn, ↓Te_W_findFrom, rg_rt_e, rg_fit_ie, rg_fit_ve, rg_fit_1e, rg_fit_0e, rg_fit_be, hc, nI_add]
      refine ⟨fun h => absurd h (nI_ge he9 (by omega)), fun _ => ?_⟩
      have fu : rg_fr [13, 14, 15, 16, 17] w (rg_up w1 13 6 (nI 0)) := rg_fr_up hf (by decide) _ _
      refine ⟨hg, e, 0, hG.fr fu, hF.fr fu, rfl, he9, rg_up_ss _ _ _ _, by omega, ?_⟩
      have fu2 : rg_fr [13, 14, 15, 16, 17] w (rg_up (rg_up (rg_up (rg_up w1 13 6 (nI 0)) 16 0 (nI e)) 17 0 (nI (esT hg (9 * ds hg e)).length)) 13 6 (nI (0 + 1))) := rg_fr_up (rg_fr_up (rg_fr_up fu (by decide) _ _) (by decide) _ _) (by decide) _ _
      have hde := (sr_lt he9).2
      have hfo : (esT hg (9 * ds hg e)).length ≤ eN hg := esT_mono hg (by omega)
      refine ⟨hg, e, A, M, hG.fr fu2, hF.fr fu2, rfl, hM, ⟨rg_fr_rf _ _, ⟨?_, by simp, fun f hf => ?_, fun i hi => ?_⟩, ⟨?_, hA.2.1, fun q hq => ?_⟩, fun i hi => ?_⟩, fun R w' hv hl hs hf2 hA2 => ?_, fun hno w' hf2 => ?_⟩
      · rw [rg_up_ss]; rfl
      · rw [List.mem_singleton.mp hf]; exact he9
      · have : i = 0 := by simpa using hi
        subst this
        simp only [rg_up_s, rg_up_n, ne_eq, not_false_eq_true, Nat.reduceEqDiff]
        rw [upd_s]
        rfl
      · simp only [rg_up_s, rg_up_n, ne_eq, not_false_eq_true, Nat.reduceEqDiff]
        rw [upd_n (by decide), upd_n (by decide)]
        exact hA.1
      · simp only [rg_up_s, rg_up_n, ne_eq, not_false_eq_true, Nat.reduceEqDiff]
        exact hA.2.2 q hq
      · have : i = 0 := by simpa using hi
        subst this
        simp only [rg_up_s, rg_up_n, ne_eq, not_false_eq_true, Nat.reduceEqDiff]
        rw [upd_s]
        exact ⟨rfl, by omega⟩
      · have h1 : 1 ≤ szV hg 40 [e] := cL_pos _ _ _
        refine ⟨fun _ => ih (e + 1) _ (A ++ R) w' ⟨by omega, by omega, rg_fr_tr fu2 hf2, hA2, ?_⟩ (by omega), fun h => absurd (nI_pos' (by omega)) h⟩
        rw [htp, hN, tpF_t hv hl hs]
      · refine ⟨fun h => absurd h (by decide +kernel), fun _ => hK0 ?_ w' (rg_fr_tr fu2 hf2)⟩
        rw [htp, hN, tpF_f hno]
    · obtain rfl : e = eN hg := by omega
      refine hZ (rg_cut [10]) 400 10 _ _ _ ?_; simp only [rg_e_iload_2 (cut := rg_cut [10]) (f := true) d_W_find_10 rfl 11 rfl, rg_e_aload_0 (cut := rg_cut [10]) (f := false) d_W_find_11 rfl 12 rfl, rg_e_getr (P := P_W_find) (cut := rg_cut [10]) (f := false) d_W_find_12 rfl 15 rfl 13 3 0 4 rfl (fun _ => rfl), rg_e_geti (P := P_W_find) (cut := rg_cut [10]) (f := false) d_W_find_15 rfl 18 rfl 4 2 10 rfl (fun _ => rfl), rg_e_icmp_ge (cut := rg_cut [10]) (f := false) d_W_find_18 rfl 21 rfl 49 rfl, rg_e_aload_0 (cut := rg_cut [10]) (f := false) d_W_find_21 rfl 22 rfl, rg_e_iconst (cut := rg_cut [10]) (f := false) d_W_find_22 rfl 23 rfl (nI 0) rg_ki_0, rg_e_put (P := P_W_find) (cut := rg_cut [10]) (f := false) d_W_find_23 rfl 26 rfl 13 3 6 rfl rfl, rg_e_aload_0 (cut := rg_cut [10]) (f := false) d_W_find_26 rfl 27 rfl, rg_e_iload_2 (cut := rg_cut [10]) (f := false) d_W_find_27 rfl 28 rfl, rg_e_cv2 (P := P_W_find) (cut := rg_cut [10]) (f := false) d_W_find_28 rfl T_W_stepOn rfl, rg_e_aload_0 (cut := rg_cut [10]) (f := false) d_W_find_31 rfl 32 rfl, rg_e_iload_1 (cut := rg_cut [10]) (f := false) d_W_find_32 rfl 33 rfl, rg_e_cv2 (P := P_W_find) (cut := rg_cut [10]) (f := false) d_W_find_33 rfl T_W_findFrom rfl, rg_e_istore_1 (cut := rg_cut [10]) (f := false) d_W_find_36 rfl 37 rfl, rg_e_iload_1 (cut := rg_cut [10]) (f := false) d_W_find_37 rfl 38 rfl, rg_e_if_ge (cut := rg_cut [10]) (f := false) d_W_find_38 rfl 41 rfl 43 rfl, rg_e_iconst (cut := rg_cut [10]) (f := false) d_W_find_41 rfl 42 rfl (nI 0) rg_ki_0, rg_e_iret (cut := rg_cut [10]) (f := false) d_W_find_42 rfl, rg_e_iinc_2 (cut := rg_cut [10]) (f := false) d_W_find_43 rfl 46 rfl (nI 1) rg_ki_1, rg_e_goto (cut := rg_cut [10]) (f := false) d_W_find_46 rfl 10 rfl, rg_e_iconst (cut := rg_cut [10]) (f := false) d_W_find_49 rfl 50 rfl (nI 1) rg_ki_1, rg_e_iret (cut := rg_cut [10]) (f := false) d_W_find_50 rfl, rg_e_cut (cut := rg_cut [10]) 10 rfl, rg_nx_i, rg_nx_v, rg_wd_n, rg_wd_i, rg_wd_l, rg_wd_r, rg_clr_i, rg_clr_l, rg_clr_r, rg_clr_a, rg_clr_n, true_and, and_true, Nat.reduceAdd, Nat.reduceLeDiff, ↓Te_W_stepOn, ↓Te_W_findFrom, rg_rt_e, rg_fit_ie, rg_fit_ve, rg_fit_1e, rg_fit_0e, rg_fit_be, hc]
      refine ⟨fun _ => hK1 A w1 ?_ hf hA, fun h => absurd (nI_le (Nat.le_refl _) (by omega)) h⟩
      rw [htp, Nat.sub_self, tpF]
  refine hZ (rg_cut [10]) 400 0 _ _ _ ?_; simp only [rg_e_aload_0 (cut := rg_cut [10]) (f := true) d_W_find_0 rfl 1 rfl, rg_e_iconst (cut := rg_cut [10]) (f := false) d_W_find_1 rfl 2 rfl (nI 0) rg_ki_0, rg_e_put (P := P_W_find) (cut := rg_cut [10]) (f := false) d_W_find_2 rfl 5 rfl 13 3 3 rfl rfl, rg_e_ldc (P := P_W_find) (cut := rg_cut [10]) (f := false) d_W_find_5 rfl 7 rfl (nI 100000) rfl, rg_e_istore_1 (cut := rg_cut [10]) (f := false) d_W_find_7 rfl 8 rfl, rg_e_iconst (cut := rg_cut [10]) (f := false) d_W_find_8 rfl 9 rfl (nI 0) rg_ki_0, rg_e_istore_2 (cut := rg_cut [10]) (f := false) d_W_find_9 rfl 10 rfl, rg_e_cut (cut := rg_cut [10]) 10 rfl, rg_nx_i, rg_nx_v, rg_wd_n, rg_wd_i, rg_wd_l, rg_wd_r, rg_clr_i, rg_clr_l, rg_clr_r, rg_clr_a, rg_clr_n, true_and, and_true, Nat.reduceAdd, Nat.reduceLeDiff, ↓Te_W_stepOn, ↓Te_W_findFrom, rg_rt_e, rg_fit_ie, rg_fit_ve, rg_fit_1e, rg_fit_0e, rg_fit_be]
  exact loop 0 100000 [] _ ⟨by omega, by omega, rg_fr_up (rg_fr_rf _ _) (by decide) _ _, ⟨rg_up_ss _ _ _ _, by simp, fun k hk => absurd hk (by simp)⟩, rfl⟩
