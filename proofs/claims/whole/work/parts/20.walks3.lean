/-! Walks: findFrom, find -/
theorem St.nx {hg : Nat → Nat → Nat} {w0 w : rg_W} {A : List (List Nat)} {t : List Nat} {nx ny : Nat → Nat} (h : St hg w0 A t nx w) (e : ∀ i, i < t.length → nx i = ny i) : St hg w0 A t ny w :=
  ⟨h.1, h.2.1, h.2.2.1, fun i hi => by rw [← e i hi]; exact h.2.2.2 i hi⟩
theorem take_gD {t : List Nat} {n i : Nat} (h : i < n) : (t.take n).getD i 0 = t.getD i 0 := by
  rw [List.getD_eq_getElem?_getD, List.getD_eq_getElem?_getD, List.getElem?_take_of_lt h]
theorem take_len {t : List Nat} : (t.take (t.length - 1)).length = t.length - 1 := by
  rw [List.length_take]
  omega
-- W.findFrom
def P_W_findFrom : rg_P := (rg_F_W, [(95, 1, 0, T_W_nextBehind), (79, 2, 0, T_W_stepOn), (103, 1, 0, T_W_hasBefore), (111, 1, 0, T_W_keepTrail)], [], [], [], [], 0)
def T_W_findFrom : rg_T := fun as w K => match as with
  | [.ref 13, .int most] => ∃ hg e A M, GrE hg w ∧ FoW hg w ∧ most = nI M ∧ M ≤ 100000 ∧ St hg w A [e] (fun _ => (esT hg (9 * ds hg e)).length) w ∧ (∀ R w', vis hg 40 [e] = some R → A.length + R.length ≤ 50 → szV hg 40 [e] ≤ M → rg_fr [13, 14, 15, 16, 17] w w' → Ac (A ++ R) w' → K (some (.int (nI (M - szV hg 40 [e] + 1)))) w') ∧ (¬ (∃ R, vis hg 40 [e] = some R ∧ A.length + R.length ≤ 50 ∧ szV hg 40 [e] ≤ M) → ∀ w', rg_fr [13, 14, 15, 16, 17] w w' → K (some (.int (-1))) w')
  | _ => False
theorem Te_W_findFrom (most : Int32) (w : rg_W) (K : Option Value → rg_W → Prop) : T_W_findFrom [.ref 13, .int most] w K = (∃ hg e A M, GrE hg w ∧ FoW hg w ∧ most = nI M ∧ M ≤ 100000 ∧ St hg w A [e] (fun _ => (esT hg (9 * ds hg e)).length) w ∧ (∀ R w', vis hg 40 [e] = some R → A.length + R.length ≤ 50 → szV hg 40 [e] ≤ M → rg_fr [13, 14, 15, 16, 17] w w' → Ac (A ++ R) w' → K (some (.int (nI (M - szV hg 40 [e] + 1)))) w') ∧ (¬ (∃ R, vis hg 40 [e] = some R ∧ A.length + R.length ≤ 50 ∧ szV hg 40 [e] ≤ M) → ∀ w', rg_fr [13, 14, 15, 16, 17] w w' → K (some (.int (-1))) w')) := rfl
theorem r_W_findFrom : ∀ as w K, T_W_findFrom as w K → ∃ r, as = .ref 13 :: r := by
  intro as w K h
  unfold T_W_findFrom at h
  split at h
  · exact ⟨_, rfl⟩
  · exact h.elim
theorem G_W_findFrom (l : Launch) : rg_Good l y_W_findFrom c_W_findFrom 5 (some .int) 4 T_W_findFrom := by
  refine rg_good_of (P := P_W_findFrom) (by decide) (rg_pok rg_F_W_ok (rg_cons (cw_W_47 (G_W_nextBehind l) (by decide) r_W_nextBehind) (rg_cons (cw_W_39 (G_W_stepOn l) (by decide) r_W_stepOn) (rg_cons (cw_W_51 (G_W_hasBefore l) (by decide) r_W_hasBefore) (rg_cons (cw_W_55 (G_W_keepTrail l) (by decide) r_W_keepTrail) rg_nil))))) ?_
  intro as w K Z hT hZ
  unfold T_W_findFrom at hT
  split at hT
  rotate_left
  · exact hT.elim
  rename_i most
  refine ⟨Nat.le_of_ble_eq_true rfl, ?_⟩
  show Z 0 [.ref 13, .int most, .null, .null, .null] [] w 0
  obtain ⟨hg, e0, A0, M0, hG, hF, rfl, hM0, hS0, hK1, hK0⟩ := hT
  have h72 := eN_le hG.2.2
  have popZ : ∀ (t : List Nat) (w2 : rg_W) (M : Nat) (A2 : List (List Nat)) (nx : Nat → Nat) (g2 : Int32) (a4 : Value), 0 < t.length → St hg w A2 t nx w2 → 1 ≤ M → M ≤ 100000 → (∀ w', St hg w A2 (t.take (t.length - 1)) nx w' → (t.length = 1 → K (some (.int (nI M))) w') ∧ (1 < t.length → ∀ a4 : Value, Z 4 [.ref 13, .int (nI M0), .int (nI 1), .int (nI (M - 1)), a4] [] w' 0)) → Z 61 [.ref 13, .int (nI M0), .int g2, .int (nI M), a4] [] w2 0 := by
    intro t w2 M A2 nx g2 a4 ht hS h1 hM hk
    obtain ⟨hf, hT, hA, hn⟩ := hS
    have ln := hT.1
    have hl40 := hT.2.1
    have s1 : nI t.length - nI 1 = nI (t.length - 1) := pk_sub (by omega)
    have m1 : nI M + (-1) = nI (M - 1) := by rw [i_m1, pk_sub h1]
    refine hZ (rg_cut [4, 61]) 400 61 _ _ _ ?_; simp only [rg_e_aload_0 (cut := rg_cut [4, 61]) (f := true) d_W_findFrom_61 rfl 62 rfl, rg_e_dupr (cut := rg_cut [4, 61]) (f := false) d_W_findFrom_62 rfl 63 rfl, rg_e_geti (P := P_W_findFrom) (cut := rg_cut [4, 61]) (f := false) d_W_findFrom_63 rfl 66 rfl 13 3 6 rfl (fun _ => rfl), rg_e_iconst (cut := rg_cut [4, 61]) (f := false) d_W_findFrom_66 rfl 67 rfl (nI 1) rg_ki_1, rg_e_isub (cut := rg_cut [4, 61]) (f := false) d_W_findFrom_67 rfl 68 rfl, rg_e_put (P := P_W_findFrom) (cut := rg_cut [4, 61]) (f := false) d_W_findFrom_68 rfl 71 rfl 13 3 6 rfl rfl, rg_e_iconst (cut := rg_cut [4, 61]) (f := false) d_W_findFrom_71 rfl 72 rfl (nI 1) rg_ki_1, rg_e_istore_2 (cut := rg_cut [4, 61]) (f := false) d_W_findFrom_72 rfl 73 rfl, rg_e_aload_0 (cut := rg_cut [4, 61]) (f := false) d_W_findFrom_73 rfl 74 rfl, rg_e_geti (P := P_W_findFrom) (cut := rg_cut [4, 61]) (f := false) d_W_findFrom_74 rfl 77 rfl 13 3 6 rfl (fun _ => rfl), rg_e_if_ne (cut := rg_cut [4, 61]) (f := false) d_W_findFrom_77 rfl 80 rfl 82 rfl, rg_e_iload_3 (cut := rg_cut [4, 61]) (f := false) d_W_findFrom_80 rfl 81 rfl, rg_e_iret (cut := rg_cut [4, 61]) (f := false) d_W_findFrom_81 rfl, rg_e_iinc_3 (cut := rg_cut [4, 61]) (f := false) d_W_findFrom_82 rfl 85 rfl (-1) rg_ki_m1, rg_e_goto (cut := rg_cut [4, 61]) (f := false) d_W_findFrom_85 rfl 4 rfl, rg_e_cut (cut := rg_cut [4, 61]) 4 rfl, rg_e_cut (cut := rg_cut [4, 61]) 61 rfl, rg_nx_i, rg_nx_v, rg_wd_n, rg_wd_i, rg_wd_l, rg_wd_r, rg_clr_i, rg_clr_l, rg_clr_r, rg_clr_a, rg_clr_n, true_and, and_true, Nat.reduceAdd, Nat.reduceLeDiff, ↓Te_W_nextBehind, ↓Te_W_stepOn, ↓Te_W_hasBefore, ↓Te_W_keepTrail, rg_rt_e, rg_fit_ie, rg_fit_ve, rg_fit_1e, rg_fit_0e, rg_fit_be, ln, s1, rg_up_ss, m1]
    have hS' : St hg w A2 (t.take (t.length - 1)) nx (rg_up w2 13 6 (nI (t.length - 1))) := by
      refine ⟨rg_fr_up hf (by decide) _ _, ⟨?_, ?_, fun f hf => hT.2.2.1 f (List.mem_of_mem_take hf), fun i hi => ?_⟩, ⟨?_, hA.2.1, fun k hk => ?_⟩, fun i hi => ?_⟩
      · rw [rg_up_ss, take_len]
      · rw [take_len]; omega
      · rw [take_len] at hi
        rw [rg_up_n (by decide), take_gD hi]
        exact hT.2.2.2 i (by omega)
      · rw [rg_up_s, upd_n (by decide)]
        exact hA.1
      · rw [rg_up_n (by decide), rg_up_n (by decide)]
        exact hA.2.2 k hk
      · rw [take_len] at hi
        rw [rg_up_n (by decide)]
        exact hn i (by omega)
    obtain ⟨q1, q2⟩ := hk _ hS'
    rw [nI_eq0 (by omega)]
    exact ⟨fun h => q2 (by omega) _, fun h => q1 (by omega)⟩
  have claim : ∀ (k : Nat) (t cs : List Nat) (x M : Nat) (g : Bool) (A : List (List Nat)) (w1 : rg_W) (nx : Nat → Nat) (a4 : Value), t.length + (k + 1) = 41 → 0 < t.length → St hg w A t nx w1 → nx (t.length - 1) = x → (esT hg (9 * ds hg (lst t))).length ≤ x → x ≤ eN hg → cs_ hg t x = cs → M ≤ 100000 →
      (¬ (∃ R, rs_ hg k t cs g = some R ∧ A.length + R.length ≤ 50 ∧ cL (szV hg k) t cs ≤ M) → ∀ w', rg_fr [13, 14, 15, 16, 17] w w' → K (some (.int (-1))) w') →
      (∀ R w', rs_ hg k t cs g = some R → A.length + R.length ≤ 50 → cL (szV hg k) t cs ≤ M → St hg w (A ++ R) (t.take (t.length - 1)) nx w' → (t.length = 1 → K (some (.int (nI (M - cL (szV hg k) t cs + 1)))) w') ∧ (1 < t.length → ∀ a4 : Value, Z 4 [.ref 13, .int (nI M0), .int (nI 1), .int (nI (M - cL (szV hg k) t cs)), a4] [] w' 0)) →
      Z 4 [.ref 13, .int (nI M0), .int (zI g), .int (nI M), a4] [] w1 0 := by
    intro k
    induction k using Nat.strongRecOn with
    | ind k ihk =>
    intro t cs
    induction cs with
    | nil =>
      intro x M g A w1 nx a4 hk ht hS hx hlo hxN hcs hM hfail hok
      obtain ⟨hf, hT, hA, hn⟩ := id hS
      have hG1 := hG.fr hf
      have hF1 := hF.fr hf
      have hle : lst t < eN hg := hT.2.2.1 _ (gD_mem (by omega))
      have hd := (sr_lt hle).2
      have hnb := cs_nb hd hlo hxN
      rw [hcs] at hnb
      have ln := hT.1
      have hc1 : cL (szV hg k) t [] = 1 := rfl
      rcases Nat.eq_zero_or_pos M with hM0' | hMp
      · subst hM0'
        refine hZ (rg_cut [4, 61]) 400 4 _ _ _ ?_; simp only [rg_e_iload_3 (cut := rg_cut [4, 61]) (f := true) d_W_findFrom_4 rfl 5 rfl, rg_e_if_le (cut := rg_cut [4, 61]) (f := false) d_W_findFrom_5 rfl 8 rfl 88 rfl, rg_e_aload_0 (cut := rg_cut [4, 61]) (f := false) d_W_findFrom_8 rfl 9 rfl, rg_e_cv1 (P := P_W_findFrom) (cut := rg_cut [4, 61]) (f := false) d_W_findFrom_9 rfl T_W_nextBehind rfl, rg_e_istore_4 (cut := rg_cut [4, 61]) (f := false) d_W_findFrom_12 rfl 14 rfl, rg_e_iload_4 (cut := rg_cut [4, 61]) (f := false) d_W_findFrom_14 rfl 16 rfl, rg_e_if_lt (cut := rg_cut [4, 61]) (f := false) d_W_findFrom_16 rfl 19 rfl 41 rfl, rg_e_aload_0 (cut := rg_cut [4, 61]) (f := false) d_W_findFrom_19 rfl 20 rfl, rg_e_geti (P := P_W_findFrom) (cut := rg_cut [4, 61]) (f := false) d_W_findFrom_20 rfl 23 rfl 13 3 6 rfl (fun _ => rfl), rg_e_bipush (cut := rg_cut [4, 61]) (f := false) d_W_findFrom_23 rfl 25 rfl (nI 40) rg_kb_40, rg_e_icmp_ne (cut := rg_cut [4, 61]) (f := false) d_W_findFrom_25 rfl 28 rfl 30 rfl, rg_e_iconst (cut := rg_cut [4, 61]) (f := false) d_W_findFrom_28 rfl 29 rfl (-1) rg_ki_m1, rg_e_iret (cut := rg_cut [4, 61]) (f := false) d_W_findFrom_29 rfl, rg_e_aload_0 (cut := rg_cut [4, 61]) (f := false) d_W_findFrom_30 rfl 31 rfl, rg_e_iload_4 (cut := rg_cut [4, 61]) (f := false) d_W_findFrom_31 rfl 33 rfl, rg_e_cv2 (P := P_W_findFrom) (cut := rg_cut [4, 61]) (f := false) d_W_findFrom_33 rfl T_W_stepOn rfl, rg_e_iconst (cut := rg_cut [4, 61]) (f := false) d_W_findFrom_36 rfl 37 rfl (nI 0) rg_ki_0, rg_e_istore_2 (cut := rg_cut [4, 61]) (f := false) d_W_findFrom_37 rfl 38 rfl, rg_e_goto (cut := rg_cut [4, 61]) (f := false) d_W_findFrom_38 rfl 73 rfl, rg_e_iload_2 (cut := rg_cut [4, 61]) (f := false) d_W_findFrom_41 rfl 42 rfl, rg_e_if_ne (cut := rg_cut [4, 61]) (f := false) d_W_findFrom_42 rfl 45 rfl 61 rfl, rg_e_aload_0 (cut := rg_cut [4, 61]) (f := false) d_W_findFrom_45 rfl 46 rfl, rg_e_cv1 (P := P_W_findFrom) (cut := rg_cut [4, 61]) (f := false) d_W_findFrom_46 rfl T_W_hasBefore rfl, rg_e_if_ne (cut := rg_cut [4, 61]) (f := false) d_W_findFrom_49 rfl 52 rfl 61 rfl, rg_e_aload_0 (cut := rg_cut [4, 61]) (f := false) d_W_findFrom_52 rfl 53 rfl, rg_e_cv1 (P := P_W_findFrom) (cut := rg_cut [4, 61]) (f := false) d_W_findFrom_53 rfl T_W_keepTrail rfl, rg_e_if_ne (cut := rg_cut [4, 61]) (f := false) d_W_findFrom_56 rfl 59 rfl 61 rfl, rg_e_iconst (cut := rg_cut [4, 61]) (f := false) d_W_findFrom_59 rfl 60 rfl (-1) rg_ki_m1, rg_e_iret (cut := rg_cut [4, 61]) (f := false) d_W_findFrom_60 rfl, rg_e_aload_0 (cut := rg_cut [4, 61]) (f := false) d_W_findFrom_73 rfl 74 rfl, rg_e_geti (P := P_W_findFrom) (cut := rg_cut [4, 61]) (f := false) d_W_findFrom_74 rfl 77 rfl 13 3 6 rfl (fun _ => rfl), rg_e_if_ne (cut := rg_cut [4, 61]) (f := false) d_W_findFrom_77 rfl 80 rfl 82 rfl, rg_e_iload_3 (cut := rg_cut [4, 61]) (f := false) d_W_findFrom_80 rfl 81 rfl, rg_e_iret (cut := rg_cut [4, 61]) (f := false) d_W_findFrom_81 rfl, rg_e_iinc_3 (cut := rg_cut [4, 61]) (f := false) d_W_findFrom_82 rfl 85 rfl (-1) rg_ki_m1, rg_e_goto (cut := rg_cut [4, 61]) (f := false) d_W_findFrom_85 rfl 4 rfl, rg_e_iconst (cut := rg_cut [4, 61]) (f := false) d_W_findFrom_88 rfl 89 rfl (-1) rg_ki_m1, rg_e_iret (cut := rg_cut [4, 61]) (f := false) d_W_findFrom_89 rfl, rg_e_cut (cut := rg_cut [4, 61]) 4 rfl, rg_e_cut (cut := rg_cut [4, 61]) 61 rfl, rg_nx_i, rg_nx_v, rg_wd_n, rg_wd_i, rg_wd_l, rg_wd_r, rg_clr_i, rg_clr_l, rg_clr_r, rg_clr_a, rg_clr_n, true_and, and_true, Nat.reduceAdd, Nat.reduceLeDiff, ↓Te_W_nextBehind, ↓Te_W_stepOn, ↓Te_W_hasBefore, ↓Te_W_keepTrail, rg_rt_e, rg_fit_ie, rg_fit_ve, rg_fit_1e, rg_fit_0e, rg_fit_be]
        refine ⟨fun _ => hfail ?_ w1 hf, fun h => absurd (by decide +kernel) h⟩
        rintro ⟨R, -, -, h⟩
        rw [hc1] at h
        omega
      · have mle : (nI M ≤ 0) = False := eq_false (nI_nle hMp (by omega))
        have n1 : ((-1 : Int32) < 0) = True := eq_true (by decide +kernel)
        refine hZ (rg_cut [4, 61]) 400 4 _ _ _ ?_; simp only [rg_e_iload_3 (cut := rg_cut [4, 61]) (f := true) d_W_findFrom_4 rfl 5 rfl, rg_e_if_le (cut := rg_cut [4, 61]) (f := false) d_W_findFrom_5 rfl 8 rfl 88 rfl, rg_e_aload_0 (cut := rg_cut [4, 61]) (f := false) d_W_findFrom_8 rfl 9 rfl, rg_e_cv1 (P := P_W_findFrom) (cut := rg_cut [4, 61]) (f := false) d_W_findFrom_9 rfl T_W_nextBehind rfl, rg_e_istore_4 (cut := rg_cut [4, 61]) (f := false) d_W_findFrom_12 rfl 14 rfl, rg_e_iload_4 (cut := rg_cut [4, 61]) (f := false) d_W_findFrom_14 rfl 16 rfl, rg_e_if_lt (cut := rg_cut [4, 61]) (f := false) d_W_findFrom_16 rfl 19 rfl 41 rfl, rg_e_aload_0 (cut := rg_cut [4, 61]) (f := false) d_W_findFrom_19 rfl 20 rfl, rg_e_geti (P := P_W_findFrom) (cut := rg_cut [4, 61]) (f := false) d_W_findFrom_20 rfl 23 rfl 13 3 6 rfl (fun _ => rfl), rg_e_bipush (cut := rg_cut [4, 61]) (f := false) d_W_findFrom_23 rfl 25 rfl (nI 40) rg_kb_40, rg_e_icmp_ne (cut := rg_cut [4, 61]) (f := false) d_W_findFrom_25 rfl 28 rfl 30 rfl, rg_e_iconst (cut := rg_cut [4, 61]) (f := false) d_W_findFrom_28 rfl 29 rfl (-1) rg_ki_m1, rg_e_iret (cut := rg_cut [4, 61]) (f := false) d_W_findFrom_29 rfl, rg_e_aload_0 (cut := rg_cut [4, 61]) (f := false) d_W_findFrom_30 rfl 31 rfl, rg_e_iload_4 (cut := rg_cut [4, 61]) (f := false) d_W_findFrom_31 rfl 33 rfl, rg_e_cv2 (P := P_W_findFrom) (cut := rg_cut [4, 61]) (f := false) d_W_findFrom_33 rfl T_W_stepOn rfl, rg_e_iconst (cut := rg_cut [4, 61]) (f := false) d_W_findFrom_36 rfl 37 rfl (nI 0) rg_ki_0, rg_e_istore_2 (cut := rg_cut [4, 61]) (f := false) d_W_findFrom_37 rfl 38 rfl, rg_e_goto (cut := rg_cut [4, 61]) (f := false) d_W_findFrom_38 rfl 73 rfl, rg_e_iload_2 (cut := rg_cut [4, 61]) (f := false) d_W_findFrom_41 rfl 42 rfl, rg_e_if_ne (cut := rg_cut [4, 61]) (f := false) d_W_findFrom_42 rfl 45 rfl 61 rfl, rg_e_aload_0 (cut := rg_cut [4, 61]) (f := false) d_W_findFrom_45 rfl 46 rfl, rg_e_cv1 (P := P_W_findFrom) (cut := rg_cut [4, 61]) (f := false) d_W_findFrom_46 rfl T_W_hasBefore rfl, rg_e_if_ne (cut := rg_cut [4, 61]) (f := false) d_W_findFrom_49 rfl 52 rfl 61 rfl, rg_e_aload_0 (cut := rg_cut [4, 61]) (f := false) d_W_findFrom_52 rfl 53 rfl, rg_e_cv1 (P := P_W_findFrom) (cut := rg_cut [4, 61]) (f := false) d_W_findFrom_53 rfl T_W_keepTrail rfl, rg_e_if_ne (cut := rg_cut [4, 61]) (f := false) d_W_findFrom_56 rfl 59 rfl 61 rfl, rg_e_iconst (cut := rg_cut [4, 61]) (f := false) d_W_findFrom_59 rfl 60 rfl (-1) rg_ki_m1, rg_e_iret (cut := rg_cut [4, 61]) (f := false) d_W_findFrom_60 rfl, rg_e_aload_0 (cut := rg_cut [4, 61]) (f := false) d_W_findFrom_73 rfl 74 rfl, rg_e_geti (P := P_W_findFrom) (cut := rg_cut [4, 61]) (f := false) d_W_findFrom_74 rfl 77 rfl 13 3 6 rfl (fun _ => rfl), rg_e_if_ne (cut := rg_cut [4, 61]) (f := false) d_W_findFrom_77 rfl 80 rfl 82 rfl, rg_e_iload_3 (cut := rg_cut [4, 61]) (f := false) d_W_findFrom_80 rfl 81 rfl, rg_e_iret (cut := rg_cut [4, 61]) (f := false) d_W_findFrom_81 rfl, rg_e_iinc_3 (cut := rg_cut [4, 61]) (f := false) d_W_findFrom_82 rfl 85 rfl (-1) rg_ki_m1, rg_e_goto (cut := rg_cut [4, 61]) (f := false) d_W_findFrom_85 rfl 4 rfl, rg_e_iconst (cut := rg_cut [4, 61]) (f := false) d_W_findFrom_88 rfl 89 rfl (-1) rg_ki_m1, rg_e_iret (cut := rg_cut [4, 61]) (f := false) d_W_findFrom_89 rfl, rg_e_cut (cut := rg_cut [4, 61]) 4 rfl, rg_e_cut (cut := rg_cut [4, 61]) 61 rfl, rg_nx_i, rg_nx_v, rg_wd_n, rg_wd_i, rg_wd_l, rg_wd_r, rg_clr_i, rg_clr_l, rg_clr_r, rg_clr_a, rg_clr_n, true_and, and_true, Nat.reduceAdd, Nat.reduceLeDiff, ↓Te_W_nextBehind, ↓Te_W_stepOn, ↓Te_W_hasBefore, ↓Te_W_keepTrail, rg_rt_e, rg_fit_ie, rg_fit_ve, rg_fit_1e, rg_fit_0e, rg_fit_be, mle, n1, zI_eq, false_imp_iff, true_and, not_false_eq_true, forall_const, not_true_eq_false, and_true, ln]
        refine ⟨hg, t, x, hG1, hF1, hT, ht, by rw [← hx]; exact (hn _ (by omega)).1, by omega, fun e he => ?_, fun _ => ?_⟩
        · rw [hnb] at he
          cases he
        · have fin : ∀ R w2, rs_ hg k t [] g = some R → A.length + R.length ≤ 50 → St hg w (A ++ R) t nx w2 → ∀ a4 : Value, Z 61 [.ref 13, .int (nI M0), .int (zI g), .int (nI M), a4] [] w2 0 := by
            intro R w2 hR hl hS2 a4
            refine popZ t w2 M (A ++ R) nx _ a4 ht hS2 hMp hM (fun w' hS' => ?_)
            have := hok R w' hR hl (by rw [hc1]; omega) hS'
            rw [hc1, show M - 1 + 1 = M by omega] at this
            exact this
          refine ⟨fun hg1 => ?_, fun hg1 => ?_⟩
          · have hg1 : g = true := by simpa using hg1
            exact fin [] w1 (by unfold rs_; rw [if_pos rfl, hg1]; rfl) (by simpa using hA.2.1) (by rw [List.append_nil]; exact hS) _
          · have hg1 : g = false := Classical.not_not.mp hg1
            refine ⟨hg, t, hG1, hT, ht, fun hp => ?_, fun hp => ?_⟩
            · have hp : preB hg t = true := by simpa using hp
              exact fin [] w1 (by unfold rs_; rw [if_pos rfl, hp, Bool.or_true]; rfl) (by simpa using hA.2.1) (by rw [List.append_nil]; exact hS) _
            · have hp : preB hg t = false := Classical.not_not.mp hp
              have hR : rs_ hg k t [] g = some [t] := by unfold rs_; rw [if_pos rfl, hp, hg1]; rfl
              refine ⟨hg, t, A, hT, hA, fun h50 => ⟨fun h => absurd (by decide +kernel) h, fun _ => hfail ?_ w1 hf⟩, fun h50 w' f1 f2 f3 => ⟨fun _ => ?_, fun h => absurd h (by decide +kernel)⟩⟩
              · rintro ⟨R, h1, h2, -⟩
                rw [hR] at h1
                cases h1
                simp at h2
                omega
              · refine fin [t] w' hR (by simp; omega) ⟨rg_fr_tr hf (rg_fr_sub f1 (by decide)), ⟨?_, hT.2.1, hT.2.2.1, fun i hi => ?_⟩, f3, fun i hi => ?_⟩ _
                · rw [f2 6 (by decide)]; exact hT.1
                · rw [f1.1 16 (by decide)]; exact hT.2.2.2 i hi
                · rw [f1.1 17 (by decide)]; exact hn i hi
    | cons e cs ihc =>
      intro x M g A w1 nx a4 hk ht hS hx hlo hxN hcs hM hfail hok
      obtain ⟨hf, hT, hA, hn⟩ := id hS
      have hG1 := hG.fr hf
      have hF1 := hF.fr hf
      have hle : lst t < eN hg := hT.2.2.1 _ (gD_mem (by omega))
      have hd := (sr_lt hle).2
      have hnb := cs_nb hd hlo hxN
      rw [hcs] at hnb
      have ln := hT.1
      obtain ⟨e1, e2, e3, e4⟩ := cR_cons _ _ _ _ hcs
      have he : e < eN hg := by omega
      have e5 : cs_ hg t (e + 1) = cs := by
        unfold cs_
        rw [← e4, show eN hg - (e + 1) = x + (eN hg - x) - (e + 1) by omega]
      have hcc : cL (szV hg k) t (e :: cs) = 1 + szV hg k (t ++ [e]) + cL (szV hg k) t cs := rfl
      rcases Nat.eq_zero_or_pos M with hM0' | hMp
      · subst hM0'
        refine hZ (rg_cut [4, 61]) 400 4 _ _ _ ?_; simp only [rg_e_iload_3 (cut := rg_cut [4, 61]) (f := true) d_W_findFrom_4 rfl 5 rfl, rg_e_if_le (cut := rg_cut [4, 61]) (f := false) d_W_findFrom_5 rfl 8 rfl 88 rfl, rg_e_aload_0 (cut := rg_cut [4, 61]) (f := false) d_W_findFrom_8 rfl 9 rfl, rg_e_cv1 (P := P_W_findFrom) (cut := rg_cut [4, 61]) (f := false) d_W_findFrom_9 rfl T_W_nextBehind rfl, rg_e_istore_4 (cut := rg_cut [4, 61]) (f := false) d_W_findFrom_12 rfl 14 rfl, rg_e_iload_4 (cut := rg_cut [4, 61]) (f := false) d_W_findFrom_14 rfl 16 rfl, rg_e_if_lt (cut := rg_cut [4, 61]) (f := false) d_W_findFrom_16 rfl 19 rfl 41 rfl, rg_e_aload_0 (cut := rg_cut [4, 61]) (f := false) d_W_findFrom_19 rfl 20 rfl, rg_e_geti (P := P_W_findFrom) (cut := rg_cut [4, 61]) (f := false) d_W_findFrom_20 rfl 23 rfl 13 3 6 rfl (fun _ => rfl), rg_e_bipush (cut := rg_cut [4, 61]) (f := false) d_W_findFrom_23 rfl 25 rfl (nI 40) rg_kb_40, rg_e_icmp_ne (cut := rg_cut [4, 61]) (f := false) d_W_findFrom_25 rfl 28 rfl 30 rfl, rg_e_iconst (cut := rg_cut [4, 61]) (f := false) d_W_findFrom_28 rfl 29 rfl (-1) rg_ki_m1, rg_e_iret (cut := rg_cut [4, 61]) (f := false) d_W_findFrom_29 rfl, rg_e_aload_0 (cut := rg_cut [4, 61]) (f := false) d_W_findFrom_30 rfl 31 rfl, rg_e_iload_4 (cut := rg_cut [4, 61]) (f := false) d_W_findFrom_31 rfl 33 rfl, rg_e_cv2 (P := P_W_findFrom) (cut := rg_cut [4, 61]) (f := false) d_W_findFrom_33 rfl T_W_stepOn rfl, rg_e_iconst (cut := rg_cut [4, 61]) (f := false) d_W_findFrom_36 rfl 37 rfl (nI 0) rg_ki_0, rg_e_istore_2 (cut := rg_cut [4, 61]) (f := false) d_W_findFrom_37 rfl 38 rfl, rg_e_goto (cut := rg_cut [4, 61]) (f := false) d_W_findFrom_38 rfl 73 rfl, rg_e_iload_2 (cut := rg_cut [4, 61]) (f := false) d_W_findFrom_41 rfl 42 rfl, rg_e_if_ne (cut := rg_cut [4, 61]) (f := false) d_W_findFrom_42 rfl 45 rfl 61 rfl, rg_e_aload_0 (cut := rg_cut [4, 61]) (f := false) d_W_findFrom_45 rfl 46 rfl, rg_e_cv1 (P := P_W_findFrom) (cut := rg_cut [4, 61]) (f := false) d_W_findFrom_46 rfl T_W_hasBefore rfl, rg_e_if_ne (cut := rg_cut [4, 61]) (f := false) d_W_findFrom_49 rfl 52 rfl 61 rfl, rg_e_aload_0 (cut := rg_cut [4, 61]) (f := false) d_W_findFrom_52 rfl 53 rfl, rg_e_cv1 (P := P_W_findFrom) (cut := rg_cut [4, 61]) (f := false) d_W_findFrom_53 rfl T_W_keepTrail rfl, rg_e_if_ne (cut := rg_cut [4, 61]) (f := false) d_W_findFrom_56 rfl 59 rfl 61 rfl, rg_e_iconst (cut := rg_cut [4, 61]) (f := false) d_W_findFrom_59 rfl 60 rfl (-1) rg_ki_m1, rg_e_iret (cut := rg_cut [4, 61]) (f := false) d_W_findFrom_60 rfl, rg_e_aload_0 (cut := rg_cut [4, 61]) (f := false) d_W_findFrom_73 rfl 74 rfl, rg_e_geti (P := P_W_findFrom) (cut := rg_cut [4, 61]) (f := false) d_W_findFrom_74 rfl 77 rfl 13 3 6 rfl (fun _ => rfl), rg_e_if_ne (cut := rg_cut [4, 61]) (f := false) d_W_findFrom_77 rfl 80 rfl 82 rfl, rg_e_iload_3 (cut := rg_cut [4, 61]) (f := false) d_W_findFrom_80 rfl 81 rfl, rg_e_iret (cut := rg_cut [4, 61]) (f := false) d_W_findFrom_81 rfl, rg_e_iinc_3 (cut := rg_cut [4, 61]) (f := false) d_W_findFrom_82 rfl 85 rfl (-1) rg_ki_m1, rg_e_goto (cut := rg_cut [4, 61]) (f := false) d_W_findFrom_85 rfl 4 rfl, rg_e_iconst (cut := rg_cut [4, 61]) (f := false) d_W_findFrom_88 rfl 89 rfl (-1) rg_ki_m1, rg_e_iret (cut := rg_cut [4, 61]) (f := false) d_W_findFrom_89 rfl, rg_e_cut (cut := rg_cut [4, 61]) 4 rfl, rg_e_cut (cut := rg_cut [4, 61]) 61 rfl, rg_nx_i, rg_nx_v, rg_wd_n, rg_wd_i, rg_wd_l, rg_wd_r, rg_clr_i, rg_clr_l, rg_clr_r, rg_clr_a, rg_clr_n, true_and, and_true, Nat.reduceAdd, Nat.reduceLeDiff, ↓Te_W_nextBehind, ↓Te_W_stepOn, ↓Te_W_hasBefore, ↓Te_W_keepTrail, rg_rt_e, rg_fit_ie, rg_fit_ve, rg_fit_1e, rg_fit_0e, rg_fit_be]
        refine ⟨fun _ => hfail ?_ w1 hf, fun h => absurd (by decide +kernel) h⟩
        rintro ⟨R, -, -, h⟩
        rw [hcc] at h
        omega
      · have mle : (nI M ≤ 0) = False := eq_false (nI_nle hMp (by omega))
        have m1 : nI M + (-1) = nI (M - 1) := by rw [i_m1, pk_sub hMp]
        refine hZ (rg_cut [4, 61]) 400 4 _ _ _ ?_; simp only [rg_e_iload_3 (cut := rg_cut [4, 61]) (f := true) d_W_findFrom_4 rfl 5 rfl, rg_e_if_le (cut := rg_cut [4, 61]) (f := false) d_W_findFrom_5 rfl 8 rfl 88 rfl, rg_e_aload_0 (cut := rg_cut [4, 61]) (f := false) d_W_findFrom_8 rfl 9 rfl, rg_e_cv1 (P := P_W_findFrom) (cut := rg_cut [4, 61]) (f := false) d_W_findFrom_9 rfl T_W_nextBehind rfl, rg_e_istore_4 (cut := rg_cut [4, 61]) (f := false) d_W_findFrom_12 rfl 14 rfl, rg_e_iload_4 (cut := rg_cut [4, 61]) (f := false) d_W_findFrom_14 rfl 16 rfl, rg_e_if_lt (cut := rg_cut [4, 61]) (f := false) d_W_findFrom_16 rfl 19 rfl 41 rfl, rg_e_aload_0 (cut := rg_cut [4, 61]) (f := false) d_W_findFrom_19 rfl 20 rfl, rg_e_geti (P := P_W_findFrom) (cut := rg_cut [4, 61]) (f := false) d_W_findFrom_20 rfl 23 rfl 13 3 6 rfl (fun _ => rfl), rg_e_bipush (cut := rg_cut [4, 61]) (f := false) d_W_findFrom_23 rfl 25 rfl (nI 40) rg_kb_40, rg_e_icmp_ne (cut := rg_cut [4, 61]) (f := false) d_W_findFrom_25 rfl 28 rfl 30 rfl, rg_e_iconst (cut := rg_cut [4, 61]) (f := false) d_W_findFrom_28 rfl 29 rfl (-1) rg_ki_m1, rg_e_iret (cut := rg_cut [4, 61]) (f := false) d_W_findFrom_29 rfl, rg_e_aload_0 (cut := rg_cut [4, 61]) (f := false) d_W_findFrom_30 rfl 31 rfl, rg_e_iload_4 (cut := rg_cut [4, 61]) (f := false) d_W_findFrom_31 rfl 33 rfl, rg_e_cv2 (P := P_W_findFrom) (cut := rg_cut [4, 61]) (f := false) d_W_findFrom_33 rfl T_W_stepOn rfl, rg_e_iconst (cut := rg_cut [4, 61]) (f := false) d_W_findFrom_36 rfl 37 rfl (nI 0) rg_ki_0, rg_e_istore_2 (cut := rg_cut [4, 61]) (f := false) d_W_findFrom_37 rfl 38 rfl, rg_e_goto (cut := rg_cut [4, 61]) (f := false) d_W_findFrom_38 rfl 73 rfl, rg_e_iload_2 (cut := rg_cut [4, 61]) (f := false) d_W_findFrom_41 rfl 42 rfl, rg_e_if_ne (cut := rg_cut [4, 61]) (f := false) d_W_findFrom_42 rfl 45 rfl 61 rfl, rg_e_aload_0 (cut := rg_cut [4, 61]) (f := false) d_W_findFrom_45 rfl 46 rfl, rg_e_cv1 (P := P_W_findFrom) (cut := rg_cut [4, 61]) (f := false) d_W_findFrom_46 rfl T_W_hasBefore rfl, rg_e_if_ne (cut := rg_cut [4, 61]) (f := false) d_W_findFrom_49 rfl 52 rfl 61 rfl, rg_e_aload_0 (cut := rg_cut [4, 61]) (f := false) d_W_findFrom_52 rfl 53 rfl, rg_e_cv1 (P := P_W_findFrom) (cut := rg_cut [4, 61]) (f := false) d_W_findFrom_53 rfl T_W_keepTrail rfl, rg_e_if_ne (cut := rg_cut [4, 61]) (f := false) d_W_findFrom_56 rfl 59 rfl 61 rfl, rg_e_iconst (cut := rg_cut [4, 61]) (f := false) d_W_findFrom_59 rfl 60 rfl (-1) rg_ki_m1, rg_e_iret (cut := rg_cut [4, 61]) (f := false) d_W_findFrom_60 rfl, rg_e_aload_0 (cut := rg_cut [4, 61]) (f := false) d_W_findFrom_73 rfl 74 rfl, rg_e_geti (P := P_W_findFrom) (cut := rg_cut [4, 61]) (f := false) d_W_findFrom_74 rfl 77 rfl 13 3 6 rfl (fun _ => rfl), rg_e_if_ne (cut := rg_cut [4, 61]) (f := false) d_W_findFrom_77 rfl 80 rfl 82 rfl, rg_e_iload_3 (cut := rg_cut [4, 61]) (f := false) d_W_findFrom_80 rfl 81 rfl, rg_e_iret (cut := rg_cut [4, 61]) (f := false) d_W_findFrom_81 rfl, rg_e_iinc_3 (cut := rg_cut [4, 61]) (f := false) d_W_findFrom_82 rfl 85 rfl (-1) rg_ki_m1, rg_e_goto (cut := rg_cut [4, 61]) (f := false) d_W_findFrom_85 rfl 4 rfl, rg_e_iconst (cut := rg_cut [4, 61]) (f := false) d_W_findFrom_88 rfl 89 rfl (-1) rg_ki_m1, rg_e_iret (cut := rg_cut [4, 61]) (f := false) d_W_findFrom_89 rfl, rg_e_cut (cut := rg_cut [4, 61]) 4 rfl, rg_e_cut (cut := rg_cut [4, 61]) 61 rfl, rg_nx_i, rg_nx_v, rg_wd_n, rg_wd_i, rg_wd_l, rg_wd_r, rg_clr_i, rg_clr_l, rg_clr_r, rg_clr_a, rg_clr_n, true_and, and_true, Nat.reduceAdd, Nat.reduceLeDiff, ↓Te_W_nextBehind, ↓Te_W_stepOn, ↓Te_W_hasBefore, ↓Te_W_keepTrail, rg_rt_e, rg_fit_ie, rg_fit_ve, rg_fit_1e, rg_fit_0e, rg_fit_be, mle, m1, zI_eq, false_imp_iff, true_and, not_false_eq_true, forall_const, ln, rg_up_n, ne_eq, Nat.reduceEqDiff, rg_up_ss]
        refine ⟨hg, t, x, hG1, hF1, hT, ht, by rw [← hx]; exact (hn _ (by omega)).1, by omega, fun e' he' => ?_, fun hno => ?_⟩
        · rw [hnb] at he'
          obtain rfl : e = e' := Option.some.inj he'
          refine ⟨fun h => absurd h (nI_pos (by omega)), fun _ => ?_⟩
          rw [nI_eqp (by omega) (by omega)]
          refine ⟨fun h40 => ?_, fun h40 => ?_⟩
          · obtain ⟨k', rfl⟩ : ∃ k', k = k' + 1 := ⟨k - 1, by have := hT.2.1; omega⟩
            have fu : rg_fr [13, 14, 15, 16, 17] w (rg_up w1 17 (t.length - 1) (nI (e + 1))) := rg_fr_up hf (by decide) _ _
            refine ⟨hg, e, t.length, hG.fr fu, hF.fr fu, rfl, he, ?_, by have := hT.2.1; omega, ?_⟩
            · rfl
            rw [nI_eq0 (by omega)]
            refine ⟨fun _ => ?_, fun h => absurd h (by omega)⟩
            have hde := (sr_lt he).2
            have hfo : (esT hg (9 * ds hg e)).length ≤ eN hg := esT_mono hg (by omega)
            have hl1 : (t ++ [e]).length = t.length + 1 := by simp
            have hcs0 : cs_ hg (t ++ [e]) (esT hg (9 * ds hg e)).length = cs_ hg (t ++ [e]) 0 := by
              have := cs_0 (hg := hg) (t := t ++ [e]) (by rw [lst_app]; exact hde)
              rw [lst_app] at this
              exact this.symm
            have hvis : vis hg (k' + 1) (t ++ [e]) = rs_ hg k' (t ++ [e]) (cs_ hg (t ++ [e]) 0) false := vis_rs hg k' (t ++ [e])
            have hsz : szV hg (k' + 1) (t ++ [e]) = cL (szV hg k') (t ++ [e]) (cs_ hg (t ++ [e]) 0) := rfl
            have hS2 : St hg w A (t ++ [e]) (fun i => if i = t.length then (esT hg (9 * ds hg e)).length else if i = t.length - 1 then e + 1 else nx i) (rg_up (rg_up (rg_up (rg_up w1 17 (t.length - 1) (nI (e + 1))) 16 t.length (nI e)) 17 t.length (nI (esT hg (9 * ds hg e)).length)) 13 6 (nI (t.length + 1))) := by
              refine ⟨rg_fr_up (rg_fr_up (rg_fr_up fu (by decide) _ _) (by decide) _ _) (by decide) _ _, ⟨?_, ?_, fun f hf => ?_, fun i hi => ?_⟩, ⟨?_, hA.2.1, fun q hq => ?_⟩, fun i hi => ?_⟩
              · rw [rg_up_ss, hl1]
              · rw [hl1]; have := hT.2.1; omega
              · rcases List.mem_append.mp hf with h | h
                · exact hT.2.2.1 f h
                · rw [List.mem_singleton.mp h]; exact he
              · rw [hl1] at hi
                simp only [rg_up_s, rg_up_n, ne_eq, not_false_eq_true, Nat.reduceEqDiff]
                by_cases hil : i = t.length
                · subst hil; rw [upd_s, getD_e]
                · rw [upd_n hil, getD_l (by omega)]
                  exact hT.2.2.2 i (by omega)
              · simp only [rg_up_s, rg_up_n, ne_eq, not_false_eq_true, Nat.reduceEqDiff]
                rw [upd_n (by decide)]
                exact hA.1
              · simp only [rg_up_s, rg_up_n, ne_eq, not_false_eq_true, Nat.reduceEqDiff]
                exact hA.2.2 q hq
              · rw [hl1] at hi
                simp only [rg_up_s, rg_up_n, ne_eq, not_false_eq_true, Nat.reduceEqDiff]
                by_cases hil : i = t.length
                · subst hil
                  rw [upd_s, if_pos rfl]
                  exact ⟨rfl, by omega⟩
                · rw [upd_n hil, if_neg hil]
                  by_cases hi2 : i = t.length - 1
                  · subst hi2
                    rw [upd_s, if_pos rfl]
                    exact ⟨rfl, by omega⟩
                  · rw [upd_n hi2, if_neg hi2]
                    exact hn i (by omega)
            refine ihk k' (by omega) (t ++ [e]) (cs_ hg (t ++ [e]) 0) (esT hg (9 * ds hg e)).length (M - 1) false A _ _ _ (by rw [hl1]; omega) (by rw [hl1]; omega) hS2 (by rw [hl1, Nat.add_sub_cancel, if_pos rfl]) (by rw [lst_app]; exact Nat.le_refl _) hfo hcs0 (by omega) (fun hno w' hw' => hfail (fun hyes => hno ?_) w' hw') (fun R1 w' hR1 hl hc hS3 => ?_)
            · obtain ⟨R, h1, h2, h3⟩ := hyes
              rw [rs_cons, hvis] at h1
              rw [hcc, hsz] at h3
              cases hr1 : rs_ hg k' (t ++ [e]) (cs_ hg (t ++ [e]) 0) false with
              | none => rw [hr1] at h1; cases h1
              | some a =>
                rw [hr1] at h1
                cases hr2 : rs_ hg (k' + 1) t cs true with
                | none => rw [hr2] at h1; cases h1
                | some b =>
                  rw [hr2] at h1
                  cases h1
                  rw [List.length_append] at h2
                  exact ⟨a, rfl, by omega, by omega⟩
            · refine ⟨fun h => by rw [hl1] at h; omega, fun _ a4 => ?_⟩
              rw [hl1, Nat.add_sub_cancel, List.take_left] at hS3
              refine ihc (e + 1) (M - 1 - cL (szV hg k') (t ++ [e]) (cs_ hg (t ++ [e]) 0)) true (A ++ R1) w' (fun i => if i = t.length - 1 then e + 1 else nx i) a4 hk ht (hS3.nx fun i hi => by rw [if_neg (by omega)]) (if_pos rfl) (by omega) (by omega) e5 (by omega) (fun hno w2 hw2 => hfail (fun hyes => hno ?_) w2 hw2) (fun R2 w2 hR2 hl2 hc2 hS4 => ?_)
              · obtain ⟨R, h1, h2, h3⟩ := hyes
                rw [rs_cons, hvis, hR1] at h1
                rw [hcc, hsz] at h3
                cases hr2 : rs_ hg (k' + 1) t cs true with
                | none => rw [hr2] at h1; cases h1
                | some b =>
                  rw [hr2] at h1
                  cases h1
                  rw [List.length_append] at h2
                  exact ⟨b, rfl, by rw [List.length_append]; omega, by omega⟩
              · have hcost : cL (szV hg (k' + 1)) t (e :: cs) ≤ M := by rw [hcc, hsz]; omega
                have := hok (R1 ++ R2) w2 (by rw [rs_cons, hvis, hR1, hR2]) (by rw [List.length_append] at hl2 ⊢; omega) hcost (by rw [← List.append_assoc]; exact hS4.nx fun i hi => by rw [take_len] at hi; rw [if_neg (by omega)])
                rw [hcc, hsz] at this
                rw [show M - 1 - cL (szV hg k') (t ++ [e]) (cs_ hg (t ++ [e]) 0) - cL (szV hg (k' + 1)) t cs = M - (1 + cL (szV hg k') (t ++ [e]) (cs_ hg (t ++ [e]) 0) + cL (szV hg (k' + 1)) t cs) by omega]
                exact this
          · refine hfail ?_ _ (rg_fr_up hf (by decide) _ _)
            rintro ⟨R, h1, -, -⟩
            have h40 := Classical.not_not.mp h40
            obtain rfl : k = 0 := by omega
            rw [rs_cons] at h1
            cases h1
        · rw [hnb] at hno
          cases hno
  refine hZ (rg_cut [4, 61]) 400 0 _ _ _ ?_; simp only [rg_e_iconst (cut := rg_cut [4, 61]) (f := true) d_W_findFrom_0 rfl 1 rfl (nI 0) rg_ki_0, rg_e_istore_2 (cut := rg_cut [4, 61]) (f := false) d_W_findFrom_1 rfl 2 rfl, rg_e_iload_1 (cut := rg_cut [4, 61]) (f := false) d_W_findFrom_2 rfl 3 rfl, rg_e_istore_3 (cut := rg_cut [4, 61]) (f := false) d_W_findFrom_3 rfl 4 rfl, rg_e_cut (cut := rg_cut [4, 61]) 4 rfl, rg_e_cut (cut := rg_cut [4, 61]) 61 rfl, rg_nx_i, rg_nx_v, rg_wd_n, rg_wd_i, rg_wd_l, rg_wd_r, rg_clr_i, rg_clr_l, rg_clr_r, rg_clr_a, rg_clr_n, true_and, and_true, Nat.reduceAdd, Nat.reduceLeDiff, ↓Te_W_nextBehind, ↓Te_W_stepOn, ↓Te_W_hasBefore, ↓Te_W_keepTrail, rg_rt_e, rg_fit_ie, rg_fit_ve, rg_fit_1e, rg_fit_0e, rg_fit_be]
  have hl := lst_app [] e0
  rw [List.nil_append] at hl
  have he0 : e0 < eN hg := hS0.2.1.2.2.1 e0 (by simp)
  have hde := (sr_lt he0).2
  have hcs0 : cs_ hg [e0] (esT hg (9 * ds hg e0)).length = cs_ hg [e0] 0 := by
    have := cs_0 (hg := hg) (t := [e0]) (by rw [hl]; exact hde)
    rw [hl] at this
    exact this.symm
  have hvis : vis hg 40 [e0] = rs_ hg 39 [e0] (cs_ hg [e0] 0) false := vis_rs hg 39 [e0]
  have hsz : szV hg 40 [e0] = cL (szV hg 39) [e0] (cs_ hg [e0] 0) := rfl
  refine claim 39 [e0] (cs_ hg [e0] 0) (esT hg (9 * ds hg e0)).length M0 false A0 w _ _ rfl (by simp) hS0 rfl (by rw [hl]; exact Nat.le_refl _) (esT_mono hg (by omega)) hcs0 hM0 (fun hno w' hw' => hK0 (by rw [hvis, hsz]; exact hno) w' hw') (fun R w' hR hl' hc hS' => ⟨fun _ => ?_, fun h => absurd h (by simp)⟩)
  rw [← hsz]
  exact hK1 R w' (by rw [hvis]; exact hR) hl' (by rw [hsz]; exact hc) hS'.1 hS'.2.2.1
