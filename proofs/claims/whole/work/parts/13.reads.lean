/-! Reads: which reads are said by others, what two share -/
theorem i_m1 (x : Int32) : x + (-1) = x - nI 1 := by
  rw [Int32.sub_eq_add_neg]
  rfl
theorem nI_eqp {a b : Nat} (ha : a < 2 ^ 31) (hb : b < 2 ^ 31) : (nI a = nI b) = (a = b) := propext (nI_eq ha hb)
theorem nI_lep {a b : Nat} (ha : a < 2 ^ 31) (hb : b < 2 ^ 31) : (nI a ≤ nI b) = (a ≤ b) := propext (nI_leI ha hb)
theorem nI_ltp {a b : Nat} (ha : a < 2 ^ 31) (hb : b < 2 ^ 31) : (nI a < nI b) = (a < b) := propext (nI_ltI ha hb)
theorem nI_lt0 {a : Nat} (ha : a < 2 ^ 31) : (nI a < 0) = False := eq_false (nI_pos ha)
theorem nI_eq0 {a : Nat} (ha : a < 2 ^ 31) : (nI a = 0) = (a = 0) := by
  rw [← nI_0]
  exact nI_eqp ha (by decide)
/-- the reads as numbers: how many, their lengths, their letters packed -/
def Rd (nr : Nat) (ln pk : Nat → Nat) (w : rg_W) : Prop := nr ≤ 9 ∧ w.1 1 2 = nI nr ∧ ∀ i, i < nr → 3 ≤ ln i ∧ ln i ≤ 12 ∧ pk i < 4 ^ ln i ∧ w.1 3 i = nI (ln i) ∧ w.1 2 i = nI (pk i)
theorem Rd.fr {nr : Nat} {ln pk : Nat → Nat} {w w' : rg_W} (h : Rd nr ln pk w) (h1 : w'.1 1 = w.1 1) (h2 : w'.1 2 = w.1 2) (h3 : w'.1 3 = w.1 3) : Rd nr ln pk w' := by
  unfold Rd at h ⊢
  rw [h1, h2, h3]
  exact h
theorem Rd.pk_lt {nr : Nat} {ln pk : Nat → Nat} {w : rg_W} (h : Rd nr ln pk w) {i : Nat} (hi : i < nr) : pk i < 16777216 := by
  obtain ⟨a, b, c, -⟩ := h.2.2 i hi
  have := p4_le b
  omega
/-- the letters of r stand in o at b letters from its end -/
def mtB (ln pk : Nat → Nat) (r o b : Nat) : Bool := decide (pk o / 4 ^ b % 4 ^ ln r = pk r)
def sdB (ln pk : Nat → Nat) (r o : Nat) : Bool := if ln o = ln r then decide (o < r) && decide (pk o = pk r) else decide (ln r < ln o) && (List.range (ln o - ln r + 1)).any (mtB ln pk r o)
-- R.isSaidBy
def P_R_isSaidBy : rg_P := (rg_F_R, [(44, 2, 0, T_R_lowest)], [], [], [], [], 0)
def T_R_isSaidBy : rg_T := fun as w K => match as with
  | [.ref 1, .int r, .int o] => ∃ nr ln pk r' o', Rd nr ln pk w ∧ r = nI r' ∧ o = nI o' ∧ r' < nr ∧ o' < nr ∧ K (some (.int (zI (sdB ln pk r' o')))) w
  | _ => False
theorem Te_R_isSaidBy (r : Int32) (o : Int32) (w : rg_W) (K : Option Value → rg_W → Prop) : T_R_isSaidBy [.ref 1, .int r, .int o] w K = (∃ nr ln pk r' o', Rd nr ln pk w ∧ r = nI r' ∧ o = nI o' ∧ r' < nr ∧ o' < nr ∧ K (some (.int (zI (sdB ln pk r' o')))) w) := rfl
theorem r_R_isSaidBy : ∀ as w K, T_R_isSaidBy as w K → ∃ r, as = .ref 1 :: r := by
  intro as w K h
  unfold T_R_isSaidBy at h
  split at h
  · exact ⟨_, rfl⟩
  · exact h.elim
theorem G_R_isSaidBy (l : Launch) : rg_Good l y_R_isSaidBy c_R_isSaidBy 4 (some .boolean) 1 T_R_isSaidBy := by
  refine rg_good_of (P := P_R_isSaidBy) (by decide) (rg_pok rg_F_R_ok (rg_cons (cw_R_22 (G_R_lowest l) (by decide)) rg_nil)) ?_
  intro as w K Z hT hZ
  unfold T_R_isSaidBy at hT
  split at hT
  rotate_left
  · exact hT.elim
  rename_i r o
  refine ⟨Nat.le_of_ble_eq_true rfl, ?_⟩
  show Z 0 [.ref 1, .int r, .int o, .null] [] w 0
  obtain ⟨nr, ln, pk, r', o', hR, rfl, rfl, hr, ho, hK⟩ := hT
  obtain ⟨hn9, -, hall⟩ := id hR
  obtain ⟨a1, a2, a3, a4, a5⟩ := hall r' hr
  obtain ⟨b1, b2, b3, b4, b5⟩ := hall o' ho
  have pr := hR.pk_lt hr
  have po := hR.pk_lt ho
  have vr : vp_in (nI r') 9 := vp_in_nI (by omega) (by omega)
  have vo : vp_in (nI o') 9 := vp_in_nI (by omega) (by omega)
  have cr : (nI r').toNatClampNeg = r' := nI_clamp (by omega)
  have co : (nI o').toNatClampNeg = o' := nI_clamp (by omega)
  have e1 : (nI (ln o') = nI (ln r')) = (ln o' = ln r') := nI_eqp (by omega) (by omega)
  have e2 : (nI r' ≤ nI o') = (r' ≤ o') := nI_lep (by omega) (by omega)
  have e3 : (nI (pk o') = nI (pk r')) = (pk o' = pk r') := nI_eqp (by omega) (by omega)
  have loop : ln r' < ln o' → ∀ m, (m ≤ ln o' - ln r' + 1 ∧ ∀ b, m ≤ b → b ≤ ln o' - ln r' → mtB ln pk r' o' b = false) → Z 55 [.ref 1, .int (nI r'), .int (nI o'), .int (nI m - nI 1)] [] w 0 := by
    intro hlt
    refine rg_lp1 _ _ (fun m => m) ?_
    intro m ⟨hm, hno⟩ ih
    refine hZ (rg_cut [55]) 400 55 _ _ _ ?_; simp only [rg_e_iload_3 (cut := rg_cut [55]) (f := true) d_R_isSaidBy_55 rfl 56 rfl, rg_e_if_lt (cut := rg_cut [55]) (f := false) d_R_isSaidBy_56 rfl 59 rfl 95 rfl, rg_e_aload_0 (cut := rg_cut [55]) (f := false) d_R_isSaidBy_59 rfl 60 rfl, rg_e_getr (P := P_R_isSaidBy) (cut := rg_cut [55]) (f := false) d_R_isSaidBy_60 rfl 63 rfl 1 1 0 2 rfl (fun _ => rfl), rg_e_iload_2 (cut := rg_cut [55]) (f := false) d_R_isSaidBy_63 rfl 64 rfl, rg_e_iald (cut := rg_cut [55]) (f := false) d_R_isSaidBy_64 rfl 65 rfl 2 9 rfl, rg_e_iconst (cut := rg_cut [55]) (f := false) d_R_isSaidBy_65 rfl 66 rfl (nI 2) rg_ki_2, rg_e_iload_3 (cut := rg_cut [55]) (f := false) d_R_isSaidBy_66 rfl 67 rfl, rg_e_imul (cut := rg_cut [55]) (f := false) d_R_isSaidBy_67 rfl 68 rfl, rg_e_ishr (cut := rg_cut [55]) (f := false) d_R_isSaidBy_68 rfl 69 rfl, rg_e_aload_0 (cut := rg_cut [55]) (f := false) d_R_isSaidBy_69 rfl 70 rfl, rg_e_getr (P := P_R_isSaidBy) (cut := rg_cut [55]) (f := false) d_R_isSaidBy_70 rfl 73 rfl 1 1 1 3 rfl (fun _ => rfl), rg_e_iload_1 (cut := rg_cut [55]) (f := false) d_R_isSaidBy_73 rfl 74 rfl, rg_e_iald (cut := rg_cut [55]) (f := false) d_R_isSaidBy_74 rfl 75 rfl 3 9 rfl, rg_e_cs2 (P := P_R_isSaidBy) (cut := rg_cut [55]) (f := false) d_R_isSaidBy_75 rfl T_R_lowest rfl, rg_e_aload_0 (cut := rg_cut [55]) (f := false) d_R_isSaidBy_78 rfl 79 rfl, rg_e_getr (P := P_R_isSaidBy) (cut := rg_cut [55]) (f := false) d_R_isSaidBy_79 rfl 82 rfl 1 1 0 2 rfl (fun _ => rfl), rg_e_iload_1 (cut := rg_cut [55]) (f := false) d_R_isSaidBy_82 rfl 83 rfl, rg_e_iald (cut := rg_cut [55]) (f := false) d_R_isSaidBy_83 rfl 84 rfl 2 9 rfl, rg_e_icmp_ne (cut := rg_cut [55]) (f := false) d_R_isSaidBy_84 rfl 87 rfl 89 rfl, rg_e_iconst (cut := rg_cut [55]) (f := false) d_R_isSaidBy_87 rfl 88 rfl (nI 1) rg_ki_1, rg_e_iret (cut := rg_cut [55]) (f := false) d_R_isSaidBy_88 rfl, rg_e_iinc_3 (cut := rg_cut [55]) (f := false) d_R_isSaidBy_89 rfl 92 rfl (-1) rg_ki_m1, rg_e_goto (cut := rg_cut [55]) (f := false) d_R_isSaidBy_92 rfl 55 rfl, rg_e_iconst (cut := rg_cut [55]) (f := false) d_R_isSaidBy_95 rfl 96 rfl (nI 0) rg_ki_0, rg_e_iret (cut := rg_cut [55]) (f := false) d_R_isSaidBy_96 rfl, rg_e_cut (cut := rg_cut [55]) 55 rfl, rg_nx_i, rg_nx_v, rg_wd_n, rg_wd_i, rg_wd_l, rg_wd_r, rg_clr_i, rg_clr_l, rg_clr_r, rg_clr_a, rg_clr_n, true_and, and_true, Nat.reduceAdd, Nat.reduceLeDiff, ↓Te_R_lowest, rg_rt_e, rg_fit_ie, rg_fit_ve, rg_fit_1e, rg_fit_0e, rg_fit_be, vr, vo, cr, co, a4, a5, b4, b5]
    refine ⟨fun h => ?_, fun h => ?_⟩
    · have hm0 : m = 0 := by
        rcases Nat.eq_zero_or_pos m with q | q
        · exact q
        · rw [pk_sub q] at h
          exact absurd h (nI_pos (by omega))
      subst hm0
      have : sdB ln pk r' o' = false := by
        unfold sdB
        rw [if_neg (by omega)]
        have : (List.range (ln o' - ln r' + 1)).any (mtB ln pk r' o') = false := by
          rw [List.any_eq_false]
          intro b hb
          rw [hno b (by omega) (by have := List.mem_range.mp hb; omega)]
          decide
        rw [this, Bool.and_false]
      rw [this] at hK
      exact hK
    · have hm1 : 1 ≤ m := by
        rcases Nat.eq_zero_or_pos m with q | q
        · subst q
          exact absurd (pk_sneg (by omega) (by omega)) h
        · exact q
      rw [pk_sub hm1, shr_n (by omega) (by omega), lowI_n (by have := Nat.div_le_self (pk o') (4 ^ (m - 1)); omega) (by omega)]
      have hlt4 : pk o' / 4 ^ (m - 1) % 4 ^ ln r' < 16777216 := by
        have := Nat.mod_lt (pk o' / 4 ^ (m - 1)) (Nat.pow_pos (n := ln r') (by decide : 0 < 4))
        have := p4_le a2
        omega
      rw [nI_eqp (by omega) (by omega)]
      refine ⟨fun h1 => ?_, fun h1 => ?_⟩
      · rw [i_m1]
        refine ih (m - 1) ⟨by omega, fun b h2 h3 => ?_⟩ (by omega)
        by_cases hb : b = m - 1
        · subst hb
          exact decide_eq_false h1
        · exact hno b (by omega) h3
      · have h1 := Classical.not_not.mp h1
        have : sdB ln pk r' o' = true := by
          unfold sdB
          rw [if_neg (by omega), decide_eq_true hlt, Bool.true_and, List.any_eq_true]
          exact ⟨m - 1, List.mem_range.mpr (by omega), decide_eq_true h1⟩
        rw [this] at hK
        exact hK
  refine hZ (rg_cut [55]) 400 0 _ _ _ ?_; simp only [rg_e_aload_0 (cut := rg_cut [55]) (f := true) d_R_isSaidBy_0 rfl 1 rfl, rg_e_getr (P := P_R_isSaidBy) (cut := rg_cut [55]) (f := false) d_R_isSaidBy_1 rfl 4 rfl 1 1 1 3 rfl (fun _ => rfl), rg_e_iload_2 (cut := rg_cut [55]) (f := false) d_R_isSaidBy_4 rfl 5 rfl, rg_e_iald (cut := rg_cut [55]) (f := false) d_R_isSaidBy_5 rfl 6 rfl 3 9 rfl, rg_e_aload_0 (cut := rg_cut [55]) (f := false) d_R_isSaidBy_6 rfl 7 rfl, rg_e_getr (P := P_R_isSaidBy) (cut := rg_cut [55]) (f := false) d_R_isSaidBy_7 rfl 10 rfl 1 1 1 3 rfl (fun _ => rfl), rg_e_iload_1 (cut := rg_cut [55]) (f := false) d_R_isSaidBy_10 rfl 11 rfl, rg_e_iald (cut := rg_cut [55]) (f := false) d_R_isSaidBy_11 rfl 12 rfl 3 9 rfl, rg_e_icmp_ne (cut := rg_cut [55]) (f := false) d_R_isSaidBy_12 rfl 15 rfl 41 rfl, rg_e_iload_2 (cut := rg_cut [55]) (f := false) d_R_isSaidBy_15 rfl 16 rfl, rg_e_iload_1 (cut := rg_cut [55]) (f := false) d_R_isSaidBy_16 rfl 17 rfl, rg_e_icmp_ge (cut := rg_cut [55]) (f := false) d_R_isSaidBy_17 rfl 20 rfl 39 rfl, rg_e_aload_0 (cut := rg_cut [55]) (f := false) d_R_isSaidBy_20 rfl 21 rfl, rg_e_getr (P := P_R_isSaidBy) (cut := rg_cut [55]) (f := false) d_R_isSaidBy_21 rfl 24 rfl 1 1 0 2 rfl (fun _ => rfl), rg_e_iload_2 (cut := rg_cut [55]) (f := false) d_R_isSaidBy_24 rfl 25 rfl, rg_e_iald (cut := rg_cut [55]) (f := false) d_R_isSaidBy_25 rfl 26 rfl 2 9 rfl, rg_e_aload_0 (cut := rg_cut [55]) (f := false) d_R_isSaidBy_26 rfl 27 rfl, rg_e_getr (P := P_R_isSaidBy) (cut := rg_cut [55]) (f := false) d_R_isSaidBy_27 rfl 30 rfl 1 1 0 2 rfl (fun _ => rfl), rg_e_iload_1 (cut := rg_cut [55]) (f := false) d_R_isSaidBy_30 rfl 31 rfl, rg_e_iald (cut := rg_cut [55]) (f := false) d_R_isSaidBy_31 rfl 32 rfl 2 9 rfl, rg_e_icmp_ne (cut := rg_cut [55]) (f := false) d_R_isSaidBy_32 rfl 35 rfl 39 rfl, rg_e_iconst (cut := rg_cut [55]) (f := false) d_R_isSaidBy_35 rfl 36 rfl (nI 1) rg_ki_1, rg_e_goto (cut := rg_cut [55]) (f := false) d_R_isSaidBy_36 rfl 40 rfl, rg_e_iconst (cut := rg_cut [55]) (f := false) d_R_isSaidBy_39 rfl 40 rfl (nI 0) rg_ki_0, rg_e_iret (cut := rg_cut [55]) (f := false) d_R_isSaidBy_40 rfl, rg_e_aload_0 (cut := rg_cut [55]) (f := false) d_R_isSaidBy_41 rfl 42 rfl, rg_e_getr (P := P_R_isSaidBy) (cut := rg_cut [55]) (f := false) d_R_isSaidBy_42 rfl 45 rfl 1 1 1 3 rfl (fun _ => rfl), rg_e_iload_2 (cut := rg_cut [55]) (f := false) d_R_isSaidBy_45 rfl 46 rfl, rg_e_iald (cut := rg_cut [55]) (f := false) d_R_isSaidBy_46 rfl 47 rfl 3 9 rfl, rg_e_aload_0 (cut := rg_cut [55]) (f := false) d_R_isSaidBy_47 rfl 48 rfl, rg_e_getr (P := P_R_isSaidBy) (cut := rg_cut [55]) (f := false) d_R_isSaidBy_48 rfl 51 rfl 1 1 1 3 rfl (fun _ => rfl), rg_e_iload_1 (cut := rg_cut [55]) (f := false) d_R_isSaidBy_51 rfl 52 rfl, rg_e_iald (cut := rg_cut [55]) (f := false) d_R_isSaidBy_52 rfl 53 rfl 3 9 rfl, rg_e_isub (cut := rg_cut [55]) (f := false) d_R_isSaidBy_53 rfl 54 rfl, rg_e_istore_3 (cut := rg_cut [55]) (f := false) d_R_isSaidBy_54 rfl 55 rfl, rg_e_cut (cut := rg_cut [55]) 55 rfl, rg_nx_i, rg_nx_v, rg_wd_n, rg_wd_i, rg_wd_l, rg_wd_r, rg_clr_i, rg_clr_l, rg_clr_r, rg_clr_a, rg_clr_n, true_and, and_true, Nat.reduceAdd, Nat.reduceLeDiff, ↓Te_R_lowest, rg_rt_e, rg_fit_ie, rg_fit_ve, rg_fit_1e, rg_fit_0e, rg_fit_be, vr, vo, cr, co, a4, a5, b4, b5, e1, e2, e3]
  refine ⟨fun h => ?_, fun h => ⟨fun h2 => ?_, fun h2 => ⟨fun h3 => ?_, fun h3 => ?_⟩⟩⟩
  · by_cases hlt : ln r' < ln o'
    · rw [pk_sub (by omega)]
      have := loop hlt (ln o' - ln r' + 1) ⟨by omega, fun b h1 h2 => by omega⟩
      rw [pk_sub (by omega), Nat.add_sub_cancel] at this
      exact this
    · refine hZ (rg_cut [55]) 400 55 _ _ _ ?_; simp only [rg_e_iload_3 (cut := rg_cut [55]) (f := true) d_R_isSaidBy_55 rfl 56 rfl, rg_e_if_lt (cut := rg_cut [55]) (f := false) d_R_isSaidBy_56 rfl 59 rfl 95 rfl, rg_e_aload_0 (cut := rg_cut [55]) (f := false) d_R_isSaidBy_59 rfl 60 rfl, rg_e_getr (P := P_R_isSaidBy) (cut := rg_cut [55]) (f := false) d_R_isSaidBy_60 rfl 63 rfl 1 1 0 2 rfl (fun _ => rfl), rg_e_iload_2 (cut := rg_cut [55]) (f := false) d_R_isSaidBy_63 rfl 64 rfl, rg_e_iald (cut := rg_cut [55]) (f := false) d_R_isSaidBy_64 rfl 65 rfl 2 9 rfl, rg_e_iconst (cut := rg_cut [55]) (f := false) d_R_isSaidBy_65 rfl 66 rfl (nI 2) rg_ki_2, rg_e_iload_3 (cut := rg_cut [55]) (f := false) d_R_isSaidBy_66 rfl 67 rfl, rg_e_imul (cut := rg_cut [55]) (f := false) d_R_isSaidBy_67 rfl 68 rfl, rg_e_ishr (cut := rg_cut [55]) (f := false) d_R_isSaidBy_68 rfl 69 rfl, rg_e_aload_0 (cut := rg_cut [55]) (f := false) d_R_isSaidBy_69 rfl 70 rfl, rg_e_getr (P := P_R_isSaidBy) (cut := rg_cut [55]) (f := false) d_R_isSaidBy_70 rfl 73 rfl 1 1 1 3 rfl (fun _ => rfl), rg_e_iload_1 (cut := rg_cut [55]) (f := false) d_R_isSaidBy_73 rfl 74 rfl, rg_e_iald (cut := rg_cut [55]) (f := false) d_R_isSaidBy_74 rfl 75 rfl 3 9 rfl, rg_e_cs2 (P := P_R_isSaidBy) (cut := rg_cut [55]) (f := false) d_R_isSaidBy_75 rfl T_R_lowest rfl, rg_e_aload_0 (cut := rg_cut [55]) (f := false) d_R_isSaidBy_78 rfl 79 rfl, rg_e_getr (P := P_R_isSaidBy) (cut := rg_cut [55]) (f := false) d_R_isSaidBy_79 rfl 82 rfl 1 1 0 2 rfl (fun _ => rfl), rg_e_iload_1 (cut := rg_cut [55]) (f := false) d_R_isSaidBy_82 rfl 83 rfl, rg_e_iald (cut := rg_cut [55]) (f := false) d_R_isSaidBy_83 rfl 84 rfl 2 9 rfl, rg_e_icmp_ne (cut := rg_cut [55]) (f := false) d_R_isSaidBy_84 rfl 87 rfl 89 rfl, rg_e_iconst (cut := rg_cut [55]) (f := false) d_R_isSaidBy_87 rfl 88 rfl (nI 1) rg_ki_1, rg_e_iret (cut := rg_cut [55]) (f := false) d_R_isSaidBy_88 rfl, rg_e_iinc_3 (cut := rg_cut [55]) (f := false) d_R_isSaidBy_89 rfl 92 rfl (-1) rg_ki_m1, rg_e_goto (cut := rg_cut [55]) (f := false) d_R_isSaidBy_92 rfl 55 rfl, rg_e_iconst (cut := rg_cut [55]) (f := false) d_R_isSaidBy_95 rfl 96 rfl (nI 0) rg_ki_0, rg_e_iret (cut := rg_cut [55]) (f := false) d_R_isSaidBy_96 rfl, rg_e_cut (cut := rg_cut [55]) 55 rfl, rg_nx_i, rg_nx_v, rg_wd_n, rg_wd_i, rg_wd_l, rg_wd_r, rg_clr_i, rg_clr_l, rg_clr_r, rg_clr_a, rg_clr_n, true_and, and_true, Nat.reduceAdd, Nat.reduceLeDiff, ↓Te_R_lowest, rg_rt_e, rg_fit_ie, rg_fit_ve, rg_fit_1e, rg_fit_0e, rg_fit_be, vr, vo, cr, co, a4, a5, b4, b5]
      refine ⟨fun _ => ?_, fun h9 => absurd (pk_sneg (by omega) (by omega)) h9⟩
      have : sdB ln pk r' o' = false := by
        unfold sdB
        rw [if_neg h, decide_eq_false hlt, Bool.false_and]
      rw [this] at hK
      exact hK
  all_goals have h := Classical.not_not.mp h
  · have : sdB ln pk r' o' = false := by
      unfold sdB
      rw [if_pos h, decide_eq_false (by omega), Bool.false_and]
    rw [this] at hK
    exact hK
  · have : sdB ln pk r' o' = false := by
      unfold sdB
      rw [if_pos h, decide_eq_false h3, Bool.and_false]
    rw [this] at hK
    exact hK
  · have h3 := Classical.not_not.mp h3
    have : sdB ln pk r' o' = true := by
      unfold sdB
      rw [if_pos h, decide_eq_true (by omega), decide_eq_true h3]
      rfl
    rw [this] at hK
    exact hK
/-- a node -/
def ndB (nr : Nat) (ln pk : Nat → Nat) (x : Int32) : Bool := !decide (x < 0) && !decide (nI nr ≤ x) && !(List.range nr).any (fun o => sdB ln pk x.toNatClampNeg o)
-- R.isNode
def P_R_isNode : rg_P := (rg_F_R, [(53, 2, 0, T_R_has), (61, 3, 0, T_R_isSaidBy)], [], [], [], [], 0)
def T_R_isNode : rg_T := fun as w K => match as with
  | [.ref 1, .int x] => ∃ nr ln pk, Rd nr ln pk w ∧ K (some (.int (zI (ndB nr ln pk x)))) w
  | _ => False
theorem Te_R_isNode (x : Int32) (w : rg_W) (K : Option Value → rg_W → Prop) : T_R_isNode [.ref 1, .int x] w K = (∃ nr ln pk, Rd nr ln pk w ∧ K (some (.int (zI (ndB nr ln pk x)))) w) := rfl
theorem r_R_isNode : ∀ as w K, T_R_isNode as w K → ∃ r, as = .ref 1 :: r := by
  intro as w K h
  unfold T_R_isNode at h
  split at h
  · exact ⟨_, rfl⟩
  · exact h.elim
theorem G_R_isNode (l : Launch) : rg_Good l y_R_isNode c_R_isNode 3 (some .boolean) 2 T_R_isNode := by
  refine rg_good_of (P := P_R_isNode) (by decide) (rg_pok rg_F_R_ok (rg_cons (cw_R_26 (G_R_has l) (by decide) r_R_has) (rg_cons (cw_R_30 (G_R_isSaidBy l) (by decide) r_R_isSaidBy) rg_nil))) ?_
  intro as w K Z hT hZ
  unfold T_R_isNode at hT
  split at hT
  rotate_left
  · exact hT.elim
  rename_i x
  refine ⟨Nat.le_of_ble_eq_true rfl, ?_⟩
  show Z 0 [.ref 1, .int x, .null] [] w 0
  obtain ⟨nr, ln, pk, hR, hK⟩ := hT
  obtain ⟨hn9, hc, hall⟩ := id hR
  have loop : ∀ (r o : Nat), x = nI r → (r < nr ∧ o ≤ nr ∧ ∀ b, b < o → sdB ln pk r b = false) → Z 12 [.ref 1, .int x, .int (nI o)] [] w 0 := by
    rintro r o rfl
    revert o
    refine rg_lp1 _ _ (fun o => nr - o) ?_
    intro o ⟨hr, ho, hno⟩ ih
    have cr : (nI r).toNatClampNeg = r := nI_clamp (by omega)
    refine hZ (rg_cut [12]) 400 12 _ _ _ ?_; simp only [rg_e_iload_2 (cut := rg_cut [12]) (f := true) d_R_isNode_12 rfl 13 rfl, rg_e_aload_0 (cut := rg_cut [12]) (f := false) d_R_isNode_13 rfl 14 rfl, rg_e_geti (P := P_R_isNode) (cut := rg_cut [12]) (f := false) d_R_isNode_14 rfl 17 rfl 1 1 2 rfl (fun _ => rfl), rg_e_icmp_ge (cut := rg_cut [12]) (f := false) d_R_isNode_17 rfl 20 rfl 37 rfl, rg_e_aload_0 (cut := rg_cut [12]) (f := false) d_R_isNode_20 rfl 21 rfl, rg_e_iload_1 (cut := rg_cut [12]) (f := false) d_R_isNode_21 rfl 22 rfl, rg_e_iload_2 (cut := rg_cut [12]) (f := false) d_R_isNode_22 rfl 23 rfl, rg_e_cv3 (P := P_R_isNode) (cut := rg_cut [12]) (f := false) d_R_isNode_23 rfl T_R_isSaidBy rfl, rg_e_if_eq (cut := rg_cut [12]) (f := false) d_R_isNode_26 rfl 29 rfl 31 rfl, rg_e_iconst (cut := rg_cut [12]) (f := false) d_R_isNode_29 rfl 30 rfl (nI 0) rg_ki_0, rg_e_iret (cut := rg_cut [12]) (f := false) d_R_isNode_30 rfl, rg_e_iinc_2 (cut := rg_cut [12]) (f := false) d_R_isNode_31 rfl 34 rfl (nI 1) rg_ki_1, rg_e_goto (cut := rg_cut [12]) (f := false) d_R_isNode_34 rfl 12 rfl, rg_e_iconst (cut := rg_cut [12]) (f := false) d_R_isNode_37 rfl 38 rfl (nI 1) rg_ki_1, rg_e_iret (cut := rg_cut [12]) (f := false) d_R_isNode_38 rfl, rg_e_cut (cut := rg_cut [12]) 12 rfl, rg_nx_i, rg_nx_v, rg_wd_n, rg_wd_i, rg_wd_l, rg_wd_r, rg_clr_i, rg_clr_l, rg_clr_r, rg_clr_a, rg_clr_n, true_and, and_true, Nat.reduceAdd, Nat.reduceLeDiff, ↓Te_R_has, ↓Te_R_isSaidBy, rg_rt_e, rg_fit_ie, rg_fit_ve, rg_fit_1e, rg_fit_0e, rg_fit_be, hc, zI_eq]
    rw [nI_lep (by omega) (by omega)]
    refine ⟨fun h => ?_, fun h => ⟨nr, ln, pk, r, o, hR, rfl, rfl, hr, by omega, fun h1 => ?_, fun h1 => ?_⟩⟩
    · have : ndB nr ln pk (nI r) = true := by
        unfold ndB
        rw [cr, decide_eq_false (nI_pos (by omega)), decide_eq_false (nI_ge hr (by omega)), List.any_eq_false.mpr (fun b hb => by rw [hno b (by have := List.mem_range.mp hb; omega)]; decide)]
        rfl
      rw [this] at hK
      exact hK
    · rw [nI_add]
      refine ih (o + 1) ⟨hr, by omega, fun b hb => ?_⟩ (by omega)
      by_cases hbo : b = o
      · subst hbo
        exact h1
      · exact hno b (by omega)
    · have : ndB nr ln pk (nI r) = false := by
        unfold ndB
        rw [cr, List.any_eq_true.mpr ⟨o, List.mem_range.mpr (by omega), by simpa using h1⟩]
        simp
      rw [this] at hK
      exact hK
  refine hZ (rg_cut [12]) 400 0 _ _ _ ?_; simp only [rg_e_aload_0 (cut := rg_cut [12]) (f := true) d_R_isNode_0 rfl 1 rfl, rg_e_iload_1 (cut := rg_cut [12]) (f := false) d_R_isNode_1 rfl 2 rfl, rg_e_cv2 (P := P_R_isNode) (cut := rg_cut [12]) (f := false) d_R_isNode_2 rfl T_R_has rfl, rg_e_if_ne (cut := rg_cut [12]) (f := false) d_R_isNode_5 rfl 8 rfl 10 rfl, rg_e_iconst (cut := rg_cut [12]) (f := false) d_R_isNode_8 rfl 9 rfl (nI 0) rg_ki_0, rg_e_iret (cut := rg_cut [12]) (f := false) d_R_isNode_9 rfl, rg_e_iconst (cut := rg_cut [12]) (f := false) d_R_isNode_10 rfl 11 rfl (nI 0) rg_ki_0, rg_e_istore_2 (cut := rg_cut [12]) (f := false) d_R_isNode_11 rfl 12 rfl, rg_e_cut (cut := rg_cut [12]) 12 rfl, rg_nx_i, rg_nx_v, rg_wd_n, rg_wd_i, rg_wd_l, rg_wd_r, rg_clr_i, rg_clr_l, rg_clr_r, rg_clr_a, rg_clr_n, true_and, and_true, Nat.reduceAdd, Nat.reduceLeDiff, ↓Te_R_has, ↓Te_R_isSaidBy, rg_rt_e, rg_fit_ie, rg_fit_ve, rg_fit_1e, rg_fit_0e, rg_fit_be, hc, zI_eq]
  refine ⟨fun h => ?_, fun h => ?_⟩
  · simp only [Bool.and_eq_false_imp, Bool.not_eq_true', decide_eq_false_iff_not, Bool.not_eq_false', decide_eq_true_eq, Classical.not_imp] at h
    have hx : ¬ x < 0 ∧ ¬ nI nr ≤ x := by simpa using h
    obtain ⟨r, hr, rfl⟩ := pk_ix x (n := nr) (by omega) |>.resolve_left hx.1 |>.resolve_left hx.2
    exact loop r 0 rfl ⟨hr, by omega, fun b hb => absurd hb (by omega)⟩
  · have : ndB nr ln pk x = false := by
      unfold ndB
      have h := Classical.not_not.mp h
      rw [h, Bool.false_and]
    rw [this] at hK
    exact hK
/-- the greatest n from least to m with p n, or 0 -/
def gtF (p : Nat → Bool) (least : Nat) : Nat → Nat
  | 0 => 0
  | m + 1 => if least ≤ m + 1 ∧ p (m + 1) = true then m + 1 else gtF p least m
def shB (ln pk : Nat → Nat) (i j n : Nat) : Bool := decide (pk i % 4 ^ n = pk j / 4 ^ (ln j - n))
def ovN (ln pk : Nat → Nat) (i j least : Nat) : Nat := gtF (shB ln pk i j) least (min (ln i) (ln j) - 1)
theorem gtF_lo {p : Nat → Bool} {least : Nat} : ∀ m, m < least → gtF p least m = 0
  | 0, _ => rfl
  | m + 1, h => by
    rw [gtF, if_neg (by omega)]
    exact gtF_lo m (by omega)
-- R.lettersShared
def P_R_lettersShared : rg_P := (rg_F_R, [(68, 2, 0, T_J_min), (44, 2, 0, T_R_lowest)], [], [], [], [], 0)
def T_R_lettersShared : rg_T := fun as w K => match as with
  | [.ref 1, .int i, .int j, .int least] => ∃ nr ln pk i' j' least', Rd nr ln pk w ∧ i = nI i' ∧ j = nI j' ∧ i' < nr ∧ j' < nr ∧ least = nI least' ∧ 1 ≤ least' ∧ least' ≤ 12 ∧ K (some (.int (nI (ovN ln pk i' j' least')))) w
  | _ => False
theorem Te_R_lettersShared (i : Int32) (j : Int32) (least : Int32) (w : rg_W) (K : Option Value → rg_W → Prop) : T_R_lettersShared [.ref 1, .int i, .int j, .int least] w K = (∃ nr ln pk i' j' least', Rd nr ln pk w ∧ i = nI i' ∧ j = nI j' ∧ i' < nr ∧ j' < nr ∧ least = nI least' ∧ 1 ≤ least' ∧ least' ≤ 12 ∧ K (some (.int (nI (ovN ln pk i' j' least')))) w) := rfl
theorem r_R_lettersShared : ∀ as w K, T_R_lettersShared as w K → ∃ r, as = .ref 1 :: r := by
  intro as w K h
  unfold T_R_lettersShared at h
  split at h
  · exact ⟨_, rfl⟩
  · exact h.elim
theorem G_R_lettersShared (l : Launch) : rg_Good l y_R_lettersShared c_R_lettersShared 5 (some .int) 1 T_R_lettersShared := by
  refine rg_good_of (P := P_R_lettersShared) (by decide) (rg_pok rg_F_R_ok (rg_cons (cw_R_34 (by decide)) (rg_cons (cw_R_22 (G_R_lowest l) (by decide)) rg_nil))) ?_
  intro as w K Z hT hZ
  unfold T_R_lettersShared at hT
  split at hT
  rotate_left
  · exact hT.elim
  rename_i i j least
  refine ⟨Nat.le_of_ble_eq_true rfl, ?_⟩
  show Z 0 [.ref 1, .int i, .int j, .int least, .null] [] w 0
  obtain ⟨nr, ln, pk, i', j', least', hR, rfl, rfl, hi, hj, rfl, l1, l2, hK⟩ := hT
  obtain ⟨hn9, -, hall⟩ := id hR
  obtain ⟨a1, a2, a3, a4, a5⟩ := hall i' hi
  obtain ⟨b1, b2, b3, b4, b5⟩ := hall j' hj
  have pi := hR.pk_lt hi
  have pj := hR.pk_lt hj
  have vi : vp_in (nI i') 9 := vp_in_nI (by omega) (by omega)
  have vj : vp_in (nI j') 9 := vp_in_nI (by omega) (by omega)
  have ci : (nI i').toNatClampNeg = i' := nI_clamp (by omega)
  have cj : (nI j').toNatClampNeg = j' := nI_clamp (by omega)
  have loop : ∀ m, (m + 1 ≤ ln i' ∧ m + 1 ≤ ln j' ∧ gtF (shB ln pk i' j') least' m = ovN ln pk i' j' least') → Z 19 [.ref 1, .int (nI i'), .int (nI j'), .int (nI least'), .int (nI m)] [] w 0 := by
    refine rg_lp1 _ _ (fun m => m) ?_
    intro m ⟨h1, h2, h3⟩ ih
    refine hZ (rg_cut [19]) 400 19 _ _ _ ?_; simp only [rg_e_iload_4 (cut := rg_cut [19]) (f := true) d_R_lettersShared_19 rfl 21 rfl, rg_e_iload_3 (cut := rg_cut [19]) (f := false) d_R_lettersShared_21 rfl 22 rfl, rg_e_icmp_lt (cut := rg_cut [19]) (f := false) d_R_lettersShared_22 rfl 25 rfl 66 rfl, rg_e_aload_0 (cut := rg_cut [19]) (f := false) d_R_lettersShared_25 rfl 26 rfl, rg_e_getr (P := P_R_lettersShared) (cut := rg_cut [19]) (f := false) d_R_lettersShared_26 rfl 29 rfl 1 1 0 2 rfl (fun _ => rfl), rg_e_iload_1 (cut := rg_cut [19]) (f := false) d_R_lettersShared_29 rfl 30 rfl, rg_e_iald (cut := rg_cut [19]) (f := false) d_R_lettersShared_30 rfl 31 rfl 2 9 rfl, rg_e_iload_4 (cut := rg_cut [19]) (f := false) d_R_lettersShared_31 rfl 33 rfl, rg_e_cs2 (P := P_R_lettersShared) (cut := rg_cut [19]) (f := false) d_R_lettersShared_33 rfl T_R_lowest rfl, rg_e_aload_0 (cut := rg_cut [19]) (f := false) d_R_lettersShared_36 rfl 37 rfl, rg_e_getr (P := P_R_lettersShared) (cut := rg_cut [19]) (f := false) d_R_lettersShared_37 rfl 40 rfl 1 1 0 2 rfl (fun _ => rfl), rg_e_iload_2 (cut := rg_cut [19]) (f := false) d_R_lettersShared_40 rfl 41 rfl, rg_e_iald (cut := rg_cut [19]) (f := false) d_R_lettersShared_41 rfl 42 rfl 2 9 rfl, rg_e_iconst (cut := rg_cut [19]) (f := false) d_R_lettersShared_42 rfl 43 rfl (nI 2) rg_ki_2, rg_e_aload_0 (cut := rg_cut [19]) (f := false) d_R_lettersShared_43 rfl 44 rfl, rg_e_getr (P := P_R_lettersShared) (cut := rg_cut [19]) (f := false) d_R_lettersShared_44 rfl 47 rfl 1 1 1 3 rfl (fun _ => rfl), rg_e_iload_2 (cut := rg_cut [19]) (f := false) d_R_lettersShared_47 rfl 48 rfl, rg_e_iald (cut := rg_cut [19]) (f := false) d_R_lettersShared_48 rfl 49 rfl 3 9 rfl, rg_e_iload_4 (cut := rg_cut [19]) (f := false) d_R_lettersShared_49 rfl 51 rfl, rg_e_isub (cut := rg_cut [19]) (f := false) d_R_lettersShared_51 rfl 52 rfl, rg_e_imul (cut := rg_cut [19]) (f := false) d_R_lettersShared_52 rfl 53 rfl, rg_e_ishr (cut := rg_cut [19]) (f := false) d_R_lettersShared_53 rfl 54 rfl, rg_e_icmp_ne (cut := rg_cut [19]) (f := false) d_R_lettersShared_54 rfl 57 rfl 60 rfl, rg_e_iload_4 (cut := rg_cut [19]) (f := false) d_R_lettersShared_57 rfl 59 rfl, rg_e_iret (cut := rg_cut [19]) (f := false) d_R_lettersShared_59 rfl, rg_e_iinc_4 (cut := rg_cut [19]) (f := false) d_R_lettersShared_60 rfl 63 rfl (-1) rg_ki_m1, rg_e_goto (cut := rg_cut [19]) (f := false) d_R_lettersShared_63 rfl 19 rfl, rg_e_iconst (cut := rg_cut [19]) (f := false) d_R_lettersShared_66 rfl 67 rfl (nI 0) rg_ki_0, rg_e_iret (cut := rg_cut [19]) (f := false) d_R_lettersShared_67 rfl, rg_e_cut (cut := rg_cut [19]) 19 rfl, rg_nx_i, rg_nx_v, rg_wd_n, rg_wd_i, rg_wd_l, rg_wd_r, rg_clr_i, rg_clr_l, rg_clr_r, rg_clr_a, rg_clr_n, true_and, and_true, Nat.reduceAdd, Nat.reduceLeDiff, ↓Te_J_min, ↓Te_R_lowest, rg_rt_e, rg_fit_ie, rg_fit_ve, rg_fit_1e, rg_fit_0e, rg_fit_be, vi, vj, ci, cj, a4, a5, b4, b5]
    rw [nI_ltp (by omega) (by omega)]
    refine ⟨fun h => ?_, fun h => ?_⟩
    · rw [gtF_lo m h] at h3
      rw [← h3] at hK
      exact hK
    · have hm : m = (m - 1) + 1 := by omega
      rw [lowI_n (by omega) (by omega), pk_sub (by omega), shr_n (by omega) (by omega)]
      have q1 : pk i' % 4 ^ m ≤ pk i' := Nat.mod_le _ _
      have q2 : pk j' / 4 ^ (ln j' - m) ≤ pk j' := Nat.div_le_self _ _
      rw [nI_eqp (by omega) (by omega)]
      refine ⟨fun h4 => ?_, fun h4 => ?_⟩
      · rw [i_m1, pk_sub (by omega)]
        refine ih (m - 1) ⟨by omega, by omega, ?_⟩ (by omega)
        rw [← h3]
        rw [hm, gtF, if_neg, Nat.add_sub_cancel]
        rw [← hm]
        rintro ⟨-, q⟩
        exact h4 (of_decide_eq_true q)
      · have h4 := Classical.not_not.mp h4
        have : gtF (shB ln pk i' j') least' m = m := by
          rw [hm, gtF, if_pos]
          rw [← hm]
          exact ⟨by omega, decide_eq_true h4⟩
        rw [← h3, this] at hK
        exact hK
  refine hZ (rg_cut [19]) 400 0 _ _ _ ?_; simp only [rg_e_aload_0 (cut := rg_cut [19]) (f := true) d_R_lettersShared_0 rfl 1 rfl, rg_e_getr (P := P_R_lettersShared) (cut := rg_cut [19]) (f := false) d_R_lettersShared_1 rfl 4 rfl 1 1 1 3 rfl (fun _ => rfl), rg_e_iload_1 (cut := rg_cut [19]) (f := false) d_R_lettersShared_4 rfl 5 rfl, rg_e_iald (cut := rg_cut [19]) (f := false) d_R_lettersShared_5 rfl 6 rfl 3 9 rfl, rg_e_aload_0 (cut := rg_cut [19]) (f := false) d_R_lettersShared_6 rfl 7 rfl, rg_e_getr (P := P_R_lettersShared) (cut := rg_cut [19]) (f := false) d_R_lettersShared_7 rfl 10 rfl 1 1 1 3 rfl (fun _ => rfl), rg_e_iload_2 (cut := rg_cut [19]) (f := false) d_R_lettersShared_10 rfl 11 rfl, rg_e_iald (cut := rg_cut [19]) (f := false) d_R_lettersShared_11 rfl 12 rfl 3 9 rfl, rg_e_cs2 (P := P_R_lettersShared) (cut := rg_cut [19]) (f := false) d_R_lettersShared_12 rfl T_J_min rfl, rg_e_iconst (cut := rg_cut [19]) (f := false) d_R_lettersShared_15 rfl 16 rfl (nI 1) rg_ki_1, rg_e_isub (cut := rg_cut [19]) (f := false) d_R_lettersShared_16 rfl 17 rfl, rg_e_istore_4 (cut := rg_cut [19]) (f := false) d_R_lettersShared_17 rfl 19 rfl, rg_e_cut (cut := rg_cut [19]) 19 rfl, rg_nx_i, rg_nx_v, rg_wd_n, rg_wd_i, rg_wd_l, rg_wd_r, rg_clr_i, rg_clr_l, rg_clr_r, rg_clr_a, rg_clr_n, true_and, and_true, Nat.reduceAdd, Nat.reduceLeDiff, ↓Te_J_min, ↓Te_R_lowest, rg_rt_e, rg_fit_ie, rg_fit_ve, rg_fit_1e, rg_fit_0e, rg_fit_be, vi, vj, ci, cj, a4, a5, b4, b5]
  have hmin : (if nI (ln j') < nI (ln i') then nI (ln j') else nI (ln i')) = nI (min (ln i') (ln j')) := by
    by_cases h : ln j' < ln i'
    · rw [if_pos (nI_lt h (by omega)), Nat.min_eq_right (by omega)]
    · rw [if_neg (nI_nlt (by omega) (by omega)), Nat.min_eq_left (by omega)]
  rw [hmin, pk_sub (by omega)]
  exact loop _ ⟨by omega, by omega, rfl⟩
