/-! the reference: kind, what escapes, what is safe -/
noncomputable def strI (nr : Nat) (nd : Nat → Bool) (hg : Nat → Nat → Nat) (i : Nat) : Bool := (List.range nr).all (fun j => !nd j || rcB (kE hg) i j)
theorem TC.last {E : Nat → Nat → Bool} {i j : Nat} : TC E i j → ∃ k, E k j = true := by
  rintro ⟨n, h⟩
  induction n generalizing i with
  | zero => exact ⟨i, h⟩
  | succ n ih =>
    obtain ⟨k, hk, h1, h2⟩ := h
    exact ih h2
theorem kE_hg {hg : Nat → Nat → Nat} {a b : Nat} (hb : b < 9) (h : kE hg a b = true) : hg a b ≠ 0 := by
  unfold kE kp at h
  rw [show (9 * a + b) / 9 = a by omega, show (9 * a + b) % 9 = b by omega] at h
  simp at h
  exact h.1
theorem cnF_up {p : Nat → Bool} {n : Nat} : ∀ m, (∀ i, n ≤ i → p i = false) → cnF p (n + m) = cnF p n
  | 0, _ => rfl
  | m + 1, h => by
    rw [← Nat.add_assoc, cnF, if_neg (by rw [h _ (by omega)]; decide), cnF_up m h]
    rfl
theorem sh_of {nr : Nat} {nd : Nat → Bool} {hg : Nat → Nat → Nat} (hn : nr ≤ 9) (h1 : ∀ i, nr ≤ i → nd i = false) (h2 : ∀ a b, hg a b ≠ 0 → nd b = true) : shN nd hg = if (decide (0 < eN hg) && (List.range nr).all (fun i => !nd i || strI nr nd hg i)) = false then 0 else if eN hg = cnF nd nr then 1 else 2 := by
  unfold shN
  have hc : cnF nd 9 = cnF nd nr := by
    have := cnF_up (p := nd) (n := nr) (9 - nr) h1
    rwa [show nr + (9 - nr) = 9 by omega] at this
  have key : ((List.range 9).any (fun i => nd i && !(List.range 9).all (fun j => rcB (kE hg) i j == nd j)) = true) ↔ (List.range nr).all (fun i => !nd i || strI nr nd hg i) = false := by
    have e1 : ∀ i, i < 9 → ((List.range 9).all (fun j => rcB (kE hg) i j == nd j) = true ↔ strI nr nd hg i = true) := by
      intro i hi
      rw [all9]
      unfold strI
      rw [List.all_eq_true]
      constructor
      · intro h j hj
        rw [h j (by have := List.mem_range.mp hj; omega)]
        cases nd j <;> rfl
      · intro h j hj
        by_cases hjn : nd j = true
        · have hlt : j < nr := by
            rcases Nat.lt_or_ge j nr with q | q
            · exact q
            · rw [h1 j q] at hjn; cases hjn
          have := h j (List.mem_range.mpr hlt)
          rw [hjn] at this ⊢
          simpa using this
        · have hf : nd j = false := by simpa using hjn
          rw [hf, ← Bool.not_eq_true]
          intro z
          obtain ⟨k, hk⟩ := (rcB_iff.mp z).last
          exact hjn (h2 k j (kE_hg hj hk))
    rw [List.any_eq_true, List.all_eq_false]
    constructor
    · rintro ⟨i, hi, h⟩
      rw [Bool.and_eq_true, Bool.not_eq_true'] at h
      have hlt : i < nr := by
        rcases Nat.lt_or_ge i nr with q | q
        · exact q
        · rw [h1 i q] at h; cases h.1
      refine ⟨i, List.mem_range.mpr hlt, ?_⟩
      rw [h.1]
      have : strI nr nd hg i = false := by
        rw [← Bool.not_eq_true]
        intro z
        rw [(e1 i (List.mem_range.mp hi)).mpr z] at h
        cases h.2
      rw [this]
      decide
    · rintro ⟨i, hi, h⟩
      have hlt := List.mem_range.mp hi
      refine ⟨i, List.mem_range.mpr (by omega), ?_⟩
      simp only [Bool.not_eq_true, Bool.or_eq_false_iff, Bool.not_eq_false'] at h
      rw [h.1, Bool.true_and, Bool.not_eq_true', ← Bool.not_eq_true]
      intro z
      rw [(e1 i (by omega)).mp z] at h
      cases h.2
  show (if eN hg = 0 then 0 else _) = _
  by_cases he : eN hg = 0
  · rw [if_pos he, if_pos]
    rw [decide_eq_false (by omega)]
    rfl
  · rw [if_neg he, decide_eq_true (by omega), Bool.true_and, hc]
    by_cases h : (List.range nr).all (fun i => !nd i || strI nr nd hg i) = false
    · rw [if_pos (key.mpr h), if_pos h]
    · rw [if_neg (fun z => h (key.mp z)), if_neg h]
      rfl
-- M.kind
def P_M_kind : rg_P := (rg_F_M, [], [], [], [], [], 0)
def T_M_kind : rg_T := fun as w K => match as with
  | [.ref 18] => ∃ nr ln pk hg, RdM nr ln pk w ∧ EgM ln hg w ∧ RcM hg w ∧ HgL nr ln hg ∧ (∀ a b, hg a b ≠ 0 → ndN nr ln pk b = true) ∧ K (some (.int (nI (shN (ndN nr ln pk) hg)))) (rg_up w 18 0 (nI 0))
  | _ => False
theorem Te_M_kind  (w : rg_W) (K : Option Value → rg_W → Prop) : T_M_kind [.ref 18] w K = (∃ nr ln pk hg, RdM nr ln pk w ∧ EgM ln hg w ∧ RcM hg w ∧ HgL nr ln hg ∧ (∀ a b, hg a b ≠ 0 → ndN nr ln pk b = true) ∧ K (some (.int (nI (shN (ndN nr ln pk) hg)))) (rg_up w 18 0 (nI 0))) := rfl
theorem r_M_kind : ∀ as w K, T_M_kind as w K → ∃ r, as = .ref 18 :: r := by
  intro as w K h
  unfold T_M_kind at h
  split at h
  · exact ⟨_, rfl⟩
  · exact h.elim
theorem G_M_kind (l : Launch) : rg_Good l y_M_kind c_M_kind 5 (some .int) 0 T_M_kind := by
  refine rg_good_of (P := P_M_kind) (by decide) (rg_pok rg_F_M_ok rg_nil) ?_
  intro as w K Z hT hZ
  unfold T_M_kind at hT
  split at hT
  rotate_left
  · exact hT.elim
  refine ⟨Nat.le_of_ble_eq_true rfl, ?_⟩
  show Z 0 [.ref 18, .null, .null, .null, .null] [] w 0
  obtain ⟨nr, ln, pk, hg, ⟨hL, hr, hc⟩, hE, hC, hH, hnd, hK⟩ := hT
  have hn9 := hL.1
  have h72 := eN_le hH.1
  have z0 : (zI false = 0) = True := by decide +kernel
  have z1 : (zI true = 0) = False := by decide +kernel
  rw [sh_of hn9 (fun i hi => by rw [← Bool.not_eq_true]; exact fun z => absurd (ndN_lt z) (by omega)) hnd] at hK
  generalize hw1 : rg_up w 18 0 (nI 0) = w1 at *
  have r1 : w1.1 18 1 = nI nr := by rw [← hw1, rg_up_s, upd_n (by decide)]; exact hr
  have r9 : w1.1 18 9 = nI (eN hg) := by rw [← hw1, rg_up_s, upd_n (by decide)]; exact hE.1
  have r21 : ∀ i, i < nr → w1.1 21 i = zI (!ndN nr ln pk i) := by rw [← hw1, rg_up_n (by decide)]; exact hc
  have r28 : RcM hg w1 := by unfold RcM; rw [← hw1, rg_up_n (by decide)]; exact hC
  have l2 : ∀ (i c : Nat) (s : Bool) (j : Nat), (i < nr ∧ j ≤ nr) → (∀ a4 : Value, Z 22 [.ref 18, .int (nI c), .int (zI (s && strI nr (ndN nr ln pk) hg i)), .int (nI (i + 1)), a4] [] w1 0) → Z 48 [.ref 18, .int (nI c), .int (zI (s && (List.range j).all (fun j => !ndN nr ln pk j || rcB (kE hg) i j))), .int (nI i), .int (nI j)] [] w1 0 := by
    intro i c s j hI hout
    revert j
    refine rg_lp1 _ _ (fun j => nr - j) ?_
    intro j ⟨hi, hj⟩ ih
    rcases Nat.lt_or_ge j nr with hj9 | hj9
    · have vj : vp_in (nI j) 9 := vp_in_nI (by omega) (by omega)
      have cj : (nI j).toNatClampNeg = j := nI_clamp (by omega)
      have x1 : nI 9 * nI i + nI j = nI (9 * i + j) := by rw [pk_mul, nI_add]
      have v1 : vp_in (nI (9 * i + j)) 81 := vp_in_nI (by omega) (by omega)
      have c1 : (nI (9 * i + j)).toNatClampNeg = 9 * i + j := nI_clamp (by omega)
      have e1 := r21 j hj9
      have e2 := r28 (9 * i + j) (by omega)
      rw [show (9 * i + j) / 9 = i by omega, show (9 * i + j) % 9 = j by omega] at e2
      have nx := ih (j + 1) ⟨hi, by omega⟩ (by omega)
      rw [rg_all_s, ← Bool.and_assoc] at nx
      generalize (s && (List.range j).all (fun j => !ndN nr ln pk j || rcB (kE hg) i j)) = s' at *
      refine hZ (rg_cut [22, 48]) 400 48 _ _ _ ?_; simp only [rg_e_iload_4 (cut := rg_cut [22, 48]) (f := true) d_M_kind_48 rfl 50 rfl, rg_e_aload_0 (cut := rg_cut [22, 48]) (f := false) d_M_kind_50 rfl 51 rfl, rg_e_geti (P := P_M_kind) (cut := rg_cut [22, 48]) (f := false) d_M_kind_51 rfl 54 rfl 18 4 1 rfl (fun _ => rfl), rg_e_icmp_ge (cut := rg_cut [22, 48]) (f := false) d_M_kind_54 rfl 57 rfl 98 rfl, rg_e_iload_2 (cut := rg_cut [22, 48]) (f := false) d_M_kind_57 rfl 58 rfl, rg_e_if_eq (cut := rg_cut [22, 48]) (f := false) d_M_kind_58 rfl 61 rfl 90 rfl, rg_e_aload_0 (cut := rg_cut [22, 48]) (f := false) d_M_kind_61 rfl 62 rfl, rg_e_getr (P := P_M_kind) (cut := rg_cut [22, 48]) (f := false) d_M_kind_62 rfl 65 rfl 18 4 4 21 rfl (fun _ => rfl), rg_e_iload_4 (cut := rg_cut [22, 48]) (f := false) d_M_kind_65 rfl 67 rfl, rg_e_zald (cut := rg_cut [22, 48]) (f := false) d_M_kind_67 rfl 68 rfl 21 9 rfl, rg_e_if_ne (cut := rg_cut [22, 48]) (f := false) d_M_kind_68 rfl 71 rfl 86 rfl, rg_e_aload_0 (cut := rg_cut [22, 48]) (f := false) d_M_kind_71 rfl 72 rfl, rg_e_getr (P := P_M_kind) (cut := rg_cut [22, 48]) (f := false) d_M_kind_72 rfl 75 rfl 18 4 13 28 rfl (fun _ => rfl), rg_e_bipush (cut := rg_cut [22, 48]) (f := false) d_M_kind_75 rfl 77 rfl (nI 9) rg_kb_9, rg_e_iload_3 (cut := rg_cut [22, 48]) (f := false) d_M_kind_77 rfl 78 rfl, rg_e_imul (cut := rg_cut [22, 48]) (f := false) d_M_kind_78 rfl 79 rfl, rg_e_iload_4 (cut := rg_cut [22, 48]) (f := false) d_M_kind_79 rfl 81 rfl, rg_e_iadd (cut := rg_cut [22, 48]) (f := false) d_M_kind_81 rfl 82 rfl, rg_e_zald (cut := rg_cut [22, 48]) (f := false) d_M_kind_82 rfl 83 rfl 28 81 rfl, rg_e_if_eq (cut := rg_cut [22, 48]) (f := false) d_M_kind_83 rfl 86 rfl 90 rfl, rg_e_iconst (cut := rg_cut [22, 48]) (f := false) d_M_kind_86 rfl 87 rfl (nI 1) rg_ki_1, rg_e_goto (cut := rg_cut [22, 48]) (f := false) d_M_kind_87 rfl 91 rfl, rg_e_iconst (cut := rg_cut [22, 48]) (f := false) d_M_kind_90 rfl 91 rfl (nI 0) rg_ki_0, rg_e_istore_2 (cut := rg_cut [22, 48]) (f := false) d_M_kind_91 rfl 92 rfl, rg_e_iinc_4 (cut := rg_cut [22, 48]) (f := false) d_M_kind_92 rfl 95 rfl (nI 1) rg_ki_1, rg_e_goto (cut := rg_cut [22, 48]) (f := false) d_M_kind_95 rfl 48 rfl, rg_e_iinc_3 (cut := rg_cut [22, 48]) (f := false) d_M_kind_98 rfl 101 rfl (nI 1) rg_ki_1, rg_e_goto (cut := rg_cut [22, 48]) (f := false) d_M_kind_101 rfl 22 rfl, rg_e_cut (cut := rg_cut [22, 48]) 22 rfl, rg_e_cut (cut := rg_cut [22, 48]) 48 rfl, rg_nx_i, rg_nx_v, rg_wd_n, rg_wd_i, rg_wd_l, rg_wd_r, rg_clr_i, rg_clr_l, rg_clr_r, rg_clr_a, rg_clr_n, true_and, and_true, Nat.reduceAdd, Nat.reduceLeDiff, rg_rt_e, rg_fit_ie, rg_fit_ve, rg_fit_1e, rg_fit_0e, rg_fit_be, r1, vj, cj, x1, v1, c1, e1, e2, zI_eq, nI_add]
      refine ⟨fun h => absurd h (nI_ge hj9 (by omega)), fun _ => ?_⟩
      cases s' <;> cases hb1 : ndN nr ln pk j <;> cases hb2 : rcB (kE hg) i j <;> rw [hb1, hb2] at nx <;> simp <;> exact nx
    · obtain rfl : j = nr := by omega
      refine hZ (rg_cut [22, 48]) 400 48 _ _ _ ?_; simp only [rg_e_iload_4 (cut := rg_cut [22, 48]) (f := true) d_M_kind_48 rfl 50 rfl, rg_e_aload_0 (cut := rg_cut [22, 48]) (f := false) d_M_kind_50 rfl 51 rfl, rg_e_geti (P := P_M_kind) (cut := rg_cut [22, 48]) (f := false) d_M_kind_51 rfl 54 rfl 18 4 1 rfl (fun _ => rfl), rg_e_icmp_ge (cut := rg_cut [22, 48]) (f := false) d_M_kind_54 rfl 57 rfl 98 rfl, rg_e_iload_2 (cut := rg_cut [22, 48]) (f := false) d_M_kind_57 rfl 58 rfl, rg_e_if_eq (cut := rg_cut [22, 48]) (f := false) d_M_kind_58 rfl 61 rfl 90 rfl, rg_e_aload_0 (cut := rg_cut [22, 48]) (f := false) d_M_kind_61 rfl 62 rfl, rg_e_getr (P := P_M_kind) (cut := rg_cut [22, 48]) (f := false) d_M_kind_62 rfl 65 rfl 18 4 4 21 rfl (fun _ => rfl), rg_e_iload_4 (cut := rg_cut [22, 48]) (f := false) d_M_kind_65 rfl 67 rfl, rg_e_zald (cut := rg_cut [22, 48]) (f := false) d_M_kind_67 rfl 68 rfl 21 9 rfl, rg_e_if_ne (cut := rg_cut [22, 48]) (f := false) d_M_kind_68 rfl 71 rfl 86 rfl, rg_e_aload_0 (cut := rg_cut [22, 48]) (f := false) d_M_kind_71 rfl 72 rfl, rg_e_getr (P := P_M_kind) (cut := rg_cut [22, 48]) (f := false) d_M_kind_72 rfl 75 rfl 18 4 13 28 rfl (fun _ => rfl), rg_e_bipush (cut := rg_cut [22, 48]) (f := false) d_M_kind_75 rfl 77 rfl (nI 9) rg_kb_9, rg_e_iload_3 (cut := rg_cut [22, 48]) (f := false) d_M_kind_77 rfl 78 rfl, rg_e_imul (cut := rg_cut [22, 48]) (f := false) d_M_kind_78 rfl 79 rfl, rg_e_iload_4 (cut := rg_cut [22, 48]) (f := false) d_M_kind_79 rfl 81 rfl, rg_e_iadd (cut := rg_cut [22, 48]) (f := false) d_M_kind_81 rfl 82 rfl, rg_e_zald (cut := rg_cut [22, 48]) (f := false) d_M_kind_82 rfl 83 rfl 28 81 rfl, rg_e_if_eq (cut := rg_cut [22, 48]) (f := false) d_M_kind_83 rfl 86 rfl 90 rfl, rg_e_iconst (cut := rg_cut [22, 48]) (f := false) d_M_kind_86 rfl 87 rfl (nI 1) rg_ki_1, rg_e_goto (cut := rg_cut [22, 48]) (f := false) d_M_kind_87 rfl 91 rfl, rg_e_iconst (cut := rg_cut [22, 48]) (f := false) d_M_kind_90 rfl 91 rfl (nI 0) rg_ki_0, rg_e_istore_2 (cut := rg_cut [22, 48]) (f := false) d_M_kind_91 rfl 92 rfl, rg_e_iinc_4 (cut := rg_cut [22, 48]) (f := false) d_M_kind_92 rfl 95 rfl (nI 1) rg_ki_1, rg_e_goto (cut := rg_cut [22, 48]) (f := false) d_M_kind_95 rfl 48 rfl, rg_e_iinc_3 (cut := rg_cut [22, 48]) (f := false) d_M_kind_98 rfl 101 rfl (nI 1) rg_ki_1, rg_e_goto (cut := rg_cut [22, 48]) (f := false) d_M_kind_101 rfl 22 rfl, rg_e_cut (cut := rg_cut [22, 48]) 22 rfl, rg_e_cut (cut := rg_cut [22, 48]) 48 rfl, rg_nx_i, rg_nx_v, rg_wd_n, rg_wd_i, rg_wd_l, rg_wd_r, rg_clr_i, rg_clr_l, rg_clr_r, rg_clr_a, rg_clr_n, true_and, and_true, Nat.reduceAdd, Nat.reduceLeDiff, rg_rt_e, rg_fit_ie, rg_fit_ve, rg_fit_1e, rg_fit_0e, rg_fit_be, r1, nI_add]
      exact ⟨fun _ => hout _, fun h => absurd (nI_le hj9 (by omega)) h⟩
  have l1 : ∀ (i : Nat), i ≤ nr → ∀ a4 : Value, Z 22 [.ref 18, .int (nI (cnF (ndN nr ln pk) i)), .int (zI (decide (0 < eN hg) && (List.range i).all (fun i => !ndN nr ln pk i || strI nr (ndN nr ln pk) hg i))), .int (nI i), a4] [] w1 0 := by
    refine rg_lp1 _ _ (fun i => nr - i) ?_
    intro i hi ih a4
    have hcl := cnF_le (ndN nr ln pk) i
    rcases Nat.lt_or_ge i nr with hi9 | hi9
    · have vi : vp_in (nI i) 9 := vp_in_nI (by omega) (by omega)
      have ci : (nI i).toNatClampNeg = i := nI_clamp (by omega)
      have e1 := r21 i hi9
      have nx := ih (i + 1) (by omega) (by omega)
      rw [rg_all_s, ← Bool.and_assoc, cnF] at nx
      refine hZ (rg_cut [22, 48]) 400 22 _ _ _ ?_; simp only [rg_e_iload_3 (cut := rg_cut [22, 48]) (f := true) d_M_kind_22 rfl 23 rfl, rg_e_aload_0 (cut := rg_cut [22, 48]) (f := false) d_M_kind_23 rfl 24 rfl, rg_e_geti (P := P_M_kind) (cut := rg_cut [22, 48]) (f := false) d_M_kind_24 rfl 27 rfl 18 4 1 rfl (fun _ => rfl), rg_e_icmp_ge (cut := rg_cut [22, 48]) (f := false) d_M_kind_27 rfl 30 rfl 104 rfl, rg_e_aload_0 (cut := rg_cut [22, 48]) (f := false) d_M_kind_30 rfl 31 rfl, rg_e_getr (P := P_M_kind) (cut := rg_cut [22, 48]) (f := false) d_M_kind_31 rfl 34 rfl 18 4 4 21 rfl (fun _ => rfl), rg_e_iload_3 (cut := rg_cut [22, 48]) (f := false) d_M_kind_34 rfl 35 rfl, rg_e_zald (cut := rg_cut [22, 48]) (f := false) d_M_kind_35 rfl 36 rfl 21 9 rfl, rg_e_if_eq (cut := rg_cut [22, 48]) (f := false) d_M_kind_36 rfl 39 rfl 42 rfl, rg_e_goto (cut := rg_cut [22, 48]) (f := false) d_M_kind_39 rfl 98 rfl, rg_e_iinc_1 (cut := rg_cut [22, 48]) (f := false) d_M_kind_42 rfl 45 rfl (nI 1) rg_ki_1, rg_e_iconst (cut := rg_cut [22, 48]) (f := false) d_M_kind_45 rfl 46 rfl (nI 0) rg_ki_0, rg_e_istore_4 (cut := rg_cut [22, 48]) (f := false) d_M_kind_46 rfl 48 rfl, rg_e_iinc_3 (cut := rg_cut [22, 48]) (f := false) d_M_kind_98 rfl 101 rfl (nI 1) rg_ki_1, rg_e_goto (cut := rg_cut [22, 48]) (f := false) d_M_kind_101 rfl 22 rfl, rg_e_iload_2 (cut := rg_cut [22, 48]) (f := false) d_M_kind_104 rfl 105 rfl, rg_e_if_ne (cut := rg_cut [22, 48]) (f := false) d_M_kind_105 rfl 108 rfl 112 rfl, rg_e_iconst (cut := rg_cut [22, 48]) (f := false) d_M_kind_108 rfl 109 rfl (nI 0) rg_ki_0, rg_e_goto (cut := rg_cut [22, 48]) (f := false) d_M_kind_109 rfl 125 rfl, rg_e_aload_0 (cut := rg_cut [22, 48]) (f := false) d_M_kind_112 rfl 113 rfl, rg_e_geti (P := P_M_kind) (cut := rg_cut [22, 48]) (f := false) d_M_kind_113 rfl 116 rfl 18 4 9 rfl (fun _ => rfl), rg_e_iload_1 (cut := rg_cut [22, 48]) (f := false) d_M_kind_116 rfl 117 rfl, rg_e_icmp_ne (cut := rg_cut [22, 48]) (f := false) d_M_kind_117 rfl 120 rfl 124 rfl, rg_e_iconst (cut := rg_cut [22, 48]) (f := false) d_M_kind_120 rfl 121 rfl (nI 1) rg_ki_1, rg_e_goto (cut := rg_cut [22, 48]) (f := false) d_M_kind_121 rfl 125 rfl, rg_e_iconst (cut := rg_cut [22, 48]) (f := false) d_M_kind_124 rfl 125 rfl (nI 2) rg_ki_2, rg_e_iret (cut := rg_cut [22, 48]) (f := false) d_M_kind_125 rfl, rg_e_cut (cut := rg_cut [22, 48]) 22 rfl, rg_e_cut (cut := rg_cut [22, 48]) 48 rfl, rg_nx_i, rg_nx_v, rg_wd_n, rg_wd_i, rg_wd_l, rg_wd_r, rg_clr_i, rg_clr_l, rg_clr_r, rg_clr_a, rg_clr_n, true_and, and_true, Nat.reduceAdd, Nat.reduceLeDiff, rg_rt_e, rg_fit_ie, rg_fit_ve, rg_fit_1e, rg_fit_0e, rg_fit_be, r1, vi, ci, e1, zI_eq, nI_add]
      refine ⟨fun h => absurd h (nI_ge hi9 (by omega)), fun _ => ⟨fun h => ?_, fun h => ?_⟩⟩
      · have h : ndN nr ln pk i = true := by simpa using h
        rw [h, if_pos rfl, Bool.not_true, Bool.false_or] at nx
        have := l2 i (cnF (ndN nr ln pk) i + 1) _ 0 ⟨hi9, by omega⟩ nx
        rw [show (List.range 0).all (fun j => !ndN nr ln pk j || rcB (kE hg) i j) = true from rfl, Bool.and_true] at this
        exact this
      · have h : ndN nr ln pk i = false := by simpa using h
        rw [h, if_neg (by decide), Bool.not_false, Bool.true_or, Bool.and_true] at nx
        exact nx _
    · obtain rfl : i = nr := by omega
      have p1 : (nI (eN hg) = nI (cnF (ndN i ln pk) i)) = (eN hg = cnF (ndN i ln pk) i) := nI_eqp (by omega) (by omega)
      generalize hs : (decide (0 < eN hg) && (List.range i).all (fun i_1 => !ndN i ln pk i_1 || strI i (ndN i ln pk) hg i_1)) = s at *
      refine hZ (rg_cut [22, 48]) 400 22 _ _ _ ?_; simp only [rg_e_iload_3 (cut := rg_cut [22, 48]) (f := true) d_M_kind_22 rfl 23 rfl, rg_e_aload_0 (cut := rg_cut [22, 48]) (f := false) d_M_kind_23 rfl 24 rfl, rg_e_geti (P := P_M_kind) (cut := rg_cut [22, 48]) (f := false) d_M_kind_24 rfl 27 rfl 18 4 1 rfl (fun _ => rfl), rg_e_icmp_ge (cut := rg_cut [22, 48]) (f := false) d_M_kind_27 rfl 30 rfl 104 rfl, rg_e_aload_0 (cut := rg_cut [22, 48]) (f := false) d_M_kind_30 rfl 31 rfl, rg_e_getr (P := P_M_kind) (cut := rg_cut [22, 48]) (f := false) d_M_kind_31 rfl 34 rfl 18 4 4 21 rfl (fun _ => rfl), rg_e_iload_3 (cut := rg_cut [22, 48]) (f := false) d_M_kind_34 rfl 35 rfl, rg_e_zald (cut := rg_cut [22, 48]) (f := false) d_M_kind_35 rfl 36 rfl 21 9 rfl, rg_e_if_eq (cut := rg_cut [22, 48]) (f := false) d_M_kind_36 rfl 39 rfl 42 rfl, rg_e_goto (cut := rg_cut [22, 48]) (f := false) d_M_kind_39 rfl 98 rfl, rg_e_iinc_1 (cut := rg_cut [22, 48]) (f := false) d_M_kind_42 rfl 45 rfl (nI 1) rg_ki_1, rg_e_iconst (cut := rg_cut [22, 48]) (f := false) d_M_kind_45 rfl 46 rfl (nI 0) rg_ki_0, rg_e_istore_4 (cut := rg_cut [22, 48]) (f := false) d_M_kind_46 rfl 48 rfl, rg_e_iinc_3 (cut := rg_cut [22, 48]) (f := false) d_M_kind_98 rfl 101 rfl (nI 1) rg_ki_1, rg_e_goto (cut := rg_cut [22, 48]) (f := false) d_M_kind_101 rfl 22 rfl, rg_e_iload_2 (cut := rg_cut [22, 48]) (f := false) d_M_kind_104 rfl 105 rfl, rg_e_if_ne (cut := rg_cut [22, 48]) (f := false) d_M_kind_105 rfl 108 rfl 112 rfl, rg_e_iconst (cut := rg_cut [22, 48]) (f := false) d_M_kind_108 rfl 109 rfl (nI 0) rg_ki_0, rg_e_goto (cut := rg_cut [22, 48]) (f := false) d_M_kind_109 rfl 125 rfl, rg_e_aload_0 (cut := rg_cut [22, 48]) (f := false) d_M_kind_112 rfl 113 rfl, rg_e_geti (P := P_M_kind) (cut := rg_cut [22, 48]) (f := false) d_M_kind_113 rfl 116 rfl 18 4 9 rfl (fun _ => rfl), rg_e_iload_1 (cut := rg_cut [22, 48]) (f := false) d_M_kind_116 rfl 117 rfl, rg_e_icmp_ne (cut := rg_cut [22, 48]) (f := false) d_M_kind_117 rfl 120 rfl 124 rfl, rg_e_iconst (cut := rg_cut [22, 48]) (f := false) d_M_kind_120 rfl 121 rfl (nI 1) rg_ki_1, rg_e_goto (cut := rg_cut [22, 48]) (f := false) d_M_kind_121 rfl 125 rfl, rg_e_iconst (cut := rg_cut [22, 48]) (f := false) d_M_kind_124 rfl 125 rfl (nI 2) rg_ki_2, rg_e_iret (cut := rg_cut [22, 48]) (f := false) d_M_kind_125 rfl, rg_e_cut (cut := rg_cut [22, 48]) 22 rfl, rg_e_cut (cut := rg_cut [22, 48]) 48 rfl, rg_nx_i, rg_nx_v, rg_wd_n, rg_wd_i, rg_wd_l, rg_wd_r, rg_clr_i, rg_clr_l, rg_clr_r, rg_clr_a, rg_clr_n, true_and, and_true, Nat.reduceAdd, Nat.reduceLeDiff, rg_rt_e, rg_fit_ie, rg_fit_ve, rg_fit_1e, rg_fit_0e, rg_fit_be, r1, r9, p1, zI_eq]
      refine ⟨fun _ => ⟨fun h => ?_, fun h => ?_⟩, fun h => absurd (nI_le hi9 (by omega)) h⟩
      · have h : s = true := by rw [← Bool.not_eq_false]; exact h
        rw [h, if_neg (by decide)] at hK
        refine ⟨fun h1 => ?_, fun h1 => ?_⟩
        · rw [if_neg h1] at hK; exact hK
        · rw [if_pos (Classical.not_not.mp h1)] at hK; exact hK
      · have h : s = false := Classical.not_not.mp h
        rw [h, if_pos rfl] at hK
        exact hK
  have p0 : (nI (eN hg) ≤ 0) = (eN hg = 0) := by rw [← nI_0, nI_lep (by omega) (by omega)]; exact propext Nat.le_zero
  refine hZ (rg_cut [22, 48]) 400 0 _ _ _ ?_; simp only [rg_e_aload_0 (cut := rg_cut [22, 48]) (f := true) d_M_kind_0 rfl 1 rfl, rg_e_iconst (cut := rg_cut [22, 48]) (f := false) d_M_kind_1 rfl 2 rfl (nI 0) rg_ki_0, rg_e_put (P := P_M_kind) (cut := rg_cut [22, 48]) (f := false) d_M_kind_2 rfl 5 rfl 18 4 0 rfl rfl, rg_e_iconst (cut := rg_cut [22, 48]) (f := false) d_M_kind_5 rfl 6 rfl (nI 0) rg_ki_0, rg_e_istore_1 (cut := rg_cut [22, 48]) (f := false) d_M_kind_6 rfl 7 rfl, rg_e_aload_0 (cut := rg_cut [22, 48]) (f := false) d_M_kind_7 rfl 8 rfl, rg_e_geti (P := P_M_kind) (cut := rg_cut [22, 48]) (f := false) d_M_kind_8 rfl 11 rfl 18 4 9 rfl (fun _ => rfl), rg_e_if_le (cut := rg_cut [22, 48]) (f := false) d_M_kind_11 rfl 14 rfl 18 rfl, rg_e_iconst (cut := rg_cut [22, 48]) (f := false) d_M_kind_14 rfl 15 rfl (nI 1) rg_ki_1, rg_e_goto (cut := rg_cut [22, 48]) (f := false) d_M_kind_15 rfl 19 rfl, rg_e_iconst (cut := rg_cut [22, 48]) (f := false) d_M_kind_18 rfl 19 rfl (nI 0) rg_ki_0, rg_e_istore_2 (cut := rg_cut [22, 48]) (f := false) d_M_kind_19 rfl 20 rfl, rg_e_iconst (cut := rg_cut [22, 48]) (f := false) d_M_kind_20 rfl 21 rfl (nI 0) rg_ki_0, rg_e_istore_3 (cut := rg_cut [22, 48]) (f := false) d_M_kind_21 rfl 22 rfl, rg_e_cut (cut := rg_cut [22, 48]) 22 rfl, rg_e_cut (cut := rg_cut [22, 48]) 48 rfl, rg_nx_i, rg_nx_v, rg_wd_n, rg_wd_i, rg_wd_l, rg_wd_r, rg_clr_i, rg_clr_l, rg_clr_r, rg_clr_a, rg_clr_n, true_and, and_true, Nat.reduceAdd, Nat.reduceLeDiff, rg_rt_e, rg_fit_ie, rg_fit_ve, rg_fit_1e, rg_fit_0e, rg_fit_be, hw1, r9, p0]
  have := l1 0 (by omega)
  refine ⟨fun h => ?_, fun h => ?_⟩
  · rw [decide_eq_false (show ¬ 0 < eN hg by omega)] at this
    exact this _
  · rw [decide_eq_true (show 0 < eN hg by omega)] at this
    exact this _
/-- an edge passes by -/
noncomputable def esI (hg : Nat → Nat → Nat) (f a b : Nat) : Bool := (decide (ds hg b = ds hg f) && !decide (b = f)) && (decide (a = b) || (decide (ds hg a = sr hg b) || rcB (kE hg) (ds hg a) (sr hg b)))
noncomputable def esA (hg : Nat → Nat → Nat) (f g a : Nat) : Bool := (decide (sr hg a = sr hg g) && !decide (a = g)) && (List.range (eN hg)).any (esI hg f a)
noncomputable def esN (hg : Nat → Nat → Nat) (f g : Nat) : Bool := (List.range (eN hg)).any (esA hg f g)
def KnM (hg : Nat → Nat → Nat) (w : rg_W) : Prop := ∀ f g, f < eN hg → g < eN hg → w.1 29 (81 * f + g) = nI 0 ∨ w.1 29 (81 * f + g) = nI (if esN hg f g = true then 2 else 1)
def GM (ln : Nat → Nat) (hg : Nat → Nat → Nat) (w : rg_W) : Prop := EgM ln hg w ∧ RcM hg w ∧ KnM hg w ∧ ∀ i, hg i i = 0
theorem GM.fr {ln : Nat → Nat} {hg : Nat → Nat → Nat} {w w' : rg_W} (h : GM ln hg w) (hf : rg_fr [29] w w') (hk : KnM hg w') : GM ln hg w' := by
  refine ⟨h.1.fr (by rw [hf.1 18 (by decide)]) (hf.1 25 (by decide)) (hf.1 26 (by decide)) (hf.1 27 (by decide)), ?_, hk, h.2.2.2⟩
  unfold RcM
  rw [hf.1 28 (by decide)]
  exact h.2.1
-- M.escapes
def P_M_escapes : rg_P := (rg_F_M, [], [], [], [], [], 0)
def T_M_escapes : rg_T := fun as w K => match as with
  | [.ref 18, .int x, .int y] => ∃ ln hg f g, GM ln hg w ∧ x = nI f ∧ y = nI g ∧ f < eN hg ∧ g < eN hg ∧ ∀ w', rg_fr [29] w w' → KnM hg w' → K (some (.int (zI (esN hg f g)))) w'
  | _ => False
theorem Te_M_escapes (x : Int32) (y : Int32) (w : rg_W) (K : Option Value → rg_W → Prop) : T_M_escapes [.ref 18, .int x, .int y] w K = (∃ ln hg f g, GM ln hg w ∧ x = nI f ∧ y = nI g ∧ f < eN hg ∧ g < eN hg ∧ ∀ w', rg_fr [29] w w' → KnM hg w' → K (some (.int (zI (esN hg f g)))) w') := rfl
theorem r_M_escapes : ∀ as w K, T_M_escapes as w K → ∃ r, as = .ref 18 :: r := by
  intro as w K h
  unfold T_M_escapes at h
  split at h
  · exact ⟨_, rfl⟩
  · exact h.elim
theorem G_M_escapes (l : Launch) : rg_Good l y_M_escapes c_M_escapes 7 (some .boolean) 0 T_M_escapes := by
  refine rg_good_of (P := P_M_escapes) (by decide) (rg_pok rg_F_M_ok rg_nil) ?_
  intro as w K Z hT hZ
  unfold T_M_escapes at hT
  split at hT
  rotate_left
  · exact hT.elim
  rename_i x y
  refine ⟨Nat.le_of_ble_eq_true rfl, ?_⟩
  show Z 0 [.ref 18, .int x, .int y, .null, .null, .null, .null] [] w 0
  obtain ⟨ln, hg, f, g, ⟨hE, hC, hN, h0⟩, rfl, rfl, hf, hg', hK⟩ := hT
  have h72 := eN_le h0
  have he := hE.1
  have x1 : nI 81 * nI f + nI g = nI (81 * f + g) := by rw [pk_mul, nI_add]
  have v1 : vp_in (nI (81 * f + g)) 6561 := vp_in_nI (by omega) (by omega)
  have c1 : (nI (81 * f + g)).toNatClampNeg = 81 * f + g := nI_clamp (by omega)
  have vf : vp_in (nI f) 81 := vp_in_nI (by omega) (by omega)
  have cf : (nI f).toNatClampNeg = f := nI_clamp (by omega)
  have vg : vp_in (nI g) 81 := vp_in_nI (by omega) (by omega)
  have cg : (nI g).toNatClampNeg = g := nI_clamp (by omega)
  have ef := (hE.2 f hf).2.1
  have eg := (hE.2 g hg').1
  have n0 : (nI 0 ≤ 0) = True := by decide +kernel
  have n1 : (nI 1 ≤ 0) = False := by decide +kernel
  have n2 : (nI 2 ≤ 0) = False := by decide +kernel
  have n12 : (nI 1 = nI 2) = False := by decide +kernel
  have l2 : ∀ (a : Nat) (s : Bool) (b : Nat) (a6 : Value), (a < eN hg ∧ b ≤ eN hg) → (∀ a5 a6 : Value, Z 40 [.ref 18, .int (nI f), .int (nI g), .int (zI (s || (List.range (eN hg)).any (esI hg f a))), .int (nI (a + 1)), a5, a6] [] w 0) → Z 77 [.ref 18, .int (nI f), .int (nI g), .int (zI (s || (List.range b).any (esI hg f a))), .int (nI a), .int (nI b), a6] [] w 0 := by
    intro a s b a6 hI hout
    revert b a6
    refine rg_lp2 _ _ (fun b _ => eN hg - b) ?_
    intro b a6 ⟨ha, hb⟩ ih
    rcases Nat.lt_or_ge b (eN hg) with hb9 | hb9
    · have va : vp_in (nI a) 81 := vp_in_nI (by omega) (by omega)
      have ca : (nI a).toNatClampNeg = a := nI_clamp (by omega)
      have vb : vp_in (nI b) 81 := vp_in_nI (by omega) (by omega)
      have cb : (nI b).toNatClampNeg = b := nI_clamp (by omega)
      have la := sr_lt ha
      have lb := sr_lt hb9
      have lf := sr_lt hf
      have ea := (hE.2 a ha).2.1
      have eb := (hE.2 b hb9).1
      have ec := (hE.2 b hb9).2.1
      have x2 : nI 9 * nI (ds hg a) + nI (sr hg b) = nI (9 * ds hg a + sr hg b) := by rw [pk_mul, nI_add]
      have v2 : vp_in (nI (9 * ds hg a + sr hg b)) 81 := vp_in_nI (by omega) (by omega)
      have c2 : (nI (9 * ds hg a + sr hg b)).toNatClampNeg = 9 * ds hg a + sr hg b := nI_clamp (by omega)
      have e2 := hC (9 * ds hg a + sr hg b) (by omega)
      rw [show (9 * ds hg a + sr hg b) / 9 = ds hg a by omega, show (9 * ds hg a + sr hg b) % 9 = sr hg b by omega] at e2
      have p1 : (nI (ds hg b) = nI (ds hg f)) = (ds hg b = ds hg f) := nI_eqp (by omega) (by omega)
      have p2 : (nI b = nI f) = (b = f) := nI_eqp (by omega) (by omega)
      have p3 : (nI a = nI b) = (a = b) := nI_eqp (by omega) (by omega)
      have p4 : (nI (ds hg a) = nI (sr hg b)) = (ds hg a = sr hg b) := nI_eqp (by omega) (by omega)
      have m0 : (nI 0 = 0) = True := by decide +kernel
      have m1 : (nI 1 = 0) = False := by decide +kernel
      have nx := fun a6 => ih (b + 1) a6 ⟨ha, by omega⟩ (by omega)
      rw [rg_any_s, ← Bool.or_assoc] at nx
      generalize (s || (List.range b).any (esI hg f a)) = s' at *
      have nt : ∀ a6 : Value, (s' || esI hg f a b) = true → Z 77 [.ref 18, .int (nI f), .int (nI g), .int (nI 1), .int (nI a), .int (nI (b + 1)), a6] [] w 0 := fun a6 h => by
        have := nx a6
        rw [h] at this
        exact this
      have nf : ∀ a6 : Value, (s' || esI hg f a b) = false → Z 77 [.ref 18, .int (nI f), .int (nI g), .int (nI 0), .int (nI a), .int (nI (b + 1)), a6] [] w 0 := fun a6 h => by
        have := nx a6
        rw [h] at this
        exact this
      refine hZ (rg_cut [40, 77]) 400 77 _ _ _ ?_; simp only [rg_e_iload_5 (cut := rg_cut [40, 77]) (f := true) d_M_escapes_77 rfl 79 rfl, rg_e_aload_0 (cut := rg_cut [40, 77]) (f := false) d_M_escapes_79 rfl 80 rfl, rg_e_geti (P := P_M_escapes) (cut := rg_cut [40, 77]) (f := false) d_M_escapes_80 rfl 83 rfl 18 4 9 rfl (fun _ => rfl), rg_e_icmp_ge (cut := rg_cut [40, 77]) (f := false) d_M_escapes_83 rfl 86 rfl 186 rfl, rg_e_aload_0 (cut := rg_cut [40, 77]) (f := false) d_M_escapes_86 rfl 87 rfl, rg_e_getr (P := P_M_escapes) (cut := rg_cut [40, 77]) (f := false) d_M_escapes_87 rfl 90 rfl 18 4 11 26 rfl (fun _ => rfl), rg_e_iload_5 (cut := rg_cut [40, 77]) (f := false) d_M_escapes_90 rfl 92 rfl, rg_e_iald (cut := rg_cut [40, 77]) (f := false) d_M_escapes_92 rfl 93 rfl 26 81 rfl, rg_e_aload_0 (cut := rg_cut [40, 77]) (f := false) d_M_escapes_93 rfl 94 rfl, rg_e_getr (P := P_M_escapes) (cut := rg_cut [40, 77]) (f := false) d_M_escapes_94 rfl 97 rfl 18 4 11 26 rfl (fun _ => rfl), rg_e_iload_1 (cut := rg_cut [40, 77]) (f := false) d_M_escapes_97 rfl 98 rfl, rg_e_iald (cut := rg_cut [40, 77]) (f := false) d_M_escapes_98 rfl 99 rfl 26 81 rfl, rg_e_icmp_ne (cut := rg_cut [40, 77]) (f := false) d_M_escapes_99 rfl 102 rfl 112 rfl, rg_e_iload_5 (cut := rg_cut [40, 77]) (f := false) d_M_escapes_102 rfl 104 rfl, rg_e_iload_1 (cut := rg_cut [40, 77]) (f := false) d_M_escapes_104 rfl 105 rfl, rg_e_icmp_eq (cut := rg_cut [40, 77]) (f := false) d_M_escapes_105 rfl 108 rfl 112 rfl, rg_e_iconst (cut := rg_cut [40, 77]) (f := false) d_M_escapes_108 rfl 109 rfl (nI 1) rg_ki_1, rg_e_goto (cut := rg_cut [40, 77]) (f := false) d_M_escapes_109 rfl 113 rfl, rg_e_iconst (cut := rg_cut [40, 77]) (f := false) d_M_escapes_112 rfl 113 rfl (nI 0) rg_ki_0, rg_e_istore_6 (cut := rg_cut [40, 77]) (f := false) d_M_escapes_113 rfl 115 rfl, rg_e_iload_3 (cut := rg_cut [40, 77]) (f := false) d_M_escapes_115 rfl 116 rfl, rg_e_if_ne (cut := rg_cut [40, 77]) (f := false) d_M_escapes_116 rfl 119 rfl 174 rfl, rg_e_iload_6 (cut := rg_cut [40, 77]) (f := false) d_M_escapes_119 rfl 121 rfl, rg_e_if_eq (cut := rg_cut [40, 77]) (f := false) d_M_escapes_121 rfl 124 rfl 178 rfl, rg_e_iload_4 (cut := rg_cut [40, 77]) (f := false) d_M_escapes_124 rfl 126 rfl, rg_e_iload_5 (cut := rg_cut [40, 77]) (f := false) d_M_escapes_126 rfl 128 rfl, rg_e_icmp_eq (cut := rg_cut [40, 77]) (f := false) d_M_escapes_128 rfl 131 rfl 174 rfl, rg_e_aload_0 (cut := rg_cut [40, 77]) (f := false) d_M_escapes_131 rfl 132 rfl, rg_e_getr (P := P_M_escapes) (cut := rg_cut [40, 77]) (f := false) d_M_escapes_132 rfl 135 rfl 18 4 11 26 rfl (fun _ => rfl), rg_e_iload_4 (cut := rg_cut [40, 77]) (f := false) d_M_escapes_135 rfl 137 rfl, rg_e_iald (cut := rg_cut [40, 77]) (f := false) d_M_escapes_137 rfl 138 rfl 26 81 rfl, rg_e_aload_0 (cut := rg_cut [40, 77]) (f := false) d_M_escapes_138 rfl 139 rfl, rg_e_getr (P := P_M_escapes) (cut := rg_cut [40, 77]) (f := false) d_M_escapes_139 rfl 142 rfl 18 4 10 25 rfl (fun _ => rfl), rg_e_iload_5 (cut := rg_cut [40, 77]) (f := false) d_M_escapes_142 rfl 144 rfl, rg_e_iald (cut := rg_cut [40, 77]) (f := false) d_M_escapes_144 rfl 145 rfl 25 81 rfl, rg_e_icmp_eq (cut := rg_cut [40, 77]) (f := false) d_M_escapes_145 rfl 148 rfl 174 rfl, rg_e_aload_0 (cut := rg_cut [40, 77]) (f := false) d_M_escapes_148 rfl 149 rfl, rg_e_getr (P := P_M_escapes) (cut := rg_cut [40, 77]) (f := false) d_M_escapes_149 rfl 152 rfl 18 4 13 28 rfl (fun _ => rfl), rg_e_bipush (cut := rg_cut [40, 77]) (f := false) d_M_escapes_152 rfl 154 rfl (nI 9) rg_kb_9, rg_e_aload_0 (cut := rg_cut [40, 77]) (f := false) d_M_escapes_154 rfl 155 rfl, rg_e_getr (P := P_M_escapes) (cut := rg_cut [40, 77]) (f := false) d_M_escapes_155 rfl 158 rfl 18 4 11 26 rfl (fun _ => rfl), rg_e_iload_4 (cut := rg_cut [40, 77]) (f := false) d_M_escapes_158 rfl 160 rfl, rg_e_iald (cut := rg_cut [40, 77]) (f := false) d_M_escapes_160 rfl 161 rfl 26 81 rfl, rg_e_imul (cut := rg_cut [40, 77]) (f := false) d_M_escapes_161 rfl 162 rfl, rg_e_aload_0 (cut := rg_cut [40, 77]) (f := false) d_M_escapes_162 rfl 163 rfl, rg_e_getr (P := P_M_escapes) (cut := rg_cut [40, 77]) (f := false) d_M_escapes_163 rfl 166 rfl 18 4 10 25 rfl (fun _ => rfl), rg_e_iload_5 (cut := rg_cut [40, 77]) (f := false) d_M_escapes_166 rfl 168 rfl, rg_e_iald (cut := rg_cut [40, 77]) (f := false) d_M_escapes_168 rfl 169 rfl 25 81 rfl, rg_e_iadd (cut := rg_cut [40, 77]) (f := false) d_M_escapes_169 rfl 170 rfl, rg_e_zald (cut := rg_cut [40, 77]) (f := false) d_M_escapes_170 rfl 171 rfl 28 81 rfl, rg_e_if_eq (cut := rg_cut [40, 77]) (f := false) d_M_escapes_171 rfl 174 rfl 178 rfl, rg_e_iconst (cut := rg_cut [40, 77]) (f := false) d_M_escapes_174 rfl 175 rfl (nI 1) rg_ki_1, rg_e_goto (cut := rg_cut [40, 77]) (f := false) d_M_escapes_175 rfl 179 rfl, rg_e_iconst (cut := rg_cut [40, 77]) (f := false) d_M_escapes_178 rfl 179 rfl (nI 0) rg_ki_0, rg_e_istore_3 (cut := rg_cut [40, 77]) (f := false) d_M_escapes_179 rfl 180 rfl, rg_e_iinc_5 (cut := rg_cut [40, 77]) (f := false) d_M_escapes_180 rfl 183 rfl (nI 1) rg_ki_1, rg_e_goto (cut := rg_cut [40, 77]) (f := false) d_M_escapes_183 rfl 77 rfl, rg_e_iinc_4 (cut := rg_cut [40, 77]) (f := false) d_M_escapes_186 rfl 189 rfl (nI 1) rg_ki_1, rg_e_goto (cut := rg_cut [40, 77]) (f := false) d_M_escapes_189 rfl 40 rfl, rg_e_cut (cut := rg_cut [40, 77]) 40 rfl, rg_e_cut (cut := rg_cut [40, 77]) 77 rfl, rg_nx_i, rg_nx_v, rg_wd_n, rg_wd_i, rg_wd_l, rg_wd_r, rg_clr_i, rg_clr_l, rg_clr_r, rg_clr_a, rg_clr_n, true_and, and_true, Nat.reduceAdd, Nat.reduceLeDiff, rg_rt_e, rg_fit_ie, rg_fit_ve, rg_fit_1e, rg_fit_0e, rg_fit_be, he, va, ca, vb, cb, vf, cf, ea, eb, ec, ef, x2, v2, c2, e2, p1, p2, p3, p4, m0, m1, zI_eq, nI_add, not_false_eq_true, forall_const, false_imp_iff, not_true_eq_false, and_true, true_and]
      refine ⟨fun h => absurd h (nI_ge hb9 (by omega)), fun _ => ?_⟩
      unfold esI at nt nf
      cases s' with
      | true =>
        simp only [Bool.true_or, forall_const] at nt
        simp [nt]
      | false =>
        simp only [Bool.false_or] at nt nf
        by_cases q1 : ds hg b = ds hg f <;> by_cases q2 : b = f <;> by_cases q3 : a = b <;> by_cases q4 : ds hg a = sr hg b <;> cases q5 : rcB (kE hg) (ds hg a) (sr hg b) <;> simp_all
    · obtain rfl : b = eN hg := by omega
      refine hZ (rg_cut [40, 77]) 400 77 _ _ _ ?_; simp only [rg_e_iload_5 (cut := rg_cut [40, 77]) (f := true) d_M_escapes_77 rfl 79 rfl, rg_e_aload_0 (cut := rg_cut [40, 77]) (f := false) d_M_escapes_79 rfl 80 rfl, rg_e_geti (P := P_M_escapes) (cut := rg_cut [40, 77]) (f := false) d_M_escapes_80 rfl 83 rfl 18 4 9 rfl (fun _ => rfl), rg_e_icmp_ge (cut := rg_cut [40, 77]) (f := false) d_M_escapes_83 rfl 86 rfl 186 rfl, rg_e_aload_0 (cut := rg_cut [40, 77]) (f := false) d_M_escapes_86 rfl 87 rfl, rg_e_getr (P := P_M_escapes) (cut := rg_cut [40, 77]) (f := false) d_M_escapes_87 rfl 90 rfl 18 4 11 26 rfl (fun _ => rfl), rg_e_iload_5 (cut := rg_cut [40, 77]) (f := false) d_M_escapes_90 rfl 92 rfl, rg_e_iald (cut := rg_cut [40, 77]) (f := false) d_M_escapes_92 rfl 93 rfl 26 81 rfl, rg_e_aload_0 (cut := rg_cut [40, 77]) (f := false) d_M_escapes_93 rfl 94 rfl, rg_e_getr (P := P_M_escapes) (cut := rg_cut [40, 77]) (f := false) d_M_escapes_94 rfl 97 rfl 18 4 11 26 rfl (fun _ => rfl), rg_e_iload_1 (cut := rg_cut [40, 77]) (f := false) d_M_escapes_97 rfl 98 rfl, rg_e_iald (cut := rg_cut [40, 77]) (f := false) d_M_escapes_98 rfl 99 rfl 26 81 rfl, rg_e_icmp_ne (cut := rg_cut [40, 77]) (f := false) d_M_escapes_99 rfl 102 rfl 112 rfl, rg_e_iload_5 (cut := rg_cut [40, 77]) (f := false) d_M_escapes_102 rfl 104 rfl, rg_e_iload_1 (cut := rg_cut [40, 77]) (f := false) d_M_escapes_104 rfl 105 rfl, rg_e_icmp_eq (cut := rg_cut [40, 77]) (f := false) d_M_escapes_105 rfl 108 rfl 112 rfl, rg_e_iconst (cut := rg_cut [40, 77]) (f := false) d_M_escapes_108 rfl 109 rfl (nI 1) rg_ki_1, rg_e_goto (cut := rg_cut [40, 77]) (f := false) d_M_escapes_109 rfl 113 rfl, rg_e_iconst (cut := rg_cut [40, 77]) (f := false) d_M_escapes_112 rfl 113 rfl (nI 0) rg_ki_0, rg_e_istore_6 (cut := rg_cut [40, 77]) (f := false) d_M_escapes_113 rfl 115 rfl, rg_e_iload_3 (cut := rg_cut [40, 77]) (f := false) d_M_escapes_115 rfl 116 rfl, rg_e_if_ne (cut := rg_cut [40, 77]) (f := false) d_M_escapes_116 rfl 119 rfl 174 rfl, rg_e_iload_6 (cut := rg_cut [40, 77]) (f := false) d_M_escapes_119 rfl 121 rfl, rg_e_if_eq (cut := rg_cut [40, 77]) (f := false) d_M_escapes_121 rfl 124 rfl 178 rfl, rg_e_iload_4 (cut := rg_cut [40, 77]) (f := false) d_M_escapes_124 rfl 126 rfl, rg_e_iload_5 (cut := rg_cut [40, 77]) (f := false) d_M_escapes_126 rfl 128 rfl, rg_e_icmp_eq (cut := rg_cut [40, 77]) (f := false) d_M_escapes_128 rfl 131 rfl 174 rfl, rg_e_aload_0 (cut := rg_cut [40, 77]) (f := false) d_M_escapes_131 rfl 132 rfl, rg_e_getr (P := P_M_escapes) (cut := rg_cut [40, 77]) (f := false) d_M_escapes_132 rfl 135 rfl 18 4 11 26 rfl (fun _ => rfl), rg_e_iload_4 (cut := rg_cut [40, 77]) (f := false) d_M_escapes_135 rfl 137 rfl, rg_e_iald (cut := rg_cut [40, 77]) (f := false) d_M_escapes_137 rfl 138 rfl 26 81 rfl, rg_e_aload_0 (cut := rg_cut [40, 77]) (f := false) d_M_escapes_138 rfl 139 rfl, rg_e_getr (P := P_M_escapes) (cut := rg_cut [40, 77]) (f := false) d_M_escapes_139 rfl 142 rfl 18 4 10 25 rfl (fun _ => rfl), rg_e_iload_5 (cut := rg_cut [40, 77]) (f := false) d_M_escapes_142 rfl 144 rfl, rg_e_iald (cut := rg_cut [40, 77]) (f := false) d_M_escapes_144 rfl 145 rfl 25 81 rfl, rg_e_icmp_eq (cut := rg_cut [40, 77]) (f := false) d_M_escapes_145 rfl 148 rfl 174 rfl, rg_e_aload_0 (cut := rg_cut [40, 77]) (f := false) d_M_escapes_148 rfl 149 rfl, rg_e_getr (P := P_M_escapes) (cut := rg_cut [40, 77]) (f := false) d_M_escapes_149 rfl 152 rfl 18 4 13 28 rfl (fun _ => rfl), rg_e_bipush (cut := rg_cut [40, 77]) (f := false) d_M_escapes_152 rfl 154 rfl (nI 9) rg_kb_9, rg_e_aload_0 (cut := rg_cut [40, 77]) (f := false) d_M_escapes_154 rfl 155 rfl, rg_e_getr (P := P_M_escapes) (cut := rg_cut [40, 77]) (f := false) d_M_escapes_155 rfl 158 rfl 18 4 11 26 rfl (fun _ => rfl), rg_e_iload_4 (cut := rg_cut [40, 77]) (f := false) d_M_escapes_158 rfl 160 rfl, rg_e_iald (cut := rg_cut [40, 77]) (f := false) d_M_escapes_160 rfl 161 rfl 26 81 rfl, rg_e_imul (cut := rg_cut [40, 77]) (f := false) d_M_escapes_161 rfl 162 rfl, rg_e_aload_0 (cut := rg_cut [40, 77]) (f := false) d_M_escapes_162 rfl 163 rfl, rg_e_getr (P := P_M_escapes) (cut := rg_cut [40, 77]) (f := false) d_M_escapes_163 rfl 166 rfl 18 4 10 25 rfl (fun _ => rfl), rg_e_iload_5 (cut := rg_cut [40, 77]) (f := false) d_M_escapes_166 rfl 168 rfl, rg_e_iald (cut := rg_cut [40, 77]) (f := false) d_M_escapes_168 rfl 169 rfl 25 81 rfl, rg_e_iadd (cut := rg_cut [40, 77]) (f := false) d_M_escapes_169 rfl 170 rfl, rg_e_zald (cut := rg_cut [40, 77]) (f := false) d_M_escapes_170 rfl 171 rfl 28 81 rfl, rg_e_if_eq (cut := rg_cut [40, 77]) (f := false) d_M_escapes_171 rfl 174 rfl 178 rfl, rg_e_iconst (cut := rg_cut [40, 77]) (f := false) d_M_escapes_174 rfl 175 rfl (nI 1) rg_ki_1, rg_e_goto (cut := rg_cut [40, 77]) (f := false) d_M_escapes_175 rfl 179 rfl, rg_e_iconst (cut := rg_cut [40, 77]) (f := false) d_M_escapes_178 rfl 179 rfl (nI 0) rg_ki_0, rg_e_istore_3 (cut := rg_cut [40, 77]) (f := false) d_M_escapes_179 rfl 180 rfl, rg_e_iinc_5 (cut := rg_cut [40, 77]) (f := false) d_M_escapes_180 rfl 183 rfl (nI 1) rg_ki_1, rg_e_goto (cut := rg_cut [40, 77]) (f := false) d_M_escapes_183 rfl 77 rfl, rg_e_iinc_4 (cut := rg_cut [40, 77]) (f := false) d_M_escapes_186 rfl 189 rfl (nI 1) rg_ki_1, rg_e_goto (cut := rg_cut [40, 77]) (f := false) d_M_escapes_189 rfl 40 rfl, rg_e_cut (cut := rg_cut [40, 77]) 40 rfl, rg_e_cut (cut := rg_cut [40, 77]) 77 rfl, rg_nx_i, rg_nx_v, rg_wd_n, rg_wd_i, rg_wd_l, rg_wd_r, rg_clr_i, rg_clr_l, rg_clr_r, rg_clr_a, rg_clr_n, true_and, and_true, Nat.reduceAdd, Nat.reduceLeDiff, rg_rt_e, rg_fit_ie, rg_fit_ve, rg_fit_1e, rg_fit_0e, rg_fit_be, he, nI_add]
      exact ⟨fun _ => hout _ _, fun h => absurd (nI_le hb9 (by omega)) h⟩
  have l1 : ∀ (a : Nat) (a5 a6 : Value), a ≤ eN hg → Z 40 [.ref 18, .int (nI f), .int (nI g), .int (zI ((List.range a).any (esA hg f g))), .int (nI a), a5, a6] [] w 0 := by
    refine rg_lp3 _ _ (fun a _ _ => eN hg - a) ?_
    intro a a5 a6 ha ih
    rcases Nat.lt_or_ge a (eN hg) with ha9 | ha9
    · have va : vp_in (nI a) 81 := vp_in_nI (by omega) (by omega)
      have ca : (nI a).toNatClampNeg = a := nI_clamp (by omega)
      have la := sr_lt ha9
      have lg := sr_lt hg'
      have ea := (hE.2 a ha9).1
      have p1 : (nI (sr hg a) = nI (sr hg g)) = (sr hg a = sr hg g) := nI_eqp (by omega) (by omega)
      have p2 : (nI a = nI g) = (a = g) := nI_eqp (by omega) (by omega)
      have nx := fun a5 a6 => ih (a + 1) a5 a6 (by omega) (by omega)
      rw [rg_any_s] at nx
      have no : esA hg f g a = false → ∀ a5 a6 : Value, Z 40 [.ref 18, .int (nI f), .int (nI g), .int (zI ((List.range a).any (esA hg f g))), .int (nI (a + 1)), a5, a6] [] w 0 := fun h a5 a6 => by
        have := nx a5 a6
        rw [h, Bool.or_false] at this
        exact this
      refine hZ (rg_cut [40, 77]) 400 40 _ _ _ ?_; simp only [rg_e_iload_4 (cut := rg_cut [40, 77]) (f := true) d_M_escapes_40 rfl 42 rfl, rg_e_aload_0 (cut := rg_cut [40, 77]) (f := false) d_M_escapes_42 rfl 43 rfl, rg_e_geti (P := P_M_escapes) (cut := rg_cut [40, 77]) (f := false) d_M_escapes_43 rfl 46 rfl 18 4 9 rfl (fun _ => rfl), rg_e_icmp_ge (cut := rg_cut [40, 77]) (f := false) d_M_escapes_46 rfl 49 rfl 192 rfl, rg_e_aload_0 (cut := rg_cut [40, 77]) (f := false) d_M_escapes_49 rfl 50 rfl, rg_e_getr (P := P_M_escapes) (cut := rg_cut [40, 77]) (f := false) d_M_escapes_50 rfl 53 rfl 18 4 10 25 rfl (fun _ => rfl), rg_e_iload_4 (cut := rg_cut [40, 77]) (f := false) d_M_escapes_53 rfl 55 rfl, rg_e_iald (cut := rg_cut [40, 77]) (f := false) d_M_escapes_55 rfl 56 rfl 25 81 rfl, rg_e_aload_0 (cut := rg_cut [40, 77]) (f := false) d_M_escapes_56 rfl 57 rfl, rg_e_getr (P := P_M_escapes) (cut := rg_cut [40, 77]) (f := false) d_M_escapes_57 rfl 60 rfl 18 4 10 25 rfl (fun _ => rfl), rg_e_iload_2 (cut := rg_cut [40, 77]) (f := false) d_M_escapes_60 rfl 61 rfl, rg_e_iald (cut := rg_cut [40, 77]) (f := false) d_M_escapes_61 rfl 62 rfl 25 81 rfl, rg_e_icmp_ne (cut := rg_cut [40, 77]) (f := false) d_M_escapes_62 rfl 65 rfl 186 rfl, rg_e_iload_4 (cut := rg_cut [40, 77]) (f := false) d_M_escapes_65 rfl 67 rfl, rg_e_iload_2 (cut := rg_cut [40, 77]) (f := false) d_M_escapes_67 rfl 68 rfl, rg_e_icmp_ne (cut := rg_cut [40, 77]) (f := false) d_M_escapes_68 rfl 71 rfl 74 rfl, rg_e_goto (cut := rg_cut [40, 77]) (f := false) d_M_escapes_71 rfl 186 rfl, rg_e_iconst (cut := rg_cut [40, 77]) (f := false) d_M_escapes_74 rfl 75 rfl (nI 0) rg_ki_0, rg_e_istore_5 (cut := rg_cut [40, 77]) (f := false) d_M_escapes_75 rfl 77 rfl, rg_e_iinc_4 (cut := rg_cut [40, 77]) (f := false) d_M_escapes_186 rfl 189 rfl (nI 1) rg_ki_1, rg_e_goto (cut := rg_cut [40, 77]) (f := false) d_M_escapes_189 rfl 40 rfl, rg_e_aload_0 (cut := rg_cut [40, 77]) (f := false) d_M_escapes_192 rfl 193 rfl, rg_e_getr (P := P_M_escapes) (cut := rg_cut [40, 77]) (f := false) d_M_escapes_193 rfl 196 rfl 18 4 14 29 rfl (fun _ => rfl), rg_e_bipush (cut := rg_cut [40, 77]) (f := false) d_M_escapes_196 rfl 198 rfl (nI 81) rg_kb_81, rg_e_iload_1 (cut := rg_cut [40, 77]) (f := false) d_M_escapes_198 rfl 199 rfl, rg_e_imul (cut := rg_cut [40, 77]) (f := false) d_M_escapes_199 rfl 200 rfl, rg_e_iload_2 (cut := rg_cut [40, 77]) (f := false) d_M_escapes_200 rfl 201 rfl, rg_e_iadd (cut := rg_cut [40, 77]) (f := false) d_M_escapes_201 rfl 202 rfl, rg_e_iload_3 (cut := rg_cut [40, 77]) (f := false) d_M_escapes_202 rfl 203 rfl, rg_e_if_eq (cut := rg_cut [40, 77]) (f := false) d_M_escapes_203 rfl 206 rfl 210 rfl, rg_e_iconst (cut := rg_cut [40, 77]) (f := false) d_M_escapes_206 rfl 207 rfl (nI 2) rg_ki_2, rg_e_goto (cut := rg_cut [40, 77]) (f := false) d_M_escapes_207 rfl 211 rfl, rg_e_iconst (cut := rg_cut [40, 77]) (f := false) d_M_escapes_210 rfl 211 rfl (nI 1) rg_ki_1, rg_e_iast (cut := rg_cut [40, 77]) (f := false) d_M_escapes_211 rfl 212 rfl 29 6561 rfl, rg_e_iload_3 (cut := rg_cut [40, 77]) (f := false) d_M_escapes_212 rfl 213 rfl, rg_e_iret (cut := rg_cut [40, 77]) (f := false) d_M_escapes_213 rfl, rg_e_cut (cut := rg_cut [40, 77]) 40 rfl, rg_e_cut (cut := rg_cut [40, 77]) 77 rfl, rg_nx_i, rg_nx_v, rg_wd_n, rg_wd_i, rg_wd_l, rg_wd_r, rg_clr_i, rg_clr_l, rg_clr_r, rg_clr_a, rg_clr_n, true_and, and_true, Nat.reduceAdd, Nat.reduceLeDiff, rg_rt_e, rg_fit_ie, rg_fit_ve, rg_fit_1e, rg_fit_0e, rg_fit_be, he, va, ca, vg, cg, ea, eg, p1, p2, nI_add]
      refine ⟨fun h => absurd h (nI_ge ha9 (by omega)), fun _ => ⟨fun h => no (by unfold esA; rw [decide_eq_false h]; rfl) _ _, fun h => ⟨fun h1 => ?_, fun h1 => no (by unfold esA; rw [decide_eq_true (Classical.not_not.mp h1)]; simp) _ _⟩⟩⟩
      have := l2 a ((List.range a).any (esA hg f g)) 0 a6 ⟨ha9, by omega⟩
      unfold esA at nx
      rw [decide_eq_true (Classical.not_not.mp h), decide_eq_false h1] at nx
      have := this nx
      rw [show (List.range 0).any (esI hg f a) = false from rfl, Bool.or_false] at this
      exact this
    · obtain rfl : a = eN hg := by omega
      have fin : ∀ v, v = nI (if esN hg f g = true then 2 else 1) → K (some (.int (zI (esN hg f g)))) (rg_up w 29 (81 * f + g) v) := by
        rintro v rfl
        refine hK _ (rg_fr_up (rg_fr_rf _ _) (by decide) _ _) (fun f' g' hf' hg'' => ?_)
        rw [rg_up_s]
        by_cases e : 81 * f' + g' = 81 * f + g
        · obtain rfl : f' = f := by omega
          obtain rfl : g' = g := by omega
          rw [upd_s]
          exact Or.inr rfl
        · rw [upd_n e]
          exact hN f' g' hf' hg''
      have eE : (List.range (eN hg)).any (esA hg f g) = esN hg f g := rfl
      rw [eE]
      generalize esN hg f g = s at *
      refine hZ (rg_cut [40, 77]) 400 40 _ _ _ ?_; simp only [rg_e_iload_4 (cut := rg_cut [40, 77]) (f := true) d_M_escapes_40 rfl 42 rfl, rg_e_aload_0 (cut := rg_cut [40, 77]) (f := false) d_M_escapes_42 rfl 43 rfl, rg_e_geti (P := P_M_escapes) (cut := rg_cut [40, 77]) (f := false) d_M_escapes_43 rfl 46 rfl 18 4 9 rfl (fun _ => rfl), rg_e_icmp_ge (cut := rg_cut [40, 77]) (f := false) d_M_escapes_46 rfl 49 rfl 192 rfl, rg_e_aload_0 (cut := rg_cut [40, 77]) (f := false) d_M_escapes_49 rfl 50 rfl, rg_e_getr (P := P_M_escapes) (cut := rg_cut [40, 77]) (f := false) d_M_escapes_50 rfl 53 rfl 18 4 10 25 rfl (fun _ => rfl), rg_e_iload_4 (cut := rg_cut [40, 77]) (f := false) d_M_escapes_53 rfl 55 rfl, rg_e_iald (cut := rg_cut [40, 77]) (f := false) d_M_escapes_55 rfl 56 rfl 25 81 rfl, rg_e_aload_0 (cut := rg_cut [40, 77]) (f := false) d_M_escapes_56 rfl 57 rfl, rg_e_getr (P := P_M_escapes) (cut := rg_cut [40, 77]) (f := false) d_M_escapes_57 rfl 60 rfl 18 4 10 25 rfl (fun _ => rfl), rg_e_iload_2 (cut := rg_cut [40, 77]) (f := false) d_M_escapes_60 rfl 61 rfl, rg_e_iald (cut := rg_cut [40, 77]) (f := false) d_M_escapes_61 rfl 62 rfl 25 81 rfl, rg_e_icmp_ne (cut := rg_cut [40, 77]) (f := false) d_M_escapes_62 rfl 65 rfl 186 rfl, rg_e_iload_4 (cut := rg_cut [40, 77]) (f := false) d_M_escapes_65 rfl 67 rfl, rg_e_iload_2 (cut := rg_cut [40, 77]) (f := false) d_M_escapes_67 rfl 68 rfl, rg_e_icmp_ne (cut := rg_cut [40, 77]) (f := false) d_M_escapes_68 rfl 71 rfl 74 rfl, rg_e_goto (cut := rg_cut [40, 77]) (f := false) d_M_escapes_71 rfl 186 rfl, rg_e_iconst (cut := rg_cut [40, 77]) (f := false) d_M_escapes_74 rfl 75 rfl (nI 0) rg_ki_0, rg_e_istore_5 (cut := rg_cut [40, 77]) (f := false) d_M_escapes_75 rfl 77 rfl, rg_e_iinc_4 (cut := rg_cut [40, 77]) (f := false) d_M_escapes_186 rfl 189 rfl (nI 1) rg_ki_1, rg_e_goto (cut := rg_cut [40, 77]) (f := false) d_M_escapes_189 rfl 40 rfl, rg_e_aload_0 (cut := rg_cut [40, 77]) (f := false) d_M_escapes_192 rfl 193 rfl, rg_e_getr (P := P_M_escapes) (cut := rg_cut [40, 77]) (f := false) d_M_escapes_193 rfl 196 rfl 18 4 14 29 rfl (fun _ => rfl), rg_e_bipush (cut := rg_cut [40, 77]) (f := false) d_M_escapes_196 rfl 198 rfl (nI 81) rg_kb_81, rg_e_iload_1 (cut := rg_cut [40, 77]) (f := false) d_M_escapes_198 rfl 199 rfl, rg_e_imul (cut := rg_cut [40, 77]) (f := false) d_M_escapes_199 rfl 200 rfl, rg_e_iload_2 (cut := rg_cut [40, 77]) (f := false) d_M_escapes_200 rfl 201 rfl, rg_e_iadd (cut := rg_cut [40, 77]) (f := false) d_M_escapes_201 rfl 202 rfl, rg_e_iload_3 (cut := rg_cut [40, 77]) (f := false) d_M_escapes_202 rfl 203 rfl, rg_e_if_eq (cut := rg_cut [40, 77]) (f := false) d_M_escapes_203 rfl 206 rfl 210 rfl, rg_e_iconst (cut := rg_cut [40, 77]) (f := false) d_M_escapes_206 rfl 207 rfl (nI 2) rg_ki_2, rg_e_goto (cut := rg_cut [40, 77]) (f := false) d_M_escapes_207 rfl 211 rfl, rg_e_iconst (cut := rg_cut [40, 77]) (f := false) d_M_escapes_210 rfl 211 rfl (nI 1) rg_ki_1, rg_e_iast (cut := rg_cut [40, 77]) (f := false) d_M_escapes_211 rfl 212 rfl 29 6561 rfl, rg_e_iload_3 (cut := rg_cut [40, 77]) (f := false) d_M_escapes_212 rfl 213 rfl, rg_e_iret (cut := rg_cut [40, 77]) (f := false) d_M_escapes_213 rfl, rg_e_cut (cut := rg_cut [40, 77]) 40 rfl, rg_e_cut (cut := rg_cut [40, 77]) 77 rfl, rg_nx_i, rg_nx_v, rg_wd_n, rg_wd_i, rg_wd_l, rg_wd_r, rg_clr_i, rg_clr_l, rg_clr_r, rg_clr_a, rg_clr_n, true_and, and_true, Nat.reduceAdd, Nat.reduceLeDiff, rg_rt_e, rg_fit_ie, rg_fit_ve, rg_fit_1e, rg_fit_0e, rg_fit_be, he, x1, v1, c1, zI_eq]
      refine ⟨fun _ => ⟨fun h => ?_, fun h => ?_⟩, fun h => absurd (nI_le ha9 (by omega)) h⟩
      · have := fin (nI 1) (by rw [h]; rfl)
        exact this
      · have h : s = true := by rw [← Bool.not_eq_false]; exact h
        exact fin (nI 2) (by rw [h]; rfl)
  rcases hN f g hf hg' with hv | hv
  · refine hZ (rg_cut [40, 77]) 400 0 _ _ _ ?_; simp only [rg_e_aload_0 (cut := rg_cut [40, 77]) (f := true) d_M_escapes_0 rfl 1 rfl, rg_e_getr (P := P_M_escapes) (cut := rg_cut [40, 77]) (f := false) d_M_escapes_1 rfl 4 rfl 18 4 14 29 rfl (fun _ => rfl), rg_e_bipush (cut := rg_cut [40, 77]) (f := false) d_M_escapes_4 rfl 6 rfl (nI 81) rg_kb_81, rg_e_iload_1 (cut := rg_cut [40, 77]) (f := false) d_M_escapes_6 rfl 7 rfl, rg_e_imul (cut := rg_cut [40, 77]) (f := false) d_M_escapes_7 rfl 8 rfl, rg_e_iload_2 (cut := rg_cut [40, 77]) (f := false) d_M_escapes_8 rfl 9 rfl, rg_e_iadd (cut := rg_cut [40, 77]) (f := false) d_M_escapes_9 rfl 10 rfl, rg_e_iald (cut := rg_cut [40, 77]) (f := false) d_M_escapes_10 rfl 11 rfl 29 6561 rfl, rg_e_if_le (cut := rg_cut [40, 77]) (f := false) d_M_escapes_11 rfl 14 rfl 35 rfl, rg_e_aload_0 (cut := rg_cut [40, 77]) (f := false) d_M_escapes_14 rfl 15 rfl, rg_e_getr (P := P_M_escapes) (cut := rg_cut [40, 77]) (f := false) d_M_escapes_15 rfl 18 rfl 18 4 14 29 rfl (fun _ => rfl), rg_e_bipush (cut := rg_cut [40, 77]) (f := false) d_M_escapes_18 rfl 20 rfl (nI 81) rg_kb_81, rg_e_iload_1 (cut := rg_cut [40, 77]) (f := false) d_M_escapes_20 rfl 21 rfl, rg_e_imul (cut := rg_cut [40, 77]) (f := false) d_M_escapes_21 rfl 22 rfl, rg_e_iload_2 (cut := rg_cut [40, 77]) (f := false) d_M_escapes_22 rfl 23 rfl, rg_e_iadd (cut := rg_cut [40, 77]) (f := false) d_M_escapes_23 rfl 24 rfl, rg_e_iald (cut := rg_cut [40, 77]) (f := false) d_M_escapes_24 rfl 25 rfl 29 6561 rfl, rg_e_iconst (cut := rg_cut [40, 77]) (f := false) d_M_escapes_25 rfl 26 rfl (nI 2) rg_ki_2, rg_e_icmp_ne (cut := rg_cut [40, 77]) (f := false) d_M_escapes_26 rfl 29 rfl 33 rfl, rg_e_iconst (cut := rg_cut [40, 77]) (f := false) d_M_escapes_29 rfl 30 rfl (nI 1) rg_ki_1, rg_e_goto (cut := rg_cut [40, 77]) (f := false) d_M_escapes_30 rfl 34 rfl, rg_e_iconst (cut := rg_cut [40, 77]) (f := false) d_M_escapes_33 rfl 34 rfl (nI 0) rg_ki_0, rg_e_iret (cut := rg_cut [40, 77]) (f := false) d_M_escapes_34 rfl, rg_e_iconst (cut := rg_cut [40, 77]) (f := false) d_M_escapes_35 rfl 36 rfl (nI 0) rg_ki_0, rg_e_istore_3 (cut := rg_cut [40, 77]) (f := false) d_M_escapes_36 rfl 37 rfl, rg_e_iconst (cut := rg_cut [40, 77]) (f := false) d_M_escapes_37 rfl 38 rfl (nI 0) rg_ki_0, rg_e_istore_4 (cut := rg_cut [40, 77]) (f := false) d_M_escapes_38 rfl 40 rfl, rg_e_cut (cut := rg_cut [40, 77]) 40 rfl, rg_e_cut (cut := rg_cut [40, 77]) 77 rfl, rg_nx_i, rg_nx_v, rg_wd_n, rg_wd_i, rg_wd_l, rg_wd_r, rg_clr_i, rg_clr_l, rg_clr_r, rg_clr_a, rg_clr_n, true_and, and_true, Nat.reduceAdd, Nat.reduceLeDiff, rg_rt_e, rg_fit_ie, rg_fit_ve, rg_fit_1e, rg_fit_0e, rg_fit_be, x1, v1, c1, hv, n0, not_false_eq_true, forall_const, false_imp_iff, not_true_eq_false, and_true, true_and]
    exact l1 0 _ _ (by omega)
  · have hK := hK w (rg_fr_rf _ _) hN
    cases hs : esN hg f g with
    | true =>
      rw [hs] at hv hK
      have hv : w.1 29 (81 * f + g) = nI 2 := hv
      refine hZ (rg_cut [40, 77]) 400 0 _ _ _ ?_; simp only [rg_e_aload_0 (cut := rg_cut [40, 77]) (f := true) d_M_escapes_0 rfl 1 rfl, rg_e_getr (P := P_M_escapes) (cut := rg_cut [40, 77]) (f := false) d_M_escapes_1 rfl 4 rfl 18 4 14 29 rfl (fun _ => rfl), rg_e_bipush (cut := rg_cut [40, 77]) (f := false) d_M_escapes_4 rfl 6 rfl (nI 81) rg_kb_81, rg_e_iload_1 (cut := rg_cut [40, 77]) (f := false) d_M_escapes_6 rfl 7 rfl, rg_e_imul (cut := rg_cut [40, 77]) (f := false) d_M_escapes_7 rfl 8 rfl, rg_e_iload_2 (cut := rg_cut [40, 77]) (f := false) d_M_escapes_8 rfl 9 rfl, rg_e_iadd (cut := rg_cut [40, 77]) (f := false) d_M_escapes_9 rfl 10 rfl, rg_e_iald (cut := rg_cut [40, 77]) (f := false) d_M_escapes_10 rfl 11 rfl 29 6561 rfl, rg_e_if_le (cut := rg_cut [40, 77]) (f := false) d_M_escapes_11 rfl 14 rfl 35 rfl, rg_e_aload_0 (cut := rg_cut [40, 77]) (f := false) d_M_escapes_14 rfl 15 rfl, rg_e_getr (P := P_M_escapes) (cut := rg_cut [40, 77]) (f := false) d_M_escapes_15 rfl 18 rfl 18 4 14 29 rfl (fun _ => rfl), rg_e_bipush (cut := rg_cut [40, 77]) (f := false) d_M_escapes_18 rfl 20 rfl (nI 81) rg_kb_81, rg_e_iload_1 (cut := rg_cut [40, 77]) (f := false) d_M_escapes_20 rfl 21 rfl, rg_e_imul (cut := rg_cut [40, 77]) (f := false) d_M_escapes_21 rfl 22 rfl, rg_e_iload_2 (cut := rg_cut [40, 77]) (f := false) d_M_escapes_22 rfl 23 rfl, rg_e_iadd (cut := rg_cut [40, 77]) (f := false) d_M_escapes_23 rfl 24 rfl, rg_e_iald (cut := rg_cut [40, 77]) (f := false) d_M_escapes_24 rfl 25 rfl 29 6561 rfl, rg_e_iconst (cut := rg_cut [40, 77]) (f := false) d_M_escapes_25 rfl 26 rfl (nI 2) rg_ki_2, rg_e_icmp_ne (cut := rg_cut [40, 77]) (f := false) d_M_escapes_26 rfl 29 rfl 33 rfl, rg_e_iconst (cut := rg_cut [40, 77]) (f := false) d_M_escapes_29 rfl 30 rfl (nI 1) rg_ki_1, rg_e_goto (cut := rg_cut [40, 77]) (f := false) d_M_escapes_30 rfl 34 rfl, rg_e_iconst (cut := rg_cut [40, 77]) (f := false) d_M_escapes_33 rfl 34 rfl (nI 0) rg_ki_0, rg_e_iret (cut := rg_cut [40, 77]) (f := false) d_M_escapes_34 rfl, rg_e_iconst (cut := rg_cut [40, 77]) (f := false) d_M_escapes_35 rfl 36 rfl (nI 0) rg_ki_0, rg_e_istore_3 (cut := rg_cut [40, 77]) (f := false) d_M_escapes_36 rfl 37 rfl, rg_e_iconst (cut := rg_cut [40, 77]) (f := false) d_M_escapes_37 rfl 38 rfl (nI 0) rg_ki_0, rg_e_istore_4 (cut := rg_cut [40, 77]) (f := false) d_M_escapes_38 rfl 40 rfl, rg_e_cut (cut := rg_cut [40, 77]) 40 rfl, rg_e_cut (cut := rg_cut [40, 77]) 77 rfl, rg_nx_i, rg_nx_v, rg_wd_n, rg_wd_i, rg_wd_l, rg_wd_r, rg_clr_i, rg_clr_l, rg_clr_r, rg_clr_a, rg_clr_n, true_and, and_true, Nat.reduceAdd, Nat.reduceLeDiff, rg_rt_e, rg_fit_ie, rg_fit_ve, rg_fit_1e, rg_fit_0e, rg_fit_be, x1, v1, c1, hv, n2, n12, not_false_eq_true, forall_const, false_imp_iff, not_true_eq_false, and_true, true_and]
      exact hK
    | false =>
      rw [hs] at hv hK
      have hv : w.1 29 (81 * f + g) = nI 1 := hv
      refine hZ (rg_cut [40, 77]) 400 0 _ _ _ ?_; simp only [rg_e_aload_0 (cut := rg_cut [40, 77]) (f := true) d_M_escapes_0 rfl 1 rfl, rg_e_getr (P := P_M_escapes) (cut := rg_cut [40, 77]) (f := false) d_M_escapes_1 rfl 4 rfl 18 4 14 29 rfl (fun _ => rfl), rg_e_bipush (cut := rg_cut [40, 77]) (f := false) d_M_escapes_4 rfl 6 rfl (nI 81) rg_kb_81, rg_e_iload_1 (cut := rg_cut [40, 77]) (f := false) d_M_escapes_6 rfl 7 rfl, rg_e_imul (cut := rg_cut [40, 77]) (f := false) d_M_escapes_7 rfl 8 rfl, rg_e_iload_2 (cut := rg_cut [40, 77]) (f := false) d_M_escapes_8 rfl 9 rfl, rg_e_iadd (cut := rg_cut [40, 77]) (f := false) d_M_escapes_9 rfl 10 rfl, rg_e_iald (cut := rg_cut [40, 77]) (f := false) d_M_escapes_10 rfl 11 rfl 29 6561 rfl, rg_e_if_le (cut := rg_cut [40, 77]) (f := false) d_M_escapes_11 rfl 14 rfl 35 rfl, rg_e_aload_0 (cut := rg_cut [40, 77]) (f := false) d_M_escapes_14 rfl 15 rfl, rg_e_getr (P := P_M_escapes) (cut := rg_cut [40, 77]) (f := false) d_M_escapes_15 rfl 18 rfl 18 4 14 29 rfl (fun _ => rfl), rg_e_bipush (cut := rg_cut [40, 77]) (f := false) d_M_escapes_18 rfl 20 rfl (nI 81) rg_kb_81, rg_e_iload_1 (cut := rg_cut [40, 77]) (f := false) d_M_escapes_20 rfl 21 rfl, rg_e_imul (cut := rg_cut [40, 77]) (f := false) d_M_escapes_21 rfl 22 rfl, rg_e_iload_2 (cut := rg_cut [40, 77]) (f := false) d_M_escapes_22 rfl 23 rfl, rg_e_iadd (cut := rg_cut [40, 77]) (f := false) d_M_escapes_23 rfl 24 rfl, rg_e_iald (cut := rg_cut [40, 77]) (f := false) d_M_escapes_24 rfl 25 rfl 29 6561 rfl, rg_e_iconst (cut := rg_cut [40, 77]) (f := false) d_M_escapes_25 rfl 26 rfl (nI 2) rg_ki_2, rg_e_icmp_ne (cut := rg_cut [40, 77]) (f := false) d_M_escapes_26 rfl 29 rfl 33 rfl, rg_e_iconst (cut := rg_cut [40, 77]) (f := false) d_M_escapes_29 rfl 30 rfl (nI 1) rg_ki_1, rg_e_goto (cut := rg_cut [40, 77]) (f := false) d_M_escapes_30 rfl 34 rfl, rg_e_iconst (cut := rg_cut [40, 77]) (f := false) d_M_escapes_33 rfl 34 rfl (nI 0) rg_ki_0, rg_e_iret (cut := rg_cut [40, 77]) (f := false) d_M_escapes_34 rfl, rg_e_iconst (cut := rg_cut [40, 77]) (f := false) d_M_escapes_35 rfl 36 rfl (nI 0) rg_ki_0, rg_e_istore_3 (cut := rg_cut [40, 77]) (f := false) d_M_escapes_36 rfl 37 rfl, rg_e_iconst (cut := rg_cut [40, 77]) (f := false) d_M_escapes_37 rfl 38 rfl (nI 0) rg_ki_0, rg_e_istore_4 (cut := rg_cut [40, 77]) (f := false) d_M_escapes_38 rfl 40 rfl, rg_e_cut (cut := rg_cut [40, 77]) 40 rfl, rg_e_cut (cut := rg_cut [40, 77]) 77 rfl, rg_nx_i, rg_nx_v, rg_wd_n, rg_wd_i, rg_wd_l, rg_wd_r, rg_clr_i, rg_clr_l, rg_clr_r, rg_clr_a, rg_clr_n, true_and, and_true, Nat.reduceAdd, Nat.reduceLeDiff, rg_rt_e, rg_fit_ie, rg_fit_ve, rg_fit_1e, rg_fit_0e, rg_fit_be, x1, v1, c1, hv, n1, n12, not_false_eq_true, forall_const, false_imp_iff, not_true_eq_false, and_true, true_and]
      exact hK
