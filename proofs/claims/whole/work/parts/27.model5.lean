/-! the reference: the graph's making -/
theorem evT_skip {hg : Nat → Nat → Nat} {s : Nat} : ∀ n, (∀ t, s ≤ t → t < s + n → hgC hg t = false) → evT hg (s + n) = evT hg s
  | 0, _ => rfl
  | n + 1, h => by
    rw [← Nat.add_assoc, evT_f (h (s + n) (by omega) (by omega))]
    exact evT_skip n (fun t h1 h2 => h t h1 (by omega))
/-- the edges left among the first k that there were -/
def egT (hg : Nat → Nat → Nat) (k : Nat) : List Nat := ((evT hg 81).take k).filter (kp hg)
theorem egT_s {hg : Nat → Nat → Nat} {k : Nat} (h : k < (evT hg 81).length) : egT hg (k + 1) = egT hg k ++ (if kp hg ((evT hg 81).getD k 0) = true then [(evT hg 81).getD k 0] else []) := by
  unfold egT
  have e : (evT hg 81).getD k 0 = (evT hg 81)[k] := by rw [List.getD_eq_getElem?_getD, List.getElem?_eq_getElem h]; rfl
  rw [List.take_succ_eq_append_getElem h, List.filter_append, e]
  congr 1
  by_cases hk : kp hg ((evT hg 81)[k]) = true <;> simp [hk]
theorem egT_e (hg : Nat → Nat → Nat) : egT hg (evT hg 81).length = esT hg 81 := by
  unfold egT evT esT
  rw [List.take_length, List.filter_filter]
  apply List.filter_congr
  intro t _
  unfold kp hgC
  cases decide (hg (t / 9) (t % 9) = 0) <;> simp
theorem egT_le (hg : Nat → Nat → Nat) (k : Nat) : (egT hg k).length ≤ k := by
  unfold egT
  have h1 := List.length_filter_le (kp hg) ((evT hg 81).take k)
  have h2 := List.length_take_le k (evT hg 81)
  omega
def EgA (ln : Nat → Nat) (hg : Nat → Nat → Nat) (c k : Nat) (w : rg_W) : Prop := w.1 25 k = nI (c / 9) ∧ w.1 26 k = nI (c % 9) ∧ w.1 27 k = nI (ln (c % 9) - hg (c / 9) (c % 9))
theorem hgN_L (nr : Nat) {ln pk : Nat → Nat} {w : rg_W} (hL : Lm nr ln pk w) (least : Nat) (h1 : 1 ≤ least) : HgL nr ln (hgN nr ln pk least) := by
  refine ⟨fun i => by unfold hgN; rw [if_neg (by simp)], fun a b h => ?_⟩
  unfold hgN at h ⊢
  by_cases hc : a ≠ b ∧ ndN nr ln pk a = true ∧ ndN nr ln pk b = true
  · rw [if_pos hc] at h ⊢
    have hb := ndN_lt hc.2.2
    have := hL.2 b hb
    refine ⟨ndN_lt hc.2.1, hb, ?_⟩
    split
    · omega
    · omega
  · rw [if_neg hc] at h
    exact absurd rfl h
theorem hgN_ov {nr : Nat} {ln pk : Nat → Nat} {w : rg_W} (hL : Lm nr ln pk w) {least i j : Nat} (hij : i ≠ j) (ni : ndN nr ln pk i = true) (nj : ndN nr ln pk j = true) : (ovN ln pk i j least = 0 → hgN nr ln pk least i j = 0) ∧ (ovN ln pk i j least ≠ 0 → hgN nr ln pk least i j ≠ 0 ∧ ovN ln pk i j least = ln j - hgN nr ln pk least i j) := by
  have := hL.2 j (ndN_lt nj)
  have hov : ovN ln pk i j least ≤ min (ln i) (ln j) - 1 := gtF_le _ _ _
  unfold hgN
  rw [if_pos ⟨hij, ni, nj⟩]
  refine ⟨fun h => if_pos h, fun h => ?_⟩
  rw [if_neg h]
  omega
/-- the first t places laid -/
def BuI (ln : Nat → Nat) (hg : Nat → Nat → Nat) (nr : Nat) (w0 : rg_W) (t : Nat) (w : rg_W) : Prop := rg_fr [18, 22, 23, 24, 25, 26, 27, 28, 29] w0 w ∧ w.1 18 0 = nI 0 ∧ w.1 18 1 = nI nr ∧ w.1 18 9 = nI 0 ∧ w.1 18 17 = nI 0 ∧ (∀ t, t < 81 → w.1 28 t = nI 0) ∧ (∀ t, t < 6561 → w.1 29 t = nI 0) ∧ EvM ln hg t w
theorem BuI.cg {ln : Nat → Nat} {hg : Nat → Nat → Nat} {nr : Nat} {w0 : rg_W} {t t' : Nat} {w : rg_W} (h : BuI ln hg nr w0 t w) (e : evT hg t' = evT hg t) : BuI ln hg nr w0 t' w := by
  obtain ⟨a, b, c, d, e1, f, g, i⟩ := h
  refine ⟨a, b, c, d, e1, f, g, ?_⟩
  unfold EvM at i ⊢
  rw [e]
  exact i
set_option maxHeartbeats 1000000 in
-- M.build
def P_M_build : rg_P := (rg_F_M, [(146, 2, 0, T_M_out), (161, 3, 0, T_M_throwing), (169, 1, 0, T_M_again), (181, 2, 0, T_M_isNode), (189, 4, 0, T_M_overlapOf), (205, 2, 0, T_M_isSaid), (211, 1, 0, T_M_spread)], [], [], [], [], 0)
def T_M_build : rg_T := fun as w K => match as with
  | [.ref 18, .int z] => ∃ nr ln pk, RdM nr ln pk w ∧ ((decide (z - nI 1 < 0) || !decide (z - nI 1 < nI 12)) = true → K (some (.int (nI 0))) (rg_up w 18 0 (nI 1))) ∧ ∀ least, 1 ≤ least → least ≤ 12 → z = nI least → ∀ w', rg_fr [18, 22, 23, 24, 25, 26, 27, 28, 29] w w' → w'.1 18 0 = nI 0 → w'.1 18 1 = nI nr → w'.1 18 17 = nI 0 → w'.1 18 5 = nI (cnF (hgC (hgN nr ln pk least)) 81) → EgM ln (hgN nr ln pk least) w' → RcM (hgN nr ln pk least) w' → (∀ t, t < 6561 → w'.1 29 t = nI 0) → K (some (.int (nI (eN (hgN nr ln pk least))))) w'
  | _ => False
theorem Te_M_build (z : Int32) (w : rg_W) (K : Option Value → rg_W → Prop) : T_M_build [.ref 18, .int z] w K = (∃ nr ln pk, RdM nr ln pk w ∧ ((decide (z - nI 1 < 0) || !decide (z - nI 1 < nI 12)) = true → K (some (.int (nI 0))) (rg_up w 18 0 (nI 1))) ∧ ∀ least, 1 ≤ least → least ≤ 12 → z = nI least → ∀ w', rg_fr [18, 22, 23, 24, 25, 26, 27, 28, 29] w w' → w'.1 18 0 = nI 0 → w'.1 18 1 = nI nr → w'.1 18 17 = nI 0 → w'.1 18 5 = nI (cnF (hgC (hgN nr ln pk least)) 81) → EgM ln (hgN nr ln pk least) w' → RcM (hgN nr ln pk least) w' → (∀ t, t < 6561 → w'.1 29 t = nI 0) → K (some (.int (nI (eN (hgN nr ln pk least))))) w') := rfl
theorem r_M_build : ∀ as w K, T_M_build as w K → ∃ r, as = .ref 18 :: r := by
  intro as w K h
  unfold T_M_build at h
  split at h
  · exact ⟨_, rfl⟩
  · exact h.elim
theorem G_M_build (l : Launch) : rg_Good l y_M_build c_M_build 5 (some .int) 2 T_M_build := by
  refine rg_good_of (P := P_M_build) (by decide) (rg_pok rg_F_M_ok (rg_cons (cw_M_73 (G_M_out l) (by decide)) (rg_cons (cw_M_80 (G_M_throwing l) (by decide) r_M_throwing) (rg_cons (cw_M_84 (G_M_again l) (by decide) r_M_again) (rg_cons (cw_M_90 (G_M_isNode l) (by decide) r_M_isNode) (rg_cons (cw_M_94 (G_M_overlapOf l) (by decide) r_M_overlapOf) (rg_cons (cw_M_102 (G_M_isSaid l) (by decide) r_M_isSaid) (rg_cons (cw_M_105 (G_M_spread l) (by decide) r_M_spread) rg_nil)))))))) ?_
  intro as w K Z hT hZ
  unfold T_M_build at hT
  split at hT
  rotate_left
  · exact hT.elim
  rename_i z
  refine ⟨Nat.le_of_ble_eq_true rfl, ?_⟩
  show Z 0 [.ref 18, .int z, .null, .null, .null] [] w 0
  obtain ⟨nr, ln, pk, hR, hK1, hK2⟩ := hT
  obtain ⟨hL, hr, hc⟩ := id hR
  have hn9 := hL.1
  have z1 : (zI true = 0) = False := by decide +kernel
  have z0 : (zI false = 0) = True := by decide +kernel
  have n0 : (nI 0 = 0) = True := by decide +kernel
  have n1 : (nI 1 = 0) = False := by decide +kernel
  rcases lst_or z with ⟨h, -⟩ | ⟨least, k1, k2, rfl⟩
  · refine hZ (rg_cut [24, 34, 139]) 400 0 _ _ _ ?_; simp only [rg_e_aload_0 (cut := rg_cut [24, 34, 139]) (f := true) d_M_build_0 rfl 1 rfl, rg_e_iload_1 (cut := rg_cut [24, 34, 139]) (f := false) d_M_build_1 rfl 2 rfl, rg_e_iconst (cut := rg_cut [24, 34, 139]) (f := false) d_M_build_2 rfl 3 rfl (nI 1) rg_ki_1, rg_e_isub (cut := rg_cut [24, 34, 139]) (f := false) d_M_build_3 rfl 4 rfl, rg_e_bipush (cut := rg_cut [24, 34, 139]) (f := false) d_M_build_4 rfl 6 rfl (nI 12) rg_kb_12, rg_e_cs2 (P := P_M_build) (cut := rg_cut [24, 34, 139]) (f := false) d_M_build_6 rfl T_M_out rfl, rg_e_iconst (cut := rg_cut [24, 34, 139]) (f := false) d_M_build_9 rfl 10 rfl (nI 0) rg_ki_0, rg_e_cv3 (P := P_M_build) (cut := rg_cut [24, 34, 139]) (f := false) d_M_build_10 rfl T_M_throwing rfl, rg_e_if_eq (cut := rg_cut [24, 34, 139]) (f := false) d_M_build_13 rfl 16 rfl 18 rfl, rg_e_iconst (cut := rg_cut [24, 34, 139]) (f := false) d_M_build_16 rfl 17 rfl (nI 0) rg_ki_0, rg_e_iret (cut := rg_cut [24, 34, 139]) (f := false) d_M_build_17 rfl, rg_e_aload_0 (cut := rg_cut [24, 34, 139]) (f := false) d_M_build_18 rfl 19 rfl, rg_e_cv1 (P := P_M_build) (cut := rg_cut [24, 34, 139]) (f := false) d_M_build_19 rfl T_M_again rfl, rg_e_iconst (cut := rg_cut [24, 34, 139]) (f := false) d_M_build_22 rfl 23 rfl (nI 0) rg_ki_0, rg_e_istore_2 (cut := rg_cut [24, 34, 139]) (f := false) d_M_build_23 rfl 24 rfl, rg_e_cut (cut := rg_cut [24, 34, 139]) 24 rfl, rg_e_cut (cut := rg_cut [24, 34, 139]) 34 rfl, rg_e_cut (cut := rg_cut [24, 34, 139]) 139 rfl, rg_nx_i, rg_nx_v, rg_wd_n, rg_wd_i, rg_wd_l, rg_wd_r, rg_clr_i, rg_clr_l, rg_clr_r, rg_clr_a, rg_clr_n, true_and, and_true, Nat.reduceAdd, Nat.reduceLeDiff, ↓Te_M_out, ↓Te_M_throwing, ↓Te_M_again, ↓Te_M_isNode, ↓Te_M_overlapOf, ↓Te_M_isSaid, ↓Te_M_spread, rg_rt_e, rg_fit_ie, rg_fit_ve, rg_fit_1e, rg_fit_0e, rg_fit_be, h, z1, z0, n0, n1, decide_true, decide_false, Bool.not_true, Bool.not_false, Bool.true_or, Bool.or_true, Bool.or_false, not_false_eq_true, forall_const, false_imp_iff, not_true_eq_false, if_false, if_true, reduceIte, and_true, true_and]
    exact hK1 h
  have h := lst_f k1 k2
  have hK2 := hK2 least k1 k2 rfl
  have hH := hgN_L nr hL least k1
  have h72 := eN_le hH.1
  have hgz : ∀ i j, nr ≤ i ∨ nr ≤ j → hgN nr ln pk least i j = 0 := fun i j h => by
    apply Classical.byContradiction
    intro g
    have := hH.2 i j g
    omega
  generalize hhg : hgN nr ln pk least = hg at *
  have rd : ∀ {w1 : rg_W}, rg_fr [18, 22, 23, 24, 25, 26, 27, 28, 29] w w1 → w1.1 18 1 = nI nr → RdM nr ln pk w1 := fun hf h1 => ⟨hL.fr (hf.1 19 (by decide)) (hf.1 20 (by decide)), h1, by rw [hf.1 21 (by decide)]; exact hc⟩
  -- those that are left
  have l4 : ∀ (wE : rg_W), BuI ln hg nr w 81 wE → ∀ (k : Nat) (w1 : rg_W), (k ≤ (evT hg 81).length ∧ rg_fr [18, 25, 26, 27] wE w1 ∧ (∀ q, q ≠ 9 → w1.1 18 q = wE.1 18 q) ∧ w1.1 18 9 = nI (egT hg k).length ∧ ∀ b, b < (egT hg k).length → EgA ln hg ((egT hg k).getD b 0) b w1) → ∀ a3 a4 : Value, Z 139 [.ref 18, .int (nI least), .int (nI k), a3, a4] [] w1 0 := by
    intro wE ⟨bf, b0, b1, b9, b17, b28, b29, bE⟩
    refine rg_lp2 _ _ (fun k _ => (evT hg 81).length - k) ?_
    intro k w1 ⟨hk, hf, hq, hlen, hA⟩ ih a3 a4
    have hle := evT_le hg 81
    have hle2 := egT_le hg k
    have hE1 : EvM ln hg 81 w1 := bE.fr (hq 5 (by decide)) (hf.1 22 (by decide)) (hf.1 23 (by decide)) (hf.1 24 (by decide))
    have he := hE1.1
    have hf' : rg_fr [18, 22, 23, 24, 25, 26, 27, 28, 29] w w1 := rg_fr_tr bf (rg_fr_sub hf (by decide))
    have hr1 : w1.1 18 1 = nI nr := by rw [hq 1 (by decide)]; exact b1
    rcases Nat.lt_or_ge k (evT hg 81).length with hk9 | hk9
    · obtain ⟨e1, e2, e3⟩ := hE1.2 k hk9
      have vk : vp_in (nI k) 81 := vp_in_nI (by omega) (by omega)
      have ck : (nI k).toNatClampNeg = k := nI_clamp (by omega)
      have vl : vp_in (nI (egT hg k).length) 81 := vp_in_nI (by omega) (by omega)
      have cl : (nI (egT hg k).length).toNatClampNeg = (egT hg k).length := nI_clamp (by omega)
      have es := egT_s hk9
      refine hZ (rg_cut [24, 34, 139]) 400 139 _ _ _ ?_; simp only [rg_e_iload_2 (cut := rg_cut [24, 34, 139]) (f := true) d_M_build_139 rfl 140 rfl, rg_e_aload_0 (cut := rg_cut [24, 34, 139]) (f := false) d_M_build_140 rfl 141 rfl, rg_e_geti (P := P_M_build) (cut := rg_cut [24, 34, 139]) (f := false) d_M_build_141 rfl 144 rfl 18 4 5 rfl (fun _ => rfl), rg_e_icmp_ge (cut := rg_cut [24, 34, 139]) (f := false) d_M_build_144 rfl 147 rfl 219 rfl, rg_e_aload_0 (cut := rg_cut [24, 34, 139]) (f := false) d_M_build_147 rfl 148 rfl, rg_e_iload_2 (cut := rg_cut [24, 34, 139]) (f := false) d_M_build_148 rfl 149 rfl, rg_e_cv2 (P := P_M_build) (cut := rg_cut [24, 34, 139]) (f := false) d_M_build_149 rfl T_M_isSaid rfl, rg_e_if_eq (cut := rg_cut [24, 34, 139]) (f := false) d_M_build_152 rfl 155 rfl 158 rfl, rg_e_goto (cut := rg_cut [24, 34, 139]) (f := false) d_M_build_155 rfl 213 rfl, rg_e_aload_0 (cut := rg_cut [24, 34, 139]) (f := false) d_M_build_158 rfl 159 rfl, rg_e_getr (P := P_M_build) (cut := rg_cut [24, 34, 139]) (f := false) d_M_build_159 rfl 162 rfl 18 4 10 25 rfl (fun _ => rfl), rg_e_aload_0 (cut := rg_cut [24, 34, 139]) (f := false) d_M_build_162 rfl 163 rfl, rg_e_geti (P := P_M_build) (cut := rg_cut [24, 34, 139]) (f := false) d_M_build_163 rfl 166 rfl 18 4 9 rfl (fun _ => rfl), rg_e_aload_0 (cut := rg_cut [24, 34, 139]) (f := false) d_M_build_166 rfl 167 rfl, rg_e_getr (P := P_M_build) (cut := rg_cut [24, 34, 139]) (f := false) d_M_build_167 rfl 170 rfl 18 4 6 22 rfl (fun _ => rfl), rg_e_iload_2 (cut := rg_cut [24, 34, 139]) (f := false) d_M_build_170 rfl 171 rfl, rg_e_iald (cut := rg_cut [24, 34, 139]) (f := false) d_M_build_171 rfl 172 rfl 22 81 rfl, rg_e_iast (cut := rg_cut [24, 34, 139]) (f := false) d_M_build_172 rfl 173 rfl 25 81 rfl, rg_e_aload_0 (cut := rg_cut [24, 34, 139]) (f := false) d_M_build_173 rfl 174 rfl, rg_e_getr (P := P_M_build) (cut := rg_cut [24, 34, 139]) (f := false) d_M_build_174 rfl 177 rfl 18 4 11 26 rfl (fun _ => rfl), rg_e_aload_0 (cut := rg_cut [24, 34, 139]) (f := false) d_M_build_177 rfl 178 rfl, rg_e_geti (P := P_M_build) (cut := rg_cut [24, 34, 139]) (f := false) d_M_build_178 rfl 181 rfl 18 4 9 rfl (fun _ => rfl), rg_e_aload_0 (cut := rg_cut [24, 34, 139]) (f := false) d_M_build_181 rfl 182 rfl, rg_e_getr (P := P_M_build) (cut := rg_cut [24, 34, 139]) (f := false) d_M_build_182 rfl 185 rfl 18 4 7 23 rfl (fun _ => rfl), rg_e_iload_2 (cut := rg_cut [24, 34, 139]) (f := false) d_M_build_185 rfl 186 rfl, rg_e_iald (cut := rg_cut [24, 34, 139]) (f := false) d_M_build_186 rfl 187 rfl 23 81 rfl, rg_e_iast (cut := rg_cut [24, 34, 139]) (f := false) d_M_build_187 rfl 188 rfl 26 81 rfl, rg_e_aload_0 (cut := rg_cut [24, 34, 139]) (f := false) d_M_build_188 rfl 189 rfl, rg_e_getr (P := P_M_build) (cut := rg_cut [24, 34, 139]) (f := false) d_M_build_189 rfl 192 rfl 18 4 12 27 rfl (fun _ => rfl), rg_e_aload_0 (cut := rg_cut [24, 34, 139]) (f := false) d_M_build_192 rfl 193 rfl, rg_e_geti (P := P_M_build) (cut := rg_cut [24, 34, 139]) (f := false) d_M_build_193 rfl 196 rfl 18 4 9 rfl (fun _ => rfl), rg_e_aload_0 (cut := rg_cut [24, 34, 139]) (f := false) d_M_build_196 rfl 197 rfl, rg_e_getr (P := P_M_build) (cut := rg_cut [24, 34, 139]) (f := false) d_M_build_197 rfl 200 rfl 18 4 8 24 rfl (fun _ => rfl), rg_e_iload_2 (cut := rg_cut [24, 34, 139]) (f := false) d_M_build_200 rfl 201 rfl, rg_e_iald (cut := rg_cut [24, 34, 139]) (f := false) d_M_build_201 rfl 202 rfl 24 81 rfl, rg_e_iast (cut := rg_cut [24, 34, 139]) (f := false) d_M_build_202 rfl 203 rfl 27 81 rfl, rg_e_aload_0 (cut := rg_cut [24, 34, 139]) (f := false) d_M_build_203 rfl 204 rfl, rg_e_dupr (cut := rg_cut [24, 34, 139]) (f := false) d_M_build_204 rfl 205 rfl, rg_e_geti (P := P_M_build) (cut := rg_cut [24, 34, 139]) (f := false) d_M_build_205 rfl 208 rfl 18 4 9 rfl (fun _ => rfl), rg_e_iconst (cut := rg_cut [24, 34, 139]) (f := false) d_M_build_208 rfl 209 rfl (nI 1) rg_ki_1, rg_e_iadd (cut := rg_cut [24, 34, 139]) (f := false) d_M_build_209 rfl 210 rfl, rg_e_put (P := P_M_build) (cut := rg_cut [24, 34, 139]) (f := false) d_M_build_210 rfl 213 rfl 18 4 9 rfl rfl, rg_e_iinc_2 (cut := rg_cut [24, 34, 139]) (f := false) d_M_build_213 rfl 216 rfl (nI 1) rg_ki_1, rg_e_goto (cut := rg_cut [24, 34, 139]) (f := false) d_M_build_216 rfl 139 rfl, rg_e_aload_0 (cut := rg_cut [24, 34, 139]) (f := false) d_M_build_219 rfl 220 rfl, rg_e_cv1 (P := P_M_build) (cut := rg_cut [24, 34, 139]) (f := false) d_M_build_220 rfl T_M_spread rfl, rg_e_aload_0 (cut := rg_cut [24, 34, 139]) (f := false) d_M_build_223 rfl 224 rfl, rg_e_geti (P := P_M_build) (cut := rg_cut [24, 34, 139]) (f := false) d_M_build_224 rfl 227 rfl 18 4 9 rfl (fun _ => rfl), rg_e_iret (cut := rg_cut [24, 34, 139]) (f := false) d_M_build_227 rfl, rg_e_cut (cut := rg_cut [24, 34, 139]) 24 rfl, rg_e_cut (cut := rg_cut [24, 34, 139]) 34 rfl, rg_e_cut (cut := rg_cut [24, 34, 139]) 139 rfl, rg_nx_i, rg_nx_v, rg_wd_n, rg_wd_i, rg_wd_l, rg_wd_r, rg_clr_i, rg_clr_l, rg_clr_r, rg_clr_a, rg_clr_n, true_and, and_true, Nat.reduceAdd, Nat.reduceLeDiff, ↓Te_M_out, ↓Te_M_throwing, ↓Te_M_again, ↓Te_M_isNode, ↓Te_M_overlapOf, ↓Te_M_isSaid, ↓Te_M_spread, rg_rt_e, rg_fit_ie, rg_fit_ve, rg_fit_1e, rg_fit_0e, rg_fit_be, he, vk, ck, vl, cl, hlen, e1, e2, e3, zI_eq, nI_add, rg_up_n, ne_eq, not_false_eq_true, Nat.reduceEqDiff]
      refine ⟨fun h => absurd h (nI_ge hk9 (by omega)), fun _ => ⟨nr, ln, pk, hg, k, rd hf' hr1, hH, hE1, rfl, hk9, fun h => ?_, fun h => ?_⟩⟩
      · have h : kp hg ((evT hg 81).getD k 0) = true := by simpa using h
        rw [if_pos h] at es
        refine ih (k + 1) _ ⟨by omega, rg_fr_up (rg_fr_up (rg_fr_up (rg_fr_up hf (by decide) _ _) (by decide) _ _) (by decide) _ _) (by decide) _ _, fun q hq9 => ?_, ?_, fun b hb => ?_⟩ (by omega) _ _
        · simp only [rg_up_s, rg_up_n, ne_eq, not_false_eq_true, Nat.reduceEqDiff]
          rw [upd_n hq9]
          exact hq q hq9
        · rw [rg_up_ss, es, List.length_append, List.length_singleton]
        · rw [es, List.length_append, List.length_singleton] at hb
          rw [es]
          unfold EgA
          simp only [rg_up_s, rg_up_n, ne_eq, not_false_eq_true, Nat.reduceEqDiff]
          by_cases e : b = (egT hg k).length
          · subst e
            rw [getD_e, upd_s, upd_s, upd_s]
            exact ⟨rfl, rfl, rfl⟩
          · rw [getD_l (by omega), upd_n e, upd_n e, upd_n e]
            exact hA b (by omega)
      · have h : kp hg ((evT hg 81).getD k 0) = false := by
          rw [← Bool.not_eq_true]
          intro z
          rw [z] at h
          exact h rfl
        rw [if_neg (by rw [h]; decide), List.append_nil] at es
        exact ih (k + 1) w1 ⟨by omega, hf, hq, by rw [es]; exact hlen, by rw [es]; exact hA⟩ (by omega) _ _
    · obtain rfl : k = (evT hg 81).length := by omega
      rw [egT_e] at hlen hA
      refine hZ (rg_cut [24, 34, 139]) 400 139 _ _ _ ?_; simp only [rg_e_iload_2 (cut := rg_cut [24, 34, 139]) (f := true) d_M_build_139 rfl 140 rfl, rg_e_aload_0 (cut := rg_cut [24, 34, 139]) (f := false) d_M_build_140 rfl 141 rfl, rg_e_geti (P := P_M_build) (cut := rg_cut [24, 34, 139]) (f := false) d_M_build_141 rfl 144 rfl 18 4 5 rfl (fun _ => rfl), rg_e_icmp_ge (cut := rg_cut [24, 34, 139]) (f := false) d_M_build_144 rfl 147 rfl 219 rfl, rg_e_aload_0 (cut := rg_cut [24, 34, 139]) (f := false) d_M_build_147 rfl 148 rfl, rg_e_iload_2 (cut := rg_cut [24, 34, 139]) (f := false) d_M_build_148 rfl 149 rfl, rg_e_cv2 (P := P_M_build) (cut := rg_cut [24, 34, 139]) (f := false) d_M_build_149 rfl T_M_isSaid rfl, rg_e_if_eq (cut := rg_cut [24, 34, 139]) (f := false) d_M_build_152 rfl 155 rfl 158 rfl, rg_e_goto (cut := rg_cut [24, 34, 139]) (f := false) d_M_build_155 rfl 213 rfl, rg_e_aload_0 (cut := rg_cut [24, 34, 139]) (f := false) d_M_build_158 rfl 159 rfl, rg_e_getr (P := P_M_build) (cut := rg_cut [24, 34, 139]) (f := false) d_M_build_159 rfl 162 rfl 18 4 10 25 rfl (fun _ => rfl), rg_e_aload_0 (cut := rg_cut [24, 34, 139]) (f := false) d_M_build_162 rfl 163 rfl, rg_e_geti (P := P_M_build) (cut := rg_cut [24, 34, 139]) (f := false) d_M_build_163 rfl 166 rfl 18 4 9 rfl (fun _ => rfl), rg_e_aload_0 (cut := rg_cut [24, 34, 139]) (f := false) d_M_build_166 rfl 167 rfl, rg_e_getr (P := P_M_build) (cut := rg_cut [24, 34, 139]) (f := false) d_M_build_167 rfl 170 rfl 18 4 6 22 rfl (fun _ => rfl), rg_e_iload_2 (cut := rg_cut [24, 34, 139]) (f := false) d_M_build_170 rfl 171 rfl, rg_e_iald (cut := rg_cut [24, 34, 139]) (f := false) d_M_build_171 rfl 172 rfl 22 81 rfl, rg_e_iast (cut := rg_cut [24, 34, 139]) (f := false) d_M_build_172 rfl 173 rfl 25 81 rfl, rg_e_aload_0 (cut := rg_cut [24, 34, 139]) (f := false) d_M_build_173 rfl 174 rfl, rg_e_getr (P := P_M_build) (cut := rg_cut [24, 34, 139]) (f := false) d_M_build_174 rfl 177 rfl 18 4 11 26 rfl (fun _ => rfl), rg_e_aload_0 (cut := rg_cut [24, 34, 139]) (f := false) d_M_build_177 rfl 178 rfl, rg_e_geti (P := P_M_build) (cut := rg_cut [24, 34, 139]) (f := false) d_M_build_178 rfl 181 rfl 18 4 9 rfl (fun _ => rfl), rg_e_aload_0 (cut := rg_cut [24, 34, 139]) (f := false) d_M_build_181 rfl 182 rfl, rg_e_getr (P := P_M_build) (cut := rg_cut [24, 34, 139]) (f := false) d_M_build_182 rfl 185 rfl 18 4 7 23 rfl (fun _ => rfl), rg_e_iload_2 (cut := rg_cut [24, 34, 139]) (f := false) d_M_build_185 rfl 186 rfl, rg_e_iald (cut := rg_cut [24, 34, 139]) (f := false) d_M_build_186 rfl 187 rfl 23 81 rfl, rg_e_iast (cut := rg_cut [24, 34, 139]) (f := false) d_M_build_187 rfl 188 rfl 26 81 rfl, rg_e_aload_0 (cut := rg_cut [24, 34, 139]) (f := false) d_M_build_188 rfl 189 rfl, rg_e_getr (P := P_M_build) (cut := rg_cut [24, 34, 139]) (f := false) d_M_build_189 rfl 192 rfl 18 4 12 27 rfl (fun _ => rfl), rg_e_aload_0 (cut := rg_cut [24, 34, 139]) (f := false) d_M_build_192 rfl 193 rfl, rg_e_geti (P := P_M_build) (cut := rg_cut [24, 34, 139]) (f := false) d_M_build_193 rfl 196 rfl 18 4 9 rfl (fun _ => rfl), rg_e_aload_0 (cut := rg_cut [24, 34, 139]) (f := false) d_M_build_196 rfl 197 rfl, rg_e_getr (P := P_M_build) (cut := rg_cut [24, 34, 139]) (f := false) d_M_build_197 rfl 200 rfl 18 4 8 24 rfl (fun _ => rfl), rg_e_iload_2 (cut := rg_cut [24, 34, 139]) (f := false) d_M_build_200 rfl 201 rfl, rg_e_iald (cut := rg_cut [24, 34, 139]) (f := false) d_M_build_201 rfl 202 rfl 24 81 rfl, rg_e_iast (cut := rg_cut [24, 34, 139]) (f := false) d_M_build_202 rfl 203 rfl 27 81 rfl, rg_e_aload_0 (cut := rg_cut [24, 34, 139]) (f := false) d_M_build_203 rfl 204 rfl, rg_e_dupr (cut := rg_cut [24, 34, 139]) (f := false) d_M_build_204 rfl 205 rfl, rg_e_geti (P := P_M_build) (cut := rg_cut [24, 34, 139]) (f := false) d_M_build_205 rfl 208 rfl 18 4 9 rfl (fun _ => rfl), rg_e_iconst (cut := rg_cut [24, 34, 139]) (f := false) d_M_build_208 rfl 209 rfl (nI 1) rg_ki_1, rg_e_iadd (cut := rg_cut [24, 34, 139]) (f := false) d_M_build_209 rfl 210 rfl, rg_e_put (P := P_M_build) (cut := rg_cut [24, 34, 139]) (f := false) d_M_build_210 rfl 213 rfl 18 4 9 rfl rfl, rg_e_iinc_2 (cut := rg_cut [24, 34, 139]) (f := false) d_M_build_213 rfl 216 rfl (nI 1) rg_ki_1, rg_e_goto (cut := rg_cut [24, 34, 139]) (f := false) d_M_build_216 rfl 139 rfl, rg_e_aload_0 (cut := rg_cut [24, 34, 139]) (f := false) d_M_build_219 rfl 220 rfl, rg_e_cv1 (P := P_M_build) (cut := rg_cut [24, 34, 139]) (f := false) d_M_build_220 rfl T_M_spread rfl, rg_e_aload_0 (cut := rg_cut [24, 34, 139]) (f := false) d_M_build_223 rfl 224 rfl, rg_e_geti (P := P_M_build) (cut := rg_cut [24, 34, 139]) (f := false) d_M_build_224 rfl 227 rfl 18 4 9 rfl (fun _ => rfl), rg_e_iret (cut := rg_cut [24, 34, 139]) (f := false) d_M_build_227 rfl, rg_e_cut (cut := rg_cut [24, 34, 139]) 24 rfl, rg_e_cut (cut := rg_cut [24, 34, 139]) 34 rfl, rg_e_cut (cut := rg_cut [24, 34, 139]) 139 rfl, rg_nx_i, rg_nx_v, rg_wd_n, rg_wd_i, rg_wd_l, rg_wd_r, rg_clr_i, rg_clr_l, rg_clr_r, rg_clr_a, rg_clr_n, true_and, and_true, Nat.reduceAdd, Nat.reduceLeDiff, ↓Te_M_out, ↓Te_M_throwing, ↓Te_M_again, ↓Te_M_isNode, ↓Te_M_overlapOf, ↓Te_M_isSaid, ↓Te_M_spread, rg_rt_e, rg_fit_ie, rg_fit_ve, rg_fit_1e, rg_fit_0e, rg_fit_be, he]
      refine ⟨fun _ => ⟨nr, ln, hg, hn9, hH, ⟨hlen, hA⟩, fun t ht => by rw [hf.1 28 (by decide)]; exact b28 t ht, fun w2 f1 f2 => ?_⟩, fun h => absurd (nI_le hk9 (by omega)) h⟩
      have q18 : w2.1 18 = w1.1 18 := f1.1 18 (by decide)
      have e9 : w2.1 18 9 = nI (eN hg) := by rw [q18]; exact hlen
      rw [e9]
      refine hK2 w2 (rg_fr_tr hf' (rg_fr_sub f1 (by decide))) ?_ ?_ ?_ ?_ ⟨e9, ?_⟩ f2 ?_
      · rw [q18, hq 0 (by decide)]; exact b0
      · rw [q18]; exact hr1
      · rw [q18, hq 17 (by decide)]; exact b17
      · rw [q18, hq 5 (by decide), bE.1, evT_cn]
      · rw [f1.1 25 (by decide), f1.1 26 (by decide), f1.1 27 (by decide)]; exact hA
      · rw [f1.1 29 (by decide), hf.1 29 (by decide)]; exact b29
  -- all that there were
  have l3 : ∀ (i j : Nat) (w1 : rg_W) (a4 : Value), (i < nr ∧ j ≤ nr ∧ BuI ln hg nr w (9 * i + j) w1) → (∀ (w2 : rg_W), BuI ln hg nr w (9 * (i + 1)) w2 → ∀ a3 a4 : Value, Z 24 [.ref 18, .int (nI least), .int (nI (i + 1)), a3, a4] [] w2 0) →
      Z 34 [.ref 18, .int (nI least), .int (nI i), .int (nI j), a4] [] w1 0 := by
    intro i j w1 a4 hI hout
    revert j w1 a4
    refine rg_lp3 _ _ (fun j _ _ => nr - j) ?_
    intro j w1 a4 ⟨hi, hj, hB⟩ ih
    have ⟨bf, b0, b1, b9, b17, b28, b29, bE⟩ := hB
    rcases Nat.lt_or_ge j nr with hj9 | hj9
    · have hd : (9 * i + j) / 9 = i ∧ (9 * i + j) % 9 = j := by omega
      have p1 : (nI i = nI j) = (i = j) := nI_eqp (by omega) (by omega)
      have hle := evT_le hg (9 * i + j)
      have vl : vp_in (nI (evT hg (9 * i + j)).length) 81 := vp_in_nI (by omega) (by omega)
      have cl : (nI (evT hg (9 * i + j)).length).toNatClampNeg = (evT hg (9 * i + j)).length := nI_clamp (by omega)
      have h5 := bE.1
      have no : hg i j = 0 → ∀ a4 : Value, Z 34 [.ref 18, .int (nI least), .int (nI i), .int (nI (j + 1)), a4] [] w1 0 := fun h a4 => by
        refine ih (j + 1) w1 a4 ⟨hi, by omega, hB.cg (evT_f ?_)⟩ (by omega)
        show (!decide (hg ((9 * i + j) / 9) ((9 * i + j) % 9) = 0)) = false
        rw [hd.1, hd.2, h]
        rfl
      have tail : ∀ n, n ≤ 12 → (n = 0 → hg i j = 0) → (n ≠ 0 → hg i j ≠ 0 ∧ n = ln j - hg i j) → Z 74 [.ref 18, .int (nI least), .int (nI i), .int (nI j), a4] [.int (nI n)] w1 0 := by
        intro n hn t1 t2
        have pn : (nI n = 0) = (n = 0) := nI_eq0 (by omega)
        refine hZ (rg_cut [24, 34, 139]) 400 74 _ _ _ ?_; simp only [rg_e_istore_4 (cut := rg_cut [24, 34, 139]) (f := true) d_M_build_74 rfl 76 rfl, rg_e_iload_4 (cut := rg_cut [24, 34, 139]) (f := false) d_M_build_76 rfl 78 rfl, rg_e_if_ne (cut := rg_cut [24, 34, 139]) (f := false) d_M_build_78 rfl 81 rfl 84 rfl, rg_e_goto (cut := rg_cut [24, 34, 139]) (f := false) d_M_build_81 rfl 125 rfl, rg_e_aload_0 (cut := rg_cut [24, 34, 139]) (f := false) d_M_build_84 rfl 85 rfl, rg_e_getr (P := P_M_build) (cut := rg_cut [24, 34, 139]) (f := false) d_M_build_85 rfl 88 rfl 18 4 6 22 rfl (fun _ => rfl), rg_e_aload_0 (cut := rg_cut [24, 34, 139]) (f := false) d_M_build_88 rfl 89 rfl, rg_e_geti (P := P_M_build) (cut := rg_cut [24, 34, 139]) (f := false) d_M_build_89 rfl 92 rfl 18 4 5 rfl (fun _ => rfl), rg_e_iload_2 (cut := rg_cut [24, 34, 139]) (f := false) d_M_build_92 rfl 93 rfl, rg_e_iast (cut := rg_cut [24, 34, 139]) (f := false) d_M_build_93 rfl 94 rfl 22 81 rfl, rg_e_aload_0 (cut := rg_cut [24, 34, 139]) (f := false) d_M_build_94 rfl 95 rfl, rg_e_getr (P := P_M_build) (cut := rg_cut [24, 34, 139]) (f := false) d_M_build_95 rfl 98 rfl 18 4 7 23 rfl (fun _ => rfl), rg_e_aload_0 (cut := rg_cut [24, 34, 139]) (f := false) d_M_build_98 rfl 99 rfl, rg_e_geti (P := P_M_build) (cut := rg_cut [24, 34, 139]) (f := false) d_M_build_99 rfl 102 rfl 18 4 5 rfl (fun _ => rfl), rg_e_iload_3 (cut := rg_cut [24, 34, 139]) (f := false) d_M_build_102 rfl 103 rfl, rg_e_iast (cut := rg_cut [24, 34, 139]) (f := false) d_M_build_103 rfl 104 rfl 23 81 rfl, rg_e_aload_0 (cut := rg_cut [24, 34, 139]) (f := false) d_M_build_104 rfl 105 rfl, rg_e_getr (P := P_M_build) (cut := rg_cut [24, 34, 139]) (f := false) d_M_build_105 rfl 108 rfl 18 4 8 24 rfl (fun _ => rfl), rg_e_aload_0 (cut := rg_cut [24, 34, 139]) (f := false) d_M_build_108 rfl 109 rfl, rg_e_geti (P := P_M_build) (cut := rg_cut [24, 34, 139]) (f := false) d_M_build_109 rfl 112 rfl 18 4 5 rfl (fun _ => rfl), rg_e_iload_4 (cut := rg_cut [24, 34, 139]) (f := false) d_M_build_112 rfl 114 rfl, rg_e_iast (cut := rg_cut [24, 34, 139]) (f := false) d_M_build_114 rfl 115 rfl 24 81 rfl, rg_e_aload_0 (cut := rg_cut [24, 34, 139]) (f := false) d_M_build_115 rfl 116 rfl, rg_e_dupr (cut := rg_cut [24, 34, 139]) (f := false) d_M_build_116 rfl 117 rfl, rg_e_geti (P := P_M_build) (cut := rg_cut [24, 34, 139]) (f := false) d_M_build_117 rfl 120 rfl 18 4 5 rfl (fun _ => rfl), rg_e_iconst (cut := rg_cut [24, 34, 139]) (f := false) d_M_build_120 rfl 121 rfl (nI 1) rg_ki_1, rg_e_iadd (cut := rg_cut [24, 34, 139]) (f := false) d_M_build_121 rfl 122 rfl, rg_e_put (P := P_M_build) (cut := rg_cut [24, 34, 139]) (f := false) d_M_build_122 rfl 125 rfl 18 4 5 rfl rfl, rg_e_iinc_3 (cut := rg_cut [24, 34, 139]) (f := false) d_M_build_125 rfl 128 rfl (nI 1) rg_ki_1, rg_e_goto (cut := rg_cut [24, 34, 139]) (f := false) d_M_build_128 rfl 34 rfl, rg_e_cut (cut := rg_cut [24, 34, 139]) 24 rfl, rg_e_cut (cut := rg_cut [24, 34, 139]) 34 rfl, rg_e_cut (cut := rg_cut [24, 34, 139]) 139 rfl, rg_nx_i, rg_nx_v, rg_wd_n, rg_wd_i, rg_wd_l, rg_wd_r, rg_clr_i, rg_clr_l, rg_clr_r, rg_clr_a, rg_clr_n, true_and, and_true, Nat.reduceAdd, Nat.reduceLeDiff, ↓Te_M_out, ↓Te_M_throwing, ↓Te_M_again, ↓Te_M_isNode, ↓Te_M_overlapOf, ↓Te_M_isSaid, ↓Te_M_spread, rg_rt_e, rg_fit_ie, rg_fit_ve, rg_fit_1e, rg_fit_0e, rg_fit_be, h5, vl, cl, pn, nI_add, rg_up_n, ne_eq, not_false_eq_true, Nat.reduceEqDiff]
        refine ⟨fun h => ?_, fun h => no (t1 (Classical.not_not.mp h)) _⟩
        obtain ⟨t3, t4⟩ := t2 h
        have es : evT hg (9 * i + j + 1) = evT hg (9 * i + j) ++ [9 * i + j] := evT_t (by unfold hgC; rw [hd.1, hd.2]; simpa using t3)
        refine ih (j + 1) _ _ ⟨hi, by omega, rg_fr_up (rg_fr_up (rg_fr_up (rg_fr_up bf (by decide) _ _) (by decide) _ _) (by decide) _ _) (by decide) _ _, ?_, ?_, ?_, ?_, ?_, ?_, ?_, fun b hb => ?_⟩ (by omega)
        · simp only [rg_up_s, rg_up_n, ne_eq, not_false_eq_true, Nat.reduceEqDiff]; rw [upd_n (by decide)]; exact b0
        · simp only [rg_up_s, rg_up_n, ne_eq, not_false_eq_true, Nat.reduceEqDiff]; rw [upd_n (by decide)]; exact b1
        · simp only [rg_up_s, rg_up_n, ne_eq, not_false_eq_true, Nat.reduceEqDiff]; rw [upd_n (by decide)]; exact b9
        · simp only [rg_up_s, rg_up_n, ne_eq, not_false_eq_true, Nat.reduceEqDiff]; rw [upd_n (by decide)]; exact b17
        · simp only [rg_up_s, rg_up_n, ne_eq, not_false_eq_true, Nat.reduceEqDiff]; exact b28
        · simp only [rg_up_s, rg_up_n, ne_eq, not_false_eq_true, Nat.reduceEqDiff]; exact b29
        · show _ = nI (evT hg (9 * i + j + 1)).length
          rw [rg_up_ss, es, List.length_append, List.length_singleton]
        · have hb : b < (evT hg (9 * i + j + 1)).length := hb
          show EvA ln hg ((evT hg (9 * i + j + 1)).getD b 0) b _
          rw [es, List.length_append, List.length_singleton] at hb
          rw [es]
          unfold EvA
          simp only [rg_up_s, rg_up_n, ne_eq, not_false_eq_true, Nat.reduceEqDiff]
          by_cases e : b = (evT hg (9 * i + j)).length
          · subst e
            rw [getD_e, upd_s, upd_s, upd_s, hd.1, hd.2, t4]
            exact ⟨rfl, rfl, rfl⟩
          · rw [getD_l (by omega), upd_n e, upd_n e, upd_n e]
            exact bE.2 b (by omega)
      refine hZ (rg_cut [24, 34, 74, 139]) 400 34 _ _ _ ?_; simp only [rg_e_iload_3 (cut := rg_cut [24, 34, 74, 139]) (f := true) d_M_build_34 rfl 35 rfl, rg_e_aload_0 (cut := rg_cut [24, 34, 74, 139]) (f := false) d_M_build_35 rfl 36 rfl, rg_e_geti (P := P_M_build) (cut := rg_cut [24, 34, 74, 139]) (f := false) d_M_build_36 rfl 39 rfl 18 4 1 rfl (fun _ => rfl), rg_e_icmp_ge (cut := rg_cut [24, 34, 74, 139]) (f := false) d_M_build_39 rfl 42 rfl 131 rfl, rg_e_iload_2 (cut := rg_cut [24, 34, 74, 139]) (f := false) d_M_build_42 rfl 43 rfl, rg_e_iload_3 (cut := rg_cut [24, 34, 74, 139]) (f := false) d_M_build_43 rfl 44 rfl, rg_e_icmp_eq (cut := rg_cut [24, 34, 74, 139]) (f := false) d_M_build_44 rfl 47 rfl 73 rfl, rg_e_aload_0 (cut := rg_cut [24, 34, 74, 139]) (f := false) d_M_build_47 rfl 48 rfl, rg_e_iload_2 (cut := rg_cut [24, 34, 74, 139]) (f := false) d_M_build_48 rfl 49 rfl, rg_e_cv2 (P := P_M_build) (cut := rg_cut [24, 34, 74, 139]) (f := false) d_M_build_49 rfl T_M_isNode rfl, rg_e_if_eq (cut := rg_cut [24, 34, 74, 139]) (f := false) d_M_build_52 rfl 55 rfl 73 rfl, rg_e_aload_0 (cut := rg_cut [24, 34, 74, 139]) (f := false) d_M_build_55 rfl 56 rfl, rg_e_iload_3 (cut := rg_cut [24, 34, 74, 139]) (f := false) d_M_build_56 rfl 57 rfl, rg_e_cv2 (P := P_M_build) (cut := rg_cut [24, 34, 74, 139]) (f := false) d_M_build_57 rfl T_M_isNode rfl, rg_e_if_eq (cut := rg_cut [24, 34, 74, 139]) (f := false) d_M_build_60 rfl 63 rfl 73 rfl, rg_e_aload_0 (cut := rg_cut [24, 34, 74, 139]) (f := false) d_M_build_63 rfl 64 rfl, rg_e_iload_2 (cut := rg_cut [24, 34, 74, 139]) (f := false) d_M_build_64 rfl 65 rfl, rg_e_iload_3 (cut := rg_cut [24, 34, 74, 139]) (f := false) d_M_build_65 rfl 66 rfl, rg_e_iload_1 (cut := rg_cut [24, 34, 74, 139]) (f := false) d_M_build_66 rfl 67 rfl, rg_e_cv4 (P := P_M_build) (cut := rg_cut [24, 34, 74, 139]) (f := false) d_M_build_67 rfl T_M_overlapOf rfl, rg_e_goto (cut := rg_cut [24, 34, 74, 139]) (f := false) d_M_build_70 rfl 74 rfl, rg_e_iconst (cut := rg_cut [24, 34, 74, 139]) (f := false) d_M_build_73 rfl 74 rfl (nI 0) rg_ki_0, rg_e_iinc_2 (cut := rg_cut [24, 34, 74, 139]) (f := false) d_M_build_131 rfl 134 rfl (nI 1) rg_ki_1, rg_e_goto (cut := rg_cut [24, 34, 74, 139]) (f := false) d_M_build_134 rfl 24 rfl, rg_e_cut (cut := rg_cut [24, 34, 74, 139]) 24 rfl, rg_e_cut (cut := rg_cut [24, 34, 74, 139]) 34 rfl, rg_e_cut (cut := rg_cut [24, 34, 74, 139]) 74 rfl, rg_e_cut (cut := rg_cut [24, 34, 74, 139]) 139 rfl, rg_nx_i, rg_nx_v, rg_wd_n, rg_wd_i, rg_wd_l, rg_wd_r, rg_clr_i, rg_clr_l, rg_clr_r, rg_clr_a, rg_clr_n, true_and, and_true, Nat.reduceAdd, Nat.reduceLeDiff, ↓Te_M_out, ↓Te_M_throwing, ↓Te_M_again, ↓Te_M_isNode, ↓Te_M_overlapOf, ↓Te_M_isSaid, ↓Te_M_spread, rg_rt_e, rg_fit_ie, rg_fit_ve, rg_fit_1e, rg_fit_0e, rg_fit_be, b1, p1, zI_eq]
      refine ⟨fun h => absurd h (nI_ge hj9 (by omega)), fun _ => ⟨fun h => ?_, fun h => ⟨nr, ln, pk, rd bf b1, ?_⟩⟩⟩
      · exact tail 0 (by omega) (fun _ => by rw [h]; exact hH.1 j) (fun z => absurd rfl z)
      · rw [ndB_n (by omega) (by omega)]
        refine ⟨fun h1 => ?_, fun h1 => ⟨nr, ln, pk, rd bf b1, ?_⟩⟩
        · exact tail 0 (by omega) (fun _ => by rw [← hhg]; unfold hgN; rw [if_neg (by rw [h1]; simp)]) (fun z => absurd rfl z)
        · rw [ndB_n (by omega) (by omega)]
          refine ⟨fun h2 => ?_, fun h2 => ?_⟩
          · exact tail 0 (by omega) (fun _ => by rw [← hhg]; unfold hgN; rw [if_neg (by rw [h2]; simp)]) (fun z => absurd rfl z)
          · have h1 : ndN nr ln pk i = true := by rw [← Bool.not_eq_false]; exact h1
            have h2 : ndN nr ln pk j = true := by rw [← Bool.not_eq_false]; exact h2
            obtain ⟨o1, o2⟩ := hgN_ov (least := least) hL h h1 h2
            rw [hhg] at o1 o2
            have := hL.2 j hj9
            have hov : ovN ln pk i j least ≤ min (ln i) (ln j) - 1 := gtF_le _ _ _
            exact ⟨nr, ln, pk, i, j, least, (rd bf b1).1, rfl, rfl, hi, hj9, rfl, k1, k2, tail _ (by omega) o1 o2⟩
    · obtain rfl : j = nr := by omega
      refine hZ (rg_cut [24, 34, 139]) 400 34 _ _ _ ?_; simp only [rg_e_iload_3 (cut := rg_cut [24, 34, 139]) (f := true) d_M_build_34 rfl 35 rfl, rg_e_aload_0 (cut := rg_cut [24, 34, 139]) (f := false) d_M_build_35 rfl 36 rfl, rg_e_geti (P := P_M_build) (cut := rg_cut [24, 34, 139]) (f := false) d_M_build_36 rfl 39 rfl 18 4 1 rfl (fun _ => rfl), rg_e_icmp_ge (cut := rg_cut [24, 34, 139]) (f := false) d_M_build_39 rfl 42 rfl 131 rfl, rg_e_iload_2 (cut := rg_cut [24, 34, 139]) (f := false) d_M_build_42 rfl 43 rfl, rg_e_iload_3 (cut := rg_cut [24, 34, 139]) (f := false) d_M_build_43 rfl 44 rfl, rg_e_icmp_eq (cut := rg_cut [24, 34, 139]) (f := false) d_M_build_44 rfl 47 rfl 73 rfl, rg_e_aload_0 (cut := rg_cut [24, 34, 139]) (f := false) d_M_build_47 rfl 48 rfl, rg_e_iload_2 (cut := rg_cut [24, 34, 139]) (f := false) d_M_build_48 rfl 49 rfl, rg_e_cv2 (P := P_M_build) (cut := rg_cut [24, 34, 139]) (f := false) d_M_build_49 rfl T_M_isNode rfl, rg_e_if_eq (cut := rg_cut [24, 34, 139]) (f := false) d_M_build_52 rfl 55 rfl 73 rfl, rg_e_aload_0 (cut := rg_cut [24, 34, 139]) (f := false) d_M_build_55 rfl 56 rfl, rg_e_iload_3 (cut := rg_cut [24, 34, 139]) (f := false) d_M_build_56 rfl 57 rfl, rg_e_cv2 (P := P_M_build) (cut := rg_cut [24, 34, 139]) (f := false) d_M_build_57 rfl T_M_isNode rfl, rg_e_if_eq (cut := rg_cut [24, 34, 139]) (f := false) d_M_build_60 rfl 63 rfl 73 rfl, rg_e_aload_0 (cut := rg_cut [24, 34, 139]) (f := false) d_M_build_63 rfl 64 rfl, rg_e_iload_2 (cut := rg_cut [24, 34, 139]) (f := false) d_M_build_64 rfl 65 rfl, rg_e_iload_3 (cut := rg_cut [24, 34, 139]) (f := false) d_M_build_65 rfl 66 rfl, rg_e_iload_1 (cut := rg_cut [24, 34, 139]) (f := false) d_M_build_66 rfl 67 rfl, rg_e_cv4 (P := P_M_build) (cut := rg_cut [24, 34, 139]) (f := false) d_M_build_67 rfl T_M_overlapOf rfl, rg_e_goto (cut := rg_cut [24, 34, 139]) (f := false) d_M_build_70 rfl 74 rfl, rg_e_iconst (cut := rg_cut [24, 34, 139]) (f := false) d_M_build_73 rfl 74 rfl (nI 0) rg_ki_0, rg_e_istore_4 (cut := rg_cut [24, 34, 139]) (f := false) d_M_build_74 rfl 76 rfl, rg_e_iload_4 (cut := rg_cut [24, 34, 139]) (f := false) d_M_build_76 rfl 78 rfl, rg_e_if_ne (cut := rg_cut [24, 34, 139]) (f := false) d_M_build_78 rfl 81 rfl 84 rfl, rg_e_goto (cut := rg_cut [24, 34, 139]) (f := false) d_M_build_81 rfl 125 rfl, rg_e_aload_0 (cut := rg_cut [24, 34, 139]) (f := false) d_M_build_84 rfl 85 rfl, rg_e_getr (P := P_M_build) (cut := rg_cut [24, 34, 139]) (f := false) d_M_build_85 rfl 88 rfl 18 4 6 22 rfl (fun _ => rfl), rg_e_aload_0 (cut := rg_cut [24, 34, 139]) (f := false) d_M_build_88 rfl 89 rfl, rg_e_geti (P := P_M_build) (cut := rg_cut [24, 34, 139]) (f := false) d_M_build_89 rfl 92 rfl 18 4 5 rfl (fun _ => rfl), rg_e_iload_2 (cut := rg_cut [24, 34, 139]) (f := false) d_M_build_92 rfl 93 rfl, rg_e_iast (cut := rg_cut [24, 34, 139]) (f := false) d_M_build_93 rfl 94 rfl 22 81 rfl, rg_e_aload_0 (cut := rg_cut [24, 34, 139]) (f := false) d_M_build_94 rfl 95 rfl, rg_e_getr (P := P_M_build) (cut := rg_cut [24, 34, 139]) (f := false) d_M_build_95 rfl 98 rfl 18 4 7 23 rfl (fun _ => rfl), rg_e_aload_0 (cut := rg_cut [24, 34, 139]) (f := false) d_M_build_98 rfl 99 rfl, rg_e_geti (P := P_M_build) (cut := rg_cut [24, 34, 139]) (f := false) d_M_build_99 rfl 102 rfl 18 4 5 rfl (fun _ => rfl), rg_e_iload_3 (cut := rg_cut [24, 34, 139]) (f := false) d_M_build_102 rfl 103 rfl, rg_e_iast (cut := rg_cut [24, 34, 139]) (f := false) d_M_build_103 rfl 104 rfl 23 81 rfl, rg_e_aload_0 (cut := rg_cut [24, 34, 139]) (f := false) d_M_build_104 rfl 105 rfl, rg_e_getr (P := P_M_build) (cut := rg_cut [24, 34, 139]) (f := false) d_M_build_105 rfl 108 rfl 18 4 8 24 rfl (fun _ => rfl), rg_e_aload_0 (cut := rg_cut [24, 34, 139]) (f := false) d_M_build_108 rfl 109 rfl, rg_e_geti (P := P_M_build) (cut := rg_cut [24, 34, 139]) (f := false) d_M_build_109 rfl 112 rfl 18 4 5 rfl (fun _ => rfl), rg_e_iload_4 (cut := rg_cut [24, 34, 139]) (f := false) d_M_build_112 rfl 114 rfl, rg_e_iast (cut := rg_cut [24, 34, 139]) (f := false) d_M_build_114 rfl 115 rfl 24 81 rfl, rg_e_aload_0 (cut := rg_cut [24, 34, 139]) (f := false) d_M_build_115 rfl 116 rfl, rg_e_dupr (cut := rg_cut [24, 34, 139]) (f := false) d_M_build_116 rfl 117 rfl, rg_e_geti (P := P_M_build) (cut := rg_cut [24, 34, 139]) (f := false) d_M_build_117 rfl 120 rfl 18 4 5 rfl (fun _ => rfl), rg_e_iconst (cut := rg_cut [24, 34, 139]) (f := false) d_M_build_120 rfl 121 rfl (nI 1) rg_ki_1, rg_e_iadd (cut := rg_cut [24, 34, 139]) (f := false) d_M_build_121 rfl 122 rfl, rg_e_put (P := P_M_build) (cut := rg_cut [24, 34, 139]) (f := false) d_M_build_122 rfl 125 rfl 18 4 5 rfl rfl, rg_e_iinc_3 (cut := rg_cut [24, 34, 139]) (f := false) d_M_build_125 rfl 128 rfl (nI 1) rg_ki_1, rg_e_goto (cut := rg_cut [24, 34, 139]) (f := false) d_M_build_128 rfl 34 rfl, rg_e_iinc_2 (cut := rg_cut [24, 34, 139]) (f := false) d_M_build_131 rfl 134 rfl (nI 1) rg_ki_1, rg_e_goto (cut := rg_cut [24, 34, 139]) (f := false) d_M_build_134 rfl 24 rfl, rg_e_cut (cut := rg_cut [24, 34, 139]) 24 rfl, rg_e_cut (cut := rg_cut [24, 34, 139]) 34 rfl, rg_e_cut (cut := rg_cut [24, 34, 139]) 139 rfl, rg_nx_i, rg_nx_v, rg_wd_n, rg_wd_i, rg_wd_l, rg_wd_r, rg_clr_i, rg_clr_l, rg_clr_r, rg_clr_a, rg_clr_n, true_and, and_true, Nat.reduceAdd, Nat.reduceLeDiff, ↓Te_M_out, ↓Te_M_throwing, ↓Te_M_again, ↓Te_M_isNode, ↓Te_M_overlapOf, ↓Te_M_isSaid, ↓Te_M_spread, rg_rt_e, rg_fit_ie, rg_fit_ve, rg_fit_1e, rg_fit_0e, rg_fit_be, b1, nI_add]
      refine ⟨fun _ => hout w1 (hB.cg ?_) _ _, fun h => absurd (nI_le hj9 (by omega)) h⟩
      have := evT_skip (hg := hg) (s := 9 * i + j) (9 - j) (fun t g1 g2 => by
        unfold hgC
        rw [hgz _ _ (by omega)]
        rfl)
      rw [show 9 * i + j + (9 - j) = 9 * (i + 1) by omega] at this
      exact this
  have l2 : ∀ (i : Nat) (w1 : rg_W), (i ≤ nr ∧ BuI ln hg nr w (9 * i) w1) → ∀ a3 a4 : Value, Z 24 [.ref 18, .int (nI least), .int (nI i), a3, a4] [] w1 0 := by
    refine rg_lp2 _ _ (fun i _ => nr - i) ?_
    intro i w1 ⟨hi, hB⟩ ih a3 a4
    have ⟨bf, b0, b1, b9, b17, b28, b29, bE⟩ := hB
    rcases Nat.lt_or_ge i nr with hi9 | hi9
    · refine hZ (rg_cut [24, 34, 139]) 400 24 _ _ _ ?_; simp only [rg_e_iload_2 (cut := rg_cut [24, 34, 139]) (f := true) d_M_build_24 rfl 25 rfl, rg_e_aload_0 (cut := rg_cut [24, 34, 139]) (f := false) d_M_build_25 rfl 26 rfl, rg_e_geti (P := P_M_build) (cut := rg_cut [24, 34, 139]) (f := false) d_M_build_26 rfl 29 rfl 18 4 1 rfl (fun _ => rfl), rg_e_icmp_ge (cut := rg_cut [24, 34, 139]) (f := false) d_M_build_29 rfl 32 rfl 137 rfl, rg_e_iconst (cut := rg_cut [24, 34, 139]) (f := false) d_M_build_32 rfl 33 rfl (nI 0) rg_ki_0, rg_e_istore_3 (cut := rg_cut [24, 34, 139]) (f := false) d_M_build_33 rfl 34 rfl, rg_e_iconst (cut := rg_cut [24, 34, 139]) (f := false) d_M_build_137 rfl 138 rfl (nI 0) rg_ki_0, rg_e_istore_2 (cut := rg_cut [24, 34, 139]) (f := false) d_M_build_138 rfl 139 rfl, rg_e_cut (cut := rg_cut [24, 34, 139]) 24 rfl, rg_e_cut (cut := rg_cut [24, 34, 139]) 34 rfl, rg_e_cut (cut := rg_cut [24, 34, 139]) 139 rfl, rg_nx_i, rg_nx_v, rg_wd_n, rg_wd_i, rg_wd_l, rg_wd_r, rg_clr_i, rg_clr_l, rg_clr_r, rg_clr_a, rg_clr_n, true_and, and_true, Nat.reduceAdd, Nat.reduceLeDiff, ↓Te_M_out, ↓Te_M_throwing, ↓Te_M_again, ↓Te_M_isNode, ↓Te_M_overlapOf, ↓Te_M_isSaid, ↓Te_M_spread, rg_rt_e, rg_fit_ie, rg_fit_ve, rg_fit_1e, rg_fit_0e, rg_fit_be, b1]
      exact ⟨fun h => absurd h (nI_ge hi9 (by omega)), fun _ => l3 i 0 w1 _ ⟨hi9, by omega, hB⟩ (fun w2 g a3 a4 => ih (i + 1) w2 ⟨by omega, g⟩ (by omega) a3 a4)⟩
    · obtain rfl : i = nr := by omega
      refine hZ (rg_cut [24, 34, 139]) 400 24 _ _ _ ?_; simp only [rg_e_iload_2 (cut := rg_cut [24, 34, 139]) (f := true) d_M_build_24 rfl 25 rfl, rg_e_aload_0 (cut := rg_cut [24, 34, 139]) (f := false) d_M_build_25 rfl 26 rfl, rg_e_geti (P := P_M_build) (cut := rg_cut [24, 34, 139]) (f := false) d_M_build_26 rfl 29 rfl 18 4 1 rfl (fun _ => rfl), rg_e_icmp_ge (cut := rg_cut [24, 34, 139]) (f := false) d_M_build_29 rfl 32 rfl 137 rfl, rg_e_iconst (cut := rg_cut [24, 34, 139]) (f := false) d_M_build_32 rfl 33 rfl (nI 0) rg_ki_0, rg_e_istore_3 (cut := rg_cut [24, 34, 139]) (f := false) d_M_build_33 rfl 34 rfl, rg_e_iconst (cut := rg_cut [24, 34, 139]) (f := false) d_M_build_137 rfl 138 rfl (nI 0) rg_ki_0, rg_e_istore_2 (cut := rg_cut [24, 34, 139]) (f := false) d_M_build_138 rfl 139 rfl, rg_e_cut (cut := rg_cut [24, 34, 139]) 24 rfl, rg_e_cut (cut := rg_cut [24, 34, 139]) 34 rfl, rg_e_cut (cut := rg_cut [24, 34, 139]) 139 rfl, rg_nx_i, rg_nx_v, rg_wd_n, rg_wd_i, rg_wd_l, rg_wd_r, rg_clr_i, rg_clr_l, rg_clr_r, rg_clr_a, rg_clr_n, true_and, and_true, Nat.reduceAdd, Nat.reduceLeDiff, ↓Te_M_out, ↓Te_M_throwing, ↓Te_M_again, ↓Te_M_isNode, ↓Te_M_overlapOf, ↓Te_M_isSaid, ↓Te_M_spread, rg_rt_e, rg_fit_ie, rg_fit_ve, rg_fit_1e, rg_fit_0e, rg_fit_be, b1]
      refine ⟨fun _ => l4 w1 (hB.cg ?_) 0 w1 ⟨by omega, rg_fr_rf _ _, fun _ _ => rfl, b9, fun b hb => absurd hb (Nat.not_lt_zero b)⟩ _ _, fun h => absurd (nI_le hi9 (by omega)) h⟩
      have := evT_skip (hg := hg) (s := 9 * i) (81 - 9 * i) (fun t g1 g2 => by
        unfold hgC
        rw [hgz _ _ (by omega)]
        rfl)
      rw [show 9 * i + (81 - 9 * i) = 81 by omega] at this
      exact this
  refine hZ (rg_cut [24, 34, 139]) 400 0 _ _ _ ?_; simp only [rg_e_aload_0 (cut := rg_cut [24, 34, 139]) (f := true) d_M_build_0 rfl 1 rfl, rg_e_iload_1 (cut := rg_cut [24, 34, 139]) (f := false) d_M_build_1 rfl 2 rfl, rg_e_iconst (cut := rg_cut [24, 34, 139]) (f := false) d_M_build_2 rfl 3 rfl (nI 1) rg_ki_1, rg_e_isub (cut := rg_cut [24, 34, 139]) (f := false) d_M_build_3 rfl 4 rfl, rg_e_bipush (cut := rg_cut [24, 34, 139]) (f := false) d_M_build_4 rfl 6 rfl (nI 12) rg_kb_12, rg_e_cs2 (P := P_M_build) (cut := rg_cut [24, 34, 139]) (f := false) d_M_build_6 rfl T_M_out rfl, rg_e_iconst (cut := rg_cut [24, 34, 139]) (f := false) d_M_build_9 rfl 10 rfl (nI 0) rg_ki_0, rg_e_cv3 (P := P_M_build) (cut := rg_cut [24, 34, 139]) (f := false) d_M_build_10 rfl T_M_throwing rfl, rg_e_if_eq (cut := rg_cut [24, 34, 139]) (f := false) d_M_build_13 rfl 16 rfl 18 rfl, rg_e_iconst (cut := rg_cut [24, 34, 139]) (f := false) d_M_build_16 rfl 17 rfl (nI 0) rg_ki_0, rg_e_iret (cut := rg_cut [24, 34, 139]) (f := false) d_M_build_17 rfl, rg_e_aload_0 (cut := rg_cut [24, 34, 139]) (f := false) d_M_build_18 rfl 19 rfl, rg_e_cv1 (P := P_M_build) (cut := rg_cut [24, 34, 139]) (f := false) d_M_build_19 rfl T_M_again rfl, rg_e_iconst (cut := rg_cut [24, 34, 139]) (f := false) d_M_build_22 rfl 23 rfl (nI 0) rg_ki_0, rg_e_istore_2 (cut := rg_cut [24, 34, 139]) (f := false) d_M_build_23 rfl 24 rfl, rg_e_cut (cut := rg_cut [24, 34, 139]) 24 rfl, rg_e_cut (cut := rg_cut [24, 34, 139]) 34 rfl, rg_e_cut (cut := rg_cut [24, 34, 139]) 139 rfl, rg_nx_i, rg_nx_v, rg_wd_n, rg_wd_i, rg_wd_l, rg_wd_r, rg_clr_i, rg_clr_l, rg_clr_r, rg_clr_a, rg_clr_n, true_and, and_true, Nat.reduceAdd, Nat.reduceLeDiff, ↓Te_M_out, ↓Te_M_throwing, ↓Te_M_again, ↓Te_M_isNode, ↓Te_M_overlapOf, ↓Te_M_isSaid, ↓Te_M_spread, rg_rt_e, rg_fit_ie, rg_fit_ve, rg_fit_1e, rg_fit_0e, rg_fit_be, h, z1, z0, n0, n1, decide_true, decide_false, Bool.not_true, Bool.not_false, Bool.true_or, Bool.or_true, Bool.or_false, not_false_eq_true, forall_const, false_imp_iff, not_true_eq_false, if_false, if_true, reduceIte, and_true, true_and]
  intro w1 ⟨hf, hq, q5, q9, q17, q28, q29⟩
  refine l2 0 w1 ⟨by omega, rg_fr_tr (rg_fr_up (rg_fr_rf _ _) (by decide) _ _) (rg_fr_sub hf (by decide)), ?_, ?_, q9, q17, q28, q29, q5, fun k hk => absurd hk (Nat.not_lt_zero k)⟩ _ _
  · rw [hq 0 (by decide) (by decide) (by decide), rg_up_ss]
  · rw [hq 1 (by decide) (by decide) (by decide), rg_up_s, upd_n (by decide)]; exact hr
