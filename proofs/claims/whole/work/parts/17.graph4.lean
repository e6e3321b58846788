/-! bitCount; the graph's kind; what passes a walk -/
def usI (x : Int32) (k : Nat) : Int32 := (x.toUInt32 >>> ((nI k).toUInt32 &&& Int32.toUInt32 31)).toInt32
def bc1 (x : Int32) : Int32 := x - (usI x 1 &&& nI 1431655765)
def bc2 (x : Int32) : Int32 := (x &&& nI 858993459) + (usI x 2 &&& nI 858993459)
def bc3 (x : Int32) : Int32 := (x + usI x 4) &&& nI 252645135
def bc4 (x : Int32) : Int32 := x + usI x 8
def bc5 (x : Int32) : Int32 := x + usI x 16
def bcI (x : Int32) : Int32 := bc5 (bc4 (bc3 (bc2 (bc1 x)))) &&& nI 63
theorem bcI_ok : ∀ a, a < 512 → bcI (nI a) = nI (cnF (fun i => Nat.testBit a i) 9) := by decide +kernel
theorem cnF_cg {p q : Nat → Bool} : ∀ n, (∀ i, i < n → p i = q i) → cnF p n = cnF q n
  | 0, _ => rfl
  | n + 1, h => by
    unfold cnF
    rw [cnF_cg n (fun i hi => h i (by omega)), h n (by omega)]
theorem BS.num {x : Int32} {p : Nat → Bool} (h : BS x p) : ∃ a, a < 512 ∧ x = nI a ∧ ∀ i, i < 9 → a.testBit i = p i := by
  refine ⟨x.toBitVec.toNat, ?_, ?_, fun i hi => ?_⟩
  · exact Nat.lt_pow_two_of_testBit (n := 9) _ (fun i hi => by rw [← bt_toNat]; exact h.2 i hi)
  · apply b_ext
    intro i hi
    rw [bt_nI _ _ hi, bt_toNat]
  · rw [← bt_toNat]
    exact h.1 i hi
theorem bcI_bs {x : Int32} {p : Nat → Bool} (h : BS x p) : bcI x = nI (cnF p 9) := by
  obtain ⟨a, ha, rfl, hp⟩ := h.num
  rw [bcI_ok a ha, cnF_cg 9 hp]
theorem rg_F_J_ok (own : String) : ∀ q ∈ rg_F_J, rg_FOk own q := fun _ h => absurd h List.not_mem_nil
-- J.bitCount
def P_J_bitCount : rg_P := (rg_F_J, [], [(265, nI 1431655765), (266, nI 858993459), (267, nI 252645135)], [], [], [], 0)
def T_J_bitCount : rg_T := fun as w K => match as with
  | [.int x] => K (some (.int (bcI x))) w
  | _ => False
theorem Te_J_bitCount (x : Int32) (w : rg_W) (K : Option Value → rg_W → Prop) : T_J_bitCount [.int x] w K = (K (some (.int (bcI x))) w) := rfl
theorem G_J_bitCount (l : Launch) : rg_Good l y_J_bitCount c_J_bitCount 1 (some .int) 0 T_J_bitCount := by
  refine rg_good_of (P := P_J_bitCount) (by decide +kernel) ⟨rg_F_J_ok _, rg_nil, ?_, fun _ h => absurd h List.not_mem_nil, rfl⟩ ?_
  · refine List.forall_mem_cons.mpr ⟨rg_in rfl (by decide +kernel), List.forall_mem_cons.mpr ⟨rg_in rfl (by decide +kernel), List.forall_mem_cons.mpr ⟨rg_in rfl (by decide +kernel), fun _ h => absurd h List.not_mem_nil⟩⟩⟩
  intro as w K Z hT hZ
  unfold T_J_bitCount at hT
  split at hT
  rotate_left
  · exact hT.elim
  rename_i x
  refine ⟨Nat.le_of_ble_eq_true rfl, ?_⟩
  show Z 0 [.int x] [] w 0
  refine hZ (rg_cut []) 400 0 _ _ _ ?_; simp only [rg_e_iload_0 (cut := rg_cut []) (f := true) d_J_bitCount_0 rfl 1 rfl, rg_e_iload_0 (cut := rg_cut []) (f := false) d_J_bitCount_1 rfl 2 rfl, rg_e_iconst (cut := rg_cut []) (f := false) d_J_bitCount_2 rfl 3 rfl (nI 1) rg_ki_1, rg_e_iushr (cut := rg_cut []) (f := false) d_J_bitCount_3 rfl 4 rfl, rg_e_ldcw (P := P_J_bitCount) (cut := rg_cut []) (f := false) d_J_bitCount_4 rfl 7 rfl (nI 1431655765) rfl, rg_e_iand (cut := rg_cut []) (f := false) d_J_bitCount_7 rfl 8 rfl, rg_e_isub (cut := rg_cut []) (f := false) d_J_bitCount_8 rfl 9 rfl, rg_e_istore_0 (cut := rg_cut []) (f := false) d_J_bitCount_9 rfl 10 rfl, rg_e_iload_0 (cut := rg_cut []) (f := false) d_J_bitCount_10 rfl 11 rfl, rg_e_ldcw (P := P_J_bitCount) (cut := rg_cut []) (f := false) d_J_bitCount_11 rfl 14 rfl (nI 858993459) rfl, rg_e_iand (cut := rg_cut []) (f := false) d_J_bitCount_14 rfl 15 rfl, rg_e_iload_0 (cut := rg_cut []) (f := false) d_J_bitCount_15 rfl 16 rfl, rg_e_iconst (cut := rg_cut []) (f := false) d_J_bitCount_16 rfl 17 rfl (nI 2) rg_ki_2, rg_e_iushr (cut := rg_cut []) (f := false) d_J_bitCount_17 rfl 18 rfl, rg_e_ldcw (P := P_J_bitCount) (cut := rg_cut []) (f := false) d_J_bitCount_18 rfl 21 rfl (nI 858993459) rfl, rg_e_iand (cut := rg_cut []) (f := false) d_J_bitCount_21 rfl 22 rfl, rg_e_iadd (cut := rg_cut []) (f := false) d_J_bitCount_22 rfl 23 rfl, rg_e_istore_0 (cut := rg_cut []) (f := false) d_J_bitCount_23 rfl 24 rfl, rg_e_iload_0 (cut := rg_cut []) (f := false) d_J_bitCount_24 rfl 25 rfl, rg_e_iload_0 (cut := rg_cut []) (f := false) d_J_bitCount_25 rfl 26 rfl, rg_e_iconst (cut := rg_cut []) (f := false) d_J_bitCount_26 rfl 27 rfl (nI 4) rg_ki_4, rg_e_iushr (cut := rg_cut []) (f := false) d_J_bitCount_27 rfl 28 rfl, rg_e_iadd (cut := rg_cut []) (f := false) d_J_bitCount_28 rfl 29 rfl, rg_e_ldcw (P := P_J_bitCount) (cut := rg_cut []) (f := false) d_J_bitCount_29 rfl 32 rfl (nI 252645135) rfl, rg_e_iand (cut := rg_cut []) (f := false) d_J_bitCount_32 rfl 33 rfl, rg_e_istore_0 (cut := rg_cut []) (f := false) d_J_bitCount_33 rfl 34 rfl, rg_e_iload_0 (cut := rg_cut []) (f := false) d_J_bitCount_34 rfl 35 rfl, rg_e_iload_0 (cut := rg_cut []) (f := false) d_J_bitCount_35 rfl 36 rfl, rg_e_bipush (cut := rg_cut []) (f := false) d_J_bitCount_36 rfl 38 rfl (nI 8) rg_kb_8, rg_e_iushr (cut := rg_cut []) (f := false) d_J_bitCount_38 rfl 39 rfl, rg_e_iadd (cut := rg_cut []) (f := false) d_J_bitCount_39 rfl 40 rfl, rg_e_istore_0 (cut := rg_cut []) (f := false) d_J_bitCount_40 rfl 41 rfl, rg_e_iload_0 (cut := rg_cut []) (f := false) d_J_bitCount_41 rfl 42 rfl, rg_e_iload_0 (cut := rg_cut []) (f := false) d_J_bitCount_42 rfl 43 rfl, rg_e_bipush (cut := rg_cut []) (f := false) d_J_bitCount_43 rfl 45 rfl (nI 16) rg_kb_16, rg_e_iushr (cut := rg_cut []) (f := false) d_J_bitCount_45 rfl 46 rfl, rg_e_iadd (cut := rg_cut []) (f := false) d_J_bitCount_46 rfl 47 rfl, rg_e_istore_0 (cut := rg_cut []) (f := false) d_J_bitCount_47 rfl 48 rfl, rg_e_iload_0 (cut := rg_cut []) (f := false) d_J_bitCount_48 rfl 49 rfl, rg_e_bipush (cut := rg_cut []) (f := false) d_J_bitCount_49 rfl 51 rfl (nI 63) rg_kb_63, rg_e_iand (cut := rg_cut []) (f := false) d_J_bitCount_51 rfl 52 rfl, rg_e_iret (cut := rg_cut []) (f := false) d_J_bitCount_52 rfl, rg_nx_i, rg_nx_v, rg_wd_n, rg_wd_i, rg_wd_l, rg_wd_r, rg_clr_i, rg_clr_l, rg_clr_r, rg_clr_a, rg_clr_n, true_and, and_true, Nat.reduceAdd, Nat.reduceLeDiff, rg_rt_e, rg_fit_ie, rg_fit_ve, rg_fit_1e, rg_fit_0e, rg_fit_be]
  exact hT
/-- the graph's kind -/
noncomputable def shN (nd : Nat → Bool) (hg : Nat → Nat → Nat) : Nat := if (esT hg 81).length = 0 then 0 else if (List.range 9).any (fun i => nd i && !(List.range 9).all (fun j => rcB (kE hg) i j == nd j)) = true then 0 else if (esT hg 81).length = cnF nd 9 then 1 else 2
theorem all9 {p q : Nat → Bool} : (List.range 9).all (fun j => p j == q j) = true ↔ ∀ j, j < 9 → p j = q j := by
  rw [List.all_eq_true]
  exact ⟨fun h j hj => by simpa using h j (List.mem_range.mpr hj), fun h j hj => by simpa using h j (List.mem_range.mp hj)⟩
-- E.shape
def P_E_shape : rg_P := (rg_F_E, [(134, 2, 0, T_G_holds), (164, 1, 0, T_J_bitCount)], [], [], [], [], 0)
def T_E_shape : rg_T := fun as w K => match as with
  | [.ref 4] => ∃ nd hg, GrW nd hg w ∧ (∀ i, hg i i = 0) ∧ K (some (.int (nI (shN nd hg)))) w
  | _ => False
theorem Te_E_shape  (w : rg_W) (K : Option Value → rg_W → Prop) : T_E_shape [.ref 4] w K = (∃ nd hg, GrW nd hg w ∧ (∀ i, hg i i = 0) ∧ K (some (.int (nI (shN nd hg)))) w) := rfl
theorem r_E_shape : ∀ as w K, T_E_shape as w K → ∃ r, as = .ref 4 :: r := by
  intro as w K h
  unfold T_E_shape at h
  split at h
  · exact ⟨_, rfl⟩
  · exact h.elim
theorem G_E_shape (l : Launch) : rg_Good l y_E_shape c_E_shape 2 (some .int) 1 T_E_shape := by
  refine rg_good_of (P := P_E_shape) (by decide) (rg_pok rg_F_E_ok (rg_cons (cw_E_67 (G_G_holds l) (by decide)) (rg_cons (cw_E_82 (G_J_bitCount l) (by decide)) rg_nil))) ?_
  intro as w K Z hT hZ
  unfold T_E_shape at hT
  split at hT
  rotate_left
  · exact hT.elim
  refine ⟨Nat.le_of_ble_eq_true rfl, ?_⟩
  show Z 0 [.ref 4, .null] [] w 0
  obtain ⟨nd, hg, ⟨hB, -, hG, hr⟩, h0, hK⟩ := hT
  have hc := hG.1
  have hlen := esT_len h0 81 (by omega)
  have hcn := cnF_le nd 9
  have loop : ∀ i, (i ≤ 9 ∧ (esT hg 81).length ≠ 0 ∧ ∀ b, b < i → (nd b && !(List.range 9).all (fun j => rcB (kE hg) b j == nd j)) = false) → Z 11 [.ref 4, .int (nI i)] [] w 0 := by
    refine rg_lp1 _ _ (fun i => 9 - i) ?_
    intro i ⟨hi, hl, hno⟩ ih
    rcases Nat.lt_or_ge i 9 with hi9 | hi9
    · have vi : vp_in (nI i) 9 := vp_in_nI hi9 (by omega)
      have ci : (nI i).toNatClampNeg = i := nI_clamp (by omega)
      have next : (nd i && !(List.range 9).all (fun j => rcB (kE hg) i j == nd j)) = false → Z 11 [.ref 4, .int (nI (i + 1))] [] w 0 := fun h =>
        ih (i + 1) ⟨by omega, hl, fun b hb => by
          by_cases hbi : b = i
          · subst hbi; exact h
          · exact hno b (by omega)⟩ (by omega)
      refine hZ (rg_cut [11]) 400 11 _ _ _ ?_; simp only [rg_e_iload_1 (cut := rg_cut [11]) (f := true) d_E_shape_11 rfl 12 rfl, rg_e_bipush (cut := rg_cut [11]) (f := false) d_E_shape_12 rfl 14 rfl (nI 9) rg_kb_9, rg_e_icmp_ge (cut := rg_cut [11]) (f := false) d_E_shape_14 rfl 17 rfl 49 rfl, rg_e_aload_0 (cut := rg_cut [11]) (f := false) d_E_shape_17 rfl 18 rfl, rg_e_geti (P := P_E_shape) (cut := rg_cut [11]) (f := false) d_E_shape_18 rfl 21 rfl 4 2 8 rfl (fun _ => rfl), rg_e_iload_1 (cut := rg_cut [11]) (f := false) d_E_shape_21 rfl 22 rfl, rg_e_cs2 (P := P_E_shape) (cut := rg_cut [11]) (f := false) d_E_shape_22 rfl T_G_holds rfl, rg_e_if_eq (cut := rg_cut [11]) (f := false) d_E_shape_25 rfl 28 rfl 43 rfl, rg_e_aload_0 (cut := rg_cut [11]) (f := false) d_E_shape_28 rfl 29 rfl, rg_e_getr (P := P_E_shape) (cut := rg_cut [11]) (f := false) d_E_shape_29 rfl 32 rfl 4 2 7 12 rfl (fun _ => rfl), rg_e_iload_1 (cut := rg_cut [11]) (f := false) d_E_shape_32 rfl 33 rfl, rg_e_iald (cut := rg_cut [11]) (f := false) d_E_shape_33 rfl 34 rfl 12 9 rfl, rg_e_aload_0 (cut := rg_cut [11]) (f := false) d_E_shape_34 rfl 35 rfl, rg_e_geti (P := P_E_shape) (cut := rg_cut [11]) (f := false) d_E_shape_35 rfl 38 rfl 4 2 8 rfl (fun _ => rfl), rg_e_icmp_eq (cut := rg_cut [11]) (f := false) d_E_shape_38 rfl 41 rfl 43 rfl, rg_e_iconst (cut := rg_cut [11]) (f := false) d_E_shape_41 rfl 42 rfl (nI 0) rg_ki_0, rg_e_iret (cut := rg_cut [11]) (f := false) d_E_shape_42 rfl, rg_e_iinc_1 (cut := rg_cut [11]) (f := false) d_E_shape_43 rfl 46 rfl (nI 1) rg_ki_1, rg_e_goto (cut := rg_cut [11]) (f := false) d_E_shape_46 rfl 11 rfl, rg_e_aload_0 (cut := rg_cut [11]) (f := false) d_E_shape_49 rfl 50 rfl, rg_e_geti (P := P_E_shape) (cut := rg_cut [11]) (f := false) d_E_shape_50 rfl 53 rfl 4 2 10 rfl (fun _ => rfl), rg_e_aload_0 (cut := rg_cut [11]) (f := false) d_E_shape_53 rfl 54 rfl, rg_e_geti (P := P_E_shape) (cut := rg_cut [11]) (f := false) d_E_shape_54 rfl 57 rfl 4 2 8 rfl (fun _ => rfl), rg_e_cs1 (P := P_E_shape) (cut := rg_cut [11]) (f := false) d_E_shape_57 rfl T_J_bitCount rfl, rg_e_icmp_ne (cut := rg_cut [11]) (f := false) d_E_shape_60 rfl 63 rfl 67 rfl, rg_e_iconst (cut := rg_cut [11]) (f := false) d_E_shape_63 rfl 64 rfl (nI 1) rg_ki_1, rg_e_goto (cut := rg_cut [11]) (f := false) d_E_shape_64 rfl 68 rfl, rg_e_iconst (cut := rg_cut [11]) (f := false) d_E_shape_67 rfl 68 rfl (nI 2) rg_ki_2, rg_e_iret (cut := rg_cut [11]) (f := false) d_E_shape_68 rfl, rg_e_cut (cut := rg_cut [11]) 11 rfl, rg_nx_i, rg_nx_v, rg_wd_n, rg_wd_i, rg_wd_l, rg_wd_r, rg_clr_i, rg_clr_l, rg_clr_r, rg_clr_a, rg_clr_n, true_and, and_true, Nat.reduceAdd, Nat.reduceLeDiff, ↓Te_G_holds, ↓Te_J_bitCount, rg_rt_e, rg_fit_ie, rg_fit_ve, rg_fit_1e, rg_fit_0e, rg_fit_be, vi, ci, zI_eq, nI_add, hc]
      rw [nI_lep (by omega) (by omega), hB.h hi9, (hr i hi9).eq hB]
      refine ⟨fun h => by omega, fun _ => ⟨fun h => next (by rw [h]; rfl), fun h => ⟨fun h1 => next (by rw [all9.mpr h1]; simp), fun h1 => ?_⟩⟩⟩
      have h : nd i = true := by simpa using h
      have h1 : (List.range 9).all (fun j => rcB (kE hg) i j == nd j) = false := by
        rw [Bool.eq_false_iff]
        exact fun z => h1 (all9.mp z)
      have : shN nd hg = 0 := by
        unfold shN
        rw [if_neg hl, if_pos]
        exact List.any_eq_true.mpr ⟨i, List.mem_range.mpr hi9, by rw [h, h1]; rfl⟩
      rw [this] at hK
      exact hK
    · obtain rfl : i = 9 := by omega
      refine hZ (rg_cut [11]) 400 11 _ _ _ ?_; simp only [rg_e_iload_1 (cut := rg_cut [11]) (f := true) d_E_shape_11 rfl 12 rfl, rg_e_bipush (cut := rg_cut [11]) (f := false) d_E_shape_12 rfl 14 rfl (nI 9) rg_kb_9, rg_e_icmp_ge (cut := rg_cut [11]) (f := false) d_E_shape_14 rfl 17 rfl 49 rfl, rg_e_aload_0 (cut := rg_cut [11]) (f := false) d_E_shape_17 rfl 18 rfl, rg_e_geti (P := P_E_shape) (cut := rg_cut [11]) (f := false) d_E_shape_18 rfl 21 rfl 4 2 8 rfl (fun _ => rfl), rg_e_iload_1 (cut := rg_cut [11]) (f := false) d_E_shape_21 rfl 22 rfl, rg_e_cs2 (P := P_E_shape) (cut := rg_cut [11]) (f := false) d_E_shape_22 rfl T_G_holds rfl, rg_e_if_eq (cut := rg_cut [11]) (f := false) d_E_shape_25 rfl 28 rfl 43 rfl, rg_e_aload_0 (cut := rg_cut [11]) (f := false) d_E_shape_28 rfl 29 rfl, rg_e_getr (P := P_E_shape) (cut := rg_cut [11]) (f := false) d_E_shape_29 rfl 32 rfl 4 2 7 12 rfl (fun _ => rfl), rg_e_iload_1 (cut := rg_cut [11]) (f := false) d_E_shape_32 rfl 33 rfl, rg_e_iald (cut := rg_cut [11]) (f := false) d_E_shape_33 rfl 34 rfl 12 9 rfl, rg_e_aload_0 (cut := rg_cut [11]) (f := false) d_E_shape_34 rfl 35 rfl, rg_e_geti (P := P_E_shape) (cut := rg_cut [11]) (f := false) d_E_shape_35 rfl 38 rfl 4 2 8 rfl (fun _ => rfl), rg_e_icmp_eq (cut := rg_cut [11]) (f := false) d_E_shape_38 rfl 41 rfl 43 rfl, rg_e_iconst (cut := rg_cut [11]) (f := false) d_E_shape_41 rfl 42 rfl (nI 0) rg_ki_0, rg_e_iret (cut := rg_cut [11]) (f := false) d_E_shape_42 rfl, rg_e_iinc_1 (cut := rg_cut [11]) (f := false) d_E_shape_43 rfl 46 rfl (nI 1) rg_ki_1, rg_e_goto (cut := rg_cut [11]) (f := false) d_E_shape_46 rfl 11 rfl, rg_e_aload_0 (cut := rg_cut [11]) (f := false) d_E_shape_49 rfl 50 rfl, rg_e_geti (P := P_E_shape) (cut := rg_cut [11]) (f := false) d_E_shape_50 rfl 53 rfl 4 2 10 rfl (fun _ => rfl), rg_e_aload_0 (cut := rg_cut [11]) (f := false) d_E_shape_53 rfl 54 rfl, rg_e_geti (P := P_E_shape) (cut := rg_cut [11]) (f := false) d_E_shape_54 rfl 57 rfl 4 2 8 rfl (fun _ => rfl), rg_e_cs1 (P := P_E_shape) (cut := rg_cut [11]) (f := false) d_E_shape_57 rfl T_J_bitCount rfl, rg_e_icmp_ne (cut := rg_cut [11]) (f := false) d_E_shape_60 rfl 63 rfl 67 rfl, rg_e_iconst (cut := rg_cut [11]) (f := false) d_E_shape_63 rfl 64 rfl (nI 1) rg_ki_1, rg_e_goto (cut := rg_cut [11]) (f := false) d_E_shape_64 rfl 68 rfl, rg_e_iconst (cut := rg_cut [11]) (f := false) d_E_shape_67 rfl 68 rfl (nI 2) rg_ki_2, rg_e_iret (cut := rg_cut [11]) (f := false) d_E_shape_68 rfl, rg_e_cut (cut := rg_cut [11]) 11 rfl, rg_nx_i, rg_nx_v, rg_wd_n, rg_wd_i, rg_wd_l, rg_wd_r, rg_clr_i, rg_clr_l, rg_clr_r, rg_clr_a, rg_clr_n, true_and, and_true, Nat.reduceAdd, Nat.reduceLeDiff, ↓Te_G_holds, ↓Te_J_bitCount, rg_rt_e, rg_fit_ie, rg_fit_ve, rg_fit_1e, rg_fit_0e, rg_fit_be, hc]
      refine ⟨fun _ => ?_, fun h => absurd (nI_le hi9 (by omega)) h⟩
      rw [bcI_bs hB, nI_eqp (by omega) (by omega)]
      have hsh : shN nd hg = if (esT hg 81).length = cnF nd 9 then 1 else 2 := by
        unfold shN
        rw [if_neg hl, if_neg]
        rw [List.any_eq_true]
        rintro ⟨b, hb, h⟩
        rw [hno b (List.mem_range.mp hb)] at h
        cases h
      rw [hsh] at hK
      refine ⟨fun h => ?_, fun h => ?_⟩
      · rw [if_neg h] at hK; exact hK
      · rw [if_pos (Classical.not_not.mp h)] at hK; exact hK
  refine hZ (rg_cut [11]) 400 0 _ _ _ ?_; simp only [rg_e_aload_0 (cut := rg_cut [11]) (f := true) d_E_shape_0 rfl 1 rfl, rg_e_geti (P := P_E_shape) (cut := rg_cut [11]) (f := false) d_E_shape_1 rfl 4 rfl 4 2 10 rfl (fun _ => rfl), rg_e_if_ne (cut := rg_cut [11]) (f := false) d_E_shape_4 rfl 7 rfl 9 rfl, rg_e_iconst (cut := rg_cut [11]) (f := false) d_E_shape_7 rfl 8 rfl (nI 0) rg_ki_0, rg_e_iret (cut := rg_cut [11]) (f := false) d_E_shape_8 rfl, rg_e_iconst (cut := rg_cut [11]) (f := false) d_E_shape_9 rfl 10 rfl (nI 0) rg_ki_0, rg_e_istore_1 (cut := rg_cut [11]) (f := false) d_E_shape_10 rfl 11 rfl, rg_e_cut (cut := rg_cut [11]) 11 rfl, rg_nx_i, rg_nx_v, rg_wd_n, rg_wd_i, rg_wd_l, rg_wd_r, rg_clr_i, rg_clr_l, rg_clr_r, rg_clr_a, rg_clr_n, true_and, and_true, Nat.reduceAdd, Nat.reduceLeDiff, ↓Te_G_holds, ↓Te_J_bitCount, rg_rt_e, rg_fit_ie, rg_fit_ve, rg_fit_1e, rg_fit_0e, rg_fit_be, hc]
  rw [nI_eq0 (by omega)]
  refine ⟨fun h => loop 0 ⟨by omega, h, fun b hb => absurd hb (by omega)⟩, fun h => ?_⟩
  have : shN nd hg = 0 := by unfold shN; rw [if_pos (Classical.not_not.mp h)]
  rw [this] at hK
  exact hK
/-- a way from where the later edge begins to where the earlier one ends, not by them -/
noncomputable def pbN (hg : Nat → Nat → Nat) (fe te fl tl : Nat) : Bool := (List.range 9).any (fun i => (kE hg fl i && !decide (i = tl)) && (List.range 9).any (fun k => (decide (k = i) || rcB (kE hg) i k) && (kE hg k te && !decide (k = fe))))
noncomputable def pbE (hg : Nat → Nat → Nat) (e l : Nat) : Bool := pbN hg ((esT hg 81).getD e 0 / 9) ((esT hg 81).getD e 0 % 9) ((esT hg 81).getD l 0 / 9) ((esT hg 81).getD l 0 % 9)
theorem esT_lt {hg : Nat → Nat → Nat} {t k : Nat} (h : k < (esT hg t).length) : (esT hg t).getD k 0 < t ∧ kp hg ((esT hg t).getD k 0) = true := by
  have hm : (esT hg t).getD k 0 ∈ esT hg t := by
    rw [List.getD_eq_getElem?_getD, List.getElem?_eq_getElem h]
    exact List.getElem_mem h
  obtain ⟨h1, h2⟩ := List.mem_filter.mp hm
  exact ⟨List.mem_range.mp h1, h2⟩
/-- the edges and the ways, as Edges holds them -/
def GrE (hg : Nat → Nat → Nat) (w : rg_W) : Prop := GE hg 81 w ∧ (∀ a, a < 9 → BS (w.1 12 a) (rcB (kE hg) a)) ∧ ∀ i, hg i i = 0
theorem GrW.e {nd : Nat → Bool} {hg : Nat → Nat → Nat} {w : rg_W} (h : GrW nd hg w) (h0 : ∀ i, hg i i = 0) : GrE hg w := ⟨h.2.2.1, h.2.2.2, h0⟩
-- E.isPassedBy
def P_E_isPassedBy : rg_P := (rg_F_E, [(134, 2, 0, T_G_holds)], [], [], [], [], 0)
def T_E_isPassedBy : rg_T := fun as w K => match as with
  | [.ref 4, .int ee, .int ll] => ∃ hg e l, GrE hg w ∧ ee = nI e ∧ ll = nI l ∧ e < (esT hg 81).length ∧ l < (esT hg 81).length ∧ K (some (.int (zI (pbE hg e l)))) w
  | _ => False
theorem Te_E_isPassedBy (ee : Int32) (ll : Int32) (w : rg_W) (K : Option Value → rg_W → Prop) : T_E_isPassedBy [.ref 4, .int ee, .int ll] w K = (∃ hg e l, GrE hg w ∧ ee = nI e ∧ ll = nI l ∧ e < (esT hg 81).length ∧ l < (esT hg 81).length ∧ K (some (.int (zI (pbE hg e l)))) w) := rfl
theorem r_E_isPassedBy : ∀ as w K, T_E_isPassedBy as w K → ∃ r, as = .ref 4 :: r := by
  intro as w K h
  unfold T_E_isPassedBy at h
  split at h
  · exact ⟨_, rfl⟩
  · exact h.elim
theorem G_E_isPassedBy (l : Launch) : rg_Good l y_E_isPassedBy c_E_isPassedBy 6 (some .boolean) 1 T_E_isPassedBy := by
  refine rg_good_of (P := P_E_isPassedBy) (by decide) (rg_pok rg_F_E_ok (rg_cons (cw_E_67 (G_G_holds l) (by decide)) rg_nil)) ?_
  intro as w K Z hT hZ
  unfold T_E_isPassedBy at hT
  split at hT
  rotate_left
  · exact hT.elim
  rename_i ee ll
  refine ⟨Nat.le_of_ble_eq_true rfl, ?_⟩
  show Z 0 [.ref 4, .int ee, .int ll, .null, .null, .null] [] w 0
  obtain ⟨hg, e, l', ⟨hG, hr, h0⟩, rfl, rfl, he, hl, hK⟩ := hT
  have hlen := esT_len h0 81 (by omega)
  obtain ⟨ge1, ge2, -⟩ := hG.2.1 e he
  obtain ⟨gl1, gl2, -⟩ := hG.2.1 l' hl
  obtain ⟨te, -⟩ := esT_lt he
  obtain ⟨tl, -⟩ := esT_lt hl
  have ce : (nI e).toNatClampNeg = e := nI_clamp (by omega)
  have cl : (nI l').toNatClampNeg = l' := nI_clamp (by omega)
  have ve : vp_in (nI e) 72 := vp_in_nI (by omega) (by omega)
  have vl : vp_in (nI l') 72 := vp_in_nI (by omega) (by omega)
  unfold pbE at hK
  generalize (esT hg 81).getD e 0 = x at *
  generalize (esT hg 81).getD l' 0 = y at *
  have v1 : vp_in (nI (x / 9)) 9 := vp_in_nI (by omega) (by omega)
  have v2 : vp_in (nI (x % 9)) 9 := vp_in_nI (by omega) (by omega)
  have v3 : vp_in (nI (y / 9)) 9 := vp_in_nI (by omega) (by omega)
  have v4 : vp_in (nI (y % 9)) 9 := vp_in_nI (by omega) (by omega)
  have c1 : (nI (x / 9)).toNatClampNeg = x / 9 := nI_clamp (by omega)
  have c2 : (nI (x % 9)).toNatClampNeg = x % 9 := nI_clamp (by omega)
  have c3 : (nI (y / 9)).toNatClampNeg = y / 9 := nI_clamp (by omega)
  have c4 : (nI (y % 9)).toNatClampNeg = y % 9 := nI_clamp (by omega)
  have hS : BS (w.1 10 (y / 9) &&& ((nI 1 <<< (nI (y % 9) &&& 31)) ^^^ (-1))) (fun i => kE hg (y / 9) i && !decide (i = y % 9)) :=
    ((hG.2.2.1 (y / 9) (by omega)).rem (by omega)).cg fun i hi => by rw [decide_eq_true (by omega)]; rfl
  have hN : BS (w.1 11 (x % 9) &&& ((nI 1 <<< (nI (x / 9) &&& 31)) ^^^ (-1))) (fun k => kE hg k (x % 9) && !decide (k = x / 9)) :=
    ((hG.2.2.2 (x % 9) (by omega)).rem (by omega)).cg fun i hi => by rw [decide_eq_true (by omega)]; rfl
  have loop : ∀ i, (i ≤ 9 ∧ ∀ b, b < i → ((kE hg (y / 9) b && !decide (b = y % 9)) && (List.range 9).any (fun k => (decide (k = b) || rcB (kE hg) b k) && (kE hg k (x % 9) && !decide (k = x / 9)))) = false) → Z 50 [.ref 4, .int (nI e), .int (nI l'), .int (w.1 10 (y / 9) &&& ((nI 1 <<< (nI (y % 9) &&& 31)) ^^^ (-1))), .int (w.1 11 (x % 9) &&& ((nI 1 <<< (nI (x / 9) &&& 31)) ^^^ (-1))), .int (nI i)] [] w 0 := by
    refine rg_lp1 _ _ (fun i => 9 - i) ?_
    intro i ⟨hi, hno⟩ ih
    rcases Nat.lt_or_ge i 9 with hi9 | hi9
    · have vi : vp_in (nI i) 9 := vp_in_nI hi9 (by omega)
      have ci : (nI i).toNatClampNeg = i := nI_clamp (by omega)
      have next : ((kE hg (y / 9) i && !decide (i = y % 9)) && (List.range 9).any (fun k => (decide (k = i) || rcB (kE hg) i k) && (kE hg k (x % 9) && !decide (k = x / 9)))) = false → Z 50 [.ref 4, .int (nI e), .int (nI l'), .int (w.1 10 (y / 9) &&& ((nI 1 <<< (nI (y % 9) &&& 31)) ^^^ (-1))), .int (w.1 11 (x % 9) &&& ((nI 1 <<< (nI (x / 9) &&& 31)) ^^^ (-1))), .int (nI (i + 1))] [] w 0 := fun h =>
        ih (i + 1) ⟨by omega, fun b hb => by
          by_cases hbi : b = i
          · subst hbi; exact h
          · exact hno b (by omega)⟩ (by omega)
      refine hZ (rg_cut [50]) 400 50 _ _ _ ?_; simp only [rg_e_iload_5 (cut := rg_cut [50]) (f := true) d_E_isPassedBy_50 rfl 52 rfl, rg_e_bipush (cut := rg_cut [50]) (f := false) d_E_isPassedBy_52 rfl 54 rfl (nI 9) rg_kb_9, rg_e_icmp_ge (cut := rg_cut [50]) (f := false) d_E_isPassedBy_54 rfl 57 rfl 92 rfl, rg_e_iload_3 (cut := rg_cut [50]) (f := false) d_E_isPassedBy_57 rfl 58 rfl, rg_e_iload_5 (cut := rg_cut [50]) (f := false) d_E_isPassedBy_58 rfl 60 rfl, rg_e_cs2 (P := P_E_isPassedBy) (cut := rg_cut [50]) (f := false) d_E_isPassedBy_60 rfl T_G_holds rfl, rg_e_if_eq (cut := rg_cut [50]) (f := false) d_E_isPassedBy_63 rfl 66 rfl 86 rfl, rg_e_iconst (cut := rg_cut [50]) (f := false) d_E_isPassedBy_66 rfl 67 rfl (nI 1) rg_ki_1, rg_e_iload_5 (cut := rg_cut [50]) (f := false) d_E_isPassedBy_67 rfl 69 rfl, rg_e_ishl (cut := rg_cut [50]) (f := false) d_E_isPassedBy_69 rfl 70 rfl, rg_e_aload_0 (cut := rg_cut [50]) (f := false) d_E_isPassedBy_70 rfl 71 rfl, rg_e_getr (P := P_E_isPassedBy) (cut := rg_cut [50]) (f := false) d_E_isPassedBy_71 rfl 74 rfl 4 2 7 12 rfl (fun _ => rfl), rg_e_iload_5 (cut := rg_cut [50]) (f := false) d_E_isPassedBy_74 rfl 76 rfl, rg_e_iald (cut := rg_cut [50]) (f := false) d_E_isPassedBy_76 rfl 77 rfl 12 9 rfl, rg_e_ior (cut := rg_cut [50]) (f := false) d_E_isPassedBy_77 rfl 78 rfl, rg_e_iload_4 (cut := rg_cut [50]) (f := false) d_E_isPassedBy_78 rfl 80 rfl, rg_e_iand (cut := rg_cut [50]) (f := false) d_E_isPassedBy_80 rfl 81 rfl, rg_e_if_eq (cut := rg_cut [50]) (f := false) d_E_isPassedBy_81 rfl 84 rfl 86 rfl, rg_e_iconst (cut := rg_cut [50]) (f := false) d_E_isPassedBy_84 rfl 85 rfl (nI 1) rg_ki_1, rg_e_iret (cut := rg_cut [50]) (f := false) d_E_isPassedBy_85 rfl, rg_e_iinc_5 (cut := rg_cut [50]) (f := false) d_E_isPassedBy_86 rfl 89 rfl (nI 1) rg_ki_1, rg_e_goto (cut := rg_cut [50]) (f := false) d_E_isPassedBy_89 rfl 50 rfl, rg_e_iconst (cut := rg_cut [50]) (f := false) d_E_isPassedBy_92 rfl 93 rfl (nI 0) rg_ki_0, rg_e_iret (cut := rg_cut [50]) (f := false) d_E_isPassedBy_93 rfl, rg_e_cut (cut := rg_cut [50]) 50 rfl, rg_nx_i, rg_nx_v, rg_wd_n, rg_wd_i, rg_wd_l, rg_wd_r, rg_clr_i, rg_clr_l, rg_clr_r, rg_clr_a, rg_clr_n, true_and, and_true, Nat.reduceAdd, Nat.reduceLeDiff, ↓Te_G_holds, rg_rt_e, rg_fit_ie, rg_fit_ve, rg_fit_1e, rg_fit_0e, rg_fit_be, vi, ci, zI_eq, nI_add]
      rw [nI_lep (by omega) (by omega), hS.h hi9, (((BS.one hi9).or (hr i hi9)).and hN).eq0]
      refine ⟨fun h => by omega, fun _ => ⟨fun h => next (by rw [h, Bool.false_and]), fun h => ⟨fun h1 => next ?_, fun h1 => ?_⟩⟩⟩
      · rw [List.any_eq_false.mpr (fun k hk => by rw [h1 k (List.mem_range.mp hk)]; decide), Bool.and_false]
      · have h : (kE hg (y / 9) i && !decide (i = y % 9)) = true := by
          rw [Bool.eq_false_iff] at h
          exact Classical.not_not.mp h
        have h2 : (List.range 9).any (fun k => (decide (k = i) || rcB (kE hg) i k) && (kE hg k (x % 9) && !decide (k = x / 9))) = true := by
          rw [← Bool.not_eq_false]
          intro z
          refine h1 (fun k hk => ?_)
          have := List.any_eq_false.mp z k (List.mem_range.mpr hk)
          rw [Bool.eq_false_iff]
          exact this
        have : pbN hg (x / 9) (x % 9) (y / 9) (y % 9) = true := List.any_eq_true.mpr ⟨i, List.mem_range.mpr hi9, by rw [h, h2]; rfl⟩
        rw [this] at hK
        exact hK
    · obtain rfl : i = 9 := by omega
      refine hZ (rg_cut [50]) 400 50 _ _ _ ?_; simp only [rg_e_iload_5 (cut := rg_cut [50]) (f := true) d_E_isPassedBy_50 rfl 52 rfl, rg_e_bipush (cut := rg_cut [50]) (f := false) d_E_isPassedBy_52 rfl 54 rfl (nI 9) rg_kb_9, rg_e_icmp_ge (cut := rg_cut [50]) (f := false) d_E_isPassedBy_54 rfl 57 rfl 92 rfl, rg_e_iload_3 (cut := rg_cut [50]) (f := false) d_E_isPassedBy_57 rfl 58 rfl, rg_e_iload_5 (cut := rg_cut [50]) (f := false) d_E_isPassedBy_58 rfl 60 rfl, rg_e_cs2 (P := P_E_isPassedBy) (cut := rg_cut [50]) (f := false) d_E_isPassedBy_60 rfl T_G_holds rfl, rg_e_if_eq (cut := rg_cut [50]) (f := false) d_E_isPassedBy_63 rfl 66 rfl 86 rfl, rg_e_iconst (cut := rg_cut [50]) (f := false) d_E_isPassedBy_66 rfl 67 rfl (nI 1) rg_ki_1, rg_e_iload_5 (cut := rg_cut [50]) (f := false) d_E_isPassedBy_67 rfl 69 rfl, rg_e_ishl (cut := rg_cut [50]) (f := false) d_E_isPassedBy_69 rfl 70 rfl, rg_e_aload_0 (cut := rg_cut [50]) (f := false) d_E_isPassedBy_70 rfl 71 rfl, rg_e_getr (P := P_E_isPassedBy) (cut := rg_cut [50]) (f := false) d_E_isPassedBy_71 rfl 74 rfl 4 2 7 12 rfl (fun _ => rfl), rg_e_iload_5 (cut := rg_cut [50]) (f := false) d_E_isPassedBy_74 rfl 76 rfl, rg_e_iald (cut := rg_cut [50]) (f := false) d_E_isPassedBy_76 rfl 77 rfl 12 9 rfl, rg_e_ior (cut := rg_cut [50]) (f := false) d_E_isPassedBy_77 rfl 78 rfl, rg_e_iload_4 (cut := rg_cut [50]) (f := false) d_E_isPassedBy_78 rfl 80 rfl, rg_e_iand (cut := rg_cut [50]) (f := false) d_E_isPassedBy_80 rfl 81 rfl, rg_e_if_eq (cut := rg_cut [50]) (f := false) d_E_isPassedBy_81 rfl 84 rfl 86 rfl, rg_e_iconst (cut := rg_cut [50]) (f := false) d_E_isPassedBy_84 rfl 85 rfl (nI 1) rg_ki_1, rg_e_iret (cut := rg_cut [50]) (f := false) d_E_isPassedBy_85 rfl, rg_e_iinc_5 (cut := rg_cut [50]) (f := false) d_E_isPassedBy_86 rfl 89 rfl (nI 1) rg_ki_1, rg_e_goto (cut := rg_cut [50]) (f := false) d_E_isPassedBy_89 rfl 50 rfl, rg_e_iconst (cut := rg_cut [50]) (f := false) d_E_isPassedBy_92 rfl 93 rfl (nI 0) rg_ki_0, rg_e_iret (cut := rg_cut [50]) (f := false) d_E_isPassedBy_93 rfl, rg_e_cut (cut := rg_cut [50]) 50 rfl, rg_nx_i, rg_nx_v, rg_wd_n, rg_wd_i, rg_wd_l, rg_wd_r, rg_clr_i, rg_clr_l, rg_clr_r, rg_clr_a, rg_clr_n, true_and, and_true, Nat.reduceAdd, Nat.reduceLeDiff, ↓Te_G_holds, rg_rt_e, rg_fit_ie, rg_fit_ve, rg_fit_1e, rg_fit_0e, rg_fit_be]
      refine ⟨fun _ => ?_, fun h => absurd (nI_le hi9 (by omega)) h⟩
      have : pbN hg (x / 9) (x % 9) (y / 9) (y % 9) = false := List.any_eq_false.mpr (fun b hb => by rw [hno b (List.mem_range.mp hb)]; decide)
      rw [this] at hK
      exact hK
  refine hZ (rg_cut [50]) 400 0 _ _ _ ?_; simp only [rg_e_aload_0 (cut := rg_cut [50]) (f := true) d_E_isPassedBy_0 rfl 1 rfl, rg_e_getr (P := P_E_isPassedBy) (cut := rg_cut [50]) (f := false) d_E_isPassedBy_1 rfl 4 rfl 4 2 5 10 rfl (fun _ => rfl), rg_e_aload_0 (cut := rg_cut [50]) (f := false) d_E_isPassedBy_4 rfl 5 rfl, rg_e_getr (P := P_E_isPassedBy) (cut := rg_cut [50]) (f := false) d_E_isPassedBy_5 rfl 8 rfl 4 2 1 6 rfl (fun _ => rfl), rg_e_iload_2 (cut := rg_cut [50]) (f := false) d_E_isPassedBy_8 rfl 9 rfl, rg_e_iald (cut := rg_cut [50]) (f := false) d_E_isPassedBy_9 rfl 10 rfl 6 72 rfl, rg_e_iald (cut := rg_cut [50]) (f := false) d_E_isPassedBy_10 rfl 11 rfl 10 9 rfl, rg_e_iconst (cut := rg_cut [50]) (f := false) d_E_isPassedBy_11 rfl 12 rfl (nI 1) rg_ki_1, rg_e_aload_0 (cut := rg_cut [50]) (f := false) d_E_isPassedBy_12 rfl 13 rfl, rg_e_getr (P := P_E_isPassedBy) (cut := rg_cut [50]) (f := false) d_E_isPassedBy_13 rfl 16 rfl 4 2 2 7 rfl (fun _ => rfl), rg_e_iload_2 (cut := rg_cut [50]) (f := false) d_E_isPassedBy_16 rfl 17 rfl, rg_e_iald (cut := rg_cut [50]) (f := false) d_E_isPassedBy_17 rfl 18 rfl 7 72 rfl, rg_e_ishl (cut := rg_cut [50]) (f := false) d_E_isPassedBy_18 rfl 19 rfl, rg_e_iconst (cut := rg_cut [50]) (f := false) d_E_isPassedBy_19 rfl 20 rfl (-1) rg_ki_m1, rg_e_ixor (cut := rg_cut [50]) (f := false) d_E_isPassedBy_20 rfl 21 rfl, rg_e_iand (cut := rg_cut [50]) (f := false) d_E_isPassedBy_21 rfl 22 rfl, rg_e_istore_3 (cut := rg_cut [50]) (f := false) d_E_isPassedBy_22 rfl 23 rfl, rg_e_aload_0 (cut := rg_cut [50]) (f := false) d_E_isPassedBy_23 rfl 24 rfl, rg_e_getr (P := P_E_isPassedBy) (cut := rg_cut [50]) (f := false) d_E_isPassedBy_24 rfl 27 rfl 4 2 6 11 rfl (fun _ => rfl), rg_e_aload_0 (cut := rg_cut [50]) (f := false) d_E_isPassedBy_27 rfl 28 rfl, rg_e_getr (P := P_E_isPassedBy) (cut := rg_cut [50]) (f := false) d_E_isPassedBy_28 rfl 31 rfl 4 2 2 7 rfl (fun _ => rfl), rg_e_iload_1 (cut := rg_cut [50]) (f := false) d_E_isPassedBy_31 rfl 32 rfl, rg_e_iald (cut := rg_cut [50]) (f := false) d_E_isPassedBy_32 rfl 33 rfl 7 72 rfl, rg_e_iald (cut := rg_cut [50]) (f := false) d_E_isPassedBy_33 rfl 34 rfl 11 9 rfl, rg_e_iconst (cut := rg_cut [50]) (f := false) d_E_isPassedBy_34 rfl 35 rfl (nI 1) rg_ki_1, rg_e_aload_0 (cut := rg_cut [50]) (f := false) d_E_isPassedBy_35 rfl 36 rfl, rg_e_getr (P := P_E_isPassedBy) (cut := rg_cut [50]) (f := false) d_E_isPassedBy_36 rfl 39 rfl 4 2 1 6 rfl (fun _ => rfl), rg_e_iload_1 (cut := rg_cut [50]) (f := false) d_E_isPassedBy_39 rfl 40 rfl, rg_e_iald (cut := rg_cut [50]) (f := false) d_E_isPassedBy_40 rfl 41 rfl 6 72 rfl, rg_e_ishl (cut := rg_cut [50]) (f := false) d_E_isPassedBy_41 rfl 42 rfl, rg_e_iconst (cut := rg_cut [50]) (f := false) d_E_isPassedBy_42 rfl 43 rfl (-1) rg_ki_m1, rg_e_ixor (cut := rg_cut [50]) (f := false) d_E_isPassedBy_43 rfl 44 rfl, rg_e_iand (cut := rg_cut [50]) (f := false) d_E_isPassedBy_44 rfl 45 rfl, rg_e_istore_4 (cut := rg_cut [50]) (f := false) d_E_isPassedBy_45 rfl 47 rfl, rg_e_iconst (cut := rg_cut [50]) (f := false) d_E_isPassedBy_47 rfl 48 rfl (nI 0) rg_ki_0, rg_e_istore_5 (cut := rg_cut [50]) (f := false) d_E_isPassedBy_48 rfl 50 rfl, rg_e_cut (cut := rg_cut [50]) 50 rfl, rg_nx_i, rg_nx_v, rg_wd_n, rg_wd_i, rg_wd_l, rg_wd_r, rg_clr_i, rg_clr_l, rg_clr_r, rg_clr_a, rg_clr_n, true_and, and_true, Nat.reduceAdd, Nat.reduceLeDiff, ↓Te_G_holds, rg_rt_e, rg_fit_ie, rg_fit_ve, rg_fit_1e, rg_fit_0e, rg_fit_be, ce, cl, ve, vl, ge1, ge2, gl1, gl2, v1, v2, v3, v4, c1, c2, c3, c4]
  exact loop 0 ⟨by omega, fun b hb => absurd hb (by omega)⟩
