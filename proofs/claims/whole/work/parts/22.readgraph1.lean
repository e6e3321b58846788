/-! ReadGraph: its own inner methods -/
theorem letter_n {p L k : Nat} (hp : p < 2 ^ 31) (hL : L ≤ 12) (hk : k < L) : (nI p >>> ((nI 2 * (nI L - nI 1 - nI k)) &&& 31)) &&& nI 3 = nI (lt4 L p k) := by
  rw [pk_sub (by omega), pk_sub (by omega), lt_raw (nI p) (by omega), pk_tn (by omega)]
  rfl
-- G.forgetGraph
def P_G_forgetGraph : rg_P := (rg_F_G, [(315, 1, 0, T_E_forget)], [], [], [], [], 0)
def T_G_forgetGraph : rg_T := fun as w K => match as with
  | [.ref 0] => ∀ w1, FgR w w1 → K none (rg_up w1 13 3 (nI 0))
  | _ => False
theorem Te_G_forgetGraph  (w : rg_W) (K : Option Value → rg_W → Prop) : T_G_forgetGraph [.ref 0] w K = (∀ w1, FgR w w1 → K none (rg_up w1 13 3 (nI 0))) := rfl
theorem r_G_forgetGraph : ∀ as w K, T_G_forgetGraph as w K → ∃ r, as = .ref 0 :: r := by
  intro as w K h
  unfold T_G_forgetGraph at h
  split at h
  · exact ⟨_, rfl⟩
  · exact h.elim
theorem G_G_forgetGraph (l : Launch) : rg_Good l y_G_forgetGraph c_G_forgetGraph 1 none 1 T_G_forgetGraph := by
  refine rg_good_of (P := P_G_forgetGraph) (by decide) (rg_pok rg_F_G_ok (rg_cons (cw_G_157 (G_E_forget l) (by decide) r_E_forget) rg_nil)) ?_
  intro as w K Z hT hZ
  unfold T_G_forgetGraph at hT
  split at hT
  rotate_left
  · exact hT.elim
  refine ⟨Nat.le_of_ble_eq_true rfl, ?_⟩
  show Z 0 [.ref 0] [] w 0
  refine hZ (rg_cut []) 400 0 _ _ _ ?_; simp only [rg_e_aload_0 (cut := rg_cut []) (f := true) d_G_forgetGraph_0 rfl 1 rfl, rg_e_getr (P := P_G_forgetGraph) (cut := rg_cut []) (f := false) d_G_forgetGraph_1 rfl 4 rfl 0 0 1 4 rfl (fun _ => rfl), rg_e_cv1 (P := P_G_forgetGraph) (cut := rg_cut []) (f := false) d_G_forgetGraph_4 rfl T_E_forget rfl, rg_e_aload_0 (cut := rg_cut []) (f := false) d_G_forgetGraph_7 rfl 8 rfl, rg_e_getr (P := P_G_forgetGraph) (cut := rg_cut []) (f := false) d_G_forgetGraph_8 rfl 11 rfl 0 0 2 13 rfl (fun _ => rfl), rg_e_iconst (cut := rg_cut []) (f := false) d_G_forgetGraph_11 rfl 12 rfl (nI 0) rg_ki_0, rg_e_put (P := P_G_forgetGraph) (cut := rg_cut []) (f := false) d_G_forgetGraph_12 rfl 15 rfl 13 3 3 rfl rfl, rg_e_vret (cut := rg_cut []) (f := false) d_G_forgetGraph_15 rfl, rg_nx_i, rg_nx_v, rg_wd_n, rg_wd_i, rg_wd_l, rg_wd_r, rg_clr_i, rg_clr_l, rg_clr_r, rg_clr_a, rg_clr_n, true_and, and_true, Nat.reduceAdd, Nat.reduceLeDiff, ↓Te_E_forget, rg_rt_e, rg_fit_ie, rg_fit_ve, rg_fit_1e, rg_fit_0e, rg_fit_be]
  exact hT
-- G.clear
def P_G_clear : rg_P := (rg_F_G, [(97, 1, 0, T_G_forgetGraph)], [], [], [], [], 0)
def T_G_clear : rg_T := fun as w K => match as with
  | [.ref 0] => ∀ w1, FgR w w1 → K none (rg_up (rg_up w1 13 3 (nI 0)) 1 2 (nI 0))
  | _ => False
theorem Te_G_clear  (w : rg_W) (K : Option Value → rg_W → Prop) : T_G_clear [.ref 0] w K = (∀ w1, FgR w w1 → K none (rg_up (rg_up w1 13 3 (nI 0)) 1 2 (nI 0))) := rfl
theorem r_G_clear : ∀ as w K, T_G_clear as w K → ∃ r, as = .ref 0 :: r := by
  intro as w K h
  unfold T_G_clear at h
  split at h
  · exact ⟨_, rfl⟩
  · exact h.elim
theorem G_G_clear (l : Launch) : rg_Good l y_G_clear c_G_clear 1 none 2 T_G_clear := by
  refine rg_good_of (P := P_G_clear) (by decide) (rg_pok rg_F_G_ok (rg_cons (cw_G_48 (G_G_forgetGraph l) (by decide) r_G_forgetGraph) rg_nil)) ?_
  intro as w K Z hT hZ
  unfold T_G_clear at hT
  split at hT
  rotate_left
  · exact hT.elim
  refine ⟨Nat.le_of_ble_eq_true rfl, ?_⟩
  show Z 0 [.ref 0] [] w 0
  refine hZ (rg_cut []) 400 0 _ _ _ ?_; simp only [rg_e_aload_0 (cut := rg_cut []) (f := true) d_G_clear_0 rfl 1 rfl, rg_e_cv1 (P := P_G_clear) (cut := rg_cut []) (f := false) d_G_clear_1 rfl T_G_forgetGraph rfl, rg_e_aload_0 (cut := rg_cut []) (f := false) d_G_clear_4 rfl 5 rfl, rg_e_getr (P := P_G_clear) (cut := rg_cut []) (f := false) d_G_clear_5 rfl 8 rfl 0 0 0 1 rfl (fun _ => rfl), rg_e_iconst (cut := rg_cut []) (f := false) d_G_clear_8 rfl 9 rfl (nI 0) rg_ki_0, rg_e_put (P := P_G_clear) (cut := rg_cut []) (f := false) d_G_clear_9 rfl 12 rfl 1 1 2 rfl rfl, rg_e_vret (cut := rg_cut []) (f := false) d_G_clear_12 rfl, rg_nx_i, rg_nx_v, rg_wd_n, rg_wd_i, rg_wd_l, rg_wd_r, rg_clr_i, rg_clr_l, rg_clr_r, rg_clr_a, rg_clr_n, true_and, and_true, Nat.reduceAdd, Nat.reduceLeDiff, ↓Te_G_forgetGraph, rg_rt_e, rg_fit_ie, rg_fit_ve, rg_fit_1e, rg_fit_0e, rg_fit_be]
  exact hT
-- G.all
def P_G_all : rg_P := (rg_F_G, [], [], [], [], [], 0)
def T_G_all : rg_T := fun as w K => match as with
  | [.ref 0] => K (some (.int (w.1 4 9))) w
  | _ => False
theorem Te_G_all  (w : rg_W) (K : Option Value → rg_W → Prop) : T_G_all [.ref 0] w K = (K (some (.int (w.1 4 9))) w) := rfl
theorem r_G_all : ∀ as w K, T_G_all as w K → ∃ r, as = .ref 0 :: r := by
  intro as w K h
  unfold T_G_all at h
  split at h
  · exact ⟨_, rfl⟩
  · exact h.elim
theorem G_G_all (l : Launch) : rg_Good l y_G_all c_G_all 1 (some .int) 0 T_G_all := by
  refine rg_good_of (P := P_G_all) (by decide) (rg_pok rg_F_G_ok rg_nil) ?_
  intro as w K Z hT hZ
  unfold T_G_all at hT
  split at hT
  rotate_left
  · exact hT.elim
  refine ⟨Nat.le_of_ble_eq_true rfl, ?_⟩
  show Z 0 [.ref 0] [] w 0
  refine hZ (rg_cut []) 400 0 _ _ _ ?_; simp only [rg_e_aload_0 (cut := rg_cut []) (f := true) d_G_all_0 rfl 1 rfl, rg_e_getr (P := P_G_all) (cut := rg_cut []) (f := false) d_G_all_1 rfl 4 rfl 0 0 1 4 rfl (fun _ => rfl), rg_e_geti (P := P_G_all) (cut := rg_cut []) (f := false) d_G_all_4 rfl 7 rfl 4 2 9 rfl (fun _ => rfl), rg_e_iret (cut := rg_cut []) (f := false) d_G_all_7 rfl, rg_nx_i, rg_nx_v, rg_wd_n, rg_wd_i, rg_wd_l, rg_wd_r, rg_clr_i, rg_clr_l, rg_clr_r, rg_clr_a, rg_clr_n, true_and, and_true, Nat.reduceAdd, Nat.reduceLeDiff, rg_rt_e, rg_fit_ie, rg_fit_ve, rg_fit_1e, rg_fit_0e, rg_fit_be]
  exact hT
-- G.kind
def P_G_kind : rg_P := (rg_F_G, [(243, 1, 0, T_E_shape)], [], [], [], [], 0)
def T_G_kind : rg_T := fun as w K => match as with
  | [.ref 0] => ∃ nd hg, GrW nd hg w ∧ (∀ i, hg i i = 0) ∧ K (some (.int (nI (shN nd hg)))) w
  | _ => False
theorem Te_G_kind  (w : rg_W) (K : Option Value → rg_W → Prop) : T_G_kind [.ref 0] w K = (∃ nd hg, GrW nd hg w ∧ (∀ i, hg i i = 0) ∧ K (some (.int (nI (shN nd hg)))) w) := rfl
theorem r_G_kind : ∀ as w K, T_G_kind as w K → ∃ r, as = .ref 0 :: r := by
  intro as w K h
  unfold T_G_kind at h
  split at h
  · exact ⟨_, rfl⟩
  · exact h.elim
theorem G_G_kind (l : Launch) : rg_Good l y_G_kind c_G_kind 1 (some .int) 2 T_G_kind := by
  refine rg_good_of (P := P_G_kind) (by decide) (rg_pok rg_F_G_ok (rg_cons (cw_G_121 (G_E_shape l) (by decide) r_E_shape) rg_nil)) ?_
  intro as w K Z hT hZ
  unfold T_G_kind at hT
  split at hT
  rotate_left
  · exact hT.elim
  refine ⟨Nat.le_of_ble_eq_true rfl, ?_⟩
  show Z 0 [.ref 0] [] w 0
  refine hZ (rg_cut []) 400 0 _ _ _ ?_; simp only [rg_e_aload_0 (cut := rg_cut []) (f := true) d_G_kind_0 rfl 1 rfl, rg_e_getr (P := P_G_kind) (cut := rg_cut []) (f := false) d_G_kind_1 rfl 4 rfl 0 0 1 4 rfl (fun _ => rfl), rg_e_cv1 (P := P_G_kind) (cut := rg_cut []) (f := false) d_G_kind_4 rfl T_E_shape rfl, rg_e_iret (cut := rg_cut []) (f := false) d_G_kind_7 rfl, rg_nx_i, rg_nx_v, rg_wd_n, rg_wd_i, rg_wd_l, rg_wd_r, rg_clr_i, rg_clr_l, rg_clr_r, rg_clr_a, rg_clr_n, true_and, and_true, Nat.reduceAdd, Nat.reduceLeDiff, ↓Te_E_shape, rg_rt_e, rg_fit_ie, rg_fit_ve, rg_fit_1e, rg_fit_0e, rg_fit_be]
  exact hT
/-- byte i of the lowest n bytes, the first one in the highest -/
def peN (p : Int64) (n i : Nat) : Nat := p.toBitVec.toNat / 2 ^ (8 * (n - 1 - i)) % 256
theorem pe_s : ∀ m, m < 8 → (((nI (8 * m)).toInt64.toUInt64 &&& Int64.toUInt64 63).toBitVec % 64).toNat = 8 * m := by decide +kernel
theorem pe_n {p : Int64} {n i : Nat} (hn : n ≤ 8) (hi : i < n) : (p.toUInt64 >>> ((nI 8 * (nI n - nI 1 - nI i)).toInt64.toUInt64 &&& Int64.toUInt64 63)).toInt64.toInt32 &&& nI 255 = nI (peN p n i) := by
  rw [pk_sub (by omega), pk_sub (by omega), pk_mul]
  have h8 : 8 * (n - 1 - i) < 64 := by omega
  generalize hm : n - 1 - i = m at *
  apply b_ext
  intro j hj
  rw [b_and, bt_nI _ j hj, bt_nI _ j hj]
  unfold peN
  rw [hm, show (256 : Nat) = 2 ^ 8 from rfl, Nat.testBit_mod_two_pow, ← Nat.shiftRight_eq_div_pow, Nat.testBit_shiftRight]
  have h255 : ∀ j, j < 32 → Nat.testBit 255 j = decide (j < 8) := by decide +kernel
  rw [h255 j hj, Bool.and_comm]
  congr 1
  show ((p.toUInt64 >>> ((nI (8 * m)).toInt64.toUInt64 &&& Int64.toUInt64 63)).toBitVec.signExtend 32).getLsbD j = p.toBitVec.toNat.testBit (8 * m + j)
  rw [BitVec.getLsbD_signExtend, UInt64.toBitVec_shiftRight]
  simp only [hj, decide_true, Bool.true_and, show j < 64 by omega, if_true]
  show (p.toUInt64.toBitVec >>> (((nI (8 * m)).toInt64.toUInt64 &&& Int64.toUInt64 63).toBitVec % 64).toNat).getLsbD j = _
  rw [pe_s m (by omega), BitVec.getLsbD_ushiftRight]
  rfl
theorem peN_lt (p : Int64) (n i : Nat) : peN p n i < 256 := Nat.mod_lt _ (by decide)
/-- the bytes are edges that make a walk -/
def pwB (hg : Nat → Nat → Nat) (p : Int64) (n i : Nat) : Bool := decide (peN p n i < eN hg) && (decide (i = 0) || decide (sr hg (peN p n i) = ds hg (peN p n (i - 1))))
-- G.isPackedWalk
def P_G_isPackedWalk : rg_P := (rg_F_G, [(320, 3, 0, T_G_packedEdge), (195, 2, 0, T_E_has)], [], [], [], [], 0)
def T_G_isPackedWalk : rg_T := fun as w K => match as with
  | [.ref 0, .long p, .int n] => ∃ hg n', GrE hg w ∧ n = nI n' ∧ n' ≤ 8 ∧ K (some (.int (zI ((List.range n').all (pwB hg p n'))))) w
  | _ => False
theorem Te_G_isPackedWalk (p : Int64) (n : Int32) (w : rg_W) (K : Option Value → rg_W → Prop) : T_G_isPackedWalk [.ref 0, .long p, .int n] w K = (∃ hg n', GrE hg w ∧ n = nI n' ∧ n' ≤ 8 ∧ K (some (.int (zI ((List.range n').all (pwB hg p n'))))) w) := rfl
theorem r_G_isPackedWalk : ∀ as w K, T_G_isPackedWalk as w K → ∃ r, as = .ref 0 :: r := by
  intro as w K h
  unfold T_G_isPackedWalk at h
  split at h
  · exact ⟨_, rfl⟩
  · exact h.elim
theorem G_G_isPackedWalk (l : Launch) : rg_Good l y_G_isPackedWalk c_G_isPackedWalk 6 (some .boolean) 1 T_G_isPackedWalk := by
  refine rg_good_of (P := P_G_isPackedWalk) (by decide) (rg_pok rg_F_G_ok (rg_cons (cw_G_160 (G_G_packedEdge l) (by decide)) (rg_cons (cw_G_97 (G_E_has l) (by decide) r_E_has) rg_nil))) ?_
  intro as w K Z hT hZ
  unfold T_G_isPackedWalk at hT
  split at hT
  rotate_left
  · exact hT.elim
  rename_i p n
  refine ⟨Nat.le_of_ble_eq_true rfl, ?_⟩
  show Z 0 [.ref 0, .long p, .null, .int n, .null, .null] [] w 0
  obtain ⟨hg, n', hG, rfl, hn, hK⟩ := hT
  have h72 := eN_le hG.2.2
  have hc : w.1 4 10 = nI (eN hg) := hG.1.1
  have loop : ∀ (i : Nat) (a5 : Value), (i ≤ n' ∧ ∀ b, b < i → pwB hg p n' b = true) → Z 3 [.ref 0, .long p, .null, .int (nI n'), .int (nI i), a5] [] w 0 := by
    refine rg_lp2 _ _ (fun i _ => n' - i) ?_
    intro i a5 ⟨hi, hno⟩ ih
    rcases Nat.lt_or_ge i n' with hi9 | hi9
    · have p1 := pe_n (p := p) hn hi9
      have hp1 := peN_lt p n' i
      have next : pwB hg p n' i = true → ∀ a5 : Value, Z 3 [.ref 0, .long p, .null, .int (nI n'), .int (nI (i + 1)), a5] [] w 0 := fun h a5 =>
        ih (i + 1) a5 ⟨by omega, fun b hb => by
          by_cases hbi : b = i
          · subst hbi; exact h
          · exact hno b (by omega)⟩ (by omega)
      have stop : pwB hg p n' i = false → K (some (.int (nI 0))) w := fun h => by
        have : (List.range n').all (pwB hg p n') = false := by
          rw [Bool.eq_false_iff]
          intro z
          have := List.all_eq_true.mp z i (List.mem_range.mpr hi9)
          rw [h] at this
          cases this
        rw [this] at hK
        exact hK
      refine hZ (rg_cut [3]) 400 3 _ _ _ ?_; simp only [rg_e_iload_4 (cut := rg_cut [3]) (f := true) d_G_isPackedWalk_3 rfl 5 rfl, rg_e_iload_3 (cut := rg_cut [3]) (f := false) d_G_isPackedWalk_5 rfl 6 rfl, rg_e_icmp_ge (cut := rg_cut [3]) (f := false) d_G_isPackedWalk_6 rfl 9 rfl 73 rfl, rg_e_lload_1 (cut := rg_cut [3]) (f := false) d_G_isPackedWalk_9 rfl 10 rfl, rg_e_iload_3 (cut := rg_cut [3]) (f := false) d_G_isPackedWalk_10 rfl 11 rfl, rg_e_iload_4 (cut := rg_cut [3]) (f := false) d_G_isPackedWalk_11 rfl 13 rfl, rg_e_cs3 (P := P_G_isPackedWalk) (cut := rg_cut [3]) (f := false) d_G_isPackedWalk_13 rfl T_G_packedEdge rfl, rg_e_istore_5 (cut := rg_cut [3]) (f := false) d_G_isPackedWalk_16 rfl 18 rfl, rg_e_aload_0 (cut := rg_cut [3]) (f := false) d_G_isPackedWalk_18 rfl 19 rfl, rg_e_getr (P := P_G_isPackedWalk) (cut := rg_cut [3]) (f := false) d_G_isPackedWalk_19 rfl 22 rfl 0 0 1 4 rfl (fun _ => rfl), rg_e_iload_5 (cut := rg_cut [3]) (f := false) d_G_isPackedWalk_22 rfl 24 rfl, rg_e_cv2 (P := P_G_isPackedWalk) (cut := rg_cut [3]) (f := false) d_G_isPackedWalk_24 rfl T_E_has rfl, rg_e_if_eq (cut := rg_cut [3]) (f := false) d_G_isPackedWalk_27 rfl 30 rfl 65 rfl, rg_e_iload_4 (cut := rg_cut [3]) (f := false) d_G_isPackedWalk_30 rfl 32 rfl, rg_e_if_le (cut := rg_cut [3]) (f := false) d_G_isPackedWalk_32 rfl 35 rfl 67 rfl, rg_e_aload_0 (cut := rg_cut [3]) (f := false) d_G_isPackedWalk_35 rfl 36 rfl, rg_e_getr (P := P_G_isPackedWalk) (cut := rg_cut [3]) (f := false) d_G_isPackedWalk_36 rfl 39 rfl 0 0 1 4 rfl (fun _ => rfl), rg_e_getr (P := P_G_isPackedWalk) (cut := rg_cut [3]) (f := false) d_G_isPackedWalk_39 rfl 42 rfl 4 2 1 6 rfl (fun _ => rfl), rg_e_iload_5 (cut := rg_cut [3]) (f := false) d_G_isPackedWalk_42 rfl 44 rfl, rg_e_iald (cut := rg_cut [3]) (f := false) d_G_isPackedWalk_44 rfl 45 rfl 6 72 rfl, rg_e_aload_0 (cut := rg_cut [3]) (f := false) d_G_isPackedWalk_45 rfl 46 rfl, rg_e_getr (P := P_G_isPackedWalk) (cut := rg_cut [3]) (f := false) d_G_isPackedWalk_46 rfl 49 rfl 0 0 1 4 rfl (fun _ => rfl), rg_e_getr (P := P_G_isPackedWalk) (cut := rg_cut [3]) (f := false) d_G_isPackedWalk_49 rfl 52 rfl 4 2 2 7 rfl (fun _ => rfl), rg_e_lload_1 (cut := rg_cut [3]) (f := false) d_G_isPackedWalk_52 rfl 53 rfl, rg_e_iload_3 (cut := rg_cut [3]) (f := false) d_G_isPackedWalk_53 rfl 54 rfl, rg_e_iload_4 (cut := rg_cut [3]) (f := false) d_G_isPackedWalk_54 rfl 56 rfl, rg_e_iconst (cut := rg_cut [3]) (f := false) d_G_isPackedWalk_56 rfl 57 rfl (nI 1) rg_ki_1, rg_e_isub (cut := rg_cut [3]) (f := false) d_G_isPackedWalk_57 rfl 58 rfl, rg_e_cs3 (P := P_G_isPackedWalk) (cut := rg_cut [3]) (f := false) d_G_isPackedWalk_58 rfl T_G_packedEdge rfl, rg_e_iald (cut := rg_cut [3]) (f := false) d_G_isPackedWalk_61 rfl 62 rfl 7 72 rfl, rg_e_icmp_eq (cut := rg_cut [3]) (f := false) d_G_isPackedWalk_62 rfl 65 rfl 67 rfl, rg_e_iconst (cut := rg_cut [3]) (f := false) d_G_isPackedWalk_65 rfl 66 rfl (nI 0) rg_ki_0, rg_e_iret (cut := rg_cut [3]) (f := false) d_G_isPackedWalk_66 rfl, rg_e_iinc_4 (cut := rg_cut [3]) (f := false) d_G_isPackedWalk_67 rfl 70 rfl (nI 1) rg_ki_1, rg_e_goto (cut := rg_cut [3]) (f := false) d_G_isPackedWalk_70 rfl 3 rfl, rg_e_iconst (cut := rg_cut [3]) (f := false) d_G_isPackedWalk_73 rfl 74 rfl (nI 1) rg_ki_1, rg_e_iret (cut := rg_cut [3]) (f := false) d_G_isPackedWalk_74 rfl, rg_e_cut (cut := rg_cut [3]) 3 rfl, rg_nx_i, rg_nx_v, rg_wd_n, rg_wd_i, rg_wd_l, rg_wd_r, rg_clr_i, rg_clr_l, rg_clr_r, rg_clr_a, rg_clr_n, true_and, and_true, Nat.reduceAdd, Nat.reduceLeDiff, ↓Te_G_packedEdge, ↓Te_E_has, rg_rt_e, rg_fit_ie, rg_fit_ve, rg_fit_1e, rg_fit_0e, rg_fit_be, p1, hc, zI_eq, nI_add]
      rw [nI_lep (by omega) (by omega), decide_eq_false (nI_pos (n := peN p n' i) (by omega))]
      refine ⟨fun h => by omega, fun _ => ⟨fun h => ?_, fun h => ?_⟩⟩
      · refine stop ?_
        unfold pwB
        rw [decide_eq_false, Bool.false_and]
        intro z
        rw [decide_eq_false (nI_ge z (by omega))] at h
        cases h
      · have hlt : peN p n' i < eN hg := by
          rcases Nat.lt_or_ge (peN p n' i) (eN hg) with z | z
          · exact z
          · rw [decide_eq_true (nI_le z (by omega))] at h
            exact absurd rfl h
        rw [show (nI i ≤ 0) = (i = 0) by rw [← nI_0, nI_lep (by omega) (by omega)]; exact propext Nat.le_zero]
        refine ⟨fun h0 => next (by unfold pwB; rw [decide_eq_true hlt, decide_eq_true h0]; rfl) _, fun h0 => ?_⟩
        have p2 := pe_n (p := p) (i := i - 1) hn (by omega)
        have hp2 := peN_lt p n' (i - 1)
        have hq : pwB hg p n' (i - 1) = true := hno (i - 1) (by omega)
        have hlt2 : peN p n' (i - 1) < eN hg := by
          unfold pwB at hq
          rw [Bool.and_eq_true] at hq
          exact of_decide_eq_true hq.1
        rw [pk_sub (by omega : 1 ≤ i), p2]
        have e1 := (hG.at hlt).1
        have e2 := (hG.at hlt2).2.1
        rw [nI_clamp (by omega), nI_clamp (by omega), e1, e2, nI_eqp (by have := sr_lt hlt; omega) (by have := sr_lt hlt2; omega)]
        refine ⟨vp_in_nI (by omega) (by omega), vp_in_nI (by omega) (by omega), fun h1 => next (by unfold pwB; rw [decide_eq_true hlt, decide_eq_true h1, Bool.or_true]; rfl) _, fun h1 => stop (by unfold pwB; rw [decide_eq_false h1, decide_eq_false h0, Bool.or_false, Bool.and_false])⟩
    · obtain rfl : i = n' := by omega
      refine hZ (rg_cut [3]) 400 3 _ _ _ ?_; simp only [rg_e_iload_4 (cut := rg_cut [3]) (f := true) d_G_isPackedWalk_3 rfl 5 rfl, rg_e_iload_3 (cut := rg_cut [3]) (f := false) d_G_isPackedWalk_5 rfl 6 rfl, rg_e_icmp_ge (cut := rg_cut [3]) (f := false) d_G_isPackedWalk_6 rfl 9 rfl 73 rfl, rg_e_lload_1 (cut := rg_cut [3]) (f := false) d_G_isPackedWalk_9 rfl 10 rfl, rg_e_iload_3 (cut := rg_cut [3]) (f := false) d_G_isPackedWalk_10 rfl 11 rfl, rg_e_iload_4 (cut := rg_cut [3]) (f := false) d_G_isPackedWalk_11 rfl 13 rfl, rg_e_cs3 (P := P_G_isPackedWalk) (cut := rg_cut [3]) (f := false) d_G_isPackedWalk_13 rfl T_G_packedEdge rfl, rg_e_istore_5 (cut := rg_cut [3]) (f := false) d_G_isPackedWalk_16 rfl 18 rfl, rg_e_aload_0 (cut := rg_cut [3]) (f := false) d_G_isPackedWalk_18 rfl 19 rfl, rg_e_getr (P := P_G_isPackedWalk) (cut := rg_cut [3]) (f := false) d_G_isPackedWalk_19 rfl 22 rfl 0 0 1 4 rfl (fun _ => rfl), rg_e_iload_5 (cut := rg_cut [3]) (f := false) d_G_isPackedWalk_22 rfl 24 rfl, rg_e_cv2 (P := P_G_isPackedWalk) (cut := rg_cut [3]) (f := false) d_G_isPackedWalk_24 rfl T_E_has rfl, rg_e_if_eq (cut := rg_cut [3]) (f := false) d_G_isPackedWalk_27 rfl 30 rfl 65 rfl, rg_e_iload_4 (cut := rg_cut [3]) (f := false) d_G_isPackedWalk_30 rfl 32 rfl, rg_e_if_le (cut := rg_cut [3]) (f := false) d_G_isPackedWalk_32 rfl 35 rfl 67 rfl, rg_e_aload_0 (cut := rg_cut [3]) (f := false) d_G_isPackedWalk_35 rfl 36 rfl, rg_e_getr (P := P_G_isPackedWalk) (cut := rg_cut [3]) (f := false) d_G_isPackedWalk_36 rfl 39 rfl 0 0 1 4 rfl (fun _ => rfl), rg_e_getr (P := P_G_isPackedWalk) (cut := rg_cut [3]) (f := false) d_G_isPackedWalk_39 rfl 42 rfl 4 2 1 6 rfl (fun _ => rfl), rg_e_iload_5 (cut := rg_cut [3]) (f := false) d_G_isPackedWalk_42 rfl 44 rfl, rg_e_iald (cut := rg_cut [3]) (f := false) d_G_isPackedWalk_44 rfl 45 rfl 6 72 rfl, rg_e_aload_0 (cut := rg_cut [3]) (f := false) d_G_isPackedWalk_45 rfl 46 rfl, rg_e_getr (P := P_G_isPackedWalk) (cut := rg_cut [3]) (f := false) d_G_isPackedWalk_46 rfl 49 rfl 0 0 1 4 rfl (fun _ => rfl), rg_e_getr (P := P_G_isPackedWalk) (cut := rg_cut [3]) (f := false) d_G_isPackedWalk_49 rfl 52 rfl 4 2 2 7 rfl (fun _ => rfl), rg_e_lload_1 (cut := rg_cut [3]) (f := false) d_G_isPackedWalk_52 rfl 53 rfl, rg_e_iload_3 (cut := rg_cut [3]) (f := false) d_G_isPackedWalk_53 rfl 54 rfl, rg_e_iload_4 (cut := rg_cut [3]) (f := false) d_G_isPackedWalk_54 rfl 56 rfl, rg_e_iconst (cut := rg_cut [3]) (f := false) d_G_isPackedWalk_56 rfl 57 rfl (nI 1) rg_ki_1, rg_e_isub (cut := rg_cut [3]) (f := false) d_G_isPackedWalk_57 rfl 58 rfl, rg_e_cs3 (P := P_G_isPackedWalk) (cut := rg_cut [3]) (f := false) d_G_isPackedWalk_58 rfl T_G_packedEdge rfl, rg_e_iald (cut := rg_cut [3]) (f := false) d_G_isPackedWalk_61 rfl 62 rfl 7 72 rfl, rg_e_icmp_eq (cut := rg_cut [3]) (f := false) d_G_isPackedWalk_62 rfl 65 rfl 67 rfl, rg_e_iconst (cut := rg_cut [3]) (f := false) d_G_isPackedWalk_65 rfl 66 rfl (nI 0) rg_ki_0, rg_e_iret (cut := rg_cut [3]) (f := false) d_G_isPackedWalk_66 rfl, rg_e_iinc_4 (cut := rg_cut [3]) (f := false) d_G_isPackedWalk_67 rfl 70 rfl (nI 1) rg_ki_1, rg_e_goto (cut := rg_cut [3]) (f := false) d_G_isPackedWalk_70 rfl 3 rfl, rg_e_iconst (cut := rg_cut [3]) (f := false) d_G_isPackedWalk_73 rfl 74 rfl (nI 1) rg_ki_1, rg_e_iret (cut := rg_cut [3]) (f := false) d_G_isPackedWalk_74 rfl, rg_e_cut (cut := rg_cut [3]) 3 rfl, rg_nx_i, rg_nx_v, rg_wd_n, rg_wd_i, rg_wd_l, rg_wd_r, rg_clr_i, rg_clr_l, rg_clr_r, rg_clr_a, rg_clr_n, true_and, and_true, Nat.reduceAdd, Nat.reduceLeDiff, ↓Te_G_packedEdge, ↓Te_E_has, rg_rt_e, rg_fit_ie, rg_fit_ve, rg_fit_1e, rg_fit_0e, rg_fit_be]
      refine ⟨fun _ => ?_, fun h => absurd (nI_le (Nat.le_refl _) (by omega)) h⟩
      have : (List.range i).all (pwB hg p i) = true := List.all_eq_true.mpr (fun b hb => hno b (List.mem_range.mp hb))
      rw [this] at hK
      exact hK
  refine hZ (rg_cut [3]) 400 0 _ _ _ ?_; simp only [rg_e_iconst (cut := rg_cut [3]) (f := true) d_G_isPackedWalk_0 rfl 1 rfl (nI 0) rg_ki_0, rg_e_istore_4 (cut := rg_cut [3]) (f := false) d_G_isPackedWalk_1 rfl 3 rfl, rg_e_cut (cut := rg_cut [3]) 3 rfl, rg_nx_i, rg_nx_v, rg_wd_n, rg_wd_i, rg_wd_l, rg_wd_r, rg_clr_i, rg_clr_l, rg_clr_r, rg_clr_a, rg_clr_n, true_and, and_true, Nat.reduceAdd, Nat.reduceLeDiff, ↓Te_G_packedEdge, ↓Te_E_has, rg_rt_e, rg_fit_ie, rg_fit_ve, rg_fit_1e, rg_fit_0e, rg_fit_be]
  exact loop 0 _ ⟨by omega, fun b hb => absurd hb (by omega)⟩
noncomputable def swB (hg : Nat → Nat → Nat) (f : Nat → Nat) (n : Nat) : Bool := (List.range n).all (fun j => (List.range j).all (fun i => !pbE hg (f i) (f j)))
-- G.isPackedWalkSafe
def P_G_isPackedWalkSafe : rg_P := (rg_F_G, [(320, 3, 0, T_G_packedEdge), (329, 3, 0, T_E_isPassedBy)], [], [], [], [], 0)
def T_G_isPackedWalkSafe : rg_T := fun as w K => match as with
  | [.ref 0, .long p, .int n] => ∃ hg n', GrE hg w ∧ n = nI n' ∧ n' ≤ 8 ∧ (∀ i, i < n' → peN p n' i < eN hg) ∧ K (some (.int (zI (swB hg (peN p n') n')))) w
  | _ => False
theorem Te_G_isPackedWalkSafe (p : Int64) (n : Int32) (w : rg_W) (K : Option Value → rg_W → Prop) : T_G_isPackedWalkSafe [.ref 0, .long p, .int n] w K = (∃ hg n', GrE hg w ∧ n = nI n' ∧ n' ≤ 8 ∧ (∀ i, i < n' → peN p n' i < eN hg) ∧ K (some (.int (zI (swB hg (peN p n') n')))) w) := rfl
theorem r_G_isPackedWalkSafe : ∀ as w K, T_G_isPackedWalkSafe as w K → ∃ r, as = .ref 0 :: r := by
  intro as w K h
  unfold T_G_isPackedWalkSafe at h
  split at h
  · exact ⟨_, rfl⟩
  · exact h.elim
theorem G_G_isPackedWalkSafe (l : Launch) : rg_Good l y_G_isPackedWalkSafe c_G_isPackedWalkSafe 6 (some .boolean) 2 T_G_isPackedWalkSafe := by
  refine rg_good_of (P := P_G_isPackedWalkSafe) (by decide) (rg_pok rg_F_G_ok (rg_cons (cw_G_160 (G_G_packedEdge l) (by decide)) (rg_cons (cw_G_164 (G_E_isPassedBy l) (by decide) r_E_isPassedBy) rg_nil))) ?_
  intro as w K Z hT hZ
  unfold T_G_isPackedWalkSafe at hT
  split at hT
  rotate_left
  · exact hT.elim
  rename_i p n
  refine ⟨Nat.le_of_ble_eq_true rfl, ?_⟩
  show Z 0 [.ref 0, .long p, .null, .int n, .null, .null] [] w 0
  obtain ⟨hg, n', hG, rfl, hn, hlt, hK⟩ := hT
  have stop : ∀ i j, i < j → j < n' → pbE hg (peN p n' i) (peN p n' j) = true → K (some (.int (nI 0))) w := fun i j hij hj h => by
    have : swB hg (peN p n') n' = false := by
      rw [Bool.eq_false_iff]
      intro z
      have := List.all_eq_true.mp z j (List.mem_range.mpr hj)
      have := List.all_eq_true.mp this i (List.mem_range.mpr hij)
      rw [h] at this
      cases this
    rw [this] at hK
    exact hK
  have l2 : ∀ (j i : Nat), (j < n' ∧ i ≤ j ∧ ∀ b, b < i → pbE hg (peN p n' b) (peN p n' j) = false) → ((∀ b, b < j → pbE hg (peN p n' b) (peN p n' j) = false) → ∀ a5 : Value, Z 3 [.ref 0, .long p, .null, .int (nI n'), .int (nI (j + 1)), a5] [] w 0) → Z 12 [.ref 0, .long p, .null, .int (nI n'), .int (nI j), .int (nI i)] [] w 0 := by
    intro j i hI hout
    revert i
    refine rg_lp1 _ _ (fun i => j - i) ?_
    intro i ⟨hj, hi, hno⟩ ih
    rcases Nat.lt_or_ge i j with hi9 | hi9
    · have p1 := pe_n (p := p) hn (i := i) (by omega)
      have p2 := pe_n (p := p) hn hj
      refine hZ (rg_cut [3, 12]) 400 12 _ _ _ ?_; simp only [rg_e_iload_5 (cut := rg_cut [3, 12]) (f := true) d_G_isPackedWalkSafe_12 rfl 14 rfl, rg_e_iload_4 (cut := rg_cut [3, 12]) (f := false) d_G_isPackedWalkSafe_14 rfl 16 rfl, rg_e_icmp_ge (cut := rg_cut [3, 12]) (f := false) d_G_isPackedWalkSafe_16 rfl 19 rfl 51 rfl, rg_e_aload_0 (cut := rg_cut [3, 12]) (f := false) d_G_isPackedWalkSafe_19 rfl 20 rfl, rg_e_getr (P := P_G_isPackedWalkSafe) (cut := rg_cut [3, 12]) (f := false) d_G_isPackedWalkSafe_20 rfl 23 rfl 0 0 1 4 rfl (fun _ => rfl), rg_e_lload_1 (cut := rg_cut [3, 12]) (f := false) d_G_isPackedWalkSafe_23 rfl 24 rfl, rg_e_iload_3 (cut := rg_cut [3, 12]) (f := false) d_G_isPackedWalkSafe_24 rfl 25 rfl, rg_e_iload_5 (cut := rg_cut [3, 12]) (f := false) d_G_isPackedWalkSafe_25 rfl 27 rfl, rg_e_cs3 (P := P_G_isPackedWalkSafe) (cut := rg_cut [3, 12]) (f := false) d_G_isPackedWalkSafe_27 rfl T_G_packedEdge rfl, rg_e_lload_1 (cut := rg_cut [3, 12]) (f := false) d_G_isPackedWalkSafe_30 rfl 31 rfl, rg_e_iload_3 (cut := rg_cut [3, 12]) (f := false) d_G_isPackedWalkSafe_31 rfl 32 rfl, rg_e_iload_4 (cut := rg_cut [3, 12]) (f := false) d_G_isPackedWalkSafe_32 rfl 34 rfl, rg_e_cs3 (P := P_G_isPackedWalkSafe) (cut := rg_cut [3, 12]) (f := false) d_G_isPackedWalkSafe_34 rfl T_G_packedEdge rfl, rg_e_cv3 (P := P_G_isPackedWalkSafe) (cut := rg_cut [3, 12]) (f := false) d_G_isPackedWalkSafe_37 rfl T_E_isPassedBy rfl, rg_e_if_eq (cut := rg_cut [3, 12]) (f := false) d_G_isPackedWalkSafe_40 rfl 43 rfl 45 rfl, rg_e_iconst (cut := rg_cut [3, 12]) (f := false) d_G_isPackedWalkSafe_43 rfl 44 rfl (nI 0) rg_ki_0, rg_e_iret (cut := rg_cut [3, 12]) (f := false) d_G_isPackedWalkSafe_44 rfl, rg_e_iinc_5 (cut := rg_cut [3, 12]) (f := false) d_G_isPackedWalkSafe_45 rfl 48 rfl (nI 1) rg_ki_1, rg_e_goto (cut := rg_cut [3, 12]) (f := false) d_G_isPackedWalkSafe_48 rfl 12 rfl, rg_e_iinc_4 (cut := rg_cut [3, 12]) (f := false) d_G_isPackedWalkSafe_51 rfl 54 rfl (nI 1) rg_ki_1, rg_e_goto (cut := rg_cut [3, 12]) (f := false) d_G_isPackedWalkSafe_54 rfl 3 rfl, rg_e_cut (cut := rg_cut [3, 12]) 3 rfl, rg_e_cut (cut := rg_cut [3, 12]) 12 rfl, rg_nx_i, rg_nx_v, rg_wd_n, rg_wd_i, rg_wd_l, rg_wd_r, rg_clr_i, rg_clr_l, rg_clr_r, rg_clr_a, rg_clr_n, true_and, and_true, Nat.reduceAdd, Nat.reduceLeDiff, ↓Te_G_packedEdge, ↓Te_E_isPassedBy, rg_rt_e, rg_fit_ie, rg_fit_ve, rg_fit_1e, rg_fit_0e, rg_fit_be, p1, p2, zI_eq, nI_add]
      refine ⟨fun h => absurd h (nI_ge hi9 (by omega)), fun _ => ⟨hg, _, _, hG, rfl, rfl, hlt i (by omega), hlt j hj, fun h => ih (i + 1) ⟨hj, by omega, fun b hb => ?_⟩ (by omega), fun h => stop i j hi9 hj (by simpa using h)⟩⟩
      by_cases hbi : b = i
      · subst hbi; exact h
      · exact hno b (by omega)
    · obtain rfl : i = j := by omega
      refine hZ (rg_cut [3, 12]) 400 12 _ _ _ ?_; simp only [rg_e_iload_5 (cut := rg_cut [3, 12]) (f := true) d_G_isPackedWalkSafe_12 rfl 14 rfl, rg_e_iload_4 (cut := rg_cut [3, 12]) (f := false) d_G_isPackedWalkSafe_14 rfl 16 rfl, rg_e_icmp_ge (cut := rg_cut [3, 12]) (f := false) d_G_isPackedWalkSafe_16 rfl 19 rfl 51 rfl, rg_e_aload_0 (cut := rg_cut [3, 12]) (f := false) d_G_isPackedWalkSafe_19 rfl 20 rfl, rg_e_getr (P := P_G_isPackedWalkSafe) (cut := rg_cut [3, 12]) (f := false) d_G_isPackedWalkSafe_20 rfl 23 rfl 0 0 1 4 rfl (fun _ => rfl), rg_e_lload_1 (cut := rg_cut [3, 12]) (f := false) d_G_isPackedWalkSafe_23 rfl 24 rfl, rg_e_iload_3 (cut := rg_cut [3, 12]) (f := false) d_G_isPackedWalkSafe_24 rfl 25 rfl, rg_e_iload_5 (cut := rg_cut [3, 12]) (f := false) d_G_isPackedWalkSafe_25 rfl 27 rfl, rg_e_cs3 (P := P_G_isPackedWalkSafe) (cut := rg_cut [3, 12]) (f := false) d_G_isPackedWalkSafe_27 rfl T_G_packedEdge rfl, rg_e_lload_1 (cut := rg_cut [3, 12]) (f := false) d_G_isPackedWalkSafe_30 rfl 31 rfl, rg_e_iload_3 (cut := rg_cut [3, 12]) (f := false) d_G_isPackedWalkSafe_31 rfl 32 rfl, rg_e_iload_4 (cut := rg_cut [3, 12]) (f := false) d_G_isPackedWalkSafe_32 rfl 34 rfl, rg_e_cs3 (P := P_G_isPackedWalkSafe) (cut := rg_cut [3, 12]) (f := false) d_G_isPackedWalkSafe_34 rfl T_G_packedEdge rfl, rg_e_cv3 (P := P_G_isPackedWalkSafe) (cut := rg_cut [3, 12]) (f := false) d_G_isPackedWalkSafe_37 rfl T_E_isPassedBy rfl, rg_e_if_eq (cut := rg_cut [3, 12]) (f := false) d_G_isPackedWalkSafe_40 rfl 43 rfl 45 rfl, rg_e_iconst (cut := rg_cut [3, 12]) (f := false) d_G_isPackedWalkSafe_43 rfl 44 rfl (nI 0) rg_ki_0, rg_e_iret (cut := rg_cut [3, 12]) (f := false) d_G_isPackedWalkSafe_44 rfl, rg_e_iinc_5 (cut := rg_cut [3, 12]) (f := false) d_G_isPackedWalkSafe_45 rfl 48 rfl (nI 1) rg_ki_1, rg_e_goto (cut := rg_cut [3, 12]) (f := false) d_G_isPackedWalkSafe_48 rfl 12 rfl, rg_e_iinc_4 (cut := rg_cut [3, 12]) (f := false) d_G_isPackedWalkSafe_51 rfl 54 rfl (nI 1) rg_ki_1, rg_e_goto (cut := rg_cut [3, 12]) (f := false) d_G_isPackedWalkSafe_54 rfl 3 rfl, rg_e_cut (cut := rg_cut [3, 12]) 3 rfl, rg_e_cut (cut := rg_cut [3, 12]) 12 rfl, rg_nx_i, rg_nx_v, rg_wd_n, rg_wd_i, rg_wd_l, rg_wd_r, rg_clr_i, rg_clr_l, rg_clr_r, rg_clr_a, rg_clr_n, true_and, and_true, Nat.reduceAdd, Nat.reduceLeDiff, ↓Te_G_packedEdge, ↓Te_E_isPassedBy, rg_rt_e, rg_fit_ie, rg_fit_ve, rg_fit_1e, rg_fit_0e, rg_fit_be, nI_add]
      exact ⟨fun _ => hout hno _, fun h => absurd (nI_le (Nat.le_refl _) (by omega)) h⟩
  have l1 : ∀ (j : Nat) (a5 : Value), (1 ≤ j ∧ (j ≤ n' ∨ j = 1) ∧ ∀ c, c < j → ∀ b, b < c → pbE hg (peN p n' b) (peN p n' c) = false) → Z 3 [.ref 0, .long p, .null, .int (nI n'), .int (nI j), a5] [] w 0 := by
    refine rg_lp2 _ _ (fun j _ => n' - j) ?_
    intro j a5 ⟨hj1, hj, hno⟩ ih
    refine hZ (rg_cut [3, 12]) 400 3 _ _ _ ?_; simp only [rg_e_iload_4 (cut := rg_cut [3, 12]) (f := true) d_G_isPackedWalkSafe_3 rfl 5 rfl, rg_e_iload_3 (cut := rg_cut [3, 12]) (f := false) d_G_isPackedWalkSafe_5 rfl 6 rfl, rg_e_icmp_ge (cut := rg_cut [3, 12]) (f := false) d_G_isPackedWalkSafe_6 rfl 9 rfl 57 rfl, rg_e_iconst (cut := rg_cut [3, 12]) (f := false) d_G_isPackedWalkSafe_9 rfl 10 rfl (nI 0) rg_ki_0, rg_e_istore_5 (cut := rg_cut [3, 12]) (f := false) d_G_isPackedWalkSafe_10 rfl 12 rfl, rg_e_iconst (cut := rg_cut [3, 12]) (f := false) d_G_isPackedWalkSafe_57 rfl 58 rfl (nI 1) rg_ki_1, rg_e_iret (cut := rg_cut [3, 12]) (f := false) d_G_isPackedWalkSafe_58 rfl, rg_e_cut (cut := rg_cut [3, 12]) 3 rfl, rg_e_cut (cut := rg_cut [3, 12]) 12 rfl, rg_nx_i, rg_nx_v, rg_wd_n, rg_wd_i, rg_wd_l, rg_wd_r, rg_clr_i, rg_clr_l, rg_clr_r, rg_clr_a, rg_clr_n, true_and, and_true, Nat.reduceAdd, Nat.reduceLeDiff, ↓Te_G_packedEdge, ↓Te_E_isPassedBy, rg_rt_e, rg_fit_ie, rg_fit_ve, rg_fit_1e, rg_fit_0e, rg_fit_be]
    rw [nI_lep (by omega) (by omega)]
    refine ⟨fun h => ?_, fun h => l2 j 0 ⟨by omega, by omega, fun b hb => absurd hb (by omega)⟩ (fun hb a5 => ih (j + 1) a5 ⟨by omega, by omega, fun c hc b hbc => ?_⟩ (by omega))⟩
    · have : swB hg (peN p n') n' = true := List.all_eq_true.mpr (fun c hc => List.all_eq_true.mpr (fun b hb => by rw [hno c (by have := List.mem_range.mp hc; omega) b (List.mem_range.mp hb)]; rfl))
      rw [this] at hK
      exact hK
    · by_cases hcj : c = j
      · subst hcj; exact hb b hbc
      · exact hno c (by omega) b hbc
  refine hZ (rg_cut [3, 12]) 400 0 _ _ _ ?_; simp only [rg_e_iconst (cut := rg_cut [3, 12]) (f := true) d_G_isPackedWalkSafe_0 rfl 1 rfl (nI 1) rg_ki_1, rg_e_istore_4 (cut := rg_cut [3, 12]) (f := false) d_G_isPackedWalkSafe_1 rfl 3 rfl, rg_e_cut (cut := rg_cut [3, 12]) 3 rfl, rg_e_cut (cut := rg_cut [3, 12]) 12 rfl, rg_nx_i, rg_nx_v, rg_wd_n, rg_wd_i, rg_wd_l, rg_wd_r, rg_clr_i, rg_clr_l, rg_clr_r, rg_clr_a, rg_clr_n, true_and, and_true, Nat.reduceAdd, Nat.reduceLeDiff, ↓Te_G_packedEdge, ↓Te_E_isPassedBy, rg_rt_e, rg_fit_ie, rg_fit_ve, rg_fit_1e, rg_fit_0e, rg_fit_be]
  exact l1 1 _ ⟨by omega, Or.inr rfl, fun c hc b hb => absurd hb (by omega)⟩
/-- the edges lead between reads, their hangs are within -/
def EdOk (nr : Nat) (ln : Nat → Nat) (hg : Nat → Nat → Nat) : Prop := ∀ e, e < eN hg → sr hg e < nr ∧ ds hg e < nr ∧ hg (sr hg e) (ds hg e) ≤ ln (ds hg e)
def AcOk (hg : Nat → Nat → Nat) (A : List (List Nat)) : Prop := ∀ t ∈ A, 0 < t.length ∧ ∀ e ∈ t, e < eN hg
def hE (hg : Nat → Nat → Nat) (e : Nat) : Nat := hg (sr hg e) (ds hg e)
def sH (hg : Nat → Nat → Nat) : List Nat → Nat
  | [] => 0
  | e :: t => hE hg e + sH hg t
theorem sH_app (hg : Nat → Nat → Nat) (s t : List Nat) : sH hg (s ++ t) = sH hg s + sH hg t := by
  induction s with
  | nil => simp [sH]
  | cons e s ih => simp only [List.cons_append, sH, ih]; omega
theorem take_s {t : List Nat} {i : Nat} (h : i < t.length) : t.take (i + 1) = t.take i ++ [t.getD i 0] := by
  rw [List.take_succ, List.getElem?_eq_getElem h, List.getD_eq_getElem?_getD, List.getElem?_eq_getElem h]
  rfl
theorem sH_le {hg : Nat → Nat → Nat} {b : Nat} : ∀ t : List Nat, (∀ e ∈ t, hE hg e ≤ b) → sH hg t ≤ b * t.length
  | [], _ => by simp [sH]
  | e :: t, h => by
    have h1 := h e List.mem_cons_self
    have h2 := sH_le t (fun x hx => h x (List.mem_cons_of_mem _ hx))
    simp only [sH, List.length_cons, Nat.mul_add]
    omega
theorem drop_c {t : List Nat} {i : Nat} (h : i < t.length) : t.drop i = t.getD i 0 :: t.drop (i + 1) := by
  rw [List.drop_eq_getElem_cons h, List.getD_eq_getElem?_getD, List.getElem?_eq_getElem h]
  rfl
theorem gDA_mem {A : List (List Nat)} {k : Nat} (h : k < A.length) : A.getD k [] ∈ A := by
  rw [List.getD_eq_getElem?_getD, List.getElem?_eq_getElem h]
  exact List.getElem_mem h
/-- how many letters walk t spells -/
def spL (ln : Nat → Nat) (hg : Nat → Nat → Nat) (t : List Nat) : Nat := ln (sr hg (t.getD 0 0)) + sH hg t
-- G.spelledLength
def P_G_spelledLength : rg_P := (rg_F_G, [(295, 3, 0, T_W_edgeAt)], [], [], [], [], 0)
def T_G_spelledLength : rg_T := fun as w K => match as with
  | [.ref 0, .int k] => ∃ nr ln pk hg A k', Rd nr ln pk w ∧ GrE hg w ∧ Ac A w ∧ EdOk nr ln hg ∧ AcOk hg A ∧ k = nI k' ∧ k' < A.length ∧ K (some (.int (nI (spL ln hg (A.getD k' []))))) w
  | _ => False
theorem Te_G_spelledLength (k : Int32) (w : rg_W) (K : Option Value → rg_W → Prop) : T_G_spelledLength [.ref 0, .int k] w K = (∃ nr ln pk hg A k', Rd nr ln pk w ∧ GrE hg w ∧ Ac A w ∧ EdOk nr ln hg ∧ AcOk hg A ∧ k = nI k' ∧ k' < A.length ∧ K (some (.int (nI (spL ln hg (A.getD k' []))))) w) := rfl
theorem r_G_spelledLength : ∀ as w K, T_G_spelledLength as w K → ∃ r, as = .ref 0 :: r := by
  intro as w K h
  unfold T_G_spelledLength at h
  split at h
  · exact ⟨_, rfl⟩
  · exact h.elim
theorem G_G_spelledLength (l : Launch) : rg_Good l y_G_spelledLength c_G_spelledLength 4 (some .int) 1 T_G_spelledLength := by
  refine rg_good_of (P := P_G_spelledLength) (by decide) (rg_pok rg_F_G_ok (rg_cons (cw_G_147 (G_W_edgeAt l) (by decide) r_W_edgeAt) rg_nil)) ?_
  intro as w K Z hT hZ
  unfold T_G_spelledLength at hT
  split at hT
  rotate_left
  · exact hT.elim
  rename_i k
  refine ⟨Nat.le_of_ble_eq_true rfl, ?_⟩
  show Z 0 [.ref 0, .int k, .null, .null] [] w 0
  obtain ⟨nr, ln, pk, hg, A, k', hR, hG, hA, hE1, hA1, rfl, hk, hK⟩ := hT
  have h72 := eN_le hG.2.2
  have hn9 := hR.1
  obtain ⟨a1, a2, a3⟩ := hA.2.2 k' hk
  obtain ⟨b1, b2⟩ := hA1 _ (gDA_mem hk)
  have hA50 := hA.2.1
  unfold spL at hK
  generalize A.getD k' [] = t at *
  have t0 : t.getD 0 0 < eN hg := b2 _ (gD_mem b1)
  obtain ⟨s0, -, -⟩ := hE1 _ t0
  have q0 := hR.2.2 _ s0
  have hle : ∀ e ∈ t, hE hg e ≤ 12 := fun e he => by
    obtain ⟨x1, x2, x3⟩ := hE1 e (b2 e he)
    have := (hR.2.2 _ x2).2.1
    unfold hE
    omega
  have ck : (nI k').toNatClampNeg = k' := nI_clamp (by omega)
  have vk : vp_in (nI k') 50 := vp_in_nI (by omega) (by omega)
  have loop : ∀ i, (i ≤ t.length) → Z 28 [.ref 0, .int (nI k'), .int (nI (ln (sr hg (t.getD 0 0)) + sH hg (t.take i))), .int (nI i)] [] w 0 := by
    refine rg_lp1 _ _ (fun i => t.length - i) ?_
    intro i hi ih
    rcases Nat.lt_or_ge i t.length with hi9 | hi9
    · have x1 : nI k' * nI 40 + nI i = nI (40 * k' + i) := by rw [pk_mul, nI_add, Nat.mul_comm]
      have v1 : vp_in (nI (40 * k' + i)) 2000 := vp_in_nI (by omega) (by omega)
      have c1 : (nI (40 * k' + i)).toNatClampNeg = 40 * k' + i := nI_clamp (by omega)
      have e1 := a3 i hi9
      have ti : t.getD i 0 < eN hg := b2 _ (gD_mem hi9)
      have v2 : vp_in (nI (t.getD i 0)) 72 := vp_in_nI (by omega) (by omega)
      have c2 : (nI (t.getD i 0)).toNatClampNeg = t.getD i 0 := nI_clamp (by omega)
      have e2 := (hG.at ti).2.2
      refine hZ (rg_cut [28]) 400 28 _ _ _ ?_; simp only [rg_e_iload_3 (cut := rg_cut [28]) (f := true) d_G_spelledLength_28 rfl 29 rfl, rg_e_aload_0 (cut := rg_cut [28]) (f := false) d_G_spelledLength_29 rfl 30 rfl, rg_e_getr (P := P_G_spelledLength) (cut := rg_cut [28]) (f := false) d_G_spelledLength_30 rfl 33 rfl 0 0 2 13 rfl (fun _ => rfl), rg_e_getr (P := P_G_spelledLength) (cut := rg_cut [28]) (f := false) d_G_spelledLength_33 rfl 36 rfl 13 3 2 15 rfl (fun _ => rfl), rg_e_iload_1 (cut := rg_cut [28]) (f := false) d_G_spelledLength_36 rfl 37 rfl, rg_e_iald (cut := rg_cut [28]) (f := false) d_G_spelledLength_37 rfl 38 rfl 15 50 rfl, rg_e_icmp_ge (cut := rg_cut [28]) (f := false) d_G_spelledLength_38 rfl 41 rfl 67 rfl, rg_e_iload_2 (cut := rg_cut [28]) (f := false) d_G_spelledLength_41 rfl 42 rfl, rg_e_aload_0 (cut := rg_cut [28]) (f := false) d_G_spelledLength_42 rfl 43 rfl, rg_e_getr (P := P_G_spelledLength) (cut := rg_cut [28]) (f := false) d_G_spelledLength_43 rfl 46 rfl 0 0 1 4 rfl (fun _ => rfl), rg_e_getr (P := P_G_spelledLength) (cut := rg_cut [28]) (f := false) d_G_spelledLength_46 rfl 49 rfl 4 2 3 8 rfl (fun _ => rfl), rg_e_aload_0 (cut := rg_cut [28]) (f := false) d_G_spelledLength_49 rfl 50 rfl, rg_e_getr (P := P_G_spelledLength) (cut := rg_cut [28]) (f := false) d_G_spelledLength_50 rfl 53 rfl 0 0 2 13 rfl (fun _ => rfl), rg_e_iload_1 (cut := rg_cut [28]) (f := false) d_G_spelledLength_53 rfl 54 rfl, rg_e_iload_3 (cut := rg_cut [28]) (f := false) d_G_spelledLength_54 rfl 55 rfl, rg_e_cv3 (P := P_G_spelledLength) (cut := rg_cut [28]) (f := false) d_G_spelledLength_55 rfl T_W_edgeAt rfl, rg_e_iald (cut := rg_cut [28]) (f := false) d_G_spelledLength_58 rfl 59 rfl 8 72 rfl, rg_e_iadd (cut := rg_cut [28]) (f := false) d_G_spelledLength_59 rfl 60 rfl, rg_e_istore_2 (cut := rg_cut [28]) (f := false) d_G_spelledLength_60 rfl 61 rfl, rg_e_iinc_3 (cut := rg_cut [28]) (f := false) d_G_spelledLength_61 rfl 64 rfl (nI 1) rg_ki_1, rg_e_goto (cut := rg_cut [28]) (f := false) d_G_spelledLength_64 rfl 28 rfl, rg_e_iload_2 (cut := rg_cut [28]) (f := false) d_G_spelledLength_67 rfl 68 rfl, rg_e_iret (cut := rg_cut [28]) (f := false) d_G_spelledLength_68 rfl, rg_e_cut (cut := rg_cut [28]) 28 rfl, rg_nx_i, rg_nx_v, rg_wd_n, rg_wd_i, rg_wd_l, rg_wd_r, rg_clr_i, rg_clr_l, rg_clr_r, rg_clr_a, rg_clr_n, true_and, and_true, Nat.reduceAdd, Nat.reduceLeDiff, ↓Te_W_edgeAt, rg_rt_e, rg_fit_ie, rg_fit_ve, rg_fit_1e, rg_fit_0e, rg_fit_be, vk, ck, a2, x1, v1, c1, e1, v2, c2, e2, nI_add]
      refine ⟨fun h => absurd h (nI_ge hi9 (by omega)), fun _ => ?_⟩
      have := ih (i + 1) (by omega) (by omega)
      rw [take_s hi9, sH_app] at this
      simp only [sH, Nat.add_zero] at this
      rw [← Nat.add_assoc] at this
      exact this
    · obtain rfl : i = t.length := by omega
      refine hZ (rg_cut [28]) 400 28 _ _ _ ?_; simp only [rg_e_iload_3 (cut := rg_cut [28]) (f := true) d_G_spelledLength_28 rfl 29 rfl, rg_e_aload_0 (cut := rg_cut [28]) (f := false) d_G_spelledLength_29 rfl 30 rfl, rg_e_getr (P := P_G_spelledLength) (cut := rg_cut [28]) (f := false) d_G_spelledLength_30 rfl 33 rfl 0 0 2 13 rfl (fun _ => rfl), rg_e_getr (P := P_G_spelledLength) (cut := rg_cut [28]) (f := false) d_G_spelledLength_33 rfl 36 rfl 13 3 2 15 rfl (fun _ => rfl), rg_e_iload_1 (cut := rg_cut [28]) (f := false) d_G_spelledLength_36 rfl 37 rfl, rg_e_iald (cut := rg_cut [28]) (f := false) d_G_spelledLength_37 rfl 38 rfl 15 50 rfl, rg_e_icmp_ge (cut := rg_cut [28]) (f := false) d_G_spelledLength_38 rfl 41 rfl 67 rfl, rg_e_iload_2 (cut := rg_cut [28]) (f := false) d_G_spelledLength_41 rfl 42 rfl, rg_e_aload_0 (cut := rg_cut [28]) (f := false) d_G_spelledLength_42 rfl 43 rfl, rg_e_getr (P := P_G_spelledLength) (cut := rg_cut [28]) (f := false) d_G_spelledLength_43 rfl 46 rfl 0 0 1 4 rfl (fun _ => rfl), rg_e_getr (P := P_G_spelledLength) (cut := rg_cut [28]) (f := false) d_G_spelledLength_46 rfl 49 rfl 4 2 3 8 rfl (fun _ => rfl), rg_e_aload_0 (cut := rg_cut [28]) (f := false) d_G_spelledLength_49 rfl 50 rfl, rg_e_getr (P := P_G_spelledLength) (cut := rg_cut [28]) (f := false) d_G_spelledLength_50 rfl 53 rfl 0 0 2 13 rfl (fun _ => rfl), rg_e_iload_1 (cut := rg_cut [28]) (f := false) d_G_spelledLength_53 rfl 54 rfl, rg_e_iload_3 (cut := rg_cut [28]) (f := false) d_G_spelledLength_54 rfl 55 rfl, rg_e_cv3 (P := P_G_spelledLength) (cut := rg_cut [28]) (f := false) d_G_spelledLength_55 rfl T_W_edgeAt rfl, rg_e_iald (cut := rg_cut [28]) (f := false) d_G_spelledLength_58 rfl 59 rfl 8 72 rfl, rg_e_iadd (cut := rg_cut [28]) (f := false) d_G_spelledLength_59 rfl 60 rfl, rg_e_istore_2 (cut := rg_cut [28]) (f := false) d_G_spelledLength_60 rfl 61 rfl, rg_e_iinc_3 (cut := rg_cut [28]) (f := false) d_G_spelledLength_61 rfl 64 rfl (nI 1) rg_ki_1, rg_e_goto (cut := rg_cut [28]) (f := false) d_G_spelledLength_64 rfl 28 rfl, rg_e_iload_2 (cut := rg_cut [28]) (f := false) d_G_spelledLength_67 rfl 68 rfl, rg_e_iret (cut := rg_cut [28]) (f := false) d_G_spelledLength_68 rfl, rg_e_cut (cut := rg_cut [28]) 28 rfl, rg_nx_i, rg_nx_v, rg_wd_n, rg_wd_i, rg_wd_l, rg_wd_r, rg_clr_i, rg_clr_l, rg_clr_r, rg_clr_a, rg_clr_n, true_and, and_true, Nat.reduceAdd, Nat.reduceLeDiff, ↓Te_W_edgeAt, rg_rt_e, rg_fit_ie, rg_fit_ve, rg_fit_1e, rg_fit_0e, rg_fit_be, vk, ck, a2]
      refine ⟨fun _ => ?_, fun h => absurd (nI_le (Nat.le_refl _) (by omega)) h⟩
      rw [List.take_length]
      exact hK
  have x1 : nI k' * nI 40 + nI 0 = nI (40 * k') := by rw [pk_mul, nI_add, Nat.mul_comm, Nat.add_zero]
  have v1 : vp_in (nI (40 * k')) 2000 := vp_in_nI (by omega) (by omega)
  have c1 : (nI (40 * k')).toNatClampNeg = 40 * k' := nI_clamp (by omega)
  have e1 : w.1 14 (40 * k') = nI (t.getD 0 0) := a3 0 b1
  have v2 : vp_in (nI (t.getD 0 0)) 72 := vp_in_nI (by omega) (by omega)
  have c2 : (nI (t.getD 0 0)).toNatClampNeg = t.getD 0 0 := nI_clamp (by omega)
  have e2 := (hG.at t0).1
  have v3 : vp_in (nI (sr hg (t.getD 0 0))) 9 := vp_in_nI (by omega) (by omega)
  have c3 : (nI (sr hg (t.getD 0 0))).toNatClampNeg = sr hg (t.getD 0 0) := nI_clamp (by omega)
  have e3 := q0.2.2.2.1
  refine hZ (rg_cut [28]) 400 0 _ _ _ ?_; simp only [rg_e_aload_0 (cut := rg_cut [28]) (f := true) d_G_spelledLength_0 rfl 1 rfl, rg_e_getr (P := P_G_spelledLength) (cut := rg_cut [28]) (f := false) d_G_spelledLength_1 rfl 4 rfl 0 0 0 1 rfl (fun _ => rfl), rg_e_getr (P := P_G_spelledLength) (cut := rg_cut [28]) (f := false) d_G_spelledLength_4 rfl 7 rfl 1 1 1 3 rfl (fun _ => rfl), rg_e_aload_0 (cut := rg_cut [28]) (f := false) d_G_spelledLength_7 rfl 8 rfl, rg_e_getr (P := P_G_spelledLength) (cut := rg_cut [28]) (f := false) d_G_spelledLength_8 rfl 11 rfl 0 0 1 4 rfl (fun _ => rfl), rg_e_getr (P := P_G_spelledLength) (cut := rg_cut [28]) (f := false) d_G_spelledLength_11 rfl 14 rfl 4 2 1 6 rfl (fun _ => rfl), rg_e_aload_0 (cut := rg_cut [28]) (f := false) d_G_spelledLength_14 rfl 15 rfl, rg_e_getr (P := P_G_spelledLength) (cut := rg_cut [28]) (f := false) d_G_spelledLength_15 rfl 18 rfl 0 0 2 13 rfl (fun _ => rfl), rg_e_iload_1 (cut := rg_cut [28]) (f := false) d_G_spelledLength_18 rfl 19 rfl, rg_e_iconst (cut := rg_cut [28]) (f := false) d_G_spelledLength_19 rfl 20 rfl (nI 0) rg_ki_0, rg_e_cv3 (P := P_G_spelledLength) (cut := rg_cut [28]) (f := false) d_G_spelledLength_20 rfl T_W_edgeAt rfl, rg_e_iald (cut := rg_cut [28]) (f := false) d_G_spelledLength_23 rfl 24 rfl 6 72 rfl, rg_e_iald (cut := rg_cut [28]) (f := false) d_G_spelledLength_24 rfl 25 rfl 3 9 rfl, rg_e_istore_2 (cut := rg_cut [28]) (f := false) d_G_spelledLength_25 rfl 26 rfl, rg_e_iconst (cut := rg_cut [28]) (f := false) d_G_spelledLength_26 rfl 27 rfl (nI 0) rg_ki_0, rg_e_istore_3 (cut := rg_cut [28]) (f := false) d_G_spelledLength_27 rfl 28 rfl, rg_e_cut (cut := rg_cut [28]) 28 rfl, rg_nx_i, rg_nx_v, rg_wd_n, rg_wd_i, rg_wd_l, rg_wd_r, rg_clr_i, rg_clr_l, rg_clr_r, rg_clr_a, rg_clr_n, true_and, and_true, Nat.reduceAdd, Nat.reduceLeDiff, ↓Te_W_edgeAt, rg_rt_e, rg_fit_ie, rg_fit_ve, rg_fit_1e, rg_fit_0e, rg_fit_be, vk, ck, a2, x1, v1, c1, e1, v2, c2, e2, v3, c3, e3]
  have := loop 0 (by omega)
  simp only [List.take_zero, sH, Nat.add_zero] at this
  exact this
/-- letter 'left' of what the edges t spell -/
def spG (ln pk : Nat → Nat) (hg : Nat → Nat → Nat) : List Nat → Nat → Nat
  | [], _ => 0
  | e :: t, left => if left < hE hg e then lt4 (ln (ds hg e)) (pk (ds hg e)) (ln (ds hg e) - hE hg e + left) else spG ln pk hg t (left - hE hg e)
def spN (ln pk : Nat → Nat) (hg : Nat → Nat → Nat) (t : List Nat) (i : Nat) : Nat := if i < ln (sr hg (t.getD 0 0)) then lt4 (ln (sr hg (t.getD 0 0))) (pk (sr hg (t.getD 0 0))) i else spG ln pk hg t (i - ln (sr hg (t.getD 0 0)))
-- G.spelledLetter
def P_G_spelledLetter : rg_P := (rg_F_G, [(295, 3, 0, T_W_edgeAt), (141, 3, 0, T_R_letterAt)], [], [], [], [], 0)
def T_G_spelledLetter : rg_T := fun as w K => match as with
  | [.ref 0, .int k, .int i] => ∃ nr ln pk hg A k' i', Rd nr ln pk w ∧ GrE hg w ∧ Ac A w ∧ EdOk nr ln hg ∧ AcOk hg A ∧ k = nI k' ∧ k' < A.length ∧ i = nI i' ∧ i' < 2 ^ 30 ∧ K (some (.int (nI (spN ln pk hg (A.getD k' []) i')))) w
  | _ => False
theorem Te_G_spelledLetter (k : Int32) (i : Int32) (w : rg_W) (K : Option Value → rg_W → Prop) : T_G_spelledLetter [.ref 0, .int k, .int i] w K = (∃ nr ln pk hg A k' i', Rd nr ln pk w ∧ GrE hg w ∧ Ac A w ∧ EdOk nr ln hg ∧ AcOk hg A ∧ k = nI k' ∧ k' < A.length ∧ i = nI i' ∧ i' < 2 ^ 30 ∧ K (some (.int (nI (spN ln pk hg (A.getD k' []) i')))) w) := rfl
theorem r_G_spelledLetter : ∀ as w K, T_G_spelledLetter as w K → ∃ r, as = .ref 0 :: r := by
  intro as w K h
  unfold T_G_spelledLetter at h
  split at h
  · exact ⟨_, rfl⟩
  · exact h.elim
theorem G_G_spelledLetter (l : Launch) : rg_Good l y_G_spelledLetter c_G_spelledLetter 8 (some .int) 1 T_G_spelledLetter := by
  refine rg_good_of (P := P_G_spelledLetter) (by decide) (rg_pok rg_F_G_ok (rg_cons (cw_G_147 (G_W_edgeAt l) (by decide) r_W_edgeAt) (rg_cons (cw_G_70 (G_R_letterAt l) (by decide) r_R_letterAt) rg_nil))) ?_
  intro as w K Z hT hZ
  unfold T_G_spelledLetter at hT
  split at hT
  rotate_left
  · exact hT.elim
  rename_i k i
  refine ⟨Nat.le_of_ble_eq_true rfl, ?_⟩
  show Z 0 [.ref 0, .int k, .int i, .null, .null, .null, .null, .null] [] w 0
  obtain ⟨nr, ln, pk, hg, A, k', i', hR, hG, hA, hE1, hA1, rfl, hk, rfl, hi30, hK⟩ := hT
  have h72 := eN_le hG.2.2
  have hn9 := hR.1
  obtain ⟨a1, a2, a3⟩ := hA.2.2 k' hk
  obtain ⟨b1, b2⟩ := hA1 _ (gDA_mem hk)
  have hA50 := hA.2.1
  unfold spN at hK
  generalize A.getD k' [] = t at *
  have t0 : t.getD 0 0 < eN hg := b2 _ (gD_mem b1)
  obtain ⟨s0, -, -⟩ := hE1 _ t0
  have q0 := hR.2.2 _ s0
  have ck : (nI k').toNatClampNeg = k' := nI_clamp (by omega)
  have vk : vp_in (nI k') 50 := vp_in_nI (by omega) (by omega)
  have loop : ln (sr hg (t.getD 0 0)) ≤ i' → ∀ (j left : Nat) (a6 a7 : Value), (j ≤ t.length ∧ left < 2 ^ 30 ∧ spG ln pk hg (t.drop j) left = spG ln pk hg t (i' - ln (sr hg (t.getD 0 0)))) → Z 57 [.ref 0, .int (nI k'), .int (nI i'), .int (nI (sr hg (t.getD 0 0))), .int (nI left), .int (nI j), a6, a7] [] w 0 := by
    intro hge
    rw [if_neg (by omega)] at hK
    refine rg_lp4 _ _ (fun j _ _ _ => t.length - j) ?_
    intro j left a6 a7 ⟨hj, hl30, hsp⟩ ih
    rcases Nat.lt_or_ge j t.length with hi9 | hi9
    · have x1 : nI k' * nI 40 + nI j = nI (40 * k' + j) := by rw [pk_mul, nI_add, Nat.mul_comm]
      have v1 : vp_in (nI (40 * k' + j)) 2000 := vp_in_nI (by omega) (by omega)
      have c1 : (nI (40 * k' + j)).toNatClampNeg = 40 * k' + j := nI_clamp (by omega)
      have e1 := a3 j hi9
      have ti : t.getD j 0 < eN hg := b2 _ (gD_mem hi9)
      have v2 : vp_in (nI (t.getD j 0)) 72 := vp_in_nI (by omega) (by omega)
      have c2 : (nI (t.getD j 0)).toNatClampNeg = t.getD j 0 := nI_clamp (by omega)
      have e2 := (hG.at ti).2.1
      have e3 := (hG.at ti).2.2
      obtain ⟨y1, y2, y3⟩ := hE1 _ ti
      have q1 := hR.2.2 _ y2
      have v3 : vp_in (nI (ds hg (t.getD j 0))) 9 := vp_in_nI (by omega) (by omega)
      have c3 : (nI (ds hg (t.getD j 0))).toNatClampNeg = ds hg (t.getD j 0) := nI_clamp (by omega)
      have e4 := q1.2.2.2.1
      have e5 := q1.2.2.2.2
      have pl := hR.pk_lt y2
      rw [drop_c hi9, spG] at hsp
      unfold hE at hsp
      refine hZ (rg_cut [57]) 400 57 _ _ _ ?_; simp only [rg_e_iload_5 (cut := rg_cut [57]) (f := true) d_G_spelledLetter_57 rfl 59 rfl, rg_e_aload_0 (cut := rg_cut [57]) (f := false) d_G_spelledLetter_59 rfl 60 rfl, rg_e_getr (P := P_G_spelledLetter) (cut := rg_cut [57]) (f := false) d_G_spelledLetter_60 rfl 63 rfl 0 0 2 13 rfl (fun _ => rfl), rg_e_getr (P := P_G_spelledLetter) (cut := rg_cut [57]) (f := false) d_G_spelledLetter_63 rfl 66 rfl 13 3 2 15 rfl (fun _ => rfl), rg_e_iload_1 (cut := rg_cut [57]) (f := false) d_G_spelledLetter_66 rfl 67 rfl, rg_e_iald (cut := rg_cut [57]) (f := false) d_G_spelledLetter_67 rfl 68 rfl 15 50 rfl, rg_e_icmp_ge (cut := rg_cut [57]) (f := false) d_G_spelledLetter_68 rfl 71 rfl 165 rfl, rg_e_aload_0 (cut := rg_cut [57]) (f := false) d_G_spelledLetter_71 rfl 72 rfl, rg_e_getr (P := P_G_spelledLetter) (cut := rg_cut [57]) (f := false) d_G_spelledLetter_72 rfl 75 rfl 0 0 2 13 rfl (fun _ => rfl), rg_e_iload_1 (cut := rg_cut [57]) (f := false) d_G_spelledLetter_75 rfl 76 rfl, rg_e_iload_5 (cut := rg_cut [57]) (f := false) d_G_spelledLetter_76 rfl 78 rfl, rg_e_cv3 (P := P_G_spelledLetter) (cut := rg_cut [57]) (f := false) d_G_spelledLetter_78 rfl T_W_edgeAt rfl, rg_e_istore_6 (cut := rg_cut [57]) (f := false) d_G_spelledLetter_81 rfl 83 rfl, rg_e_aload_0 (cut := rg_cut [57]) (f := false) d_G_spelledLetter_83 rfl 84 rfl, rg_e_getr (P := P_G_spelledLetter) (cut := rg_cut [57]) (f := false) d_G_spelledLetter_84 rfl 87 rfl 0 0 1 4 rfl (fun _ => rfl), rg_e_getr (P := P_G_spelledLetter) (cut := rg_cut [57]) (f := false) d_G_spelledLetter_87 rfl 90 rfl 4 2 2 7 rfl (fun _ => rfl), rg_e_iload_6 (cut := rg_cut [57]) (f := false) d_G_spelledLetter_90 rfl 92 rfl, rg_e_iald (cut := rg_cut [57]) (f := false) d_G_spelledLetter_92 rfl 93 rfl 7 72 rfl, rg_e_istore_7 (cut := rg_cut [57]) (f := false) d_G_spelledLetter_93 rfl 95 rfl, rg_e_iload_4 (cut := rg_cut [57]) (f := false) d_G_spelledLetter_95 rfl 97 rfl, rg_e_aload_0 (cut := rg_cut [57]) (f := false) d_G_spelledLetter_97 rfl 98 rfl, rg_e_getr (P := P_G_spelledLetter) (cut := rg_cut [57]) (f := false) d_G_spelledLetter_98 rfl 101 rfl 0 0 1 4 rfl (fun _ => rfl), rg_e_getr (P := P_G_spelledLetter) (cut := rg_cut [57]) (f := false) d_G_spelledLetter_101 rfl 104 rfl 4 2 3 8 rfl (fun _ => rfl), rg_e_iload_6 (cut := rg_cut [57]) (f := false) d_G_spelledLetter_104 rfl 106 rfl, rg_e_iald (cut := rg_cut [57]) (f := false) d_G_spelledLetter_106 rfl 107 rfl 8 72 rfl, rg_e_icmp_ge (cut := rg_cut [57]) (f := false) d_G_spelledLetter_107 rfl 110 rfl 144 rfl, rg_e_aload_0 (cut := rg_cut [57]) (f := false) d_G_spelledLetter_110 rfl 111 rfl, rg_e_getr (P := P_G_spelledLetter) (cut := rg_cut [57]) (f := false) d_G_spelledLetter_111 rfl 114 rfl 0 0 0 1 rfl (fun _ => rfl), rg_e_iload_7 (cut := rg_cut [57]) (f := false) d_G_spelledLetter_114 rfl 116 rfl, rg_e_aload_0 (cut := rg_cut [57]) (f := false) d_G_spelledLetter_116 rfl 117 rfl, rg_e_getr (P := P_G_spelledLetter) (cut := rg_cut [57]) (f := false) d_G_spelledLetter_117 rfl 120 rfl 0 0 0 1 rfl (fun _ => rfl), rg_e_getr (P := P_G_spelledLetter) (cut := rg_cut [57]) (f := false) d_G_spelledLetter_120 rfl 123 rfl 1 1 1 3 rfl (fun _ => rfl), rg_e_iload_7 (cut := rg_cut [57]) (f := false) d_G_spelledLetter_123 rfl 125 rfl, rg_e_iald (cut := rg_cut [57]) (f := false) d_G_spelledLetter_125 rfl 126 rfl 3 9 rfl, rg_e_aload_0 (cut := rg_cut [57]) (f := false) d_G_spelledLetter_126 rfl 127 rfl, rg_e_getr (P := P_G_spelledLetter) (cut := rg_cut [57]) (f := false) d_G_spelledLetter_127 rfl 130 rfl 0 0 1 4 rfl (fun _ => rfl), rg_e_getr (P := P_G_spelledLetter) (cut := rg_cut [57]) (f := false) d_G_spelledLetter_130 rfl 133 rfl 4 2 3 8 rfl (fun _ => rfl), rg_e_iload_6 (cut := rg_cut [57]) (f := false) d_G_spelledLetter_133 rfl 135 rfl, rg_e_iald (cut := rg_cut [57]) (f := false) d_G_spelledLetter_135 rfl 136 rfl 8 72 rfl, rg_e_isub (cut := rg_cut [57]) (f := false) d_G_spelledLetter_136 rfl 137 rfl, rg_e_iload_4 (cut := rg_cut [57]) (f := false) d_G_spelledLetter_137 rfl 139 rfl, rg_e_iadd (cut := rg_cut [57]) (f := false) d_G_spelledLetter_139 rfl 140 rfl, rg_e_cv3 (P := P_G_spelledLetter) (cut := rg_cut [57]) (f := false) d_G_spelledLetter_140 rfl T_R_letterAt rfl, rg_e_iret (cut := rg_cut [57]) (f := false) d_G_spelledLetter_143 rfl, rg_e_iload_4 (cut := rg_cut [57]) (f := false) d_G_spelledLetter_144 rfl 146 rfl, rg_e_aload_0 (cut := rg_cut [57]) (f := false) d_G_spelledLetter_146 rfl 147 rfl, rg_e_getr (P := P_G_spelledLetter) (cut := rg_cut [57]) (f := false) d_G_spelledLetter_147 rfl 150 rfl 0 0 1 4 rfl (fun _ => rfl), rg_e_getr (P := P_G_spelledLetter) (cut := rg_cut [57]) (f := false) d_G_spelledLetter_150 rfl 153 rfl 4 2 3 8 rfl (fun _ => rfl), rg_e_iload_6 (cut := rg_cut [57]) (f := false) d_G_spelledLetter_153 rfl 155 rfl, rg_e_iald (cut := rg_cut [57]) (f := false) d_G_spelledLetter_155 rfl 156 rfl 8 72 rfl, rg_e_isub (cut := rg_cut [57]) (f := false) d_G_spelledLetter_156 rfl 157 rfl, rg_e_istore_4 (cut := rg_cut [57]) (f := false) d_G_spelledLetter_157 rfl 159 rfl, rg_e_iinc_5 (cut := rg_cut [57]) (f := false) d_G_spelledLetter_159 rfl 162 rfl (nI 1) rg_ki_1, rg_e_goto (cut := rg_cut [57]) (f := false) d_G_spelledLetter_162 rfl 57 rfl, rg_e_iconst (cut := rg_cut [57]) (f := false) d_G_spelledLetter_165 rfl 166 rfl (nI 0) rg_ki_0, rg_e_iret (cut := rg_cut [57]) (f := false) d_G_spelledLetter_166 rfl, rg_e_cut (cut := rg_cut [57]) 57 rfl, rg_nx_i, rg_nx_v, rg_wd_n, rg_wd_i, rg_wd_l, rg_wd_r, rg_clr_i, rg_clr_l, rg_clr_r, rg_clr_a, rg_clr_n, true_and, and_true, Nat.reduceAdd, Nat.reduceLeDiff, ↓Te_W_edgeAt, ↓Te_R_letterAt, rg_rt_e, rg_fit_ie, rg_fit_ve, rg_fit_1e, rg_fit_0e, rg_fit_be, vk, ck, a2, x1, v1, c1, e1, v2, c2, e2, e3, v3, c3, e4, e5, nI_add]
      rw [nI_lep (a := t.length) (by omega) (by omega), nI_lep (a := hg (sr hg (t.getD j 0)) (ds hg (t.getD j 0))) (by omega) (by omega)]
      refine ⟨fun h => by omega, fun _ => ⟨fun h => ?_, fun h => ?_⟩⟩
      · rw [pk_sub h]
        rw [if_neg (by omega)] at hsp
        exact ih (j + 1) _ _ _ ⟨by omega, by omega, hsp⟩ (by omega)
      · rw [if_pos (by omega)] at hsp
        rw [pk_sub y3, nI_add, letter_n (by omega) (by omega) (by omega), hsp]
        exact hK
    · obtain rfl : j = t.length := by omega
      refine hZ (rg_cut [57]) 400 57 _ _ _ ?_; simp only [rg_e_iload_5 (cut := rg_cut [57]) (f := true) d_G_spelledLetter_57 rfl 59 rfl, rg_e_aload_0 (cut := rg_cut [57]) (f := false) d_G_spelledLetter_59 rfl 60 rfl, rg_e_getr (P := P_G_spelledLetter) (cut := rg_cut [57]) (f := false) d_G_spelledLetter_60 rfl 63 rfl 0 0 2 13 rfl (fun _ => rfl), rg_e_getr (P := P_G_spelledLetter) (cut := rg_cut [57]) (f := false) d_G_spelledLetter_63 rfl 66 rfl 13 3 2 15 rfl (fun _ => rfl), rg_e_iload_1 (cut := rg_cut [57]) (f := false) d_G_spelledLetter_66 rfl 67 rfl, rg_e_iald (cut := rg_cut [57]) (f := false) d_G_spelledLetter_67 rfl 68 rfl 15 50 rfl, rg_e_icmp_ge (cut := rg_cut [57]) (f := false) d_G_spelledLetter_68 rfl 71 rfl 165 rfl, rg_e_aload_0 (cut := rg_cut [57]) (f := false) d_G_spelledLetter_71 rfl 72 rfl, rg_e_getr (P := P_G_spelledLetter) (cut := rg_cut [57]) (f := false) d_G_spelledLetter_72 rfl 75 rfl 0 0 2 13 rfl (fun _ => rfl), rg_e_iload_1 (cut := rg_cut [57]) (f := false) d_G_spelledLetter_75 rfl 76 rfl, rg_e_iload_5 (cut := rg_cut [57]) (f := false) d_G_spelledLetter_76 rfl 78 rfl, rg_e_cv3 (P := P_G_spelledLetter) (cut := rg_cut [57]) (f := false) d_G_spelledLetter_78 rfl T_W_edgeAt rfl, rg_e_istore_6 (cut := rg_cut [57]) (f := false) d_G_spelledLetter_81 rfl 83 rfl, rg_e_aload_0 (cut := rg_cut [57]) (f := false) d_G_spelledLetter_83 rfl 84 rfl, rg_e_getr (P := P_G_spelledLetter) (cut := rg_cut [57]) (f := false) d_G_spelledLetter_84 rfl 87 rfl 0 0 1 4 rfl (fun _ => rfl), rg_e_getr (P := P_G_spelledLetter) (cut := rg_cut [57]) (f := false) d_G_spelledLetter_87 rfl 90 rfl 4 2 2 7 rfl (fun _ => rfl), rg_e_iload_6 (cut := rg_cut [57]) (f := false) d_G_spelledLetter_90 rfl 92 rfl, rg_e_iald (cut := rg_cut [57]) (f := false) d_G_spelledLetter_92 rfl 93 rfl 7 72 rfl, rg_e_istore_7 (cut := rg_cut [57]) (f := false) d_G_spelledLetter_93 rfl 95 rfl, rg_e_iload_4 (cut := rg_cut [57]) (f := false) d_G_spelledLetter_95 rfl 97 rfl, rg_e_aload_0 (cut := rg_cut [57]) (f := false) d_G_spelledLetter_97 rfl 98 rfl, rg_e_getr (P := P_G_spelledLetter) (cut := rg_cut [57]) (f := false) d_G_spelledLetter_98 rfl 101 rfl 0 0 1 4 rfl (fun _ => rfl), rg_e_getr (P := P_G_spelledLetter) (cut := rg_cut [57]) (f := false) d_G_spelledLetter_101 rfl 104 rfl 4 2 3 8 rfl (fun _ => rfl), rg_e_iload_6 (cut := rg_cut [57]) (f := false) d_G_spelledLetter_104 rfl 106 rfl, rg_e_iald (cut := rg_cut [57]) (f := false) d_G_spelledLetter_106 rfl 107 rfl 8 72 rfl, rg_e_icmp_ge (cut := rg_cut [57]) (f := false) d_G_spelledLetter_107 rfl 110 rfl 144 rfl, rg_e_aload_0 (cut := rg_cut [57]) (f := false) d_G_spelledLetter_110 rfl 111 rfl, rg_e_getr (P := P_G_spelledLetter) (cut := rg_cut [57]) (f := false) d_G_spelledLetter_111 rfl 114 rfl 0 0 0 1 rfl (fun _ => rfl), rg_e_iload_7 (cut := rg_cut [57]) (f := false) d_G_spelledLetter_114 rfl 116 rfl, rg_e_aload_0 (cut := rg_cut [57]) (f := false) d_G_spelledLetter_116 rfl 117 rfl, rg_e_getr (P := P_G_spelledLetter) (cut := rg_cut [57]) (f := false) d_G_spelledLetter_117 rfl 120 rfl 0 0 0 1 rfl (fun _ => rfl), rg_e_getr (P := P_G_spelledLetter) (cut := rg_cut [57]) (f := false) d_G_spelledLetter_120 rfl 123 rfl 1 1 1 3 rfl (fun _ => rfl), rg_e_iload_7 (cut := rg_cut [57]) (f := false) d_G_spelledLetter_123 rfl 125 rfl, rg_e_iald (cut := rg_cut [57]) (f := false) d_G_spelledLetter_125 rfl 126 rfl 3 9 rfl, rg_e_aload_0 (cut := rg_cut [57]) (f := false) d_G_spelledLetter_126 rfl 127 rfl, rg_e_getr (P := P_G_spelledLetter) (cut := rg_cut [57]) (f := false) d_G_spelledLetter_127 rfl 130 rfl 0 0 1 4 rfl (fun _ => rfl), rg_e_getr (P := P_G_spelledLetter) (cut := rg_cut [57]) (f := false) d_G_spelledLetter_130 rfl 133 rfl 4 2 3 8 rfl (fun _ => rfl), rg_e_iload_6 (cut := rg_cut [57]) (f := false) d_G_spelledLetter_133 rfl 135 rfl, rg_e_iald (cut := rg_cut [57]) (f := false) d_G_spelledLetter_135 rfl 136 rfl 8 72 rfl, rg_e_isub (cut := rg_cut [57]) (f := false) d_G_spelledLetter_136 rfl 137 rfl, rg_e_iload_4 (cut := rg_cut [57]) (f := false) d_G_spelledLetter_137 rfl 139 rfl, rg_e_iadd (cut := rg_cut [57]) (f := false) d_G_spelledLetter_139 rfl 140 rfl, rg_e_cv3 (P := P_G_spelledLetter) (cut := rg_cut [57]) (f := false) d_G_spelledLetter_140 rfl T_R_letterAt rfl, rg_e_iret (cut := rg_cut [57]) (f := false) d_G_spelledLetter_143 rfl, rg_e_iload_4 (cut := rg_cut [57]) (f := false) d_G_spelledLetter_144 rfl 146 rfl, rg_e_aload_0 (cut := rg_cut [57]) (f := false) d_G_spelledLetter_146 rfl 147 rfl, rg_e_getr (P := P_G_spelledLetter) (cut := rg_cut [57]) (f := false) d_G_spelledLetter_147 rfl 150 rfl 0 0 1 4 rfl (fun _ => rfl), rg_e_getr (P := P_G_spelledLetter) (cut := rg_cut [57]) (f := false) d_G_spelledLetter_150 rfl 153 rfl 4 2 3 8 rfl (fun _ => rfl), rg_e_iload_6 (cut := rg_cut [57]) (f := false) d_G_spelledLetter_153 rfl 155 rfl, rg_e_iald (cut := rg_cut [57]) (f := false) d_G_spelledLetter_155 rfl 156 rfl 8 72 rfl, rg_e_isub (cut := rg_cut [57]) (f := false) d_G_spelledLetter_156 rfl 157 rfl, rg_e_istore_4 (cut := rg_cut [57]) (f := false) d_G_spelledLetter_157 rfl 159 rfl, rg_e_iinc_5 (cut := rg_cut [57]) (f := false) d_G_spelledLetter_159 rfl 162 rfl (nI 1) rg_ki_1, rg_e_goto (cut := rg_cut [57]) (f := false) d_G_spelledLetter_162 rfl 57 rfl, rg_e_iconst (cut := rg_cut [57]) (f := false) d_G_spelledLetter_165 rfl 166 rfl (nI 0) rg_ki_0, rg_e_iret (cut := rg_cut [57]) (f := false) d_G_spelledLetter_166 rfl, rg_e_cut (cut := rg_cut [57]) 57 rfl, rg_nx_i, rg_nx_v, rg_wd_n, rg_wd_i, rg_wd_l, rg_wd_r, rg_clr_i, rg_clr_l, rg_clr_r, rg_clr_a, rg_clr_n, true_and, and_true, Nat.reduceAdd, Nat.reduceLeDiff, ↓Te_W_edgeAt, ↓Te_R_letterAt, rg_rt_e, rg_fit_ie, rg_fit_ve, rg_fit_1e, rg_fit_0e, rg_fit_be, vk, ck, a2]
      refine ⟨fun _ => ?_, fun h => absurd (nI_le (Nat.le_refl _) (by omega)) h⟩
      rw [List.drop_length, spG] at hsp
      rw [← hsp] at hK
      exact hK
  have x1 : nI k' * nI 40 + nI 0 = nI (40 * k') := by rw [pk_mul, nI_add, Nat.mul_comm, Nat.add_zero]
  have v1 : vp_in (nI (40 * k')) 2000 := vp_in_nI (by omega) (by omega)
  have c1 : (nI (40 * k')).toNatClampNeg = 40 * k' := nI_clamp (by omega)
  have e1 : w.1 14 (40 * k') = nI (t.getD 0 0) := a3 0 b1
  have v2 : vp_in (nI (t.getD 0 0)) 72 := vp_in_nI (by omega) (by omega)
  have c2 : (nI (t.getD 0 0)).toNatClampNeg = t.getD 0 0 := nI_clamp (by omega)
  have e2 := (hG.at t0).1
  have v3 : vp_in (nI (sr hg (t.getD 0 0))) 9 := vp_in_nI (by omega) (by omega)
  have c3 : (nI (sr hg (t.getD 0 0))).toNatClampNeg = sr hg (t.getD 0 0) := nI_clamp (by omega)
  have e3 := q0.2.2.2.1
  have e4 := q0.2.2.2.2
  have pl := hR.pk_lt s0
  refine hZ (rg_cut [57]) 400 0 _ _ _ ?_; simp only [rg_e_aload_0 (cut := rg_cut [57]) (f := true) d_G_spelledLetter_0 rfl 1 rfl, rg_e_getr (P := P_G_spelledLetter) (cut := rg_cut [57]) (f := false) d_G_spelledLetter_1 rfl 4 rfl 0 0 1 4 rfl (fun _ => rfl), rg_e_getr (P := P_G_spelledLetter) (cut := rg_cut [57]) (f := false) d_G_spelledLetter_4 rfl 7 rfl 4 2 1 6 rfl (fun _ => rfl), rg_e_aload_0 (cut := rg_cut [57]) (f := false) d_G_spelledLetter_7 rfl 8 rfl, rg_e_getr (P := P_G_spelledLetter) (cut := rg_cut [57]) (f := false) d_G_spelledLetter_8 rfl 11 rfl 0 0 2 13 rfl (fun _ => rfl), rg_e_iload_1 (cut := rg_cut [57]) (f := false) d_G_spelledLetter_11 rfl 12 rfl, rg_e_iconst (cut := rg_cut [57]) (f := false) d_G_spelledLetter_12 rfl 13 rfl (nI 0) rg_ki_0, rg_e_cv3 (P := P_G_spelledLetter) (cut := rg_cut [57]) (f := false) d_G_spelledLetter_13 rfl T_W_edgeAt rfl, rg_e_iald (cut := rg_cut [57]) (f := false) d_G_spelledLetter_16 rfl 17 rfl 6 72 rfl, rg_e_istore_3 (cut := rg_cut [57]) (f := false) d_G_spelledLetter_17 rfl 18 rfl, rg_e_iload_2 (cut := rg_cut [57]) (f := false) d_G_spelledLetter_18 rfl 19 rfl, rg_e_aload_0 (cut := rg_cut [57]) (f := false) d_G_spelledLetter_19 rfl 20 rfl, rg_e_getr (P := P_G_spelledLetter) (cut := rg_cut [57]) (f := false) d_G_spelledLetter_20 rfl 23 rfl 0 0 0 1 rfl (fun _ => rfl), rg_e_getr (P := P_G_spelledLetter) (cut := rg_cut [57]) (f := false) d_G_spelledLetter_23 rfl 26 rfl 1 1 1 3 rfl (fun _ => rfl), rg_e_iload_3 (cut := rg_cut [57]) (f := false) d_G_spelledLetter_26 rfl 27 rfl, rg_e_iald (cut := rg_cut [57]) (f := false) d_G_spelledLetter_27 rfl 28 rfl 3 9 rfl, rg_e_icmp_ge (cut := rg_cut [57]) (f := false) d_G_spelledLetter_28 rfl 31 rfl 41 rfl, rg_e_aload_0 (cut := rg_cut [57]) (f := false) d_G_spelledLetter_31 rfl 32 rfl, rg_e_getr (P := P_G_spelledLetter) (cut := rg_cut [57]) (f := false) d_G_spelledLetter_32 rfl 35 rfl 0 0 0 1 rfl (fun _ => rfl), rg_e_iload_3 (cut := rg_cut [57]) (f := false) d_G_spelledLetter_35 rfl 36 rfl, rg_e_iload_2 (cut := rg_cut [57]) (f := false) d_G_spelledLetter_36 rfl 37 rfl, rg_e_cv3 (P := P_G_spelledLetter) (cut := rg_cut [57]) (f := false) d_G_spelledLetter_37 rfl T_R_letterAt rfl, rg_e_iret (cut := rg_cut [57]) (f := false) d_G_spelledLetter_40 rfl, rg_e_iload_2 (cut := rg_cut [57]) (f := false) d_G_spelledLetter_41 rfl 42 rfl, rg_e_aload_0 (cut := rg_cut [57]) (f := false) d_G_spelledLetter_42 rfl 43 rfl, rg_e_getr (P := P_G_spelledLetter) (cut := rg_cut [57]) (f := false) d_G_spelledLetter_43 rfl 46 rfl 0 0 0 1 rfl (fun _ => rfl), rg_e_getr (P := P_G_spelledLetter) (cut := rg_cut [57]) (f := false) d_G_spelledLetter_46 rfl 49 rfl 1 1 1 3 rfl (fun _ => rfl), rg_e_iload_3 (cut := rg_cut [57]) (f := false) d_G_spelledLetter_49 rfl 50 rfl, rg_e_iald (cut := rg_cut [57]) (f := false) d_G_spelledLetter_50 rfl 51 rfl 3 9 rfl, rg_e_isub (cut := rg_cut [57]) (f := false) d_G_spelledLetter_51 rfl 52 rfl, rg_e_istore_4 (cut := rg_cut [57]) (f := false) d_G_spelledLetter_52 rfl 54 rfl, rg_e_iconst (cut := rg_cut [57]) (f := false) d_G_spelledLetter_54 rfl 55 rfl (nI 0) rg_ki_0, rg_e_istore_5 (cut := rg_cut [57]) (f := false) d_G_spelledLetter_55 rfl 57 rfl, rg_e_cut (cut := rg_cut [57]) 57 rfl, rg_nx_i, rg_nx_v, rg_wd_n, rg_wd_i, rg_wd_l, rg_wd_r, rg_clr_i, rg_clr_l, rg_clr_r, rg_clr_a, rg_clr_n, true_and, and_true, Nat.reduceAdd, Nat.reduceLeDiff, ↓Te_W_edgeAt, ↓Te_R_letterAt, rg_rt_e, rg_fit_ie, rg_fit_ve, rg_fit_1e, rg_fit_0e, rg_fit_be, vk, ck, a2, x1, v1, c1, e1, v2, c2, e2, v3, c3, e3, e4]
  rw [nI_lep (by omega) (by omega)]
  refine ⟨fun h => ?_, fun h => ?_⟩
  · rw [pk_sub h]
    exact loop h 0 _ _ _ ⟨by omega, by omega, by rw [List.drop_zero]⟩
  · rw [if_pos (by omega)] at hK
    rw [letter_n (by omega) (by omega) (by omega)]
    exact hK
