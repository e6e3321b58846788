/-! Edges: nodes, all edges that there were -/
/-- a set of nodes as bits -/
def BS (x : Int32) (p : Nat → Bool) : Prop := (∀ i, i < 9 → bt x i = p i) ∧ ∀ i, 9 ≤ i → bt x i = false
theorem bt_1 {i : Nat} (hi : i < 32) : bt (nI 1) i = decide (i = 0) := by
  rw [bt_nI _ _ hi]
  exact (by decide +kernel : ∀ i, i < 32 → Nat.testBit 1 i = decide (i = 0)) i hi
theorem hbt_bt (x : Int32) {j : Nat} (hj : j < 32) : hbt x (nI j) = bt x j := by
  unfold hbt
  have h0 : ∀ i, i < 32 → bt ((x >>> (nI j &&& 31)) &&& nI 1) i = (decide (i = 0) && bt x j) := by
    intro i hi
    rw [b_and, bt_1 hi, b_sshr j hj x hi]
    by_cases h : i = 0
    · subst h
      rw [if_pos (by omega)]
      simp
    · simp [h]
  cases hb : bt x j with
  | false =>
    have : (x >>> (nI j &&& 31)) &&& nI 1 = 0 := b_ext (fun i hi => by rw [h0 i hi, hb, b_0]; simp)
    rw [decide_eq_true this]
    rfl
  | true =>
    have : ¬ (x >>> (nI j &&& 31)) &&& nI 1 = 0 := fun e => by
      have := h0 0 (by omega)
      rw [e, b_0, hb] at this
      simp at this
    rw [decide_eq_false this]
    rfl
theorem BS.h {x : Int32} {p : Nat → Bool} (h : BS x p) {j : Nat} (hj : j < 9) : hbt x (nI j) = p j := by
  rw [hbt_bt x (by omega)]
  exact h.1 j hj
theorem bt_sh {i k : Nat} (hi : i < 9) (hk : k < 32) : bt (nI 1 <<< (nI i &&& 31)) k = decide (k = i) := by
  rw [b_shl i (by omega) _ hk, bt_1 (by omega)]
  by_cases h : k = i
  · subst h
    simp
  · by_cases h2 : i ≤ k
    · simp [h2, h]
      omega
    · simp [h2, h]
theorem bt_hi {x : Int32} {k : Nat} (hk : 32 ≤ k) : bt x k = false := b_big hk
theorem BS.put {x : Int32} {p : Nat → Bool} (h : BS x p) {i : Nat} (hi : i < 9) : BS (x ||| (nI 1 <<< (nI i &&& 31))) (fun k => p k || decide (k = i)) := by
  refine ⟨fun k hk => ?_, fun k hk => ?_⟩
  · rw [b_or, bt_sh hi (by omega), h.1 k hk]
  · rcases Nat.lt_or_ge k 32 with q | q
    · rw [b_or, bt_sh hi q, h.2 k hk, decide_eq_false (by omega)]
      rfl
    · exact bt_hi q
theorem BS.cg {x : Int32} {p q : Nat → Bool} (h : BS x p) (e : ∀ i, i < 9 → p i = q i) : BS x q := ⟨fun i hi => (h.1 i hi).trans (e i hi), h.2⟩
theorem BS.zero : BS (nI 0) (fun _ => false) := ⟨fun i _ => by rw [nI_0]; exact b_0 i, fun i _ => by rw [nI_0]; exact b_0 i⟩
theorem zI_eq1 (b : Bool) : (¬ zI b = 0) = (b = true) := by cases b <;> decide +kernel
/-- node i -/
def ndN (nr : Nat) (ln pk : Nat → Nat) (i : Nat) : Bool := decide (i < nr) && !(List.range nr).any (fun o => sdB ln pk i o)
theorem ndB_n {nr : Nat} {ln pk : Nat → Nat} {i : Nat} (hi : i < 2 ^ 31) (hn : nr < 2 ^ 31) : ndB nr ln pk (nI i) = ndN nr ln pk i := by
  unfold ndB ndN
  rw [nI_clamp hi, decide_eq_false (nI_pos hi)]
  by_cases h : i < nr
  · rw [decide_eq_false (nI_ge h hn), decide_eq_true h]
    rfl
  · rw [decide_eq_true (nI_le (by omega) hi), decide_eq_false h]
    rfl
theorem ndN_lt {nr : Nat} {ln pk : Nat → Nat} {i : Nat} (h : ndN nr ln pk i = true) : i < nr := by
  unfold ndN at h
  simp at h
  exact h.1
-- E.findNodes
def P_E_findNodes : rg_P := (rg_F_E, [(123, 2, 0, T_R_isNode)], [], [], [], [], 0)
def T_E_findNodes : rg_T := fun as w K => match as with
  | [.ref 4, .ref 1] => ∃ nr ln pk, Rd nr ln pk w ∧ w.1 4 8 = nI 0 ∧ ∀ v, BS v (ndN nr ln pk) → K none (rg_up w 4 8 v)
  | _ => False
theorem Te_E_findNodes  (w : rg_W) (K : Option Value → rg_W → Prop) : T_E_findNodes [.ref 4, .ref 1] w K = (∃ nr ln pk, Rd nr ln pk w ∧ w.1 4 8 = nI 0 ∧ ∀ v, BS v (ndN nr ln pk) → K none (rg_up w 4 8 v)) := rfl
theorem r_E_findNodes : ∀ as w K, T_E_findNodes as w K → ∃ r, as = .ref 4 :: r := by
  intro as w K h
  unfold T_E_findNodes at h
  split at h
  · exact ⟨_, rfl⟩
  · exact h.elim
theorem G_E_findNodes (l : Launch) : rg_Good l y_E_findNodes c_E_findNodes 3 none 3 T_E_findNodes := by
  refine rg_good_of (P := P_E_findNodes) (by decide) (rg_pok rg_F_E_ok (rg_cons (cw_E_61 (G_R_isNode l) (by decide) r_R_isNode) rg_nil)) ?_
  intro as w K Z hT hZ
  unfold T_E_findNodes at hT
  split at hT
  rotate_left
  · exact hT.elim
  refine ⟨Nat.le_of_ble_eq_true rfl, ?_⟩
  show Z 0 [.ref 4, .ref 1, .null] [] w 0
  obtain ⟨nr, ln, pk, hR, h0, hK⟩ := hT
  have hn9 := hR.1
  have loop : ∀ (i : Nat) (v : Int32), (i ≤ 9 ∧ BS v (fun k => ndN nr ln pk k && decide (k < i))) → Z 2 [.ref 4, .ref 1, .int (nI i)] [] (rg_up w 4 8 v) 0 := by
    refine rg_lp2 _ _ (fun i _ => 9 - i) ?_
    intro i v ⟨hi, hb⟩ ih
    refine hZ (rg_cut [2]) 400 2 _ _ _ ?_; simp only [rg_e_iload_2 (cut := rg_cut [2]) (f := true) d_E_findNodes_2 rfl 3 rfl, rg_e_bipush (cut := rg_cut [2]) (f := false) d_E_findNodes_3 rfl 5 rfl (nI 9) rg_kb_9, rg_e_icmp_ge (cut := rg_cut [2]) (f := false) d_E_findNodes_5 rfl 8 rfl 34 rfl, rg_e_aload_1 (cut := rg_cut [2]) (f := false) d_E_findNodes_8 rfl 9 rfl, rg_e_iload_2 (cut := rg_cut [2]) (f := false) d_E_findNodes_9 rfl 10 rfl, rg_e_cv2 (P := P_E_findNodes) (cut := rg_cut [2]) (f := false) d_E_findNodes_10 rfl T_R_isNode rfl, rg_e_if_eq (cut := rg_cut [2]) (f := false) d_E_findNodes_13 rfl 16 rfl 28 rfl, rg_e_aload_0 (cut := rg_cut [2]) (f := false) d_E_findNodes_16 rfl 17 rfl, rg_e_dupr (cut := rg_cut [2]) (f := false) d_E_findNodes_17 rfl 18 rfl, rg_e_geti (P := P_E_findNodes) (cut := rg_cut [2]) (f := false) d_E_findNodes_18 rfl 21 rfl 4 2 8 rfl (fun _ => rfl), rg_e_iconst (cut := rg_cut [2]) (f := false) d_E_findNodes_21 rfl 22 rfl (nI 1) rg_ki_1, rg_e_iload_2 (cut := rg_cut [2]) (f := false) d_E_findNodes_22 rfl 23 rfl, rg_e_ishl (cut := rg_cut [2]) (f := false) d_E_findNodes_23 rfl 24 rfl, rg_e_ior (cut := rg_cut [2]) (f := false) d_E_findNodes_24 rfl 25 rfl, rg_e_put (P := P_E_findNodes) (cut := rg_cut [2]) (f := false) d_E_findNodes_25 rfl 28 rfl 4 2 8 rfl rfl, rg_e_iinc_2 (cut := rg_cut [2]) (f := false) d_E_findNodes_28 rfl 31 rfl (nI 1) rg_ki_1, rg_e_goto (cut := rg_cut [2]) (f := false) d_E_findNodes_31 rfl 2 rfl, rg_e_vret (cut := rg_cut [2]) (f := false) d_E_findNodes_34 rfl, rg_e_cut (cut := rg_cut [2]) 2 rfl, rg_nx_i, rg_nx_v, rg_wd_n, rg_wd_i, rg_wd_l, rg_wd_r, rg_clr_i, rg_clr_l, rg_clr_r, rg_clr_a, rg_clr_n, true_and, and_true, Nat.reduceAdd, Nat.reduceLeDiff, ↓Te_R_isNode, rg_rt_e, rg_fit_ie, rg_fit_ve, rg_fit_1e, rg_fit_0e, rg_fit_be, zI_eq, rg_up_ss]
    rw [nI_lep (by omega) (by omega)]
    refine ⟨fun h => hK v (hb.cg fun k hk => by rw [decide_eq_true (by omega), Bool.and_true]), fun h => ⟨nr, ln, pk, hR.fr (rg_up_n (by decide)) (rg_up_n (by decide)) (rg_up_n (by decide)), fun h1 => ?_, fun h1 => ?_⟩⟩
    · rw [nI_add]
      refine ih (i + 1) v ⟨by omega, hb.cg fun k hk => ?_⟩ (by omega)
      rw [ndB_n (by omega) (by omega)] at h1
      by_cases hk : k = i
      · subst hk; rw [h1]; rfl
      · congr 1
        simp only [decide_eq_decide]
        omega
    · rw [nI_add]
      have e : rg_up (rg_up w 4 8 v) 4 8 (v ||| (nI 1 <<< (nI i &&& 31))) = rg_up w 4 8 (v ||| (nI 1 <<< (nI i &&& 31))) := by
        unfold rg_up
        congr 1
        funext a
        by_cases ha : a = 4
        · simp only [ha, if_true]
          funext b
          unfold upd
          by_cases hb : b = 8 <;> simp [hb]
        · simp [ha]
      rw [e]
      refine ih (i + 1) _ ⟨by omega, (hb.put (by omega)).cg fun k hk => ?_⟩ (by omega)
      rw [ndB_n (by omega) (by omega)] at h1
      have h1 : ndN nr ln pk i = true := by simpa using h1
      by_cases hk : k = i
      · subst hk; rw [h1]; simp
      · simp only [hk, decide_false, Bool.or_false]
        congr 1
        simp only [decide_eq_decide]
        omega
  refine hZ (rg_cut [2]) 400 0 _ _ _ ?_; simp only [rg_e_iconst (cut := rg_cut [2]) (f := true) d_E_findNodes_0 rfl 1 rfl (nI 0) rg_ki_0, rg_e_istore_2 (cut := rg_cut [2]) (f := false) d_E_findNodes_1 rfl 2 rfl, rg_e_cut (cut := rg_cut [2]) 2 rfl, rg_nx_i, rg_nx_v, rg_wd_n, rg_wd_i, rg_wd_l, rg_wd_r, rg_clr_i, rg_clr_l, rg_clr_r, rg_clr_a, rg_clr_n, true_and, and_true, Nat.reduceAdd, Nat.reduceLeDiff, ↓Te_R_isNode, rg_rt_e, rg_fit_ie, rg_fit_ve, rg_fit_1e, rg_fit_0e, rg_fit_be]
  have e : w = rg_up w 4 8 (nI 0) := by
    unfold rg_up
    refine Prod.ext ?_ rfl
    funext a
    by_cases ha : a = 4
    · simp only [ha, if_true]
      funext b
      unfold upd
      by_cases hb : b = 8
      · simp only [hb, if_true]; exact h0
      · simp [hb]
    · simp [ha]
  have := loop 0 (nI 0) ⟨by omega, BS.zero.cg fun k _ => by simp⟩
  rw [← e] at this
  exact this
/-- how many of the first n have p -/
def cnF (p : Nat → Bool) : Nat → Nat
  | 0 => 0
  | n + 1 => cnF p n + (if p n = true then 1 else 0)
theorem cnF_le (p : Nat → Bool) : ∀ n, cnF p n ≤ n
  | 0 => Nat.le_refl _
  | n + 1 => by
    have := cnF_le p n
    unfold cnF
    split <;> omega
/-- the hang of the edge from i to j that there was, or 0 -/
def hgN (nr : Nat) (ln pk : Nat → Nat) (least i j : Nat) : Nat := if i ≠ j ∧ ndN nr ln pk i = true ∧ ndN nr ln pk j = true then (if ovN ln pk i j least = 0 then 0 else ln j - ovN ln pk i j least) else 0
theorem gtF_le (p : Nat → Bool) (least : Nat) : ∀ m, gtF p least m ≤ m
  | 0 => Nat.le_refl _
  | m + 1 => by
    rw [gtF]
    have := gtF_le p least m
    split <;> omega
def hgC (hg : Nat → Nat → Nat) (t : Nat) : Bool := !decide (hg (t / 9) (t % 9) = 0)
-- E.layAll
def P_E_layAll : rg_P := (rg_F_E, [(134, 2, 0, T_G_holds), (143, 4, 0, T_R_lettersShared)], [], [], [], [], 0)
def T_E_layAll : rg_T := fun as w K => match as with
  | [.ref 4, .ref 1, .int least] => ∃ nr ln pk least', Rd nr ln pk w ∧ BS (w.1 4 8) (ndN nr ln pk) ∧ w.1 4 9 = nI 0 ∧ least = nI least' ∧ 1 ≤ least' ∧ least' ≤ 12 ∧ ∀ w', rg_fr [4, 5] w w' → (∀ j, j ≠ 9 → w'.1 4 j = w.1 4 j) → w'.1 4 9 = nI (cnF (hgC (hgN nr ln pk least')) 81) → (∀ t, t < 81 → w'.1 5 t = nI (hgN nr ln pk least' (t / 9) (t % 9))) → K none w'
  | _ => False
theorem Te_E_layAll (least : Int32) (w : rg_W) (K : Option Value → rg_W → Prop) : T_E_layAll [.ref 4, .ref 1, .int least] w K = (∃ nr ln pk least', Rd nr ln pk w ∧ BS (w.1 4 8) (ndN nr ln pk) ∧ w.1 4 9 = nI 0 ∧ least = nI least' ∧ 1 ≤ least' ∧ least' ≤ 12 ∧ ∀ w', rg_fr [4, 5] w w' → (∀ j, j ≠ 9 → w'.1 4 j = w.1 4 j) → w'.1 4 9 = nI (cnF (hgC (hgN nr ln pk least')) 81) → (∀ t, t < 81 → w'.1 5 t = nI (hgN nr ln pk least' (t / 9) (t % 9))) → K none w') := rfl
theorem r_E_layAll : ∀ as w K, T_E_layAll as w K → ∃ r, as = .ref 4 :: r := by
  intro as w K h
  unfold T_E_layAll at h
  split at h
  · exact ⟨_, rfl⟩
  · exact h.elim
theorem G_E_layAll (l : Launch) : rg_Good l y_E_layAll c_E_layAll 6 none 2 T_E_layAll := by
  refine rg_good_of (P := P_E_layAll) (by decide) (rg_pok rg_F_E_ok (rg_cons (cw_E_67 (G_G_holds l) (by decide)) (rg_cons (cw_E_71 (G_R_lettersShared l) (by decide) r_R_lettersShared) rg_nil))) ?_
  intro as w K Z hT hZ
  unfold T_E_layAll at hT
  split at hT
  rotate_left
  · exact hT.elim
  rename_i least
  refine ⟨Nat.le_of_ble_eq_true rfl, ?_⟩
  show Z 0 [.ref 4, .ref 1, .int least, .null, .null, .null] [] w 0
  obtain ⟨nr, ln, pk, least', hR, hB, h0, rfl, l1, l2, hK⟩ := hT
  have hn9 := hR.1
  have inner : ∀ (i j : Nat) (w1 : rg_W) (a5 : Value), (i < 9 ∧ j ≤ 9 ∧ rg_fr [4, 5] w w1 ∧ (∀ q, q ≠ 9 → w1.1 4 q = w.1 4 q) ∧ w1.1 4 9 = nI (cnF (hgC (hgN nr ln pk least')) (9 * i + j)) ∧ ∀ t, t < 9 * i + j → w1.1 5 t = nI (hgN nr ln pk least' (t / 9) (t % 9))) →
      (∀ (w2 : rg_W) (a4 a5 : Value), rg_fr [4, 5] w w2 → (∀ q, q ≠ 9 → w2.1 4 q = w.1 4 q) → w2.1 4 9 = nI (cnF (hgC (hgN nr ln pk least')) (9 * (i + 1))) → (∀ t, t < 9 * (i + 1) → w2.1 5 t = nI (hgN nr ln pk least' (t / 9) (t % 9))) → Z 2 [.ref 4, .ref 1, .int (nI least'), .int (nI (i + 1)), a4, a5] [] w2 0) →
      Z 11 [.ref 4, .ref 1, .int (nI least'), .int (nI i), .int (nI j), a5] [] w1 0 := by
    intro i j w1 a5 hI hout
    revert j w1 a5
    refine rg_lp3 _ _ (fun j _ _ => 9 - j) ?_
    intro j w1 a5 ⟨hi, hj, hf, h4, hc, h5⟩ ih
    have ci : (nI i).toNatClampNeg = i := nI_clamp (by omega)
    have cj : (nI j).toNatClampNeg = j := nI_clamp (by omega)
    have hB1 : BS (w1.1 4 8) (ndN nr ln pk) := by rw [h4 8 (by decide)]; exact hB
    have hR1 : Rd nr ln pk w1 := hR.fr (hf.1 1 (by decide)) (hf.1 2 (by decide)) (hf.1 3 (by decide))
    have hidx : nI i * nI 9 + nI j = nI (9 * i + j) := by rw [pk_mul, nI_add, Nat.mul_comm]
    rcases Nat.lt_or_ge j 9 with hj9 | hj9
    · have hdiv : (9 * i + j) / 9 = i ∧ (9 * i + j) % 9 = j := by omega
      have vij : vp_in (nI (9 * i + j)) 81 := vp_in_nI (by omega) (by omega)
      have cij : (nI (9 * i + j)).toNatClampNeg = 9 * i + j := nI_clamp (by omega)
      have hcl := cnF_le (hgC (hgN nr ln pk least')) (9 * i + j)
      -- behind n is known
      have tail : ∀ n : Nat, n ≤ 12 → (n ≠ 0 → n + 1 ≤ ln j ∧ j < nr) → hgN nr ln pk least' i j = (if n = 0 then 0 else ln j - n) → Z 61 [.ref 4, .ref 1, .int (nI least'), .int (nI i), .int (nI j), .int (nI n)] [] w1 0 := by
        intro n hn hnj hg
        refine hZ (rg_cut [2, 11]) 400 61 _ _ _ ?_; simp only [rg_e_aload_0 (cut := rg_cut [2, 11]) (f := true) d_E_layAll_61 rfl 62 rfl, rg_e_getr (P := P_E_layAll) (cut := rg_cut [2, 11]) (f := false) d_E_layAll_62 rfl 65 rfl 4 2 0 5 rfl (fun _ => rfl), rg_e_iload_3 (cut := rg_cut [2, 11]) (f := false) d_E_layAll_65 rfl 66 rfl, rg_e_bipush (cut := rg_cut [2, 11]) (f := false) d_E_layAll_66 rfl 68 rfl (nI 9) rg_kb_9, rg_e_imul (cut := rg_cut [2, 11]) (f := false) d_E_layAll_68 rfl 69 rfl, rg_e_iload_4 (cut := rg_cut [2, 11]) (f := false) d_E_layAll_69 rfl 71 rfl, rg_e_iadd (cut := rg_cut [2, 11]) (f := false) d_E_layAll_71 rfl 72 rfl, rg_e_iload_5 (cut := rg_cut [2, 11]) (f := false) d_E_layAll_72 rfl 74 rfl, rg_e_if_ne (cut := rg_cut [2, 11]) (f := false) d_E_layAll_74 rfl 77 rfl 81 rfl, rg_e_iconst (cut := rg_cut [2, 11]) (f := false) d_E_layAll_77 rfl 78 rfl (nI 0) rg_ki_0, rg_e_goto (cut := rg_cut [2, 11]) (f := false) d_E_layAll_78 rfl 91 rfl, rg_e_aload_1 (cut := rg_cut [2, 11]) (f := false) d_E_layAll_81 rfl 82 rfl, rg_e_getr (P := P_E_layAll) (cut := rg_cut [2, 11]) (f := false) d_E_layAll_82 rfl 85 rfl 1 1 1 3 rfl (fun _ => rfl), rg_e_iload_4 (cut := rg_cut [2, 11]) (f := false) d_E_layAll_85 rfl 87 rfl, rg_e_iald (cut := rg_cut [2, 11]) (f := false) d_E_layAll_87 rfl 88 rfl 3 9 rfl, rg_e_iload_5 (cut := rg_cut [2, 11]) (f := false) d_E_layAll_88 rfl 90 rfl, rg_e_isub (cut := rg_cut [2, 11]) (f := false) d_E_layAll_90 rfl 91 rfl, rg_e_iast (cut := rg_cut [2, 11]) (f := false) d_E_layAll_91 rfl 92 rfl 5 81 rfl, rg_e_aload_0 (cut := rg_cut [2, 11]) (f := false) d_E_layAll_92 rfl 93 rfl, rg_e_dupr (cut := rg_cut [2, 11]) (f := false) d_E_layAll_93 rfl 94 rfl, rg_e_geti (P := P_E_layAll) (cut := rg_cut [2, 11]) (f := false) d_E_layAll_94 rfl 97 rfl 4 2 9 rfl (fun _ => rfl), rg_e_iload_5 (cut := rg_cut [2, 11]) (f := false) d_E_layAll_97 rfl 99 rfl, rg_e_if_ne (cut := rg_cut [2, 11]) (f := false) d_E_layAll_99 rfl 102 rfl 106 rfl, rg_e_iconst (cut := rg_cut [2, 11]) (f := false) d_E_layAll_102 rfl 103 rfl (nI 0) rg_ki_0, rg_e_goto (cut := rg_cut [2, 11]) (f := false) d_E_layAll_103 rfl 107 rfl, rg_e_iconst (cut := rg_cut [2, 11]) (f := false) d_E_layAll_106 rfl 107 rfl (nI 1) rg_ki_1, rg_e_iadd (cut := rg_cut [2, 11]) (f := false) d_E_layAll_107 rfl 108 rfl, rg_e_put (P := P_E_layAll) (cut := rg_cut [2, 11]) (f := false) d_E_layAll_108 rfl 111 rfl 4 2 9 rfl rfl, rg_e_iinc_4 (cut := rg_cut [2, 11]) (f := false) d_E_layAll_111 rfl 114 rfl (nI 1) rg_ki_1, rg_e_goto (cut := rg_cut [2, 11]) (f := false) d_E_layAll_114 rfl 11 rfl, rg_e_cut (cut := rg_cut [2, 11]) 2 rfl, rg_e_cut (cut := rg_cut [2, 11]) 11 rfl, rg_nx_i, rg_nx_v, rg_wd_n, rg_wd_i, rg_wd_l, rg_wd_r, rg_clr_i, rg_clr_l, rg_clr_r, rg_clr_a, rg_clr_n, true_and, and_true, Nat.reduceAdd, Nat.reduceLeDiff, ↓Te_G_holds, ↓Te_R_lettersShared, rg_rt_e, rg_fit_ie, rg_fit_ve, rg_fit_1e, rg_fit_0e, rg_fit_be, hidx, vij, cij, cj, rg_up_ss]
        rw [nI_eq0 (by omega)]
        refine ⟨fun h => ?_, fun h => ?_⟩
        · obtain ⟨q1, q2⟩ := hnj h
          have q3 := hR1.2.2 j q2
          refine ⟨vp_in_nI (by omega) (by omega), ?_⟩
          rw [q3.2.2.2.1, pk_sub (by omega)]
          refine ⟨fun h9 => ?_, fun h9 => absurd h h9⟩
          rw [rg_up_n (by decide), hc, nI_add, nI_add]
          rw [if_neg h] at hg
          refine ih (j + 1) _ _ ⟨hi, by omega, rg_fr_up (rg_fr_up hf (by decide) _ _) (by decide) _ _, fun q hq => ?_, ?_, fun t ht => ?_⟩ (by omega)
          · rw [rg_up_s, upd_n hq, rg_up_n (by decide)]
            exact h4 q hq
          · rw [rg_up_ss]
            congr 1
            show _ = cnF _ (9 * i + j + 1)
            rw [cnF]
            congr 1
            unfold hgC
            rw [hdiv.1, hdiv.2, hg, decide_eq_false (by omega)]
            rfl
          · rw [rg_up_n (by decide), rg_up_s]
            by_cases hte : t = 9 * i + j
            · subst hte
              rw [upd_s, hdiv.1, hdiv.2, hg]
            · rw [upd_n hte]
              exact h5 t (by omega)
        · have h := Classical.not_not.mp h
          refine ⟨fun h9 => absurd h h9, fun _ => ?_⟩
          rw [rg_up_n (by decide), hc, nI_add, nI_add]
          rw [if_pos h] at hg
          refine ih (j + 1) _ _ ⟨hi, by omega, rg_fr_up (rg_fr_up hf (by decide) _ _) (by decide) _ _, fun q hq => ?_, ?_, fun t ht => ?_⟩ (by omega)
          · rw [rg_up_s, upd_n hq, rg_up_n (by decide)]
            exact h4 q hq
          · rw [rg_up_ss]
            congr 1
            show _ = cnF _ (9 * i + j + 1)
            rw [cnF]
            congr 1
            unfold hgC
            rw [hdiv.1, hdiv.2, hg, decide_eq_true rfl]
            rfl
          · rw [rg_up_n (by decide), rg_up_s]
            by_cases hte : t = 9 * i + j
            · subst hte
              rw [upd_s, hdiv.1, hdiv.2, hg]
            · rw [upd_n hte]
              exact h5 t (by omega)
      refine hZ (rg_cut [2, 11, 61]) 400 11 _ _ _ ?_; simp only [rg_e_iload_4 (cut := rg_cut [2, 11, 61]) (f := true) d_E_layAll_11 rfl 13 rfl, rg_e_bipush (cut := rg_cut [2, 11, 61]) (f := false) d_E_layAll_13 rfl 15 rfl (nI 9) rg_kb_9, rg_e_icmp_ge (cut := rg_cut [2, 11, 61]) (f := false) d_E_layAll_15 rfl 18 rfl 117 rfl, rg_e_iload_3 (cut := rg_cut [2, 11, 61]) (f := false) d_E_layAll_18 rfl 19 rfl, rg_e_iload_4 (cut := rg_cut [2, 11, 61]) (f := false) d_E_layAll_19 rfl 21 rfl, rg_e_icmp_eq (cut := rg_cut [2, 11, 61]) (f := false) d_E_layAll_21 rfl 24 rfl 58 rfl, rg_e_aload_0 (cut := rg_cut [2, 11, 61]) (f := false) d_E_layAll_24 rfl 25 rfl, rg_e_geti (P := P_E_layAll) (cut := rg_cut [2, 11, 61]) (f := false) d_E_layAll_25 rfl 28 rfl 4 2 8 rfl (fun _ => rfl), rg_e_iload_3 (cut := rg_cut [2, 11, 61]) (f := false) d_E_layAll_28 rfl 29 rfl, rg_e_cs2 (P := P_E_layAll) (cut := rg_cut [2, 11, 61]) (f := false) d_E_layAll_29 rfl T_G_holds rfl, rg_e_if_eq (cut := rg_cut [2, 11, 61]) (f := false) d_E_layAll_32 rfl 35 rfl 58 rfl, rg_e_aload_0 (cut := rg_cut [2, 11, 61]) (f := false) d_E_layAll_35 rfl 36 rfl, rg_e_geti (P := P_E_layAll) (cut := rg_cut [2, 11, 61]) (f := false) d_E_layAll_36 rfl 39 rfl 4 2 8 rfl (fun _ => rfl), rg_e_iload_4 (cut := rg_cut [2, 11, 61]) (f := false) d_E_layAll_39 rfl 41 rfl, rg_e_cs2 (P := P_E_layAll) (cut := rg_cut [2, 11, 61]) (f := false) d_E_layAll_41 rfl T_G_holds rfl, rg_e_if_eq (cut := rg_cut [2, 11, 61]) (f := false) d_E_layAll_44 rfl 47 rfl 58 rfl, rg_e_aload_1 (cut := rg_cut [2, 11, 61]) (f := false) d_E_layAll_47 rfl 48 rfl, rg_e_iload_3 (cut := rg_cut [2, 11, 61]) (f := false) d_E_layAll_48 rfl 49 rfl, rg_e_iload_4 (cut := rg_cut [2, 11, 61]) (f := false) d_E_layAll_49 rfl 51 rfl, rg_e_iload_2 (cut := rg_cut [2, 11, 61]) (f := false) d_E_layAll_51 rfl 52 rfl, rg_e_cv4 (P := P_E_layAll) (cut := rg_cut [2, 11, 61]) (f := false) d_E_layAll_52 rfl T_R_lettersShared rfl, rg_e_goto (cut := rg_cut [2, 11, 61]) (f := false) d_E_layAll_55 rfl 59 rfl, rg_e_iconst (cut := rg_cut [2, 11, 61]) (f := false) d_E_layAll_58 rfl 59 rfl (nI 0) rg_ki_0, rg_e_istore_5 (cut := rg_cut [2, 11, 61]) (f := false) d_E_layAll_59 rfl 61 rfl, rg_e_iinc_3 (cut := rg_cut [2, 11, 61]) (f := false) d_E_layAll_117 rfl 120 rfl (nI 1) rg_ki_1, rg_e_goto (cut := rg_cut [2, 11, 61]) (f := false) d_E_layAll_120 rfl 2 rfl, rg_e_cut (cut := rg_cut [2, 11, 61]) 2 rfl, rg_e_cut (cut := rg_cut [2, 11, 61]) 11 rfl, rg_e_cut (cut := rg_cut [2, 11, 61]) 61 rfl, rg_nx_i, rg_nx_v, rg_wd_n, rg_wd_i, rg_wd_l, rg_wd_r, rg_clr_i, rg_clr_l, rg_clr_r, rg_clr_a, rg_clr_n, true_and, and_true, Nat.reduceAdd, Nat.reduceLeDiff, ↓Te_G_holds, ↓Te_R_lettersShared, rg_rt_e, rg_fit_ie, rg_fit_ve, rg_fit_1e, rg_fit_0e, rg_fit_be, zI_eq]
      rw [nI_lep (by omega) (by omega), nI_eqp (by omega) (by omega), hB1.h hi, hB1.h hj9]
      refine ⟨fun h => by omega, fun _ => ⟨fun h => ?_, fun h => ⟨fun h1 => ?_, fun h1 => ⟨fun h2 => ?_, fun h2 => ?_⟩⟩⟩⟩
      · exact tail 0 (by omega) (fun q => absurd rfl q) (by unfold hgN; rw [if_neg (by omega)]; rfl)
      · exact tail 0 (by omega) (fun q => absurd rfl q) (by unfold hgN; rw [if_neg (by rw [h1]; simp)]; rfl)
      · exact tail 0 (by omega) (fun q => absurd rfl q) (by unfold hgN; rw [if_neg (by rw [h2]; simp)]; rfl)
      · have h1 : ndN nr ln pk i = true := by simpa using h1
        have h2 : ndN nr ln pk j = true := by simpa using h2
        have li := ndN_lt h1
        have lj := ndN_lt h2
        have q := hR1.2.2 j lj
        have hov : ovN ln pk i j least' ≤ min (ln i) (ln j) - 1 := gtF_le _ _ _
        refine ⟨nr, ln, pk, i, j, least', hR1, rfl, rfl, li, lj, rfl, l1, l2, tail _ (by omega) (fun _ => ⟨by omega, lj⟩) ?_⟩
        unfold hgN
        rw [if_pos ⟨h, h1, h2⟩]
    · obtain rfl : j = 9 := by omega
      refine hZ (rg_cut [2, 11]) 400 11 _ _ _ ?_; simp only [rg_e_iload_4 (cut := rg_cut [2, 11]) (f := true) d_E_layAll_11 rfl 13 rfl, rg_e_bipush (cut := rg_cut [2, 11]) (f := false) d_E_layAll_13 rfl 15 rfl (nI 9) rg_kb_9, rg_e_icmp_ge (cut := rg_cut [2, 11]) (f := false) d_E_layAll_15 rfl 18 rfl 117 rfl, rg_e_iload_3 (cut := rg_cut [2, 11]) (f := false) d_E_layAll_18 rfl 19 rfl, rg_e_iload_4 (cut := rg_cut [2, 11]) (f := false) d_E_layAll_19 rfl 21 rfl, rg_e_icmp_eq (cut := rg_cut [2, 11]) (f := false) d_E_layAll_21 rfl 24 rfl 58 rfl, rg_e_aload_0 (cut := rg_cut [2, 11]) (f := false) d_E_layAll_24 rfl 25 rfl, rg_e_geti (P := P_E_layAll) (cut := rg_cut [2, 11]) (f := false) d_E_layAll_25 rfl 28 rfl 4 2 8 rfl (fun _ => rfl), rg_e_iload_3 (cut := rg_cut [2, 11]) (f := false) d_E_layAll_28 rfl 29 rfl, rg_e_cs2 (P := P_E_layAll) (cut := rg_cut [2, 11]) (f := false) d_E_layAll_29 rfl T_G_holds rfl, rg_e_if_eq (cut := rg_cut [2, 11]) (f := false) d_E_layAll_32 rfl 35 rfl 58 rfl, rg_e_aload_0 (cut := rg_cut [2, 11]) (f := false) d_E_layAll_35 rfl 36 rfl, rg_e_geti (P := P_E_layAll) (cut := rg_cut [2, 11]) (f := false) d_E_layAll_36 rfl 39 rfl 4 2 8 rfl (fun _ => rfl), rg_e_iload_4 (cut := rg_cut [2, 11]) (f := false) d_E_layAll_39 rfl 41 rfl, rg_e_cs2 (P := P_E_layAll) (cut := rg_cut [2, 11]) (f := false) d_E_layAll_41 rfl T_G_holds rfl, rg_e_if_eq (cut := rg_cut [2, 11]) (f := false) d_E_layAll_44 rfl 47 rfl 58 rfl, rg_e_aload_1 (cut := rg_cut [2, 11]) (f := false) d_E_layAll_47 rfl 48 rfl, rg_e_iload_3 (cut := rg_cut [2, 11]) (f := false) d_E_layAll_48 rfl 49 rfl, rg_e_iload_4 (cut := rg_cut [2, 11]) (f := false) d_E_layAll_49 rfl 51 rfl, rg_e_iload_2 (cut := rg_cut [2, 11]) (f := false) d_E_layAll_51 rfl 52 rfl, rg_e_cv4 (P := P_E_layAll) (cut := rg_cut [2, 11]) (f := false) d_E_layAll_52 rfl T_R_lettersShared rfl, rg_e_goto (cut := rg_cut [2, 11]) (f := false) d_E_layAll_55 rfl 59 rfl, rg_e_iconst (cut := rg_cut [2, 11]) (f := false) d_E_layAll_58 rfl 59 rfl (nI 0) rg_ki_0, rg_e_istore_5 (cut := rg_cut [2, 11]) (f := false) d_E_layAll_59 rfl 61 rfl, rg_e_aload_0 (cut := rg_cut [2, 11]) (f := false) d_E_layAll_61 rfl 62 rfl, rg_e_getr (P := P_E_layAll) (cut := rg_cut [2, 11]) (f := false) d_E_layAll_62 rfl 65 rfl 4 2 0 5 rfl (fun _ => rfl), rg_e_iload_3 (cut := rg_cut [2, 11]) (f := false) d_E_layAll_65 rfl 66 rfl, rg_e_bipush (cut := rg_cut [2, 11]) (f := false) d_E_layAll_66 rfl 68 rfl (nI 9) rg_kb_9, rg_e_imul (cut := rg_cut [2, 11]) (f := false) d_E_layAll_68 rfl 69 rfl, rg_e_iload_4 (cut := rg_cut [2, 11]) (f := false) d_E_layAll_69 rfl 71 rfl, rg_e_iadd (cut := rg_cut [2, 11]) (f := false) d_E_layAll_71 rfl 72 rfl, rg_e_iload_5 (cut := rg_cut [2, 11]) (f := false) d_E_layAll_72 rfl 74 rfl, rg_e_if_ne (cut := rg_cut [2, 11]) (f := false) d_E_layAll_74 rfl 77 rfl 81 rfl, rg_e_iconst (cut := rg_cut [2, 11]) (f := false) d_E_layAll_77 rfl 78 rfl (nI 0) rg_ki_0, rg_e_goto (cut := rg_cut [2, 11]) (f := false) d_E_layAll_78 rfl 91 rfl, rg_e_aload_1 (cut := rg_cut [2, 11]) (f := false) d_E_layAll_81 rfl 82 rfl, rg_e_getr (P := P_E_layAll) (cut := rg_cut [2, 11]) (f := false) d_E_layAll_82 rfl 85 rfl 1 1 1 3 rfl (fun _ => rfl), rg_e_iload_4 (cut := rg_cut [2, 11]) (f := false) d_E_layAll_85 rfl 87 rfl, rg_e_iald (cut := rg_cut [2, 11]) (f := false) d_E_layAll_87 rfl 88 rfl 3 9 rfl, rg_e_iload_5 (cut := rg_cut [2, 11]) (f := false) d_E_layAll_88 rfl 90 rfl, rg_e_isub (cut := rg_cut [2, 11]) (f := false) d_E_layAll_90 rfl 91 rfl, rg_e_iast (cut := rg_cut [2, 11]) (f := false) d_E_layAll_91 rfl 92 rfl 5 81 rfl, rg_e_aload_0 (cut := rg_cut [2, 11]) (f := false) d_E_layAll_92 rfl 93 rfl, rg_e_dupr (cut := rg_cut [2, 11]) (f := false) d_E_layAll_93 rfl 94 rfl, rg_e_geti (P := P_E_layAll) (cut := rg_cut [2, 11]) (f := false) d_E_layAll_94 rfl 97 rfl 4 2 9 rfl (fun _ => rfl), rg_e_iload_5 (cut := rg_cut [2, 11]) (f := false) d_E_layAll_97 rfl 99 rfl, rg_e_if_ne (cut := rg_cut [2, 11]) (f := false) d_E_layAll_99 rfl 102 rfl 106 rfl, rg_e_iconst (cut := rg_cut [2, 11]) (f := false) d_E_layAll_102 rfl 103 rfl (nI 0) rg_ki_0, rg_e_goto (cut := rg_cut [2, 11]) (f := false) d_E_layAll_103 rfl 107 rfl, rg_e_iconst (cut := rg_cut [2, 11]) (f := false) d_E_layAll_106 rfl 107 rfl (nI 1) rg_ki_1, rg_e_iadd (cut := rg_cut [2, 11]) (f := false) d_E_layAll_107 rfl 108 rfl, rg_e_put (P := P_E_layAll) (cut := rg_cut [2, 11]) (f := false) d_E_layAll_108 rfl 111 rfl 4 2 9 rfl rfl, rg_e_iinc_4 (cut := rg_cut [2, 11]) (f := false) d_E_layAll_111 rfl 114 rfl (nI 1) rg_ki_1, rg_e_goto (cut := rg_cut [2, 11]) (f := false) d_E_layAll_114 rfl 11 rfl, rg_e_iinc_3 (cut := rg_cut [2, 11]) (f := false) d_E_layAll_117 rfl 120 rfl (nI 1) rg_ki_1, rg_e_goto (cut := rg_cut [2, 11]) (f := false) d_E_layAll_120 rfl 2 rfl, rg_e_cut (cut := rg_cut [2, 11]) 2 rfl, rg_e_cut (cut := rg_cut [2, 11]) 11 rfl, rg_nx_i, rg_nx_v, rg_wd_n, rg_wd_i, rg_wd_l, rg_wd_r, rg_clr_i, rg_clr_l, rg_clr_r, rg_clr_a, rg_clr_n, true_and, and_true, Nat.reduceAdd, Nat.reduceLeDiff, ↓Te_G_holds, ↓Te_R_lettersShared, rg_rt_e, rg_fit_ie, rg_fit_ve, rg_fit_1e, rg_fit_0e, rg_fit_be, zI_eq]
      refine ⟨fun _ => ?_, fun h => absurd (nI_le hj9 (by omega)) h⟩
      rw [nI_add]
      exact hout w1 _ _ hf h4 hc h5
  have outer : ∀ (i : Nat) (w1 : rg_W) (a4 a5 : Value), (i ≤ 9 ∧ rg_fr [4, 5] w w1 ∧ (∀ q, q ≠ 9 → w1.1 4 q = w.1 4 q) ∧ w1.1 4 9 = nI (cnF (hgC (hgN nr ln pk least')) (9 * i)) ∧ ∀ t, t < 9 * i → w1.1 5 t = nI (hgN nr ln pk least' (t / 9) (t % 9))) → Z 2 [.ref 4, .ref 1, .int (nI least'), .int (nI i), a4, a5] [] w1 0 := by
    refine rg_lp4 _ _ (fun i _ _ _ => 9 - i) ?_
    intro i w1 a4 a5 ⟨hi, hf, h4, hc, h5⟩ ih
    refine hZ (rg_cut [2, 11]) 400 2 _ _ _ ?_; simp only [rg_e_iload_3 (cut := rg_cut [2, 11]) (f := true) d_E_layAll_2 rfl 3 rfl, rg_e_bipush (cut := rg_cut [2, 11]) (f := false) d_E_layAll_3 rfl 5 rfl (nI 9) rg_kb_9, rg_e_icmp_ge (cut := rg_cut [2, 11]) (f := false) d_E_layAll_5 rfl 8 rfl 123 rfl, rg_e_iconst (cut := rg_cut [2, 11]) (f := false) d_E_layAll_8 rfl 9 rfl (nI 0) rg_ki_0, rg_e_istore_4 (cut := rg_cut [2, 11]) (f := false) d_E_layAll_9 rfl 11 rfl, rg_e_vret (cut := rg_cut [2, 11]) (f := false) d_E_layAll_123 rfl, rg_e_cut (cut := rg_cut [2, 11]) 2 rfl, rg_e_cut (cut := rg_cut [2, 11]) 11 rfl, rg_nx_i, rg_nx_v, rg_wd_n, rg_wd_i, rg_wd_l, rg_wd_r, rg_clr_i, rg_clr_l, rg_clr_r, rg_clr_a, rg_clr_n, true_and, and_true, Nat.reduceAdd, Nat.reduceLeDiff, ↓Te_G_holds, ↓Te_R_lettersShared, rg_rt_e, rg_fit_ie, rg_fit_ve, rg_fit_1e, rg_fit_0e, rg_fit_be]
    rw [nI_lep (by omega) (by omega)]
    refine ⟨fun h => ?_, fun h => ?_⟩
    · obtain rfl : i = 9 := by omega
      exact hK w1 hf h4 hc h5
    · exact inner i 0 w1 _ ⟨by omega, by omega, hf, h4, hc, h5⟩ (fun w2 a4 a5 g1 g2 g3 g4 => ih (i + 1) w2 a4 a5 ⟨by omega, g1, g2, g3, g4⟩ (by omega))
  refine hZ (rg_cut [2, 11]) 400 0 _ _ _ ?_; simp only [rg_e_iconst (cut := rg_cut [2, 11]) (f := true) d_E_layAll_0 rfl 1 rfl (nI 0) rg_ki_0, rg_e_istore_3 (cut := rg_cut [2, 11]) (f := false) d_E_layAll_1 rfl 2 rfl, rg_e_cut (cut := rg_cut [2, 11]) 2 rfl, rg_e_cut (cut := rg_cut [2, 11]) 11 rfl, rg_nx_i, rg_nx_v, rg_wd_n, rg_wd_i, rg_wd_l, rg_wd_r, rg_clr_i, rg_clr_l, rg_clr_r, rg_clr_a, rg_clr_n, true_and, and_true, Nat.reduceAdd, Nat.reduceLeDiff, ↓Te_G_holds, ↓Te_R_lettersShared, rg_rt_e, rg_fit_ie, rg_fit_ve, rg_fit_1e, rg_fit_0e, rg_fit_be]
  exact outer 0 w _ _ ⟨by omega, rg_fr_rf _ _, fun _ _ => rfl, h0, fun t ht => absurd ht (by omega)⟩
