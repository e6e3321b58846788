/-! the reference: find -/
set_option maxHeartbeats 1000000 in
-- M.find
def P_M_find : rg_P := (rg_F_M, [(227, 3, 0, T_M_isSafe), (245, 2, 0, T_M_keep)], [], [], [], [], 0)
def T_M_find : rg_T := fun as w K => match as with
  | [.ref 18] => ∃ ln hg, GM ln hg w ∧ w.1 18 17 = nI 0 ∧ (∀ R w', vL (vis hg 40) [] (chM hg [] 0) = some R → R.length ≤ 50 → MF w w' → KnM hg w' → AcM R w' → K (some (.int (nI 1))) w') ∧ (¬ (∃ R, vL (vis hg 40) [] (chM hg [] 0) = some R ∧ R.length ≤ 50) → ∀ w', MF w w' → KnM hg w' → K (some (.int (nI 0))) w')
  | _ => False
theorem Te_M_find  (w : rg_W) (K : Option Value → rg_W → Prop) : T_M_find [.ref 18] w K = (∃ ln hg, GM ln hg w ∧ w.1 18 17 = nI 0 ∧ (∀ R w', vL (vis hg 40) [] (chM hg [] 0) = some R → R.length ≤ 50 → MF w w' → KnM hg w' → AcM R w' → K (some (.int (nI 1))) w') ∧ (¬ (∃ R, vL (vis hg 40) [] (chM hg [] 0) = some R ∧ R.length ≤ 50) → ∀ w', MF w w' → KnM hg w' → K (some (.int (nI 0))) w')) := rfl
theorem r_M_find : ∀ as w K, T_M_find as w K → ∃ r, as = .ref 18 :: r := by
  intro as w K h
  unfold T_M_find at h
  split at h
  · exact ⟨_, rfl⟩
  · exact h.elim
theorem G_M_find (l : Launch) : rg_Good l y_M_find c_M_find 3 (some .boolean) 4 T_M_find := by
  refine rg_good_of (P := P_M_find) (by decide) (rg_pok rg_F_M_ok (rg_cons (cw_M_113 (G_M_isSafe l) (by decide) r_M_isSafe) (rg_cons (cw_M_122 (G_M_keep l) (by decide) r_M_keep) rg_nil))) ?_
  intro as w K Z hT hZ
  unfold T_M_find at hT
  split at hT
  rotate_left
  · exact hT.elim
  refine ⟨Nat.le_of_ble_eq_true rfl, ?_⟩
  show Z 0 [.ref 18, .null, .null] [] w 0
  obtain ⟨ln, hg, hG, h17, hK1, hK0⟩ := hT
  have h72 := eN_le hG.2.2.2
  have z1 : (zI true = 0) = False := by decide +kernel
  have z0 : (zI false = 0) = True := by decide +kernel
  have gm : ∀ {w1 : rg_W}, MF w w1 → KnM hg w1 → GM ln hg w1 := fun h k => hG.f h.1 (h.2 9 (by decide)) k
  have claim : ∀ (k : Nat) (t : List Nat), t.length + k = 40 → ChL hg t → SfL hg t → ∀ (d x : Nat), d = eN hg - x → ∀ (A : List (List Nat)) (w1 : rg_W) (a2 : Value), x ≤ eN hg → MF w w1 → KnM hg w1 → MT t w1 → w1.1 31 (t.length + 1) = nI x → AcM A w1 →
      (¬ (∃ R, vL (vis hg k) t (chM hg t x) = some R ∧ A.length + R.length ≤ 50) → ∀ w', MF w w' → KnM hg w' → K (some (.int (nI 0))) w') →
      (∀ R w', vL (vis hg k) t (chM hg t x) = some R → A.length + R.length ≤ 50 → MF w w' → KnM hg w' → AcM (A ++ R) w' → (∀ i, 1 ≤ i → i ≤ t.length → w'.1 30 i = w1.1 30 i ∧ w'.1 31 i = w1.1 31 i) → ∀ a2 : Value, Z 9 [.ref 18, .int (nI t.length), a2] [] w' 0) →
      Z 9 [.ref 18, .int (nI (t.length + 1)), a2] [] w1 0 := by
    intro k
    induction k using Nat.strongRecOn with
    | ind k ihk =>
    intro t hk hC hS d
    induction d with
    | zero =>
      intro x hd A w1 a2 hx hF hkn hM h31 hA hfail hok
      obtain rfl : x = eN hg := by omega
      have h9 := (gm hF hkn).1.1
      have p0 : (nI (t.length + 1) ≤ 0) = False := by rw [← nI_0, nI_lep (by omega) (by omega)]; exact eq_false (by omega)
      have v1 : vp_in (nI (t.length + 1)) 44 := vp_in_nI (by omega) (by omega)
      have c1 : (nI (t.length + 1)).toNatClampNeg = t.length + 1 := nI_clamp (by omega)
      have m1 : nI (t.length + 1) + (-1) = nI t.length := by rw [i_m1, pk_sub (by omega), Nat.add_sub_cancel]
      have hc : chM hg t (eN hg) = [] := by unfold chM; rw [Nat.sub_self]; rfl
      rw [hc] at hok
      refine hZ (rg_cut [9]) 400 9 _ _ _ ?_; simp only [rg_e_iload_1 (cut := rg_cut [9]) (f := true) d_M_find_9 rfl 10 rfl, rg_e_if_le (cut := rg_cut [9]) (f := false) d_M_find_10 rfl 13 rfl 127 rfl, rg_e_aload_0 (cut := rg_cut [9]) (f := false) d_M_find_13 rfl 14 rfl, rg_e_getr (P := P_M_find) (cut := rg_cut [9]) (f := false) d_M_find_14 rfl 17 rfl 18 4 16 31 rfl (fun _ => rfl), rg_e_iload_1 (cut := rg_cut [9]) (f := false) d_M_find_17 rfl 18 rfl, rg_e_iald (cut := rg_cut [9]) (f := false) d_M_find_18 rfl 19 rfl 31 44 rfl, rg_e_istore_2 (cut := rg_cut [9]) (f := false) d_M_find_19 rfl 20 rfl, rg_e_iload_2 (cut := rg_cut [9]) (f := false) d_M_find_20 rfl 21 rfl, rg_e_aload_0 (cut := rg_cut [9]) (f := false) d_M_find_21 rfl 22 rfl, rg_e_geti (P := P_M_find) (cut := rg_cut [9]) (f := false) d_M_find_22 rfl 25 rfl 18 4 9 rfl (fun _ => rfl), rg_e_icmp_ne (cut := rg_cut [9]) (f := false) d_M_find_25 rfl 28 rfl 34 rfl, rg_e_iinc_1 (cut := rg_cut [9]) (f := false) d_M_find_28 rfl 31 rfl (-1) rg_ki_m1, rg_e_goto (cut := rg_cut [9]) (f := false) d_M_find_31 rfl 9 rfl, rg_e_aload_0 (cut := rg_cut [9]) (f := false) d_M_find_34 rfl 35 rfl, rg_e_getr (P := P_M_find) (cut := rg_cut [9]) (f := false) d_M_find_35 rfl 38 rfl 18 4 16 31 rfl (fun _ => rfl), rg_e_iload_1 (cut := rg_cut [9]) (f := false) d_M_find_38 rfl 39 rfl, rg_e_iload_2 (cut := rg_cut [9]) (f := false) d_M_find_39 rfl 40 rfl, rg_e_iconst (cut := rg_cut [9]) (f := false) d_M_find_40 rfl 41 rfl (nI 1) rg_ki_1, rg_e_iadd (cut := rg_cut [9]) (f := false) d_M_find_41 rfl 42 rfl, rg_e_iast (cut := rg_cut [9]) (f := false) d_M_find_42 rfl 43 rfl 31 44 rfl, rg_e_aload_0 (cut := rg_cut [9]) (f := false) d_M_find_43 rfl 44 rfl, rg_e_getr (P := P_M_find) (cut := rg_cut [9]) (f := false) d_M_find_44 rfl 47 rfl 18 4 15 30 rfl (fun _ => rfl), rg_e_iload_1 (cut := rg_cut [9]) (f := false) d_M_find_47 rfl 48 rfl, rg_e_iload_2 (cut := rg_cut [9]) (f := false) d_M_find_48 rfl 49 rfl, rg_e_iast (cut := rg_cut [9]) (f := false) d_M_find_49 rfl 50 rfl 30 44 rfl, rg_e_iload_1 (cut := rg_cut [9]) (f := false) d_M_find_50 rfl 51 rfl, rg_e_iconst (cut := rg_cut [9]) (f := false) d_M_find_51 rfl 52 rfl (nI 1) rg_ki_1, rg_e_icmp_le (cut := rg_cut [9]) (f := false) d_M_find_52 rfl 55 rfl 77 rfl, rg_e_aload_0 (cut := rg_cut [9]) (f := false) d_M_find_55 rfl 56 rfl, rg_e_getr (P := P_M_find) (cut := rg_cut [9]) (f := false) d_M_find_56 rfl 59 rfl 18 4 10 25 rfl (fun _ => rfl), rg_e_iload_2 (cut := rg_cut [9]) (f := false) d_M_find_59 rfl 60 rfl, rg_e_iald (cut := rg_cut [9]) (f := false) d_M_find_60 rfl 61 rfl 25 81 rfl, rg_e_aload_0 (cut := rg_cut [9]) (f := false) d_M_find_61 rfl 62 rfl, rg_e_getr (P := P_M_find) (cut := rg_cut [9]) (f := false) d_M_find_62 rfl 65 rfl 18 4 11 26 rfl (fun _ => rfl), rg_e_aload_0 (cut := rg_cut [9]) (f := false) d_M_find_65 rfl 66 rfl, rg_e_getr (P := P_M_find) (cut := rg_cut [9]) (f := false) d_M_find_66 rfl 69 rfl 18 4 15 30 rfl (fun _ => rfl), rg_e_iload_1 (cut := rg_cut [9]) (f := false) d_M_find_69 rfl 70 rfl, rg_e_iconst (cut := rg_cut [9]) (f := false) d_M_find_70 rfl 71 rfl (nI 1) rg_ki_1, rg_e_isub (cut := rg_cut [9]) (f := false) d_M_find_71 rfl 72 rfl, rg_e_iald (cut := rg_cut [9]) (f := false) d_M_find_72 rfl 73 rfl 30 44 rfl, rg_e_iald (cut := rg_cut [9]) (f := false) d_M_find_73 rfl 74 rfl 26 81 rfl, rg_e_icmp_ne (cut := rg_cut [9]) (f := false) d_M_find_74 rfl 77 rfl 9 rfl, rg_e_aload_0 (cut := rg_cut [9]) (f := false) d_M_find_77 rfl 78 rfl, rg_e_iconst (cut := rg_cut [9]) (f := false) d_M_find_78 rfl 79 rfl (nI 1) rg_ki_1, rg_e_iload_1 (cut := rg_cut [9]) (f := false) d_M_find_79 rfl 80 rfl, rg_e_iconst (cut := rg_cut [9]) (f := false) d_M_find_80 rfl 81 rfl (nI 1) rg_ki_1, rg_e_iadd (cut := rg_cut [9]) (f := false) d_M_find_81 rfl 82 rfl, rg_e_cv3 (P := P_M_find) (cut := rg_cut [9]) (f := false) d_M_find_82 rfl T_M_isSafe rfl, rg_e_if_ne (cut := rg_cut [9]) (f := false) d_M_find_85 rfl 88 rfl 91 rfl, rg_e_goto (cut := rg_cut [9]) (f := false) d_M_find_88 rfl 9 rfl, rg_e_iload_1 (cut := rg_cut [9]) (f := false) d_M_find_91 rfl 92 rfl, rg_e_bipush (cut := rg_cut [9]) (f := false) d_M_find_92 rfl 94 rfl (nI 40) rg_kb_40, rg_e_icmp_gt (cut := rg_cut [9]) (f := false) d_M_find_94 rfl 97 rfl 105 rfl, rg_e_aload_0 (cut := rg_cut [9]) (f := false) d_M_find_97 rfl 98 rfl, rg_e_iload_1 (cut := rg_cut [9]) (f := false) d_M_find_98 rfl 99 rfl, rg_e_cv2 (P := P_M_find) (cut := rg_cut [9]) (f := false) d_M_find_99 rfl T_M_keep rfl, rg_e_if_ne (cut := rg_cut [9]) (f := false) d_M_find_102 rfl 105 rfl 107 rfl, rg_e_iconst (cut := rg_cut [9]) (f := false) d_M_find_105 rfl 106 rfl (nI 0) rg_ki_0, rg_e_iret (cut := rg_cut [9]) (f := false) d_M_find_106 rfl, rg_e_aload_0 (cut := rg_cut [9]) (f := false) d_M_find_107 rfl 108 rfl, rg_e_getr (P := P_M_find) (cut := rg_cut [9]) (f := false) d_M_find_108 rfl 111 rfl 18 4 15 30 rfl (fun _ => rfl), rg_e_iload_1 (cut := rg_cut [9]) (f := false) d_M_find_111 rfl 112 rfl, rg_e_iload_2 (cut := rg_cut [9]) (f := false) d_M_find_112 rfl 113 rfl, rg_e_iast (cut := rg_cut [9]) (f := false) d_M_find_113 rfl 114 rfl 30 44 rfl, rg_e_iinc_1 (cut := rg_cut [9]) (f := false) d_M_find_114 rfl 117 rfl (nI 1) rg_ki_1, rg_e_aload_0 (cut := rg_cut [9]) (f := false) d_M_find_117 rfl 118 rfl, rg_e_getr (P := P_M_find) (cut := rg_cut [9]) (f := false) d_M_find_118 rfl 121 rfl 18 4 16 31 rfl (fun _ => rfl), rg_e_iload_1 (cut := rg_cut [9]) (f := false) d_M_find_121 rfl 122 rfl, rg_e_iconst (cut := rg_cut [9]) (f := false) d_M_find_122 rfl 123 rfl (nI 0) rg_ki_0, rg_e_iast (cut := rg_cut [9]) (f := false) d_M_find_123 rfl 124 rfl 31 44 rfl, rg_e_goto (cut := rg_cut [9]) (f := false) d_M_find_124 rfl 9 rfl, rg_e_iconst (cut := rg_cut [9]) (f := false) d_M_find_127 rfl 128 rfl (nI 1) rg_ki_1, rg_e_iret (cut := rg_cut [9]) (f := false) d_M_find_128 rfl, rg_e_cut (cut := rg_cut [9]) 9 rfl, rg_nx_i, rg_nx_v, rg_wd_n, rg_wd_i, rg_wd_l, rg_wd_r, rg_clr_i, rg_clr_l, rg_clr_r, rg_clr_a, rg_clr_n, true_and, and_true, Nat.reduceAdd, Nat.reduceLeDiff, ↓Te_M_isSafe, ↓Te_M_keep, rg_rt_e, rg_fit_ie, rg_fit_ve, rg_fit_1e, rg_fit_0e, rg_fit_be, p0, v1, c1, h31, h9, m1, not_false_eq_true, forall_const, false_imp_iff, not_true_eq_false, and_true, true_and, eq_self_iff_true]
      exact hok [] w1 rfl (by have := hA.2.1; simpa using this) hF hkn (by rw [List.append_nil]; exact hA) (fun _ _ _ => ⟨rfl, rfl⟩) _
    | succ d ihd =>
      intro x hd
      have hx9 : x < eN hg := by omega
      have hd1 : d = eN hg - (x + 1) := by omega
      intro A w1 a2 hx hF hkn hM h31 hA hfail hok
      have hG1 := gm hF hkn
      have h9 := hG1.1.1
      have hl50 := hA.2.1
      have p0 : (nI (t.length + 1) ≤ 0) = False := by rw [← nI_0, nI_lep (by omega) (by omega)]; exact eq_false (by omega)
      have v1 : vp_in (nI (t.length + 1)) 44 := vp_in_nI (by omega) (by omega)
      have c1 : (nI (t.length + 1)).toNatClampNeg = t.length + 1 := nI_clamp (by omega)
      have pe : (nI x = nI (eN hg)) = False := by rw [nI_eqp (by omega) (by omega)]; exact eq_false (by omega)
      have p40 : (nI 40 < nI (t.length + 1)) = (40 < t.length + 1) := nI_ltp (by omega) (by omega)
      have v2 : vp_in (nI (t.length + 2)) 44 := vp_in_nI (by omega) (by omega)
      have c2 : (nI (t.length + 2)).toNatClampNeg = t.length + 2 := nI_clamp (by omega)
      have vx : vp_in (nI x) 81 := vp_in_nI (by omega) (by omega)
      have cx : (nI x).toNatClampNeg = x := nI_clamp (by omega)
      have lx := sr_lt hx9
      have ex := (hG1.1.2 x hx9).1
      -- the next one
      have next : ∀ (A2 : List (List Nat)) (w2 : rg_W) (R0 : List (List Nat)), MF w w2 → KnM hg w2 → w2.1 31 (t.length + 1) = nI (x + 1) → AcM A2 w2 → (∀ i, 1 ≤ i → i ≤ t.length → w2.1 30 i = w1.1 30 i ∧ w2.1 31 i = w1.1 31 i) → A2 = A ++ R0 → (∀ R, vL (vis hg k) t (chM hg t (x + 1)) = some R → vL (vis hg k) t (chM hg t x) = some (R0 ++ R)) → (vL (vis hg k) t (chM hg t (x + 1)) = none → vL (vis hg k) t (chM hg t x) = none) → ∀ a2 : Value, Z 9 [.ref 18, .int (nI (t.length + 1)), a2] [] w2 0 := by
        rintro A2 w2 R0 f1 f2 f3 f4 f5 rfl f6 f7 a2
        refine ihd (x + 1) hd1 _ w2 a2 hx9 f1 f2 (fun i hi => by rw [(f5 (i + 1) (by omega) (by omega)).1]; exact hM i hi) f3 f4 (fun hno => hfail ?_) (fun R w' g1 g2 g3 g4 g5 g6 a2 => hok (R0 ++ R) w' (f6 R g1) ?_ g3 g4 ?_ (fun i a b => ⟨(g6 i a b).1.trans (f5 i a b).1, (g6 i a b).2.trans (f5 i a b).2⟩) a2)
        · rintro ⟨R, q1, q2⟩
          cases hv : vL (vis hg k) t (chM hg t (x + 1)) with
          | none => rw [f7 hv] at q1; cases q1
          | some R' =>
            rw [f6 R' hv] at q1
            injection q1 with q1
            refine hno ⟨R', hv, ?_⟩
            rw [← q1] at q2
            simp only [List.length_append] at q2 ⊢
            omega
        · simp only [List.length_append] at g2 ⊢
          omega
        · rw [← List.append_assoc]; exact g5
      -- not this one
      have skip : okM hg t x = false → ∀ (w2 : rg_W), MF w w2 → KnM hg w2 → w2.1 31 (t.length + 1) = nI (x + 1) → AcM A w2 → (∀ i, 1 ≤ i → i ≤ t.length → w2.1 30 i = w1.1 30 i ∧ w2.1 31 i = w1.1 31 i) → ∀ a2 : Value, Z 9 [.ref 18, .int (nI (t.length + 1)), a2] [] w2 0 := by
        intro h w2 f1 f2 f3 f4 f5 a2
        refine next A w2 [] f1 f2 f3 f4 f5 (List.append_nil _).symm (fun R g => ?_) (fun g => ?_) a2
        · rw [chM_f hx9 h]; exact g
        · rw [chM_f hx9 h]; exact g
      have W2 : ∃ w2, w2 = rg_up (rg_up w1 31 (t.length + 1) (nI (x + 1))) 30 (t.length + 1) (nI x) := ⟨_, rfl⟩
      obtain ⟨w2, hw2⟩ := W2
      have F2 : MF w1 w2 := by
        rw [hw2]
        exact ⟨rg_fr_up (rg_fr_up (rg_fr_rf _ _) (by decide) _ _) (by decide) _ _, fun q _ => by rw [rg_up_n (by decide), rg_up_n (by decide)]⟩
      have K2 : KnM hg w2 := hkn.fr (by rw [hw2, rg_up_n (by decide), rg_up_n (by decide)])
      have T2 : w2.1 31 (t.length + 1) = nI (x + 1) := by rw [hw2, rg_up_n (by decide), rg_up_ss]
      have A2 : AcM A w2 := hA.fr (by rw [hw2, rg_up_n (by decide), rg_up_n (by decide)]) (by rw [hw2, rg_up_n (by decide), rg_up_n (by decide)]) (by rw [hw2, rg_up_n (by decide), rg_up_n (by decide)])
      have S2 : ∀ i, 1 ≤ i → i ≤ t.length → w2.1 30 i = w1.1 30 i ∧ w2.1 31 i = w1.1 31 i := fun i a b => by
        rw [hw2]
        refine ⟨?_, ?_⟩
        · rw [rg_up_s, upd_n (by omega), rg_up_n (by decide)]
        · rw [rg_up_n (by decide), rg_up_s, upd_n (by omega)]
      have P2 : w2.1 30 (t.length + 1) = nI x := by rw [hw2, rg_up_ss]
      -- it leads on: is the trail safe with it
      have go : (t = [] ∨ sr hg x = ds hg (lst t)) → Z 77 [.ref 18, .int (nI (t.length + 1)), .int (nI x)] [] w2 0 := by
        intro hs
        have hC2 := Ch_app hC hx9 hs
        have hl2 : (t ++ [x]).length = t.length + 1 := by simp
        have hok2 : okM hg t x = sfB hg t x := by
          unfold okM okB
          rcases hs with hs | hs
          · subst hs; rfl
          · rw [decide_eq_true hs, Bool.true_and]
            by_cases ht : t = []
            · subst ht; rfl
            · rw [decide_eq_false ht, Bool.false_or]
        have hfin : ∀ (w3 : rg_W), KpR hg (t ++ [x]) w2 w3 → KpR hg (t ++ [x]) w2 (rg_up w3 30 (t.length + 1) (nI x)) := fun w3 h => by
          refine ⟨rg_fr_up h.1 (by decide) _ _, fun q hq => by rw [rg_up_n (by decide)]; exact h.2.1 q hq, fun i a b => ?_, h.2.2.2.fr (rg_up_n (by decide))⟩
          rw [rg_up_s]
          by_cases e : i = t.length + 1
          · subst e; rw [upd_s]; exact P2.symm
          · rw [upd_n e]; exact h.2.2.1 i a b
        refine hZ (rg_cut [9]) 400 77 _ _ _ ?_; simp only [rg_e_aload_0 (cut := rg_cut [9]) (f := true) d_M_find_77 rfl 78 rfl, rg_e_iconst (cut := rg_cut [9]) (f := false) d_M_find_78 rfl 79 rfl (nI 1) rg_ki_1, rg_e_iload_1 (cut := rg_cut [9]) (f := false) d_M_find_79 rfl 80 rfl, rg_e_iconst (cut := rg_cut [9]) (f := false) d_M_find_80 rfl 81 rfl (nI 1) rg_ki_1, rg_e_iadd (cut := rg_cut [9]) (f := false) d_M_find_81 rfl 82 rfl, rg_e_cv3 (P := P_M_find) (cut := rg_cut [9]) (f := false) d_M_find_82 rfl T_M_isSafe rfl, rg_e_if_ne (cut := rg_cut [9]) (f := false) d_M_find_85 rfl 88 rfl 91 rfl, rg_e_goto (cut := rg_cut [9]) (f := false) d_M_find_88 rfl 9 rfl, rg_e_iload_1 (cut := rg_cut [9]) (f := false) d_M_find_91 rfl 92 rfl, rg_e_bipush (cut := rg_cut [9]) (f := false) d_M_find_92 rfl 94 rfl (nI 40) rg_kb_40, rg_e_icmp_gt (cut := rg_cut [9]) (f := false) d_M_find_94 rfl 97 rfl 105 rfl, rg_e_aload_0 (cut := rg_cut [9]) (f := false) d_M_find_97 rfl 98 rfl, rg_e_iload_1 (cut := rg_cut [9]) (f := false) d_M_find_98 rfl 99 rfl, rg_e_cv2 (P := P_M_find) (cut := rg_cut [9]) (f := false) d_M_find_99 rfl T_M_keep rfl, rg_e_if_ne (cut := rg_cut [9]) (f := false) d_M_find_102 rfl 105 rfl 107 rfl, rg_e_iconst (cut := rg_cut [9]) (f := false) d_M_find_105 rfl 106 rfl (nI 0) rg_ki_0, rg_e_iret (cut := rg_cut [9]) (f := false) d_M_find_106 rfl, rg_e_aload_0 (cut := rg_cut [9]) (f := false) d_M_find_107 rfl 108 rfl, rg_e_getr (P := P_M_find) (cut := rg_cut [9]) (f := false) d_M_find_108 rfl 111 rfl 18 4 15 30 rfl (fun _ => rfl), rg_e_iload_1 (cut := rg_cut [9]) (f := false) d_M_find_111 rfl 112 rfl, rg_e_iload_2 (cut := rg_cut [9]) (f := false) d_M_find_112 rfl 113 rfl, rg_e_iast (cut := rg_cut [9]) (f := false) d_M_find_113 rfl 114 rfl 30 44 rfl, rg_e_iinc_1 (cut := rg_cut [9]) (f := false) d_M_find_114 rfl 117 rfl (nI 1) rg_ki_1, rg_e_aload_0 (cut := rg_cut [9]) (f := false) d_M_find_117 rfl 118 rfl, rg_e_getr (P := P_M_find) (cut := rg_cut [9]) (f := false) d_M_find_118 rfl 121 rfl 18 4 16 31 rfl (fun _ => rfl), rg_e_iload_1 (cut := rg_cut [9]) (f := false) d_M_find_121 rfl 122 rfl, rg_e_iconst (cut := rg_cut [9]) (f := false) d_M_find_122 rfl 123 rfl (nI 0) rg_ki_0, rg_e_iast (cut := rg_cut [9]) (f := false) d_M_find_123 rfl 124 rfl 31 44 rfl, rg_e_goto (cut := rg_cut [9]) (f := false) d_M_find_124 rfl 9 rfl, rg_e_cut (cut := rg_cut [9]) 9 rfl, rg_nx_i, rg_nx_v, rg_wd_n, rg_wd_i, rg_wd_l, rg_wd_r, rg_clr_i, rg_clr_l, rg_clr_r, rg_clr_a, rg_clr_n, true_and, and_true, Nat.reduceAdd, Nat.reduceLeDiff, ↓Te_M_isSafe, ↓Te_M_keep, rg_rt_e, rg_fit_ie, rg_fit_ve, rg_fit_1e, rg_fit_0e, rg_fit_be, nI_add, p40, v1, c1, v2, c2, zI_eq]
        refine ⟨ln, hg, 1, t.length + 2, fun i => (t ++ [x]).getD (i - 1) 0, gm (hF.tr F2) K2, rfl, rfl, by omega, by omega, by omega, fun i h1 h2 => ⟨?_, hC2.1 _ (gD_mem (by omega))⟩, fun w3 f1 f2 => ?_⟩
        · show _ = nI ((t ++ [x]).getD (i - 1) 0)
          by_cases ei : i = t.length + 1
          · subst ei
            rw [P2, Nat.add_sub_cancel, getD_e]
          · rw [(S2 i h1 (by omega)).1, getD_l (by omega)]
            have := hM (i - 1) (by omega)
            rwa [show i - 1 + 1 = i by omega] at this
        have key : sfR hg (fun i => (t ++ [x]).getD (i - 1) 0) 1 (t.length + 2) = sfB hg t x := by
          have := sf_1 hC2
          rw [hl2] at this
          rw [Bool.eq_iff_iff]
          exact this.trans (Sf_app hS)
        rw [key]
        have F3 : MF w2 w3 := ⟨rg_fr_sub f1 (by decide), fun q _ => by rw [f1.1 18 (by decide)]⟩
        have T3 : w3.1 31 (t.length + 1) = nI (x + 1) := by rw [f1.1 31 (by decide)]; exact T2
        have A3 : AcM A w3 := A2.fr (by rw [f1.1 18 (by decide)]) (f1.1 32 (by decide)) (f1.1 33 (by decide))
        have S3 : ∀ i, 1 ≤ i → i ≤ t.length → w3.1 30 i = w1.1 30 i ∧ w3.1 31 i = w1.1 31 i := fun i a b => by rw [f1.1 30 (by decide), f1.1 31 (by decide)]; exact S2 i a b
        have M3 : MT (t ++ [x]) w3 := fun i hi => by
          rw [hl2] at hi
          rw [f1.1 30 (by decide)]
          by_cases ei : i = t.length
          · subst ei; rw [P2, getD_e]
          · rw [(S2 (i + 1) (by omega) (by omega)).1, getD_l (by omega)]
            exact hM i (by omega)
        have F13 : MF w w3 := hF.tr (F2.tr F3)
        have n0 : (nI 0 = 0) = True := by decide +kernel
        have n1 : (nI 1 = 0) = False := by decide +kernel
        refine ⟨fun h => ⟨fun h40 => ?_, fun h40 => ?_⟩, fun h => skip (by rw [hok2]; exact Classical.not_not.mp h) w3 F13 f2 T3 A3 S3 _⟩
        · have h : sfB hg t x = true := by rw [← Bool.not_eq_false]; exact h
          obtain rfl : k = 0 := by omega
          refine hfail ?_ w3 F13 f2
          rintro ⟨R, q1, q2⟩
          rw [chM_t hx9 (by rw [hok2]; exact h), vL_cons, vis] at q1
          cases q1
        · have h : sfB hg t x = true := by rw [← Bool.not_eq_false]; exact h
          have hS2 : SfL hg (t ++ [x]) := (Sf_app hS).mpr h
          obtain ⟨k', rfl⟩ : ∃ k', k = k' + 1 := ⟨k - 1, by omega⟩
          have hch := chM_t hx9 (show okM hg t x = true by rw [hok2]; exact h)
          have hne : t ++ [x] ≠ [] := by simp
          have hvc : ∀ R, vL (vis hg (k' + 1)) t (chM hg t x) = some R ↔ ∃ R1 R2, vL (vis hg k') (t ++ [x]) (chM hg (t ++ [x]) 0) = some R1 ∧ vL (vis hg (k' + 1)) t (chM hg t (x + 1)) = some R2 ∧ R = (own hg (t ++ [x]) ++ R1) ++ R2 := fun R => by
            rw [hch, vL_cons, vis_own, chM_0 hne]
            cases vL (vis hg k') (t ++ [x]) (cs_ hg (t ++ [x]) 0) with
            | none => simp
            | some a =>
              cases vL (vis hg (k' + 1)) t (chM hg t (x + 1)) with
              | none => simp
              | some b =>
                simp only [Option.map_some, Option.some.injEq]
                constructor
                · intro e; exact ⟨a, b, rfl, rfl, e.symm⟩
                · rintro ⟨R1, R2, rfl, rfl, rfl⟩; rfl
          rw [n0, n1]
          refine ⟨ln, hg, t ++ [x], A, gm F13 f2, by rw [hl2], by omega, by omega, M3, hC2, hS2, A3, fun hle w4 q1 q2 => ⟨fun _ => ?_, fun z => absurd not_false z⟩, fun hle w4 q1 => ⟨fun z => absurd trivial z, fun _ => hfail ?_ w4 (F13.tr (MF.kp q1)) q1.2.2.2⟩⟩
          · generalize hw5 : rg_up (rg_up w4 30 (t.length + 1) (nI x)) 31 (t.length + 2) (nI 0) = w5
            have F45 : MF w4 w5 := by
              rw [← hw5]
              exact ⟨rg_fr_up (rg_fr_up (rg_fr_rf _ _) (by decide) _ _) (by decide) _ _, fun q _ => by rw [rg_up_n (by decide), rg_up_n (by decide)]⟩
            have K5 : KnM hg w5 := q1.2.2.2.fr (by rw [← hw5, rg_up_n (by decide), rg_up_n (by decide)])
            have e30 : ∀ i, 1 ≤ i → i ≤ t.length + 1 → w5.1 30 i = w3.1 30 i := fun i a b => by
              have := q1.2.2.1 i a (by omega)
              rw [← hw5, rg_up_n (by decide), rg_up_s]
              by_cases e : i = t.length + 1
              · subst e
                rw [upd_s]
                have := M3 t.length (by omega)
                rw [getD_e] at this
                exact this.symm
              · rw [upd_n e]; exact this
            have e31 : ∀ i, i ≤ t.length + 1 → w5.1 31 i = w3.1 31 i := fun i b => by
              rw [← hw5, rg_up_s, upd_n (by omega), rg_up_n (by decide), q1.1.1 31 (by decide)]
            have A5 : AcM (A ++ own hg (t ++ [x])) w5 := q2.fr (by rw [← hw5, rg_up_n (by decide), rg_up_n (by decide)]) (by rw [← hw5, rg_up_n (by decide), rg_up_n (by decide)]) (by rw [← hw5, rg_up_n (by decide), rg_up_n (by decide)])
            have := ihk k' (by omega) (t ++ [x]) (by omega) hC2 hS2 (eN hg) 0 (by omega) (A ++ own hg (t ++ [x])) w5 (.int (nI x)) (by omega) (F13.tr ((MF.kp q1).tr F45)) K5 (fun i hi => by rw [e30 (i + 1) (by omega) (by omega)]; exact M3 i hi) (by rw [hl2, ← hw5, rg_up_ss]) A5 (fun hno => hfail ?_) (fun R1 w6 g1 g2 g3 g4 g5 g6 a2 => ?_)
            · rw [hl2] at this
              exact this
            · rintro ⟨R, r1, r2⟩
              obtain ⟨R1, R2, r3, r4, rfl⟩ := (hvc R).mp r1
              refine hno ⟨R1, r3, ?_⟩
              simp only [List.length_append] at r2 ⊢
              omega
            · rw [hl2]
              rw [hl2] at g6
              refine next (A ++ (own hg (t ++ [x]) ++ R1)) w6 (own hg (t ++ [x]) ++ R1) g3 g4 ?_ (by rw [← List.append_assoc]; exact g5) (fun i a b => ⟨?_, ?_⟩) rfl (fun R2 r2 => (hvc _).mpr ⟨R1, R2, g1, r2, rfl⟩) (fun r2 => ?_) a2
              · rw [(g6 (t.length + 1) (by omega) (by omega)).2, e31 _ (by omega)]
                exact T3
              · rw [(g6 i a (by omega)).1, e30 i a (by omega)]
                exact (S3 i a b).1
              · rw [(g6 i a (by omega)).2, e31 i (by omega)]
                exact (S3 i a b).2
              · cases hv : vL (vis hg (k' + 1)) t (chM hg t x) with
                | none => rfl
                | some R =>
                  obtain ⟨_, _, _, r4, _⟩ := (hvc R).mp hv
                  rw [r2] at r4
                  cases r4
          · rintro ⟨R, r1, r2⟩
            obtain ⟨R1, R2, r3, r4, rfl⟩ := (hvc R).mp r1
            refine hle ?_
            simp only [List.length_append] at r2 ⊢
            omega
      by_cases ht : t = []
      · have p1 : (nI (t.length + 1) ≤ nI 1) = True := by subst ht; decide +kernel
        refine hZ (rg_cut [9, 77]) 400 9 _ _ _ ?_; simp only [rg_e_iload_1 (cut := rg_cut [9, 77]) (f := true) d_M_find_9 rfl 10 rfl, rg_e_if_le (cut := rg_cut [9, 77]) (f := false) d_M_find_10 rfl 13 rfl 127 rfl, rg_e_aload_0 (cut := rg_cut [9, 77]) (f := false) d_M_find_13 rfl 14 rfl, rg_e_getr (P := P_M_find) (cut := rg_cut [9, 77]) (f := false) d_M_find_14 rfl 17 rfl 18 4 16 31 rfl (fun _ => rfl), rg_e_iload_1 (cut := rg_cut [9, 77]) (f := false) d_M_find_17 rfl 18 rfl, rg_e_iald (cut := rg_cut [9, 77]) (f := false) d_M_find_18 rfl 19 rfl 31 44 rfl, rg_e_istore_2 (cut := rg_cut [9, 77]) (f := false) d_M_find_19 rfl 20 rfl, rg_e_iload_2 (cut := rg_cut [9, 77]) (f := false) d_M_find_20 rfl 21 rfl, rg_e_aload_0 (cut := rg_cut [9, 77]) (f := false) d_M_find_21 rfl 22 rfl, rg_e_geti (P := P_M_find) (cut := rg_cut [9, 77]) (f := false) d_M_find_22 rfl 25 rfl 18 4 9 rfl (fun _ => rfl), rg_e_icmp_ne (cut := rg_cut [9, 77]) (f := false) d_M_find_25 rfl 28 rfl 34 rfl, rg_e_iinc_1 (cut := rg_cut [9, 77]) (f := false) d_M_find_28 rfl 31 rfl (-1) rg_ki_m1, rg_e_goto (cut := rg_cut [9, 77]) (f := false) d_M_find_31 rfl 9 rfl, rg_e_aload_0 (cut := rg_cut [9, 77]) (f := false) d_M_find_34 rfl 35 rfl, rg_e_getr (P := P_M_find) (cut := rg_cut [9, 77]) (f := false) d_M_find_35 rfl 38 rfl 18 4 16 31 rfl (fun _ => rfl), rg_e_iload_1 (cut := rg_cut [9, 77]) (f := false) d_M_find_38 rfl 39 rfl, rg_e_iload_2 (cut := rg_cut [9, 77]) (f := false) d_M_find_39 rfl 40 rfl, rg_e_iconst (cut := rg_cut [9, 77]) (f := false) d_M_find_40 rfl 41 rfl (nI 1) rg_ki_1, rg_e_iadd (cut := rg_cut [9, 77]) (f := false) d_M_find_41 rfl 42 rfl, rg_e_iast (cut := rg_cut [9, 77]) (f := false) d_M_find_42 rfl 43 rfl 31 44 rfl, rg_e_aload_0 (cut := rg_cut [9, 77]) (f := false) d_M_find_43 rfl 44 rfl, rg_e_getr (P := P_M_find) (cut := rg_cut [9, 77]) (f := false) d_M_find_44 rfl 47 rfl 18 4 15 30 rfl (fun _ => rfl), rg_e_iload_1 (cut := rg_cut [9, 77]) (f := false) d_M_find_47 rfl 48 rfl, rg_e_iload_2 (cut := rg_cut [9, 77]) (f := false) d_M_find_48 rfl 49 rfl, rg_e_iast (cut := rg_cut [9, 77]) (f := false) d_M_find_49 rfl 50 rfl 30 44 rfl, rg_e_iload_1 (cut := rg_cut [9, 77]) (f := false) d_M_find_50 rfl 51 rfl, rg_e_iconst (cut := rg_cut [9, 77]) (f := false) d_M_find_51 rfl 52 rfl (nI 1) rg_ki_1, rg_e_icmp_le (cut := rg_cut [9, 77]) (f := false) d_M_find_52 rfl 55 rfl 77 rfl, rg_e_aload_0 (cut := rg_cut [9, 77]) (f := false) d_M_find_55 rfl 56 rfl, rg_e_getr (P := P_M_find) (cut := rg_cut [9, 77]) (f := false) d_M_find_56 rfl 59 rfl 18 4 10 25 rfl (fun _ => rfl), rg_e_iload_2 (cut := rg_cut [9, 77]) (f := false) d_M_find_59 rfl 60 rfl, rg_e_iald (cut := rg_cut [9, 77]) (f := false) d_M_find_60 rfl 61 rfl 25 81 rfl, rg_e_aload_0 (cut := rg_cut [9, 77]) (f := false) d_M_find_61 rfl 62 rfl, rg_e_getr (P := P_M_find) (cut := rg_cut [9, 77]) (f := false) d_M_find_62 rfl 65 rfl 18 4 11 26 rfl (fun _ => rfl), rg_e_aload_0 (cut := rg_cut [9, 77]) (f := false) d_M_find_65 rfl 66 rfl, rg_e_getr (P := P_M_find) (cut := rg_cut [9, 77]) (f := false) d_M_find_66 rfl 69 rfl 18 4 15 30 rfl (fun _ => rfl), rg_e_iload_1 (cut := rg_cut [9, 77]) (f := false) d_M_find_69 rfl 70 rfl, rg_e_iconst (cut := rg_cut [9, 77]) (f := false) d_M_find_70 rfl 71 rfl (nI 1) rg_ki_1, rg_e_isub (cut := rg_cut [9, 77]) (f := false) d_M_find_71 rfl 72 rfl, rg_e_iald (cut := rg_cut [9, 77]) (f := false) d_M_find_72 rfl 73 rfl 30 44 rfl, rg_e_iald (cut := rg_cut [9, 77]) (f := false) d_M_find_73 rfl 74 rfl 26 81 rfl, rg_e_icmp_ne (cut := rg_cut [9, 77]) (f := false) d_M_find_74 rfl 77 rfl 9 rfl, rg_e_iconst (cut := rg_cut [9, 77]) (f := false) d_M_find_127 rfl 128 rfl (nI 1) rg_ki_1, rg_e_iret (cut := rg_cut [9, 77]) (f := false) d_M_find_128 rfl, rg_e_cut (cut := rg_cut [9, 77]) 9 rfl, rg_e_cut (cut := rg_cut [9, 77]) 77 rfl, rg_nx_i, rg_nx_v, rg_wd_n, rg_wd_i, rg_wd_l, rg_wd_r, rg_clr_i, rg_clr_l, rg_clr_r, rg_clr_a, rg_clr_n, true_and, and_true, Nat.reduceAdd, Nat.reduceLeDiff, ↓Te_M_isSafe, ↓Te_M_keep, rg_rt_e, rg_fit_ie, rg_fit_ve, rg_fit_1e, rg_fit_0e, rg_fit_be, p0, p1, v1, c1, h31, h9, pe, nI_add, not_false_eq_true, forall_const, false_imp_iff, not_true_eq_false, and_true, true_and, rg_up_n, ne_eq, Nat.reduceEqDiff]
        rw [← hw2]
        exact go (Or.inl ht)
      · have htl : 0 < t.length := List.length_pos_iff.mpr ht
        have hle : lst t < eN hg := hC.1 _ (gD_mem (by omega))
        have ll := sr_lt hle
        have p1 : (nI (t.length + 1) ≤ nI 1) = False := by rw [nI_lep (by omega) (by omega)]; exact eq_false (by omega)
        have s1 : nI (t.length + 1) - nI 1 = nI t.length := by rw [pk_sub (by omega), Nat.add_sub_cancel]
        have v3 : vp_in (nI t.length) 44 := vp_in_nI (by omega) (by omega)
        have c3 : (nI t.length).toNatClampNeg = t.length := nI_clamp (by omega)
        have v4 : vp_in (nI (lst t)) 81 := vp_in_nI (by omega) (by omega)
        have c4 : (nI (lst t)).toNatClampNeg = lst t := nI_clamp (by omega)
        have e2 := (hG1.1.2 (lst t) hle).2.1
        have e3 : (rg_up (rg_up w1 31 (t.length + 1) (nI (x + 1))) 30 (t.length + 1) (nI x)).1 30 t.length = nI (lst t) := by
          rw [← hw2, (S2 t.length (by omega) (by omega)).1]
          have := hM (t.length - 1) (by omega)
          rwa [show t.length - 1 + 1 = t.length by omega] at this
        have p2 : (nI (sr hg x) = nI (ds hg (lst t))) = (sr hg x = ds hg (lst t)) := nI_eqp (by omega) (by omega)
        refine hZ (rg_cut [9, 77]) 400 9 _ _ _ ?_; simp only [rg_e_iload_1 (cut := rg_cut [9, 77]) (f := true) d_M_find_9 rfl 10 rfl, rg_e_if_le (cut := rg_cut [9, 77]) (f := false) d_M_find_10 rfl 13 rfl 127 rfl, rg_e_aload_0 (cut := rg_cut [9, 77]) (f := false) d_M_find_13 rfl 14 rfl, rg_e_getr (P := P_M_find) (cut := rg_cut [9, 77]) (f := false) d_M_find_14 rfl 17 rfl 18 4 16 31 rfl (fun _ => rfl), rg_e_iload_1 (cut := rg_cut [9, 77]) (f := false) d_M_find_17 rfl 18 rfl, rg_e_iald (cut := rg_cut [9, 77]) (f := false) d_M_find_18 rfl 19 rfl 31 44 rfl, rg_e_istore_2 (cut := rg_cut [9, 77]) (f := false) d_M_find_19 rfl 20 rfl, rg_e_iload_2 (cut := rg_cut [9, 77]) (f := false) d_M_find_20 rfl 21 rfl, rg_e_aload_0 (cut := rg_cut [9, 77]) (f := false) d_M_find_21 rfl 22 rfl, rg_e_geti (P := P_M_find) (cut := rg_cut [9, 77]) (f := false) d_M_find_22 rfl 25 rfl 18 4 9 rfl (fun _ => rfl), rg_e_icmp_ne (cut := rg_cut [9, 77]) (f := false) d_M_find_25 rfl 28 rfl 34 rfl, rg_e_iinc_1 (cut := rg_cut [9, 77]) (f := false) d_M_find_28 rfl 31 rfl (-1) rg_ki_m1, rg_e_goto (cut := rg_cut [9, 77]) (f := false) d_M_find_31 rfl 9 rfl, rg_e_aload_0 (cut := rg_cut [9, 77]) (f := false) d_M_find_34 rfl 35 rfl, rg_e_getr (P := P_M_find) (cut := rg_cut [9, 77]) (f := false) d_M_find_35 rfl 38 rfl 18 4 16 31 rfl (fun _ => rfl), rg_e_iload_1 (cut := rg_cut [9, 77]) (f := false) d_M_find_38 rfl 39 rfl, rg_e_iload_2 (cut := rg_cut [9, 77]) (f := false) d_M_find_39 rfl 40 rfl, rg_e_iconst (cut := rg_cut [9, 77]) (f := false) d_M_find_40 rfl 41 rfl (nI 1) rg_ki_1, rg_e_iadd (cut := rg_cut [9, 77]) (f := false) d_M_find_41 rfl 42 rfl, rg_e_iast (cut := rg_cut [9, 77]) (f := false) d_M_find_42 rfl 43 rfl 31 44 rfl, rg_e_aload_0 (cut := rg_cut [9, 77]) (f := false) d_M_find_43 rfl 44 rfl, rg_e_getr (P := P_M_find) (cut := rg_cut [9, 77]) (f := false) d_M_find_44 rfl 47 rfl 18 4 15 30 rfl (fun _ => rfl), rg_e_iload_1 (cut := rg_cut [9, 77]) (f := false) d_M_find_47 rfl 48 rfl, rg_e_iload_2 (cut := rg_cut [9, 77]) (f := false) d_M_find_48 rfl 49 rfl, rg_e_iast (cut := rg_cut [9, 77]) (f := false) d_M_find_49 rfl 50 rfl 30 44 rfl, rg_e_iload_1 (cut := rg_cut [9, 77]) (f := false) d_M_find_50 rfl 51 rfl, rg_e_iconst (cut := rg_cut [9, 77]) (f := false) d_M_find_51 rfl 52 rfl (nI 1) rg_ki_1, rg_e_icmp_le (cut := rg_cut [9, 77]) (f := false) d_M_find_52 rfl 55 rfl 77 rfl, rg_e_aload_0 (cut := rg_cut [9, 77]) (f := false) d_M_find_55 rfl 56 rfl, rg_e_getr (P := P_M_find) (cut := rg_cut [9, 77]) (f := false) d_M_find_56 rfl 59 rfl 18 4 10 25 rfl (fun _ => rfl), rg_e_iload_2 (cut := rg_cut [9, 77]) (f := false) d_M_find_59 rfl 60 rfl, rg_e_iald (cut := rg_cut [9, 77]) (f := false) d_M_find_60 rfl 61 rfl 25 81 rfl, rg_e_aload_0 (cut := rg_cut [9, 77]) (f := false) d_M_find_61 rfl 62 rfl, rg_e_getr (P := P_M_find) (cut := rg_cut [9, 77]) (f := false) d_M_find_62 rfl 65 rfl 18 4 11 26 rfl (fun _ => rfl), rg_e_aload_0 (cut := rg_cut [9, 77]) (f := false) d_M_find_65 rfl 66 rfl, rg_e_getr (P := P_M_find) (cut := rg_cut [9, 77]) (f := false) d_M_find_66 rfl 69 rfl 18 4 15 30 rfl (fun _ => rfl), rg_e_iload_1 (cut := rg_cut [9, 77]) (f := false) d_M_find_69 rfl 70 rfl, rg_e_iconst (cut := rg_cut [9, 77]) (f := false) d_M_find_70 rfl 71 rfl (nI 1) rg_ki_1, rg_e_isub (cut := rg_cut [9, 77]) (f := false) d_M_find_71 rfl 72 rfl, rg_e_iald (cut := rg_cut [9, 77]) (f := false) d_M_find_72 rfl 73 rfl 30 44 rfl, rg_e_iald (cut := rg_cut [9, 77]) (f := false) d_M_find_73 rfl 74 rfl 26 81 rfl, rg_e_icmp_ne (cut := rg_cut [9, 77]) (f := false) d_M_find_74 rfl 77 rfl 9 rfl, rg_e_iconst (cut := rg_cut [9, 77]) (f := false) d_M_find_127 rfl 128 rfl (nI 1) rg_ki_1, rg_e_iret (cut := rg_cut [9, 77]) (f := false) d_M_find_128 rfl, rg_e_cut (cut := rg_cut [9, 77]) 9 rfl, rg_e_cut (cut := rg_cut [9, 77]) 77 rfl, rg_nx_i, rg_nx_v, rg_wd_n, rg_wd_i, rg_wd_l, rg_wd_r, rg_clr_i, rg_clr_l, rg_clr_r, rg_clr_a, rg_clr_n, true_and, and_true, Nat.reduceAdd, Nat.reduceLeDiff, ↓Te_M_isSafe, ↓Te_M_keep, rg_rt_e, rg_fit_ie, rg_fit_ve, rg_fit_1e, rg_fit_0e, rg_fit_be, p0, p1, v1, c1, h31, h9, pe, nI_add, s1, v3, c3, v4, c4, vx, cx, ex, e2, e3, p2, not_false_eq_true, forall_const, false_imp_iff, not_true_eq_false, and_true, true_and, rg_up_n, ne_eq, Nat.reduceEqDiff]
        rw [← hw2]
        refine ⟨fun h => skip ?_ w2 (hF.tr F2) K2 T2 A2 S2 _, fun h => go (Or.inr (Classical.not_not.mp h))⟩
        unfold okM okB
        rw [decide_eq_false ht, decide_eq_false h]
        rfl
  have v1 : vp_in (nI 1) 44 := vp_in_nI (by omega) (by omega)
  have c1 : (nI 1).toNatClampNeg = 1 := nI_clamp (by omega)
  refine hZ (rg_cut [9]) 400 0 _ _ _ ?_; simp only [rg_e_iconst (cut := rg_cut [9]) (f := true) d_M_find_0 rfl 1 rfl (nI 1) rg_ki_1, rg_e_istore_1 (cut := rg_cut [9]) (f := false) d_M_find_1 rfl 2 rfl, rg_e_aload_0 (cut := rg_cut [9]) (f := false) d_M_find_2 rfl 3 rfl, rg_e_getr (P := P_M_find) (cut := rg_cut [9]) (f := false) d_M_find_3 rfl 6 rfl 18 4 16 31 rfl (fun _ => rfl), rg_e_iconst (cut := rg_cut [9]) (f := false) d_M_find_6 rfl 7 rfl (nI 1) rg_ki_1, rg_e_iconst (cut := rg_cut [9]) (f := false) d_M_find_7 rfl 8 rfl (nI 0) rg_ki_0, rg_e_iast (cut := rg_cut [9]) (f := false) d_M_find_8 rfl 9 rfl 31 44 rfl, rg_e_cut (cut := rg_cut [9]) 9 rfl, rg_nx_i, rg_nx_v, rg_wd_n, rg_wd_i, rg_wd_l, rg_wd_r, rg_clr_i, rg_clr_l, rg_clr_r, rg_clr_a, rg_clr_n, true_and, and_true, Nat.reduceAdd, Nat.reduceLeDiff, ↓Te_M_isSafe, ↓Te_M_keep, rg_rt_e, rg_fit_ie, rg_fit_ve, rg_fit_1e, rg_fit_0e, rg_fit_be, v1, c1]
  have F0 : MF w (rg_up w 31 1 (nI 0)) := ⟨rg_fr_up (rg_fr_rf _ _) (by decide) _ _, fun q _ => by rw [rg_up_n (by decide)]⟩
  refine claim 40 [] rfl ⟨fun f hf => absurd hf List.not_mem_nil, fun i hi => absurd hi (Nat.not_lt_zero _)⟩ (fun p q _ hq => absurd hq (Nat.not_lt_zero q)) (eN hg) 0 (by omega) [] _ _ (by omega) F0 (hG.2.2.1.fr (rg_up_n (by decide))) (fun i hi => absurd hi (Nat.not_lt_zero i)) (rg_up_ss _ _ _ _) ⟨by rw [rg_up_n (by decide)]; exact h17, by simp, fun k hk => absurd hk (Nat.not_lt_zero k)⟩ (fun hno => hK0 ?_) (fun R w' g1 g2 g3 g4 g5 _ a2 => ?_)
  · rintro ⟨R, r1, r2⟩
    exact hno ⟨R, r1, by simpa using r2⟩
  · have p0 : (nI 0 ≤ 0) = True := by decide +kernel
    show Z 9 [.ref 18, .int (nI 0), a2] [] w' 0
    refine hZ (rg_cut [9]) 400 9 _ _ _ ?_; simp only [rg_e_iload_1 (cut := rg_cut [9]) (f := true) d_M_find_9 rfl 10 rfl, rg_e_if_le (cut := rg_cut [9]) (f := false) d_M_find_10 rfl 13 rfl 127 rfl, rg_e_aload_0 (cut := rg_cut [9]) (f := false) d_M_find_13 rfl 14 rfl, rg_e_getr (P := P_M_find) (cut := rg_cut [9]) (f := false) d_M_find_14 rfl 17 rfl 18 4 16 31 rfl (fun _ => rfl), rg_e_iload_1 (cut := rg_cut [9]) (f := false) d_M_find_17 rfl 18 rfl, rg_e_iald (cut := rg_cut [9]) (f := false) d_M_find_18 rfl 19 rfl 31 44 rfl, rg_e_istore_2 (cut := rg_cut [9]) (f := false) d_M_find_19 rfl 20 rfl, rg_e_iload_2 (cut := rg_cut [9]) (f := false) d_M_find_20 rfl 21 rfl, rg_e_aload_0 (cut := rg_cut [9]) (f := false) d_M_find_21 rfl 22 rfl, rg_e_geti (P := P_M_find) (cut := rg_cut [9]) (f := false) d_M_find_22 rfl 25 rfl 18 4 9 rfl (fun _ => rfl), rg_e_icmp_ne (cut := rg_cut [9]) (f := false) d_M_find_25 rfl 28 rfl 34 rfl, rg_e_iinc_1 (cut := rg_cut [9]) (f := false) d_M_find_28 rfl 31 rfl (-1) rg_ki_m1, rg_e_goto (cut := rg_cut [9]) (f := false) d_M_find_31 rfl 9 rfl, rg_e_aload_0 (cut := rg_cut [9]) (f := false) d_M_find_34 rfl 35 rfl, rg_e_getr (P := P_M_find) (cut := rg_cut [9]) (f := false) d_M_find_35 rfl 38 rfl 18 4 16 31 rfl (fun _ => rfl), rg_e_iload_1 (cut := rg_cut [9]) (f := false) d_M_find_38 rfl 39 rfl, rg_e_iload_2 (cut := rg_cut [9]) (f := false) d_M_find_39 rfl 40 rfl, rg_e_iconst (cut := rg_cut [9]) (f := false) d_M_find_40 rfl 41 rfl (nI 1) rg_ki_1, rg_e_iadd (cut := rg_cut [9]) (f := false) d_M_find_41 rfl 42 rfl, rg_e_iast (cut := rg_cut [9]) (f := false) d_M_find_42 rfl 43 rfl 31 44 rfl, rg_e_aload_0 (cut := rg_cut [9]) (f := false) d_M_find_43 rfl 44 rfl, rg_e_getr (P := P_M_find) (cut := rg_cut [9]) (f := false) d_M_find_44 rfl 47 rfl 18 4 15 30 rfl (fun _ => rfl), rg_e_iload_1 (cut := rg_cut [9]) (f := false) d_M_find_47 rfl 48 rfl, rg_e_iload_2 (cut := rg_cut [9]) (f := false) d_M_find_48 rfl 49 rfl, rg_e_iast (cut := rg_cut [9]) (f := false) d_M_find_49 rfl 50 rfl 30 44 rfl, rg_e_iload_1 (cut := rg_cut [9]) (f := false) d_M_find_50 rfl 51 rfl, rg_e_iconst (cut := rg_cut [9]) (f := false) d_M_find_51 rfl 52 rfl (nI 1) rg_ki_1, rg_e_icmp_le (cut := rg_cut [9]) (f := false) d_M_find_52 rfl 55 rfl 77 rfl, rg_e_aload_0 (cut := rg_cut [9]) (f := false) d_M_find_55 rfl 56 rfl, rg_e_getr (P := P_M_find) (cut := rg_cut [9]) (f := false) d_M_find_56 rfl 59 rfl 18 4 10 25 rfl (fun _ => rfl), rg_e_iload_2 (cut := rg_cut [9]) (f := false) d_M_find_59 rfl 60 rfl, rg_e_iald (cut := rg_cut [9]) (f := false) d_M_find_60 rfl 61 rfl 25 81 rfl, rg_e_aload_0 (cut := rg_cut [9]) (f := false) d_M_find_61 rfl 62 rfl, rg_e_getr (P := P_M_find) (cut := rg_cut [9]) (f := false) d_M_find_62 rfl 65 rfl 18 4 11 26 rfl (fun _ => rfl), rg_e_aload_0 (cut := rg_cut [9]) (f := false) d_M_find_65 rfl 66 rfl, rg_e_getr (P := P_M_find) (cut := rg_cut [9]) (f := false) d_M_find_66 rfl 69 rfl 18 4 15 30 rfl (fun _ => rfl), rg_e_iload_1 (cut := rg_cut [9]) (f := false) d_M_find_69 rfl 70 rfl, rg_e_iconst (cut := rg_cut [9]) (f := false) d_M_find_70 rfl 71 rfl (nI 1) rg_ki_1, rg_e_isub (cut := rg_cut [9]) (f := false) d_M_find_71 rfl 72 rfl, rg_e_iald (cut := rg_cut [9]) (f := false) d_M_find_72 rfl 73 rfl 30 44 rfl, rg_e_iald (cut := rg_cut [9]) (f := false) d_M_find_73 rfl 74 rfl 26 81 rfl, rg_e_icmp_ne (cut := rg_cut [9]) (f := false) d_M_find_74 rfl 77 rfl 9 rfl, rg_e_aload_0 (cut := rg_cut [9]) (f := false) d_M_find_77 rfl 78 rfl, rg_e_iconst (cut := rg_cut [9]) (f := false) d_M_find_78 rfl 79 rfl (nI 1) rg_ki_1, rg_e_iload_1 (cut := rg_cut [9]) (f := false) d_M_find_79 rfl 80 rfl, rg_e_iconst (cut := rg_cut [9]) (f := false) d_M_find_80 rfl 81 rfl (nI 1) rg_ki_1, rg_e_iadd (cut := rg_cut [9]) (f := false) d_M_find_81 rfl 82 rfl, rg_e_cv3 (P := P_M_find) (cut := rg_cut [9]) (f := false) d_M_find_82 rfl T_M_isSafe rfl, rg_e_if_ne (cut := rg_cut [9]) (f := false) d_M_find_85 rfl 88 rfl 91 rfl, rg_e_goto (cut := rg_cut [9]) (f := false) d_M_find_88 rfl 9 rfl, rg_e_iload_1 (cut := rg_cut [9]) (f := false) d_M_find_91 rfl 92 rfl, rg_e_bipush (cut := rg_cut [9]) (f := false) d_M_find_92 rfl 94 rfl (nI 40) rg_kb_40, rg_e_icmp_gt (cut := rg_cut [9]) (f := false) d_M_find_94 rfl 97 rfl 105 rfl, rg_e_aload_0 (cut := rg_cut [9]) (f := false) d_M_find_97 rfl 98 rfl, rg_e_iload_1 (cut := rg_cut [9]) (f := false) d_M_find_98 rfl 99 rfl, rg_e_cv2 (P := P_M_find) (cut := rg_cut [9]) (f := false) d_M_find_99 rfl T_M_keep rfl, rg_e_if_ne (cut := rg_cut [9]) (f := false) d_M_find_102 rfl 105 rfl 107 rfl, rg_e_iconst (cut := rg_cut [9]) (f := false) d_M_find_105 rfl 106 rfl (nI 0) rg_ki_0, rg_e_iret (cut := rg_cut [9]) (f := false) d_M_find_106 rfl, rg_e_aload_0 (cut := rg_cut [9]) (f := false) d_M_find_107 rfl 108 rfl, rg_e_getr (P := P_M_find) (cut := rg_cut [9]) (f := false) d_M_find_108 rfl 111 rfl 18 4 15 30 rfl (fun _ => rfl), rg_e_iload_1 (cut := rg_cut [9]) (f := false) d_M_find_111 rfl 112 rfl, rg_e_iload_2 (cut := rg_cut [9]) (f := false) d_M_find_112 rfl 113 rfl, rg_e_iast (cut := rg_cut [9]) (f := false) d_M_find_113 rfl 114 rfl 30 44 rfl, rg_e_iinc_1 (cut := rg_cut [9]) (f := false) d_M_find_114 rfl 117 rfl (nI 1) rg_ki_1, rg_e_aload_0 (cut := rg_cut [9]) (f := false) d_M_find_117 rfl 118 rfl, rg_e_getr (P := P_M_find) (cut := rg_cut [9]) (f := false) d_M_find_118 rfl 121 rfl 18 4 16 31 rfl (fun _ => rfl), rg_e_iload_1 (cut := rg_cut [9]) (f := false) d_M_find_121 rfl 122 rfl, rg_e_iconst (cut := rg_cut [9]) (f := false) d_M_find_122 rfl 123 rfl (nI 0) rg_ki_0, rg_e_iast (cut := rg_cut [9]) (f := false) d_M_find_123 rfl 124 rfl 31 44 rfl, rg_e_goto (cut := rg_cut [9]) (f := false) d_M_find_124 rfl 9 rfl, rg_e_iconst (cut := rg_cut [9]) (f := false) d_M_find_127 rfl 128 rfl (nI 1) rg_ki_1, rg_e_iret (cut := rg_cut [9]) (f := false) d_M_find_128 rfl, rg_e_cut (cut := rg_cut [9]) 9 rfl, rg_nx_i, rg_nx_v, rg_wd_n, rg_wd_i, rg_wd_l, rg_wd_r, rg_clr_i, rg_clr_l, rg_clr_r, rg_clr_a, rg_clr_n, true_and, and_true, Nat.reduceAdd, Nat.reduceLeDiff, ↓Te_M_isSafe, ↓Te_M_keep, rg_rt_e, rg_fit_ie, rg_fit_ve, rg_fit_1e, rg_fit_0e, rg_fit_be, p0, forall_const, false_imp_iff, not_true_eq_false, and_true, true_and]
    exact hK1 R w' g1 (by simpa using g2) g3 g4 g5
