/-! the reference: safe walks -/
theorem GM.f {ln : Nat → Nat} {hg : Nat → Nat → Nat} {w w' : rg_W} (h : GM ln hg w) (hf : rg_fr [18, 29, 30, 31, 32, 33] w w') (h9 : w'.1 18 9 = w.1 18 9) (hk : KnM hg w') : GM ln hg w' := by
  refine ⟨h.1.fr h9 (hf.1 25 (by decide)) (hf.1 26 (by decide)) (hf.1 27 (by decide)), ?_, hk, h.2.2.2⟩
  unfold RcM
  rw [hf.1 28 (by decide)]
  exact h.2.1
theorem KnM.fr {hg : Nat → Nat → Nat} {w w' : rg_W} (h : KnM hg w) (e : w'.1 29 = w.1 29) : KnM hg w' := by
  unfold KnM
  rw [e]
  exact h
theorem es_inj {hg : Nat → Nat → Nat} {e e' : Nat} (h : e < eN hg) (h' : e' < eN hg) (h1 : sr hg e = sr hg e') (h2 : ds hg e = ds hg e') : e = e' := by
  have hc : (esT hg 81).getD e 0 = (esT hg 81).getD e' 0 := by
    unfold sr at h1
    unfold ds at h2
    omega
  have hl := (esT_lt h).1
  generalize hx : (esT hg 81).getD e 0 = c at *
  have a1 := esT_cut (hg := hg) (s := c) (by omega) h
  have a2 := esT_cut (hg := hg) (s := c) (by omega) h'
  have a3 := esT_cut (hg := hg) (s := c + 1) (by omega) h
  have a4 := esT_cut (hg := hg) (s := c + 1) (by omega) h'
  rw [hx] at a1 a3
  rw [← hc] at a2 a4
  have a5 : (esT hg (c + 1)).length ≤ (esT hg c).length + 1 := by
    rw [esT_s, List.length_append]
    split <;> simp
  omega
theorem es_pb {hg : Nat → Nat → Nat} {f g : Nat} (hf : f < eN hg) (hg' : g < eN hg) (h : ds hg f = sr hg g ∨ TC (kE hg) (ds hg f) (sr hg g)) : esN hg f g = pbE hg f g := by
  have e : pbE hg f g = pbN hg (sr hg f) (ds hg f) (sr hg g) (ds hg g) := rfl
  rw [e, Bool.eq_iff_iff]
  unfold esN pbN
  rw [List.any_eq_true, List.any_eq_true]
  constructor
  · rintro ⟨a, ha, h1⟩
    have ha := List.mem_range.mp ha
    unfold esA at h1
    simp only [Bool.and_eq_true, Bool.not_eq_true', decide_eq_true_eq, decide_eq_false_iff_not, List.any_eq_true] at h1
    obtain ⟨⟨h2, h3⟩, b, hb, h4⟩ := h1
    have hb := List.mem_range.mp hb
    unfold esI at h4
    simp only [Bool.and_eq_true, Bool.or_eq_true, Bool.not_eq_true', decide_eq_true_eq, decide_eq_false_iff_not] at h4
    obtain ⟨⟨h5, h6⟩, h7⟩ := h4
    refine ⟨ds hg a, List.mem_range.mpr (sr_lt ha).2, ?_⟩
    simp only [Bool.and_eq_true, Bool.or_eq_true, Bool.not_eq_true', decide_eq_true_eq, decide_eq_false_iff_not, List.any_eq_true]
    refine ⟨⟨by rw [← h2]; exact es_kE ha, fun z => h3 (es_inj ha hg' h2 z)⟩, sr hg b, List.mem_range.mpr (sr_lt hb).1, ?_, by rw [← h5]; exact es_kE hb, fun z => h6 (es_inj hb hf z h5)⟩
    rcases h7 with h7 | h7 | h7
    · subst h7
      rw [h5, h2]
      rcases h with h | h
      · exact Or.inl h.symm
      · exact Or.inr (rcB_iff.mpr h)
    · exact Or.inl h7.symm
    · exact Or.inr h7
  · rintro ⟨i, hi, h1⟩
    have hi := List.mem_range.mp hi
    simp only [Bool.and_eq_true, Bool.or_eq_true, Bool.not_eq_true', decide_eq_true_eq, decide_eq_false_iff_not, List.any_eq_true] at h1
    obtain ⟨⟨h2, h3⟩, k, hk, h4, h5, h6⟩ := h1
    have hk := List.mem_range.mp hk
    obtain ⟨a, ha, a1, a2⟩ := es_mem (sr_lt hg').1 hi h2
    obtain ⟨b, hb, b1, b2⟩ := es_mem hk (sr_lt hf).2 h5
    refine ⟨a, List.mem_range.mpr ha, ?_⟩
    unfold esA
    simp only [Bool.and_eq_true, Bool.not_eq_true', decide_eq_true_eq, decide_eq_false_iff_not, List.any_eq_true]
    refine ⟨⟨a1, fun z => h3 (by rw [← a2, z])⟩, b, List.mem_range.mpr hb, ?_⟩
    unfold esI
    simp only [Bool.and_eq_true, Bool.or_eq_true, Bool.not_eq_true', decide_eq_true_eq, decide_eq_false_iff_not]
    refine ⟨⟨b2, fun z => h6 (by rw [← b1, z])⟩, Or.inr ?_⟩
    rw [a2, b1]
    rcases h4 with h4 | h4
    · exact Or.inl h4.symm
    · exact Or.inr h4
/-- from an edge of a walk to a later one -/
theorem ch_tc {hg : Nat → Nat → Nat} {P : Nat → Nat} {b e : Nat} (hP : ∀ i, b ≤ i → i < e → P i < eN hg) (hc : ∀ i, b ≤ i → i + 1 < e → ds hg (P i) = sr hg (P (i + 1))) {p : Nat} (hp : b ≤ p) : ∀ d, p + 1 + d < e → ds hg (P p) = sr hg (P (p + 1 + d)) ∨ TC (kE hg) (ds hg (P p)) (sr hg (P (p + 1 + d)))
  | 0, h => Or.inl (hc p hp h)
  | d + 1, h => by
    right
    have ih := ch_tc hP hc hp d (by omega)
    have hlt := hP (p + 1 + d) (by omega) (by omega)
    have k1 := es_kE hlt
    rw [hc (p + 1 + d) (by omega) (by omega)] at k1
    show TC (kE hg) (ds hg (P p)) (sr hg (P (p + 1 + d + 1)))
    rcases ih with ih | ih
    · rw [ih]
      exact ⟨0, k1⟩
    · exact TC.tr (sr_lt hlt).1 ih ⟨0, k1⟩
noncomputable def sfR (hg : Nat → Nat → Nat) (P : Nat → Nat) (b e : Nat) : Bool := (List.range e).all (fun q => (List.range q).all (fun p => decide (p < b) || !esN hg (P p) (P q)))
theorem sfR_iff {hg : Nat → Nat → Nat} {P : Nat → Nat} {b e : Nat} : sfR hg P b e = true ↔ ∀ p q, b ≤ p → p < q → q < e → esN hg (P p) (P q) = false := by
  unfold sfR
  simp only [List.all_eq_true, List.mem_range, Bool.or_eq_true, decide_eq_true_eq, Bool.not_eq_true']
  constructor
  · intro h p q h1 h2 h3
    rcases h q h3 p h2 with z | z
    · omega
    · exact z
  · intro h q h3 p h2
    rcases Nat.lt_or_ge p b with z | z
    · exact Or.inl z
    · exact Or.inr (h p q z h2 h3)
theorem sfR_no {hg : Nat → Nat → Nat} {P : Nat → Nat} {b e p q : Nat} (h1 : b ≤ p) (h2 : p < q) (h3 : q < e) (h : esN hg (P p) (P q) = true) : sfR hg P b e = false := by
  rw [← Bool.not_eq_true]
  intro z
  rw [sfR_iff.mp z p q h1 h2 h3] at h
  cases h
-- M.isSafe
def P_M_isSafe : rg_P := (rg_F_M, [(217, 3, 0, T_M_escapes)], [], [], [], [], 0)
def T_M_isSafe : rg_T := fun as w K => match as with
  | [.ref 18, .int x, .int y] => ∃ ln hg b e P, GM ln hg w ∧ x = nI b ∧ y = nI e ∧ b ≤ e ∧ 1 ≤ e ∧ e ≤ 44 ∧ (∀ i, b ≤ i → i < e → w.1 30 i = nI (P i) ∧ P i < eN hg) ∧ ∀ w', rg_fr [29] w w' → KnM hg w' → K (some (.int (zI (sfR hg P b e)))) w'
  | _ => False
theorem Te_M_isSafe (x : Int32) (y : Int32) (w : rg_W) (K : Option Value → rg_W → Prop) : T_M_isSafe [.ref 18, .int x, .int y] w K = (∃ ln hg b e P, GM ln hg w ∧ x = nI b ∧ y = nI e ∧ b ≤ e ∧ 1 ≤ e ∧ e ≤ 44 ∧ (∀ i, b ≤ i → i < e → w.1 30 i = nI (P i) ∧ P i < eN hg) ∧ ∀ w', rg_fr [29] w w' → KnM hg w' → K (some (.int (zI (sfR hg P b e)))) w') := rfl
theorem r_M_isSafe : ∀ as w K, T_M_isSafe as w K → ∃ r, as = .ref 18 :: r := by
  intro as w K h
  unfold T_M_isSafe at h
  split at h
  · exact ⟨_, rfl⟩
  · exact h.elim
theorem G_M_isSafe (l : Launch) : rg_Good l y_M_isSafe c_M_isSafe 5 (some .boolean) 1 T_M_isSafe := by
  refine rg_good_of (P := P_M_isSafe) (by decide) (rg_pok rg_F_M_ok (rg_cons (cw_M_108 (G_M_escapes l) (by decide) r_M_escapes) rg_nil)) ?_
  intro as w K Z hT hZ
  unfold T_M_isSafe at hT
  split at hT
  rotate_left
  · exact hT.elim
  rename_i x y
  refine ⟨Nat.le_of_ble_eq_true rfl, ?_⟩
  show Z 0 [.ref 18, .int x, .int y, .null, .null] [] w 0
  obtain ⟨ln, hg, b, e, P, hG, rfl, rfl, hbe, he1, he, hP, hK⟩ := hT
  have s1 : nI e - nI 1 = nI (e - 1) := pk_sub he1
  have l2 : ∀ (p q : Nat) (w1 : rg_W), (b ≤ p ∧ p ≤ q ∧ q ≤ e - 1 ∧ p < e - 1 ∧ rg_fr [29] w w1 ∧ KnM hg w1 ∧ ∀ q', p < q' → q' < q + 1 → esN hg (P p) (P q') = false) →
      (∀ w2 : rg_W, rg_fr [29] w w2 → KnM hg w2 → (∀ q', p < q' → q' < e → esN hg (P p) (P q') = false) → ∀ a4 : Value, Z 2 [.ref 18, .int (nI b), .int (nI e), .int (nI (p + 1)), a4] [] w2 0) → Z 12 [.ref 18, .int (nI b), .int (nI e), .int (nI p), .int (nI q)] [] w1 0 := by
    intro p q w1 hI hout
    revert q w1
    refine rg_lp2 _ _ (fun q _ => e - q) ?_
    intro q w1 ⟨hbp, hpq, hq, hp, hf, hk, hno⟩ ih
    rcases Nat.lt_or_ge q (e - 1) with hq9 | hq9
    · have vp : vp_in (nI p) 44 := vp_in_nI (by omega) (by omega)
      have cp : (nI p).toNatClampNeg = p := nI_clamp (by omega)
      have vq : vp_in (nI (q + 1)) 44 := vp_in_nI (by omega) (by omega)
      have cq : (nI (q + 1)).toNatClampNeg = q + 1 := nI_clamp (by omega)
      obtain ⟨p1, p2⟩ := hP p hbp (by omega)
      obtain ⟨q1, q2⟩ := hP (q + 1) (by omega) (by omega)
      have p1 : w1.1 30 p = nI (P p) := by rw [hf.1 30 (by decide)]; exact p1
      have q1 : w1.1 30 (q + 1) = nI (P (q + 1)) := by rw [hf.1 30 (by decide)]; exact q1
      refine hZ (rg_cut [2, 12]) 400 12 _ _ _ ?_; simp only [rg_e_iload_4 (cut := rg_cut [2, 12]) (f := true) d_M_isSafe_12 rfl 14 rfl, rg_e_iload_2 (cut := rg_cut [2, 12]) (f := false) d_M_isSafe_14 rfl 15 rfl, rg_e_iconst (cut := rg_cut [2, 12]) (f := false) d_M_isSafe_15 rfl 16 rfl (nI 1) rg_ki_1, rg_e_isub (cut := rg_cut [2, 12]) (f := false) d_M_isSafe_16 rfl 17 rfl, rg_e_icmp_ge (cut := rg_cut [2, 12]) (f := false) d_M_isSafe_17 rfl 20 rfl 50 rfl, rg_e_aload_0 (cut := rg_cut [2, 12]) (f := false) d_M_isSafe_20 rfl 21 rfl, rg_e_aload_0 (cut := rg_cut [2, 12]) (f := false) d_M_isSafe_21 rfl 22 rfl, rg_e_getr (P := P_M_isSafe) (cut := rg_cut [2, 12]) (f := false) d_M_isSafe_22 rfl 25 rfl 18 4 15 30 rfl (fun _ => rfl), rg_e_iload_3 (cut := rg_cut [2, 12]) (f := false) d_M_isSafe_25 rfl 26 rfl, rg_e_iald (cut := rg_cut [2, 12]) (f := false) d_M_isSafe_26 rfl 27 rfl 30 44 rfl, rg_e_aload_0 (cut := rg_cut [2, 12]) (f := false) d_M_isSafe_27 rfl 28 rfl, rg_e_getr (P := P_M_isSafe) (cut := rg_cut [2, 12]) (f := false) d_M_isSafe_28 rfl 31 rfl 18 4 15 30 rfl (fun _ => rfl), rg_e_iload_4 (cut := rg_cut [2, 12]) (f := false) d_M_isSafe_31 rfl 33 rfl, rg_e_iconst (cut := rg_cut [2, 12]) (f := false) d_M_isSafe_33 rfl 34 rfl (nI 1) rg_ki_1, rg_e_iadd (cut := rg_cut [2, 12]) (f := false) d_M_isSafe_34 rfl 35 rfl, rg_e_iald (cut := rg_cut [2, 12]) (f := false) d_M_isSafe_35 rfl 36 rfl 30 44 rfl, rg_e_cv3 (P := P_M_isSafe) (cut := rg_cut [2, 12]) (f := false) d_M_isSafe_36 rfl T_M_escapes rfl, rg_e_if_eq (cut := rg_cut [2, 12]) (f := false) d_M_isSafe_39 rfl 42 rfl 44 rfl, rg_e_iconst (cut := rg_cut [2, 12]) (f := false) d_M_isSafe_42 rfl 43 rfl (nI 0) rg_ki_0, rg_e_iret (cut := rg_cut [2, 12]) (f := false) d_M_isSafe_43 rfl, rg_e_iinc_4 (cut := rg_cut [2, 12]) (f := false) d_M_isSafe_44 rfl 47 rfl (nI 1) rg_ki_1, rg_e_goto (cut := rg_cut [2, 12]) (f := false) d_M_isSafe_47 rfl 12 rfl, rg_e_iinc_3 (cut := rg_cut [2, 12]) (f := false) d_M_isSafe_50 rfl 53 rfl (nI 1) rg_ki_1, rg_e_goto (cut := rg_cut [2, 12]) (f := false) d_M_isSafe_53 rfl 2 rfl, rg_e_cut (cut := rg_cut [2, 12]) 2 rfl, rg_e_cut (cut := rg_cut [2, 12]) 12 rfl, rg_nx_i, rg_nx_v, rg_wd_n, rg_wd_i, rg_wd_l, rg_wd_r, rg_clr_i, rg_clr_l, rg_clr_r, rg_clr_a, rg_clr_n, true_and, and_true, Nat.reduceAdd, Nat.reduceLeDiff, ↓Te_M_escapes, rg_rt_e, rg_fit_ie, rg_fit_ve, rg_fit_1e, rg_fit_0e, rg_fit_be, s1, vp, cp, vq, cq, p1, q1, zI_eq, nI_add]
      refine ⟨fun h => absurd h (nI_ge hq9 (by omega)), fun _ => ⟨ln, hg, P p, P (q + 1), hG.fr hf hk, rfl, rfl, p2, q2, fun w2 f1 f2 => ⟨fun h => ?_, fun h => ?_⟩⟩⟩
      · refine ih (q + 1) w2 ⟨hbp, by omega, by omega, hp, rg_fr_tr hf f1, f2, fun q' g1 g2 => ?_⟩ (by omega)
        by_cases e : q' = q + 1
        · rw [e]; exact h
        · exact hno q' g1 (by omega)
      · have h : esN hg (P p) (P (q + 1)) = true := by rw [← Bool.not_eq_false]; exact h
        have := hK w2 (rg_fr_tr hf f1) f2
        rw [sfR_no hbp (by omega) (by omega) h] at this
        exact this
    · obtain rfl : q = e - 1 := by omega
      refine hZ (rg_cut [2, 12]) 400 12 _ _ _ ?_; simp only [rg_e_iload_4 (cut := rg_cut [2, 12]) (f := true) d_M_isSafe_12 rfl 14 rfl, rg_e_iload_2 (cut := rg_cut [2, 12]) (f := false) d_M_isSafe_14 rfl 15 rfl, rg_e_iconst (cut := rg_cut [2, 12]) (f := false) d_M_isSafe_15 rfl 16 rfl (nI 1) rg_ki_1, rg_e_isub (cut := rg_cut [2, 12]) (f := false) d_M_isSafe_16 rfl 17 rfl, rg_e_icmp_ge (cut := rg_cut [2, 12]) (f := false) d_M_isSafe_17 rfl 20 rfl 50 rfl, rg_e_aload_0 (cut := rg_cut [2, 12]) (f := false) d_M_isSafe_20 rfl 21 rfl, rg_e_aload_0 (cut := rg_cut [2, 12]) (f := false) d_M_isSafe_21 rfl 22 rfl, rg_e_getr (P := P_M_isSafe) (cut := rg_cut [2, 12]) (f := false) d_M_isSafe_22 rfl 25 rfl 18 4 15 30 rfl (fun _ => rfl), rg_e_iload_3 (cut := rg_cut [2, 12]) (f := false) d_M_isSafe_25 rfl 26 rfl, rg_e_iald (cut := rg_cut [2, 12]) (f := false) d_M_isSafe_26 rfl 27 rfl 30 44 rfl, rg_e_aload_0 (cut := rg_cut [2, 12]) (f := false) d_M_isSafe_27 rfl 28 rfl, rg_e_getr (P := P_M_isSafe) (cut := rg_cut [2, 12]) (f := false) d_M_isSafe_28 rfl 31 rfl 18 4 15 30 rfl (fun _ => rfl), rg_e_iload_4 (cut := rg_cut [2, 12]) (f := false) d_M_isSafe_31 rfl 33 rfl, rg_e_iconst (cut := rg_cut [2, 12]) (f := false) d_M_isSafe_33 rfl 34 rfl (nI 1) rg_ki_1, rg_e_iadd (cut := rg_cut [2, 12]) (f := false) d_M_isSafe_34 rfl 35 rfl, rg_e_iald (cut := rg_cut [2, 12]) (f := false) d_M_isSafe_35 rfl 36 rfl 30 44 rfl, rg_e_cv3 (P := P_M_isSafe) (cut := rg_cut [2, 12]) (f := false) d_M_isSafe_36 rfl T_M_escapes rfl, rg_e_if_eq (cut := rg_cut [2, 12]) (f := false) d_M_isSafe_39 rfl 42 rfl 44 rfl, rg_e_iconst (cut := rg_cut [2, 12]) (f := false) d_M_isSafe_42 rfl 43 rfl (nI 0) rg_ki_0, rg_e_iret (cut := rg_cut [2, 12]) (f := false) d_M_isSafe_43 rfl, rg_e_iinc_4 (cut := rg_cut [2, 12]) (f := false) d_M_isSafe_44 rfl 47 rfl (nI 1) rg_ki_1, rg_e_goto (cut := rg_cut [2, 12]) (f := false) d_M_isSafe_47 rfl 12 rfl, rg_e_iinc_3 (cut := rg_cut [2, 12]) (f := false) d_M_isSafe_50 rfl 53 rfl (nI 1) rg_ki_1, rg_e_goto (cut := rg_cut [2, 12]) (f := false) d_M_isSafe_53 rfl 2 rfl, rg_e_cut (cut := rg_cut [2, 12]) 2 rfl, rg_e_cut (cut := rg_cut [2, 12]) 12 rfl, rg_nx_i, rg_nx_v, rg_wd_n, rg_wd_i, rg_wd_l, rg_wd_r, rg_clr_i, rg_clr_l, rg_clr_r, rg_clr_a, rg_clr_n, true_and, and_true, Nat.reduceAdd, Nat.reduceLeDiff, ↓Te_M_escapes, rg_rt_e, rg_fit_ie, rg_fit_ve, rg_fit_1e, rg_fit_0e, rg_fit_be, s1, nI_add]
      exact ⟨fun _ => hout w1 hf hk (fun q' g1 g2 => hno q' g1 (by omega)) _, fun h => absurd (nI_le hq9 (by omega)) h⟩
  have l1 : ∀ (p : Nat) (w1 : rg_W) (a4 : Value), (b ≤ p ∧ (p ≤ e - 1 ∨ p = b) ∧ rg_fr [29] w w1 ∧ KnM hg w1 ∧ ∀ p' q', b ≤ p' → p' < p → p' < q' → q' < e → esN hg (P p') (P q') = false) → Z 2 [.ref 18, .int (nI b), .int (nI e), .int (nI p), a4] [] w1 0 := by
    refine rg_lp3 _ _ (fun p _ _ => e - p) ?_
    intro p w1 a4 ⟨hbp, hp, hf, hk, hno⟩ ih
    rcases Nat.lt_or_ge p (e - 1) with hp9 | hp9
    · refine hZ (rg_cut [2, 12]) 400 2 _ _ _ ?_; simp only [rg_e_iload_3 (cut := rg_cut [2, 12]) (f := true) d_M_isSafe_2 rfl 3 rfl, rg_e_iload_2 (cut := rg_cut [2, 12]) (f := false) d_M_isSafe_3 rfl 4 rfl, rg_e_iconst (cut := rg_cut [2, 12]) (f := false) d_M_isSafe_4 rfl 5 rfl (nI 1) rg_ki_1, rg_e_isub (cut := rg_cut [2, 12]) (f := false) d_M_isSafe_5 rfl 6 rfl, rg_e_icmp_ge (cut := rg_cut [2, 12]) (f := false) d_M_isSafe_6 rfl 9 rfl 56 rfl, rg_e_iload_3 (cut := rg_cut [2, 12]) (f := false) d_M_isSafe_9 rfl 10 rfl, rg_e_istore_4 (cut := rg_cut [2, 12]) (f := false) d_M_isSafe_10 rfl 12 rfl, rg_e_iconst (cut := rg_cut [2, 12]) (f := false) d_M_isSafe_56 rfl 57 rfl (nI 1) rg_ki_1, rg_e_iret (cut := rg_cut [2, 12]) (f := false) d_M_isSafe_57 rfl, rg_e_cut (cut := rg_cut [2, 12]) 2 rfl, rg_e_cut (cut := rg_cut [2, 12]) 12 rfl, rg_nx_i, rg_nx_v, rg_wd_n, rg_wd_i, rg_wd_l, rg_wd_r, rg_clr_i, rg_clr_l, rg_clr_r, rg_clr_a, rg_clr_n, true_and, and_true, Nat.reduceAdd, Nat.reduceLeDiff, ↓Te_M_escapes, rg_rt_e, rg_fit_ie, rg_fit_ve, rg_fit_1e, rg_fit_0e, rg_fit_be, s1]
      refine ⟨fun h => absurd h (nI_ge hp9 (by omega)), fun _ => l2 p p w1 ⟨hbp, Nat.le_refl _, by omega, hp9, hf, hk, fun q' g1 g2 => absurd g1 (by omega)⟩ (fun w2 f1 f2 f3 a4 => ih (p + 1) w2 a4 ⟨by omega, by omega, f1, f2, fun p' q' g1 g2 g3 g4 => ?_⟩ (by omega))⟩
      by_cases e : p' = p
      · subst e; exact f3 q' g3 g4
      · exact hno p' q' g1 (by omega) g3 g4
    · refine hZ (rg_cut [2, 12]) 400 2 _ _ _ ?_; simp only [rg_e_iload_3 (cut := rg_cut [2, 12]) (f := true) d_M_isSafe_2 rfl 3 rfl, rg_e_iload_2 (cut := rg_cut [2, 12]) (f := false) d_M_isSafe_3 rfl 4 rfl, rg_e_iconst (cut := rg_cut [2, 12]) (f := false) d_M_isSafe_4 rfl 5 rfl (nI 1) rg_ki_1, rg_e_isub (cut := rg_cut [2, 12]) (f := false) d_M_isSafe_5 rfl 6 rfl, rg_e_icmp_ge (cut := rg_cut [2, 12]) (f := false) d_M_isSafe_6 rfl 9 rfl 56 rfl, rg_e_iload_3 (cut := rg_cut [2, 12]) (f := false) d_M_isSafe_9 rfl 10 rfl, rg_e_istore_4 (cut := rg_cut [2, 12]) (f := false) d_M_isSafe_10 rfl 12 rfl, rg_e_iconst (cut := rg_cut [2, 12]) (f := false) d_M_isSafe_56 rfl 57 rfl (nI 1) rg_ki_1, rg_e_iret (cut := rg_cut [2, 12]) (f := false) d_M_isSafe_57 rfl, rg_e_cut (cut := rg_cut [2, 12]) 2 rfl, rg_e_cut (cut := rg_cut [2, 12]) 12 rfl, rg_nx_i, rg_nx_v, rg_wd_n, rg_wd_i, rg_wd_l, rg_wd_r, rg_clr_i, rg_clr_l, rg_clr_r, rg_clr_a, rg_clr_n, true_and, and_true, Nat.reduceAdd, Nat.reduceLeDiff, ↓Te_M_escapes, rg_rt_e, rg_fit_ie, rg_fit_ve, rg_fit_1e, rg_fit_0e, rg_fit_be, s1]
      refine ⟨fun _ => ?_, fun h => absurd (nI_le hp9 (by omega)) h⟩
      have := hK w1 hf hk
      rw [sfR_iff.mpr (fun p' q' g1 g2 g3 => hno p' q' g1 (by omega) g2 g3)] at this
      exact this
  refine hZ (rg_cut [2, 12]) 400 0 _ _ _ ?_; simp only [rg_e_iload_1 (cut := rg_cut [2, 12]) (f := true) d_M_isSafe_0 rfl 1 rfl, rg_e_istore_3 (cut := rg_cut [2, 12]) (f := false) d_M_isSafe_1 rfl 2 rfl, rg_e_cut (cut := rg_cut [2, 12]) 2 rfl, rg_e_cut (cut := rg_cut [2, 12]) 12 rfl, rg_nx_i, rg_nx_v, rg_wd_n, rg_wd_i, rg_wd_l, rg_wd_r, rg_clr_i, rg_clr_l, rg_clr_r, rg_clr_a, rg_clr_n, true_and, and_true, Nat.reduceAdd, Nat.reduceLeDiff, ↓Te_M_escapes, rg_rt_e, rg_fit_ie, rg_fit_ve, rg_fit_1e, rg_fit_0e, rg_fit_be]
  exact l1 b w _ ⟨Nat.le_refl _, Or.inr rfl, rg_fr_rf _ _, hG.2.2.1, fun p' q' g1 g2 => absurd g1 (by omega)⟩
theorem pl_s : ∀ m, m < 8 → (((nI (8 * m)).toInt64 &&& 63).toBitVec.smod 64).toNat = 8 * m := by decide +kernel
theorem pl_255 : ∀ j, j < 32 → (255 : Int64).toBitVec.getLsbD j = decide (j < 8) := by decide +kernel
theorem pe_l {p : Int64} {n i : Nat} (hn : n ≤ 8) (hi : i < n) : ((p >>> ((nI 8 * (nI n - nI 1 - nI i)).toInt64 &&& 63)) &&& 255).toInt32 = nI (peN p n i) := by
  rw [pk_sub (by omega), pk_sub (by omega), pk_mul]
  generalize hm : n - 1 - i = m at *
  have hm8 : m < 8 := by omega
  apply b_ext
  intro j hj
  rw [bt_nI _ j hj]
  unfold peN
  rw [hm, show (256 : Nat) = 2 ^ 8 from rfl, Nat.testBit_mod_two_pow, ← Nat.shiftRight_eq_div_pow, Nat.testBit_shiftRight]
  show (((p >>> ((nI (8 * m)).toInt64 &&& 63)) &&& 255).toBitVec.signExtend 32).getLsbD j = _
  rw [BitVec.getLsbD_signExtend]
  simp only [hj, decide_true, Bool.true_and, show j < 64 by omega, if_true]
  rw [Int64.toBitVec_and, BitVec.getLsbD_and, pl_255 j hj, Bool.and_comm]
  by_cases h : j < 8
  · rw [decide_eq_true h, Bool.true_and, Bool.true_and, Int64.toBitVec_shiftRight]
    show (p.toBitVec.sshiftRight (((nI (8 * m)).toInt64 &&& 63).toBitVec.smod 64).toNat).getLsbD j = _
    rw [pl_s m hm8, BitVec.getLsbD_sshiftRight]
    simp only [show ¬ 64 ≤ j by omega, decide_false, Bool.not_false, Bool.true_and]
    rw [if_pos (by omega)]
    rfl
  · rw [decide_eq_false h, Bool.false_and, Bool.false_and]
theorem n8_or (n : Int32) : ((n < nI 1) = True) ∨ ((n < nI 1) = False ∧ (n ≤ nI 8) = False) ∨ ∃ k, 1 ≤ k ∧ k ≤ 8 ∧ n = nI k := by
  by_cases h : n < nI 1
  · exact Or.inl (eq_true h)
  · right
    by_cases h8 : n ≤ nI 8
    · right
      have h0 : ¬ n < 0 := fun z => h (Int32.lt_trans z (by decide +kernel))
      obtain ⟨j, hj, rfl⟩ := nI_of h0
      refine ⟨j, ?_, ?_, rfl⟩
      · rcases Nat.lt_or_ge j 1 with q | q
        · exact absurd (nI_lt q (by omega)) h
        · exact q
      · rw [nI_lep (by omega) (by omega)] at h8
        exact h8
    · exact Or.inl ⟨eq_false h, eq_false h8⟩
theorem sw_sf {hg : Nat → Nat → Nat} {f : Nat → Nat} {n : Nat} (hP : ∀ i, i < n → f i < eN hg) (hc : ∀ i, i + 1 < n → ds hg (f i) = sr hg (f (i + 1))) : sfR hg (fun i => f (i - 1)) 1 (n + 1) = swB hg f n := by
  rw [Bool.eq_iff_iff, sfR_iff]
  have key : ∀ p q, p < q → q < n → esN hg (f p) (f q) = pbE hg (f p) (f q) := fun p q h1 h2 => by
    refine es_pb (hP p (by omega)) (hP q h2) ?_
    have := ch_tc (hg := hg) (P := f) (b := 0) (e := n) (fun i _ h => hP i h) (fun i _ h => hc i h) (p := p) (by omega) (q - p - 1) (by omega)
    rwa [show p + 1 + (q - p - 1) = q by omega] at this
  unfold swB
  simp only [List.all_eq_true, List.mem_range, Bool.not_eq_true']
  constructor
  · intro h j hj i hi
    rw [← key i j hi hj]
    exact h (i + 1) (j + 1) (by omega) (by omega) (by omega)
  · intro h p q h1 h2 h3
    rw [key (p - 1) (q - 1) (by omega) (by omega)]
    exact h (q - 1) (by omega) (p - 1) (by omega)
-- M.safe
def P_M_safe : rg_P := (rg_F_M, [(161, 3, 0, T_M_throwing), (227, 3, 0, T_M_isSafe)], [], [(111, 255)], [], [], 0)
def T_M_safe : rg_T := fun as w K => match as with
  | [.ref 18, .long p, .int n] => ∃ ln hg, GM ln hg w ∧ ((n < nI 1 ∨ ((n < nI 1) = False ∧ (n ≤ nI 8) = False)) → K (some (.int (nI 0))) (rg_up w 18 0 (nI 1))) ∧ ∀ n', 1 ≤ n' → n' ≤ 8 → n = nI n' → ((List.range n').all (pwB hg p n') = false → ∀ w1, rg_fr [30] w w1 → K (some (.int (nI 0))) (rg_up w1 18 0 (nI 1))) ∧ ((List.range n').all (pwB hg p n') = true → ∀ w1, rg_fr [30] w w1 → ∀ w2, rg_fr [29] (rg_up w1 18 0 (nI 0)) w2 → KnM hg w2 → K (some (.int (zI (swB hg (peN p n') n')))) w2)
  | _ => False
theorem Te_M_safe (p : Int64) (n : Int32) (w : rg_W) (K : Option Value → rg_W → Prop) : T_M_safe [.ref 18, .long p, .int n] w K = (∃ ln hg, GM ln hg w ∧ ((n < nI 1 ∨ ((n < nI 1) = False ∧ (n ≤ nI 8) = False)) → K (some (.int (nI 0))) (rg_up w 18 0 (nI 1))) ∧ ∀ n', 1 ≤ n' → n' ≤ 8 → n = nI n' → ((List.range n').all (pwB hg p n') = false → ∀ w1, rg_fr [30] w w1 → K (some (.int (nI 0))) (rg_up w1 18 0 (nI 1))) ∧ ((List.range n').all (pwB hg p n') = true → ∀ w1, rg_fr [30] w w1 → ∀ w2, rg_fr [29] (rg_up w1 18 0 (nI 0)) w2 → KnM hg w2 → K (some (.int (zI (swB hg (peN p n') n')))) w2)) := rfl
theorem r_M_safe : ∀ as w K, T_M_safe as w K → ∃ r, as = .ref 18 :: r := by
  intro as w K h
  unfold T_M_safe at h
  split at h
  · exact ⟨_, rfl⟩
  · exact h.elim
theorem G_M_safe (l : Launch) : rg_Good l y_M_safe c_M_safe 7 (some .boolean) 2 T_M_safe := by
  refine rg_good_of (P := P_M_safe) (by decide) (⟨rg_F_M_ok, (rg_cons (cw_M_80 (G_M_throwing l) (by decide) r_M_throwing) (rg_cons (cw_M_113 (G_M_isSafe l) (by decide) r_M_isSafe) rg_nil)), fun _ h => absurd h List.not_mem_nil, by simp only [P_M_safe, List.mem_cons, List.not_mem_nil, or_false, forall_eq_or_imp, forall_eq]; exact rg_in rfl (by decide +kernel), rfl⟩) ?_
  intro as w K Z hT hZ
  unfold T_M_safe at hT
  split at hT
  rotate_left
  · exact hT.elim
  rename_i p n
  refine ⟨Nat.le_of_ble_eq_true rfl, ?_⟩
  show Z 0 [.ref 18, .long p, .null, .int n, .null, .null, .null] [] w 0
  obtain ⟨ln, hg, hG, hK1, hK2⟩ := hT
  have z1 : (zI true = 0) = False := by decide +kernel
  have z0 : (zI false = 0) = True := by decide +kernel
  have n0 : (nI 0 = 0) = True := by decide +kernel
  have n1 : (nI 1 = 0) = False := by decide +kernel
  have h72 := eN_le hG.2.2.2
  have badZ : ∀ (x k : Int32) (w1 : rg_W) (a6 : Value), K (some (.int (nI 0))) (rg_up w1 18 0 (nI 1)) → Z 21 [.ref 18, .long p, .null, .int x, .int (nI 1), .int k, a6] [] w1 0 := by
    intro x k w1 a6 h
    refine hZ (rg_cut [21]) 400 21 _ _ _ ?_; simp only [rg_e_iload_5 (cut := rg_cut [21]) (f := true) d_M_safe_21 rfl 23 rfl, rg_e_iload_3 (cut := rg_cut [21]) (f := false) d_M_safe_23 rfl 24 rfl, rg_e_icmp_ge (cut := rg_cut [21]) (f := false) d_M_safe_24 rfl 27 rfl 110 rfl, rg_e_iload_4 (cut := rg_cut [21]) (f := false) d_M_safe_27 rfl 29 rfl, rg_e_if_ne (cut := rg_cut [21]) (f := false) d_M_safe_29 rfl 32 rfl 110 rfl, rg_e_lload_1 (cut := rg_cut [21]) (f := false) d_M_safe_32 rfl 33 rfl, rg_e_bipush (cut := rg_cut [21]) (f := false) d_M_safe_33 rfl 35 rfl (nI 8) rg_kb_8, rg_e_iload_3 (cut := rg_cut [21]) (f := false) d_M_safe_35 rfl 36 rfl, rg_e_iconst (cut := rg_cut [21]) (f := false) d_M_safe_36 rfl 37 rfl (nI 1) rg_ki_1, rg_e_isub (cut := rg_cut [21]) (f := false) d_M_safe_37 rfl 38 rfl, rg_e_iload_5 (cut := rg_cut [21]) (f := false) d_M_safe_38 rfl 40 rfl, rg_e_isub (cut := rg_cut [21]) (f := false) d_M_safe_40 rfl 41 rfl, rg_e_imul (cut := rg_cut [21]) (f := false) d_M_safe_41 rfl 42 rfl, rg_e_lshr (cut := rg_cut [21]) (f := false) d_M_safe_42 rfl 43 rfl, rg_e_ldc2 (P := P_M_safe) (cut := rg_cut [21]) (f := false) d_M_safe_43 rfl 46 rfl 255 rfl, rg_e_land (cut := rg_cut [21]) (f := false) d_M_safe_46 rfl 47 rfl, rg_e_l2i (cut := rg_cut [21]) (f := false) d_M_safe_47 rfl 48 rfl, rg_e_istore_6 (cut := rg_cut [21]) (f := false) d_M_safe_48 rfl 50 rfl, rg_e_iload_6 (cut := rg_cut [21]) (f := false) d_M_safe_50 rfl 52 rfl, rg_e_aload_0 (cut := rg_cut [21]) (f := false) d_M_safe_52 rfl 53 rfl, rg_e_geti (P := P_M_safe) (cut := rg_cut [21]) (f := false) d_M_safe_53 rfl 56 rfl 18 4 9 rfl (fun _ => rfl), rg_e_icmp_ge (cut := rg_cut [21]) (f := false) d_M_safe_56 rfl 59 rfl 86 rfl, rg_e_iload_5 (cut := rg_cut [21]) (f := false) d_M_safe_59 rfl 61 rfl, rg_e_if_le (cut := rg_cut [21]) (f := false) d_M_safe_61 rfl 64 rfl 90 rfl, rg_e_aload_0 (cut := rg_cut [21]) (f := false) d_M_safe_64 rfl 65 rfl, rg_e_getr (P := P_M_safe) (cut := rg_cut [21]) (f := false) d_M_safe_65 rfl 68 rfl 18 4 11 26 rfl (fun _ => rfl), rg_e_aload_0 (cut := rg_cut [21]) (f := false) d_M_safe_68 rfl 69 rfl, rg_e_getr (P := P_M_safe) (cut := rg_cut [21]) (f := false) d_M_safe_69 rfl 72 rfl 18 4 15 30 rfl (fun _ => rfl), rg_e_iload_5 (cut := rg_cut [21]) (f := false) d_M_safe_72 rfl 74 rfl, rg_e_iald (cut := rg_cut [21]) (f := false) d_M_safe_74 rfl 75 rfl 30 44 rfl, rg_e_iald (cut := rg_cut [21]) (f := false) d_M_safe_75 rfl 76 rfl 26 81 rfl, rg_e_aload_0 (cut := rg_cut [21]) (f := false) d_M_safe_76 rfl 77 rfl, rg_e_getr (P := P_M_safe) (cut := rg_cut [21]) (f := false) d_M_safe_77 rfl 80 rfl 18 4 10 25 rfl (fun _ => rfl), rg_e_iload_6 (cut := rg_cut [21]) (f := false) d_M_safe_80 rfl 82 rfl, rg_e_iald (cut := rg_cut [21]) (f := false) d_M_safe_82 rfl 83 rfl 25 81 rfl, rg_e_icmp_eq (cut := rg_cut [21]) (f := false) d_M_safe_83 rfl 86 rfl 90 rfl, rg_e_iconst (cut := rg_cut [21]) (f := false) d_M_safe_86 rfl 87 rfl (nI 1) rg_ki_1, rg_e_goto (cut := rg_cut [21]) (f := false) d_M_safe_87 rfl 91 rfl, rg_e_iconst (cut := rg_cut [21]) (f := false) d_M_safe_90 rfl 91 rfl (nI 0) rg_ki_0, rg_e_istore_4 (cut := rg_cut [21]) (f := false) d_M_safe_91 rfl 93 rfl, rg_e_aload_0 (cut := rg_cut [21]) (f := false) d_M_safe_93 rfl 94 rfl, rg_e_getr (P := P_M_safe) (cut := rg_cut [21]) (f := false) d_M_safe_94 rfl 97 rfl 18 4 15 30 rfl (fun _ => rfl), rg_e_iload_5 (cut := rg_cut [21]) (f := false) d_M_safe_97 rfl 99 rfl, rg_e_iconst (cut := rg_cut [21]) (f := false) d_M_safe_99 rfl 100 rfl (nI 1) rg_ki_1, rg_e_iadd (cut := rg_cut [21]) (f := false) d_M_safe_100 rfl 101 rfl, rg_e_iload_6 (cut := rg_cut [21]) (f := false) d_M_safe_101 rfl 103 rfl, rg_e_iast (cut := rg_cut [21]) (f := false) d_M_safe_103 rfl 104 rfl 30 44 rfl, rg_e_iinc_5 (cut := rg_cut [21]) (f := false) d_M_safe_104 rfl 107 rfl (nI 1) rg_ki_1, rg_e_goto (cut := rg_cut [21]) (f := false) d_M_safe_107 rfl 21 rfl, rg_e_aload_0 (cut := rg_cut [21]) (f := false) d_M_safe_110 rfl 111 rfl, rg_e_iload_4 (cut := rg_cut [21]) (f := false) d_M_safe_111 rfl 113 rfl, rg_e_iconst (cut := rg_cut [21]) (f := false) d_M_safe_113 rfl 114 rfl (nI 0) rg_ki_0, rg_e_cv3 (P := P_M_safe) (cut := rg_cut [21]) (f := false) d_M_safe_114 rfl T_M_throwing rfl, rg_e_if_ne (cut := rg_cut [21]) (f := false) d_M_safe_117 rfl 120 rfl 135 rfl, rg_e_aload_0 (cut := rg_cut [21]) (f := false) d_M_safe_120 rfl 121 rfl, rg_e_iconst (cut := rg_cut [21]) (f := false) d_M_safe_121 rfl 122 rfl (nI 1) rg_ki_1, rg_e_iload_3 (cut := rg_cut [21]) (f := false) d_M_safe_122 rfl 123 rfl, rg_e_iconst (cut := rg_cut [21]) (f := false) d_M_safe_123 rfl 124 rfl (nI 1) rg_ki_1, rg_e_iadd (cut := rg_cut [21]) (f := false) d_M_safe_124 rfl 125 rfl, rg_e_cv3 (P := P_M_safe) (cut := rg_cut [21]) (f := false) d_M_safe_125 rfl T_M_isSafe rfl, rg_e_if_eq (cut := rg_cut [21]) (f := false) d_M_safe_128 rfl 131 rfl 135 rfl, rg_e_iconst (cut := rg_cut [21]) (f := false) d_M_safe_131 rfl 132 rfl (nI 1) rg_ki_1, rg_e_goto (cut := rg_cut [21]) (f := false) d_M_safe_132 rfl 136 rfl, rg_e_iconst (cut := rg_cut [21]) (f := false) d_M_safe_135 rfl 136 rfl (nI 0) rg_ki_0, rg_e_iret (cut := rg_cut [21]) (f := false) d_M_safe_136 rfl, rg_e_cut (cut := rg_cut [21]) 21 rfl, rg_nx_i, rg_nx_v, rg_wd_n, rg_wd_i, rg_wd_l, rg_wd_r, rg_clr_i, rg_clr_l, rg_clr_r, rg_clr_a, rg_clr_n, true_and, and_true, Nat.reduceAdd, Nat.reduceLeDiff, ↓Te_M_throwing, ↓Te_M_isSafe, rg_rt_e, rg_fit_ie, rg_fit_ve, rg_fit_1e, rg_fit_0e, rg_fit_be, z1, z0, n0, n1, decide_true, decide_false, Bool.not_true, Bool.not_false, Bool.true_or, Bool.or_true, Bool.or_false, not_false_eq_true, forall_const, false_imp_iff, not_true_eq_false, if_false, if_true, reduceIte, and_true, true_and]
    exact ⟨fun _ => h, fun _ => h⟩
  rcases n8_or n with h | ⟨h, h8⟩ | ⟨n', k1, k2, rfl⟩
  · refine hZ (rg_cut [21]) 400 0 _ _ _ ?_; simp only [rg_e_iload_3 (cut := rg_cut [21]) (f := true) d_M_safe_0 rfl 1 rfl, rg_e_iconst (cut := rg_cut [21]) (f := false) d_M_safe_1 rfl 2 rfl (nI 1) rg_ki_1, rg_e_icmp_lt (cut := rg_cut [21]) (f := false) d_M_safe_2 rfl 5 rfl 11 rfl, rg_e_iload_3 (cut := rg_cut [21]) (f := false) d_M_safe_5 rfl 6 rfl, rg_e_bipush (cut := rg_cut [21]) (f := false) d_M_safe_6 rfl 8 rfl (nI 8) rg_kb_8, rg_e_icmp_le (cut := rg_cut [21]) (f := false) d_M_safe_8 rfl 11 rfl 15 rfl, rg_e_iconst (cut := rg_cut [21]) (f := false) d_M_safe_11 rfl 12 rfl (nI 1) rg_ki_1, rg_e_goto (cut := rg_cut [21]) (f := false) d_M_safe_12 rfl 16 rfl, rg_e_iconst (cut := rg_cut [21]) (f := false) d_M_safe_15 rfl 16 rfl (nI 0) rg_ki_0, rg_e_istore_4 (cut := rg_cut [21]) (f := false) d_M_safe_16 rfl 18 rfl, rg_e_iconst (cut := rg_cut [21]) (f := false) d_M_safe_18 rfl 19 rfl (nI 0) rg_ki_0, rg_e_istore_5 (cut := rg_cut [21]) (f := false) d_M_safe_19 rfl 21 rfl, rg_e_cut (cut := rg_cut [21]) 21 rfl, rg_nx_i, rg_nx_v, rg_wd_n, rg_wd_i, rg_wd_l, rg_wd_r, rg_clr_i, rg_clr_l, rg_clr_r, rg_clr_a, rg_clr_n, true_and, and_true, Nat.reduceAdd, Nat.reduceLeDiff, ↓Te_M_throwing, ↓Te_M_isSafe, rg_rt_e, rg_fit_ie, rg_fit_ve, rg_fit_1e, rg_fit_0e, rg_fit_be, h, forall_const, not_true_eq_false, false_imp_iff, and_true, true_and]
    exact badZ _ _ _ _ (hK1 (Or.inl (of_eq_true h)))
  · refine hZ (rg_cut [21]) 400 0 _ _ _ ?_; simp only [rg_e_iload_3 (cut := rg_cut [21]) (f := true) d_M_safe_0 rfl 1 rfl, rg_e_iconst (cut := rg_cut [21]) (f := false) d_M_safe_1 rfl 2 rfl (nI 1) rg_ki_1, rg_e_icmp_lt (cut := rg_cut [21]) (f := false) d_M_safe_2 rfl 5 rfl 11 rfl, rg_e_iload_3 (cut := rg_cut [21]) (f := false) d_M_safe_5 rfl 6 rfl, rg_e_bipush (cut := rg_cut [21]) (f := false) d_M_safe_6 rfl 8 rfl (nI 8) rg_kb_8, rg_e_icmp_le (cut := rg_cut [21]) (f := false) d_M_safe_8 rfl 11 rfl 15 rfl, rg_e_iconst (cut := rg_cut [21]) (f := false) d_M_safe_11 rfl 12 rfl (nI 1) rg_ki_1, rg_e_goto (cut := rg_cut [21]) (f := false) d_M_safe_12 rfl 16 rfl, rg_e_iconst (cut := rg_cut [21]) (f := false) d_M_safe_15 rfl 16 rfl (nI 0) rg_ki_0, rg_e_istore_4 (cut := rg_cut [21]) (f := false) d_M_safe_16 rfl 18 rfl, rg_e_iconst (cut := rg_cut [21]) (f := false) d_M_safe_18 rfl 19 rfl (nI 0) rg_ki_0, rg_e_istore_5 (cut := rg_cut [21]) (f := false) d_M_safe_19 rfl 21 rfl, rg_e_cut (cut := rg_cut [21]) 21 rfl, rg_nx_i, rg_nx_v, rg_wd_n, rg_wd_i, rg_wd_l, rg_wd_r, rg_clr_i, rg_clr_l, rg_clr_r, rg_clr_a, rg_clr_n, true_and, and_true, Nat.reduceAdd, Nat.reduceLeDiff, ↓Te_M_throwing, ↓Te_M_isSafe, rg_rt_e, rg_fit_ie, rg_fit_ve, rg_fit_1e, rg_fit_0e, rg_fit_be, h, h8, forall_const, not_true_eq_false, not_false_eq_true, false_imp_iff, and_true, true_and]
    exact badZ _ _ _ _ (hK1 (Or.inr ⟨h, h8⟩))
  obtain ⟨hKf, hKt⟩ := hK2 n' k1 k2 rfl
  have loop : ∀ (k : Nat) (w1 : rg_W) (a6 : Value), (k ≤ n' ∧ rg_fr [30] w w1 ∧ (∀ j, j < k → w1.1 30 (j + 1) = nI (peN p n' j)) ∧ ∀ j, j < k → pwB hg p n' j = true) → Z 21 [.ref 18, .long p, .null, .int (nI n'), .int (nI 0), .int (nI k), a6] [] w1 0 := by
    refine rg_lp3 _ _ (fun k _ _ => n' - k) ?_
    intro k w1 a6 ⟨hk, hf, hpath, hno⟩ ih
    have hG1 : GM ln hg w1 := hG.f (rg_fr_sub hf (by decide)) (by rw [hf.1 18 (by decide)]) (hG.2.2.1.fr (hf.1 29 (by decide)))
    have he := hG1.1.1
    rcases Nat.lt_or_ge k n' with hk9 | hk9
    · have p1 := pe_l (p := p) k2 hk9
      have hp := peN_lt p n' k
      have v1 : vp_in (nI (k + 1)) 44 := vp_in_nI (by omega) (by omega)
      have c1 : (nI (k + 1)).toNatClampNeg = k + 1 := nI_clamp (by omega)
      have vk : vp_in (nI k) 44 := vp_in_nI (by omega) (by omega)
      have ck : (nI k).toNatClampNeg = k := nI_clamp (by omega)
      have pl : (nI (eN hg) ≤ nI (peN p n' k)) = (eN hg ≤ peN p n' k) := nI_lep (by omega) (by omega)
      have pk0 : (nI k ≤ 0) = (k = 0) := by rw [← nI_0, nI_lep (by omega) (by omega)]; exact propext Nat.le_zero
      have stop : pwB hg p n' k = false → K (some (.int (nI 0))) (rg_up (rg_up w1 30 (k + 1) (nI (peN p n' k))) 18 0 (nI 1)) := fun h => by
        refine hKf ?_ _ (rg_fr_up hf (by decide) _ _)
        rw [Bool.eq_false_iff]
        intro z
        have := List.all_eq_true.mp z k (List.mem_range.mpr hk9)
        rw [h] at this
        cases this
      have next : pwB hg p n' k = true → ∀ a6 : Value, Z 21 [.ref 18, .long p, .null, .int (nI n'), .int (nI 0), .int (nI (k + 1)), a6] [] (rg_up w1 30 (k + 1) (nI (peN p n' k))) 0 := fun h a6 => by
        refine ih (k + 1) _ a6 ⟨by omega, rg_fr_up hf (by decide) _ _, fun j hj => ?_, fun j hj => ?_⟩ (by omega)
        · rw [rg_up_s]
          by_cases e : j = k
          · subst e; rw [upd_s]
          · rw [upd_n (by omega)]; exact hpath j (by omega)
        · by_cases e : j = k
          · subst e; exact h
          · exact hno j (by omega)
      refine hZ (rg_cut [21]) 400 21 _ _ _ ?_; simp only [rg_e_iload_5 (cut := rg_cut [21]) (f := true) d_M_safe_21 rfl 23 rfl, rg_e_iload_3 (cut := rg_cut [21]) (f := false) d_M_safe_23 rfl 24 rfl, rg_e_icmp_ge (cut := rg_cut [21]) (f := false) d_M_safe_24 rfl 27 rfl 110 rfl, rg_e_iload_4 (cut := rg_cut [21]) (f := false) d_M_safe_27 rfl 29 rfl, rg_e_if_ne (cut := rg_cut [21]) (f := false) d_M_safe_29 rfl 32 rfl 110 rfl, rg_e_lload_1 (cut := rg_cut [21]) (f := false) d_M_safe_32 rfl 33 rfl, rg_e_bipush (cut := rg_cut [21]) (f := false) d_M_safe_33 rfl 35 rfl (nI 8) rg_kb_8, rg_e_iload_3 (cut := rg_cut [21]) (f := false) d_M_safe_35 rfl 36 rfl, rg_e_iconst (cut := rg_cut [21]) (f := false) d_M_safe_36 rfl 37 rfl (nI 1) rg_ki_1, rg_e_isub (cut := rg_cut [21]) (f := false) d_M_safe_37 rfl 38 rfl, rg_e_iload_5 (cut := rg_cut [21]) (f := false) d_M_safe_38 rfl 40 rfl, rg_e_isub (cut := rg_cut [21]) (f := false) d_M_safe_40 rfl 41 rfl, rg_e_imul (cut := rg_cut [21]) (f := false) d_M_safe_41 rfl 42 rfl, rg_e_lshr (cut := rg_cut [21]) (f := false) d_M_safe_42 rfl 43 rfl, rg_e_ldc2 (P := P_M_safe) (cut := rg_cut [21]) (f := false) d_M_safe_43 rfl 46 rfl 255 rfl, rg_e_land (cut := rg_cut [21]) (f := false) d_M_safe_46 rfl 47 rfl, rg_e_l2i (cut := rg_cut [21]) (f := false) d_M_safe_47 rfl 48 rfl, rg_e_istore_6 (cut := rg_cut [21]) (f := false) d_M_safe_48 rfl 50 rfl, rg_e_iload_6 (cut := rg_cut [21]) (f := false) d_M_safe_50 rfl 52 rfl, rg_e_aload_0 (cut := rg_cut [21]) (f := false) d_M_safe_52 rfl 53 rfl, rg_e_geti (P := P_M_safe) (cut := rg_cut [21]) (f := false) d_M_safe_53 rfl 56 rfl 18 4 9 rfl (fun _ => rfl), rg_e_icmp_ge (cut := rg_cut [21]) (f := false) d_M_safe_56 rfl 59 rfl 86 rfl, rg_e_iload_5 (cut := rg_cut [21]) (f := false) d_M_safe_59 rfl 61 rfl, rg_e_if_le (cut := rg_cut [21]) (f := false) d_M_safe_61 rfl 64 rfl 90 rfl, rg_e_aload_0 (cut := rg_cut [21]) (f := false) d_M_safe_64 rfl 65 rfl, rg_e_getr (P := P_M_safe) (cut := rg_cut [21]) (f := false) d_M_safe_65 rfl 68 rfl 18 4 11 26 rfl (fun _ => rfl), rg_e_aload_0 (cut := rg_cut [21]) (f := false) d_M_safe_68 rfl 69 rfl, rg_e_getr (P := P_M_safe) (cut := rg_cut [21]) (f := false) d_M_safe_69 rfl 72 rfl 18 4 15 30 rfl (fun _ => rfl), rg_e_iload_5 (cut := rg_cut [21]) (f := false) d_M_safe_72 rfl 74 rfl, rg_e_iald (cut := rg_cut [21]) (f := false) d_M_safe_74 rfl 75 rfl 30 44 rfl, rg_e_iald (cut := rg_cut [21]) (f := false) d_M_safe_75 rfl 76 rfl 26 81 rfl, rg_e_aload_0 (cut := rg_cut [21]) (f := false) d_M_safe_76 rfl 77 rfl, rg_e_getr (P := P_M_safe) (cut := rg_cut [21]) (f := false) d_M_safe_77 rfl 80 rfl 18 4 10 25 rfl (fun _ => rfl), rg_e_iload_6 (cut := rg_cut [21]) (f := false) d_M_safe_80 rfl 82 rfl, rg_e_iald (cut := rg_cut [21]) (f := false) d_M_safe_82 rfl 83 rfl 25 81 rfl, rg_e_icmp_eq (cut := rg_cut [21]) (f := false) d_M_safe_83 rfl 86 rfl 90 rfl, rg_e_iconst (cut := rg_cut [21]) (f := false) d_M_safe_86 rfl 87 rfl (nI 1) rg_ki_1, rg_e_goto (cut := rg_cut [21]) (f := false) d_M_safe_87 rfl 91 rfl, rg_e_iconst (cut := rg_cut [21]) (f := false) d_M_safe_90 rfl 91 rfl (nI 0) rg_ki_0, rg_e_istore_4 (cut := rg_cut [21]) (f := false) d_M_safe_91 rfl 93 rfl, rg_e_aload_0 (cut := rg_cut [21]) (f := false) d_M_safe_93 rfl 94 rfl, rg_e_getr (P := P_M_safe) (cut := rg_cut [21]) (f := false) d_M_safe_94 rfl 97 rfl 18 4 15 30 rfl (fun _ => rfl), rg_e_iload_5 (cut := rg_cut [21]) (f := false) d_M_safe_97 rfl 99 rfl, rg_e_iconst (cut := rg_cut [21]) (f := false) d_M_safe_99 rfl 100 rfl (nI 1) rg_ki_1, rg_e_iadd (cut := rg_cut [21]) (f := false) d_M_safe_100 rfl 101 rfl, rg_e_iload_6 (cut := rg_cut [21]) (f := false) d_M_safe_101 rfl 103 rfl, rg_e_iast (cut := rg_cut [21]) (f := false) d_M_safe_103 rfl 104 rfl 30 44 rfl, rg_e_iinc_5 (cut := rg_cut [21]) (f := false) d_M_safe_104 rfl 107 rfl (nI 1) rg_ki_1, rg_e_goto (cut := rg_cut [21]) (f := false) d_M_safe_107 rfl 21 rfl, rg_e_aload_0 (cut := rg_cut [21]) (f := false) d_M_safe_110 rfl 111 rfl, rg_e_iload_4 (cut := rg_cut [21]) (f := false) d_M_safe_111 rfl 113 rfl, rg_e_iconst (cut := rg_cut [21]) (f := false) d_M_safe_113 rfl 114 rfl (nI 0) rg_ki_0, rg_e_cv3 (P := P_M_safe) (cut := rg_cut [21]) (f := false) d_M_safe_114 rfl T_M_throwing rfl, rg_e_if_ne (cut := rg_cut [21]) (f := false) d_M_safe_117 rfl 120 rfl 135 rfl, rg_e_aload_0 (cut := rg_cut [21]) (f := false) d_M_safe_120 rfl 121 rfl, rg_e_iconst (cut := rg_cut [21]) (f := false) d_M_safe_121 rfl 122 rfl (nI 1) rg_ki_1, rg_e_iload_3 (cut := rg_cut [21]) (f := false) d_M_safe_122 rfl 123 rfl, rg_e_iconst (cut := rg_cut [21]) (f := false) d_M_safe_123 rfl 124 rfl (nI 1) rg_ki_1, rg_e_iadd (cut := rg_cut [21]) (f := false) d_M_safe_124 rfl 125 rfl, rg_e_cv3 (P := P_M_safe) (cut := rg_cut [21]) (f := false) d_M_safe_125 rfl T_M_isSafe rfl, rg_e_if_eq (cut := rg_cut [21]) (f := false) d_M_safe_128 rfl 131 rfl 135 rfl, rg_e_iconst (cut := rg_cut [21]) (f := false) d_M_safe_131 rfl 132 rfl (nI 1) rg_ki_1, rg_e_goto (cut := rg_cut [21]) (f := false) d_M_safe_132 rfl 136 rfl, rg_e_iconst (cut := rg_cut [21]) (f := false) d_M_safe_135 rfl 136 rfl (nI 0) rg_ki_0, rg_e_iret (cut := rg_cut [21]) (f := false) d_M_safe_136 rfl, rg_e_cut (cut := rg_cut [21]) 21 rfl, rg_nx_i, rg_nx_v, rg_wd_n, rg_wd_i, rg_wd_l, rg_wd_r, rg_clr_i, rg_clr_l, rg_clr_r, rg_clr_a, rg_clr_n, true_and, and_true, Nat.reduceAdd, Nat.reduceLeDiff, ↓Te_M_throwing, ↓Te_M_isSafe, rg_rt_e, rg_fit_ie, rg_fit_ve, rg_fit_1e, rg_fit_0e, rg_fit_be, p1, he, pl, pk0, v1, c1, vk, ck, z1, z0, n0, n1, nI_add, not_false_eq_true, forall_const, false_imp_iff, not_true_eq_false, and_true, true_and]
      refine ⟨fun h => absurd h (nI_ge hk9 (by omega)), fun _ => ⟨fun h => badZ _ _ _ _ (stop ?_), fun h => ⟨fun h0 => next ?_ _, fun h0 => ?_⟩⟩⟩
      · unfold pwB
        rw [decide_eq_false (by omega)]
        rfl
      · unfold pwB
        rw [decide_eq_true (show peN p n' k < eN hg by omega), decide_eq_true h0]
        rfl
      · have hq : pwB hg p n' (k - 1) = true := hno (k - 1) (by omega)
        have hlt : peN p n' k < eN hg := by omega
        have hlt2 : peN p n' (k - 1) < eN hg := by
          unfold pwB at hq
          rw [Bool.and_eq_true] at hq
          exact of_decide_eq_true hq.1
        have e0 := hpath (k - 1) (by omega)
        rw [show k - 1 + 1 = k by omega] at e0
        have e1 := (hG1.1.2 _ hlt).1
        have e2 := (hG1.1.2 _ hlt2).2.1
        have la := sr_lt hlt
        have lb := sr_lt hlt2
        rw [e0, nI_clamp (by omega), nI_clamp (by omega), e1, e2, nI_eqp (by omega) (by omega)]
        refine ⟨vp_in_nI (by omega) (by omega), vp_in_nI (by omega) (by omega), fun h1 => ?_, fun h1 => ?_⟩
        · refine next ?_ _
          unfold pwB
          rw [decide_eq_true hlt, decide_eq_true h1.symm, Bool.or_true]
          rfl
        · refine badZ _ _ _ _ (stop ?_)
          unfold pwB
          rw [decide_eq_false (show ¬ sr hg (peN p n' k) = ds hg (peN p n' (k - 1)) from fun z => h1 z.symm), decide_eq_false h0, Bool.or_false, Bool.and_false]
    · obtain rfl : k = n' := by omega
      refine hZ (rg_cut [21]) 400 21 _ _ _ ?_; simp only [rg_e_iload_5 (cut := rg_cut [21]) (f := true) d_M_safe_21 rfl 23 rfl, rg_e_iload_3 (cut := rg_cut [21]) (f := false) d_M_safe_23 rfl 24 rfl, rg_e_icmp_ge (cut := rg_cut [21]) (f := false) d_M_safe_24 rfl 27 rfl 110 rfl, rg_e_iload_4 (cut := rg_cut [21]) (f := false) d_M_safe_27 rfl 29 rfl, rg_e_if_ne (cut := rg_cut [21]) (f := false) d_M_safe_29 rfl 32 rfl 110 rfl, rg_e_lload_1 (cut := rg_cut [21]) (f := false) d_M_safe_32 rfl 33 rfl, rg_e_bipush (cut := rg_cut [21]) (f := false) d_M_safe_33 rfl 35 rfl (nI 8) rg_kb_8, rg_e_iload_3 (cut := rg_cut [21]) (f := false) d_M_safe_35 rfl 36 rfl, rg_e_iconst (cut := rg_cut [21]) (f := false) d_M_safe_36 rfl 37 rfl (nI 1) rg_ki_1, rg_e_isub (cut := rg_cut [21]) (f := false) d_M_safe_37 rfl 38 rfl, rg_e_iload_5 (cut := rg_cut [21]) (f := false) d_M_safe_38 rfl 40 rfl, rg_e_isub (cut := rg_cut [21]) (f := false) d_M_safe_40 rfl 41 rfl, rg_e_imul (cut := rg_cut [21]) (f := false) d_M_safe_41 rfl 42 rfl, rg_e_lshr (cut := rg_cut [21]) (f := false) d_M_safe_42 rfl 43 rfl, rg_e_ldc2 (P := P_M_safe) (cut := rg_cut [21]) (f := false) d_M_safe_43 rfl 46 rfl 255 rfl, rg_e_land (cut := rg_cut [21]) (f := false) d_M_safe_46 rfl 47 rfl, rg_e_l2i (cut := rg_cut [21]) (f := false) d_M_safe_47 rfl 48 rfl, rg_e_istore_6 (cut := rg_cut [21]) (f := false) d_M_safe_48 rfl 50 rfl, rg_e_iload_6 (cut := rg_cut [21]) (f := false) d_M_safe_50 rfl 52 rfl, rg_e_aload_0 (cut := rg_cut [21]) (f := false) d_M_safe_52 rfl 53 rfl, rg_e_geti (P := P_M_safe) (cut := rg_cut [21]) (f := false) d_M_safe_53 rfl 56 rfl 18 4 9 rfl (fun _ => rfl), rg_e_icmp_ge (cut := rg_cut [21]) (f := false) d_M_safe_56 rfl 59 rfl 86 rfl, rg_e_iload_5 (cut := rg_cut [21]) (f := false) d_M_safe_59 rfl 61 rfl, rg_e_if_le (cut := rg_cut [21]) (f := false) d_M_safe_61 rfl 64 rfl 90 rfl, rg_e_aload_0 (cut := rg_cut [21]) (f := false) d_M_safe_64 rfl 65 rfl, rg_e_getr (P := P_M_safe) (cut := rg_cut [21]) (f := false) d_M_safe_65 rfl 68 rfl 18 4 11 26 rfl (fun _ => rfl), rg_e_aload_0 (cut := rg_cut [21]) (f := false) d_M_safe_68 rfl 69 rfl, rg_e_getr (P := P_M_safe) (cut := rg_cut [21]) (f := false) d_M_safe_69 rfl 72 rfl 18 4 15 30 rfl (fun _ => rfl), rg_e_iload_5 (cut := rg_cut [21]) (f := false) d_M_safe_72 rfl 74 rfl, rg_e_iald (cut := rg_cut [21]) (f := false) d_M_safe_74 rfl 75 rfl 30 44 rfl, rg_e_iald (cut := rg_cut [21]) (f := false) d_M_safe_75 rfl 76 rfl 26 81 rfl, rg_e_aload_0 (cut := rg_cut [21]) (f := false) d_M_safe_76 rfl 77 rfl, rg_e_getr (P := P_M_safe) (cut := rg_cut [21]) (f := false) d_M_safe_77 rfl 80 rfl 18 4 10 25 rfl (fun _ => rfl), rg_e_iload_6 (cut := rg_cut [21]) (f := false) d_M_safe_80 rfl 82 rfl, rg_e_iald (cut := rg_cut [21]) (f := false) d_M_safe_82 rfl 83 rfl 25 81 rfl, rg_e_icmp_eq (cut := rg_cut [21]) (f := false) d_M_safe_83 rfl 86 rfl 90 rfl, rg_e_iconst (cut := rg_cut [21]) (f := false) d_M_safe_86 rfl 87 rfl (nI 1) rg_ki_1, rg_e_goto (cut := rg_cut [21]) (f := false) d_M_safe_87 rfl 91 rfl, rg_e_iconst (cut := rg_cut [21]) (f := false) d_M_safe_90 rfl 91 rfl (nI 0) rg_ki_0, rg_e_istore_4 (cut := rg_cut [21]) (f := false) d_M_safe_91 rfl 93 rfl, rg_e_aload_0 (cut := rg_cut [21]) (f := false) d_M_safe_93 rfl 94 rfl, rg_e_getr (P := P_M_safe) (cut := rg_cut [21]) (f := false) d_M_safe_94 rfl 97 rfl 18 4 15 30 rfl (fun _ => rfl), rg_e_iload_5 (cut := rg_cut [21]) (f := false) d_M_safe_97 rfl 99 rfl, rg_e_iconst (cut := rg_cut [21]) (f := false) d_M_safe_99 rfl 100 rfl (nI 1) rg_ki_1, rg_e_iadd (cut := rg_cut [21]) (f := false) d_M_safe_100 rfl 101 rfl, rg_e_iload_6 (cut := rg_cut [21]) (f := false) d_M_safe_101 rfl 103 rfl, rg_e_iast (cut := rg_cut [21]) (f := false) d_M_safe_103 rfl 104 rfl 30 44 rfl, rg_e_iinc_5 (cut := rg_cut [21]) (f := false) d_M_safe_104 rfl 107 rfl (nI 1) rg_ki_1, rg_e_goto (cut := rg_cut [21]) (f := false) d_M_safe_107 rfl 21 rfl, rg_e_aload_0 (cut := rg_cut [21]) (f := false) d_M_safe_110 rfl 111 rfl, rg_e_iload_4 (cut := rg_cut [21]) (f := false) d_M_safe_111 rfl 113 rfl, rg_e_iconst (cut := rg_cut [21]) (f := false) d_M_safe_113 rfl 114 rfl (nI 0) rg_ki_0, rg_e_cv3 (P := P_M_safe) (cut := rg_cut [21]) (f := false) d_M_safe_114 rfl T_M_throwing rfl, rg_e_if_ne (cut := rg_cut [21]) (f := false) d_M_safe_117 rfl 120 rfl 135 rfl, rg_e_aload_0 (cut := rg_cut [21]) (f := false) d_M_safe_120 rfl 121 rfl, rg_e_iconst (cut := rg_cut [21]) (f := false) d_M_safe_121 rfl 122 rfl (nI 1) rg_ki_1, rg_e_iload_3 (cut := rg_cut [21]) (f := false) d_M_safe_122 rfl 123 rfl, rg_e_iconst (cut := rg_cut [21]) (f := false) d_M_safe_123 rfl 124 rfl (nI 1) rg_ki_1, rg_e_iadd (cut := rg_cut [21]) (f := false) d_M_safe_124 rfl 125 rfl, rg_e_cv3 (P := P_M_safe) (cut := rg_cut [21]) (f := false) d_M_safe_125 rfl T_M_isSafe rfl, rg_e_if_eq (cut := rg_cut [21]) (f := false) d_M_safe_128 rfl 131 rfl 135 rfl, rg_e_iconst (cut := rg_cut [21]) (f := false) d_M_safe_131 rfl 132 rfl (nI 1) rg_ki_1, rg_e_goto (cut := rg_cut [21]) (f := false) d_M_safe_132 rfl 136 rfl, rg_e_iconst (cut := rg_cut [21]) (f := false) d_M_safe_135 rfl 136 rfl (nI 0) rg_ki_0, rg_e_iret (cut := rg_cut [21]) (f := false) d_M_safe_136 rfl, rg_e_cut (cut := rg_cut [21]) 21 rfl, rg_nx_i, rg_nx_v, rg_wd_n, rg_wd_i, rg_wd_l, rg_wd_r, rg_clr_i, rg_clr_l, rg_clr_r, rg_clr_a, rg_clr_n, true_and, and_true, Nat.reduceAdd, Nat.reduceLeDiff, ↓Te_M_throwing, ↓Te_M_isSafe, rg_rt_e, rg_fit_ie, rg_fit_ve, rg_fit_1e, rg_fit_0e, rg_fit_be, z1, z0, n0, n1, nI_add, decide_true, decide_false, Bool.not_true, Bool.not_false, Bool.true_or, Bool.or_true, Bool.or_false, not_false_eq_true, forall_const, false_imp_iff, not_true_eq_false, if_false, if_true, reduceIte, and_true, true_and, zI_eq]
      refine ⟨fun _ => ?_, fun h => absurd (nI_le hk9 (by omega)) h⟩
      have hall : (List.range k).all (pwB hg p k) = true := List.all_eq_true.mpr (fun b hb => hno b (List.mem_range.mp hb))
      have hlt : ∀ j, j < k → peN p k j < eN hg := fun j hj => by
        have := hno j hj
        unfold pwB at this
        rw [Bool.and_eq_true] at this
        exact of_decide_eq_true this.1
      have hch : ∀ i, i + 1 < k → ds hg (peN p k i) = sr hg (peN p k (i + 1)) := fun i hi => by
        have := hno (i + 1) hi
        unfold pwB at this
        simp at this
        exact this.2.symm
      refine ⟨ln, hg, 1, k + 1, fun i => peN p k (i - 1), hG1.f (rg_fr_up (rg_fr_rf _ _) (by decide) _ _) (by rw [rg_up_s, upd_n (by decide)]) (hG1.2.2.1.fr (rg_up_n (by decide))), rfl, rfl, by omega, by omega, by omega, fun i h1 h2 => ⟨?_, hlt _ (by omega)⟩, fun w2 f1 f2 => ?_⟩
      · rw [rg_up_n (by decide)]
        have := hpath (i - 1) (by omega)
        rwa [show i - 1 + 1 = i by omega] at this
      · have hK := hKt hall w1 hf w2 f1 f2
        rw [sw_sf hlt hch]
        refine ⟨fun h => ?_, fun h => ?_⟩
        · rw [h] at hK; exact hK
        · have h : swB hg (peN p k) k = true := by rw [← Bool.not_eq_false]; exact h
          rw [h] at hK; exact hK
  have h : (nI n' < nI 1) = False := by rw [nI_ltp (by omega) (by omega)]; exact eq_false (by omega)
  have h8 : (nI n' ≤ nI 8) = True := by rw [nI_lep (by omega) (by omega)]; exact eq_true k2
  refine hZ (rg_cut [21]) 400 0 _ _ _ ?_; simp only [rg_e_iload_3 (cut := rg_cut [21]) (f := true) d_M_safe_0 rfl 1 rfl, rg_e_iconst (cut := rg_cut [21]) (f := false) d_M_safe_1 rfl 2 rfl (nI 1) rg_ki_1, rg_e_icmp_lt (cut := rg_cut [21]) (f := false) d_M_safe_2 rfl 5 rfl 11 rfl, rg_e_iload_3 (cut := rg_cut [21]) (f := false) d_M_safe_5 rfl 6 rfl, rg_e_bipush (cut := rg_cut [21]) (f := false) d_M_safe_6 rfl 8 rfl (nI 8) rg_kb_8, rg_e_icmp_le (cut := rg_cut [21]) (f := false) d_M_safe_8 rfl 11 rfl 15 rfl, rg_e_iconst (cut := rg_cut [21]) (f := false) d_M_safe_11 rfl 12 rfl (nI 1) rg_ki_1, rg_e_goto (cut := rg_cut [21]) (f := false) d_M_safe_12 rfl 16 rfl, rg_e_iconst (cut := rg_cut [21]) (f := false) d_M_safe_15 rfl 16 rfl (nI 0) rg_ki_0, rg_e_istore_4 (cut := rg_cut [21]) (f := false) d_M_safe_16 rfl 18 rfl, rg_e_iconst (cut := rg_cut [21]) (f := false) d_M_safe_18 rfl 19 rfl (nI 0) rg_ki_0, rg_e_istore_5 (cut := rg_cut [21]) (f := false) d_M_safe_19 rfl 21 rfl, rg_e_cut (cut := rg_cut [21]) 21 rfl, rg_nx_i, rg_nx_v, rg_wd_n, rg_wd_i, rg_wd_l, rg_wd_r, rg_clr_i, rg_clr_l, rg_clr_r, rg_clr_a, rg_clr_n, true_and, and_true, Nat.reduceAdd, Nat.reduceLeDiff, ↓Te_M_throwing, ↓Te_M_isSafe, rg_rt_e, rg_fit_ie, rg_fit_ve, rg_fit_1e, rg_fit_0e, rg_fit_be, h, h8, forall_const, not_true_eq_false, not_false_eq_true, false_imp_iff, and_true, true_and]
  exact loop 0 w _ ⟨by omega, rg_fr_rf _ _, fun j hj => absurd hj (by omega), fun j hj => absurd hj (by omega)⟩
