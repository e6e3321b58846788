/-! the reference: the search -/
def ChL (hg : Nat → Nat → Nat) (l : List Nat) : Prop := (∀ f ∈ l, f < eN hg) ∧ ∀ i, i + 1 < l.length → ds hg (l.getD i 0) = sr hg (l.getD (i + 1) 0)
def SfL (hg : Nat → Nat → Nat) (l : List Nat) : Prop := ∀ p q, p < q → q < l.length → pbE hg (l.getD p 0) (l.getD q 0) = false
theorem ch_pb {hg : Nat → Nat → Nat} {l : List Nat} (h : ChL hg l) {p q : Nat} (hp : p < q) (hq : q < l.length) : esN hg (l.getD p 0) (l.getD q 0) = pbE hg (l.getD p 0) (l.getD q 0) := by
  refine es_pb (h.1 _ (gD_mem (by omega))) (h.1 _ (gD_mem hq)) ?_
  have := ch_tc (hg := hg) (P := fun i => l.getD i 0) (b := 0) (e := l.length) (fun i _ hi => h.1 _ (gD_mem hi)) (fun i _ hi => h.2 i hi) (p := p) (by omega) (q - p - 1) (by omega)
  rwa [show p + 1 + (q - p - 1) = q by omega] at this
theorem sf_1 {hg : Nat → Nat → Nat} {l : List Nat} (h : ChL hg l) : sfR hg (fun i => l.getD (i - 1) 0) 1 (l.length + 1) = true ↔ SfL hg l := by
  rw [sfR_iff]
  constructor
  · intro g p q hp hq
    rw [← ch_pb h hp hq]
    exact g (p + 1) (q + 1) (by omega) (by omega) (by omega)
  · intro g p q h1 h2 h3
    show esN hg (l.getD (p - 1) 0) (l.getD (q - 1) 0) = false
    rw [ch_pb h (by omega) (by omega)]
    exact g (p - 1) (q - 1) (by omega) (by omega)
theorem sf_0 {hg : Nat → Nat → Nat} {l : List Nat} (h : ChL hg l) : sfR hg (fun i => l.getD i 0) 0 l.length = true ↔ SfL hg l := by
  rw [sfR_iff]
  constructor
  · intro g p q hp hq
    rw [← ch_pb h hp hq]
    exact g p q (by omega) (by omega) (by omega)
  · intro g p q h1 h2 h3
    show esN hg (l.getD p 0) (l.getD q 0) = false
    rw [ch_pb h h2 h3]
    exact g p q h2 h3
theorem Sf_app {hg : Nat → Nat → Nat} {t : List Nat} {e : Nat} (h : SfL hg t) : SfL hg (t ++ [e]) ↔ sfB hg t e = true := by
  unfold sfB
  rw [all_ix]
  constructor
  · intro g i hi
    have := g i t.length hi (by simp)
    rw [getD_l hi, getD_e] at this
    rw [this]
    rfl
  · intro g p q hp hq
    rw [List.length_append, List.length_singleton] at hq
    by_cases e : q = t.length
    · subst e
      rw [getD_l hp, getD_e]
      simpa using g p hp
    · rw [getD_l (by omega), getD_l (by omega)]
      exact h p q hp (by omega)
theorem Sf_cons {hg : Nat → Nat → Nat} {t : List Nat} {e : Nat} (h : SfL hg t) : SfL hg (e :: t) ↔ t.all (fun f => !pbE hg e f) = true := by
  rw [all_ix]
  constructor
  · intro g i hi
    have := g 0 (i + 1) (by omega) (by simpa using hi)
    rw [List.getD_cons_zero, List.getD_cons_succ] at this
    rw [this]
    rfl
  · intro g p q hp hq
    rw [List.length_cons] at hq
    cases q with
    | zero => omega
    | succ q =>
      cases p with
      | zero =>
        rw [List.getD_cons_zero, List.getD_cons_succ]
        simpa using g q (by omega)
      | succ p =>
        rw [List.getD_cons_succ, List.getD_cons_succ]
        exact h p q (by omega) (by omega)
theorem Ch_app {hg : Nat → Nat → Nat} {t : List Nat} {e : Nat} (h : ChL hg t) (he : e < eN hg) (hs : t = [] ∨ sr hg e = ds hg (lst t)) : ChL hg (t ++ [e]) := by
  refine ⟨fun f hf => ?_, fun i hi => ?_⟩
  · rcases List.mem_append.mp hf with g | g
    · exact h.1 f g
    · rw [List.mem_singleton.mp g]; exact he
  · rw [List.length_append, List.length_singleton] at hi
    by_cases e : i + 1 = t.length
    · rw [e, getD_e, getD_l (by omega)]
      rcases hs with hs | hs
      · subst hs; simp at e
      · rw [hs]
        unfold lst
        rw [show t.length - 1 = i by omega]
    · rw [getD_l (by omega), getD_l (by omega)]
      exact h.2 i (by omega)
theorem Ch_cons {hg : Nat → Nat → Nat} {t : List Nat} {e : Nat} (h : ChL hg t) (he : e < eN hg) (hs : ds hg e = sr hg (t.getD 0 0)) : ChL hg (e :: t) := by
  refine ⟨fun f hf => ?_, fun i hi => ?_⟩
  · rcases List.mem_cons.mp hf with g | g
    · rw [g]; exact he
    · exact h.1 f g
  · rw [List.length_cons] at hi
    cases i with
    | zero => rw [List.getD_cons_zero, List.getD_cons_succ]; exact hs
    | succ i => rw [List.getD_cons_succ, List.getD_cons_succ]; exact h.2 i (by omega)
/-- the trail, as the reference holds it -/
def MT (t : List Nat) (w : rg_W) : Prop := ∀ i, i < t.length → w.1 30 (i + 1) = nI (t.getD i 0)
-- M.hasEnd
def P_M_hasEnd : rg_P := (rg_F_M, [(227, 3, 0, T_M_isSafe)], [], [], [], [], 0)
def T_M_hasEnd : rg_T := fun as w K => match as with
  | [.ref 18, .int x] => ∃ ln hg t, GM ln hg w ∧ x = nI (t.length + 1) ∧ 0 < t.length ∧ t.length ≤ 40 ∧ MT t w ∧ ChL hg t ∧ SfL hg t ∧ ∀ w', rg_fr [29, 30] w w' → (∀ i, 1 ≤ i → i ≤ t.length → w'.1 30 i = w.1 30 i) → KnM hg w' → K (some (.int (zI ((List.range (eN hg)).any (okB hg t))))) w'
  | _ => False
theorem Te_M_hasEnd (x : Int32) (w : rg_W) (K : Option Value → rg_W → Prop) : T_M_hasEnd [.ref 18, .int x] w K = (∃ ln hg t, GM ln hg w ∧ x = nI (t.length + 1) ∧ 0 < t.length ∧ t.length ≤ 40 ∧ MT t w ∧ ChL hg t ∧ SfL hg t ∧ ∀ w', rg_fr [29, 30] w w' → (∀ i, 1 ≤ i → i ≤ t.length → w'.1 30 i = w.1 30 i) → KnM hg w' → K (some (.int (zI ((List.range (eN hg)).any (okB hg t))))) w') := rfl
theorem r_M_hasEnd : ∀ as w K, T_M_hasEnd as w K → ∃ r, as = .ref 18 :: r := by
  intro as w K h
  unfold T_M_hasEnd at h
  split at h
  · exact ⟨_, rfl⟩
  · exact h.elim
theorem G_M_hasEnd (l : Launch) : rg_Good l y_M_hasEnd c_M_hasEnd 3 (some .boolean) 2 T_M_hasEnd := by
  refine rg_good_of (P := P_M_hasEnd) (by decide) (rg_pok rg_F_M_ok (rg_cons (cw_M_113 (G_M_isSafe l) (by decide) r_M_isSafe) rg_nil)) ?_
  intro as w K Z hT hZ
  unfold T_M_hasEnd at hT
  split at hT
  rotate_left
  · exact hT.elim
  rename_i x
  refine ⟨Nat.le_of_ble_eq_true rfl, ?_⟩
  show Z 0 [.ref 18, .int x, .null] [] w 0
  obtain ⟨ln, hg, t, hG, rfl, ht, ht40, hM, hC, hS, hK⟩ := hT
  have h72 := eN_le hG.2.2.2
  have hle : lst t < eN hg := hC.1 _ (gD_mem (by omega))
  have ll := sr_lt hle
  have v1 : vp_in (nI (t.length + 1)) 44 := vp_in_nI (by omega) (by omega)
  have c1 : (nI (t.length + 1)).toNatClampNeg = t.length + 1 := nI_clamp (by omega)
  have s1 : nI (t.length + 1) - nI 1 = nI t.length := by rw [pk_sub (by omega), Nat.add_sub_cancel]
  have v2 : vp_in (nI t.length) 44 := vp_in_nI (by omega) (by omega)
  have c2 : (nI t.length).toNatClampNeg = t.length := nI_clamp (by omega)
  have v3 : vp_in (nI (lst t)) 81 := vp_in_nI (by omega) (by omega)
  have c3 : (nI (lst t)).toNatClampNeg = lst t := nI_clamp (by omega)
  have loop : ∀ (e : Nat) (w1 : rg_W), (e ≤ eN hg ∧ rg_fr [29, 30] w w1 ∧ (∀ i, 1 ≤ i → i ≤ t.length → w1.1 30 i = w.1 30 i) ∧ KnM hg w1 ∧ ∀ b, b < e → okB hg t b = false) → Z 2 [.ref 18, .int (nI (t.length + 1)), .int (nI e)] [] w1 0 := by
    refine rg_lp2 _ _ (fun e _ => eN hg - e) ?_
    intro e w1 ⟨he, hf, hsame, hk, hno⟩ ih
    have hG1 : GM ln hg w1 := hG.f (rg_fr_sub hf (by decide)) (by rw [hf.1 18 (by decide)]) hk
    have h9 := hG1.1.1
    rcases Nat.lt_or_ge e (eN hg) with he9 | he9
    · have ve : vp_in (nI e) 81 := vp_in_nI (by omega) (by omega)
      have ce : (nI e).toNatClampNeg = e := nI_clamp (by omega)
      have le := sr_lt he9
      have e1 := (hG1.1.2 e he9).1
      have e2 := (hG1.1.2 (lst t) hle).2.1
      have e3 : (rg_up w1 30 (t.length + 1) (nI e)).1 30 t.length = nI (lst t) := by
        rw [rg_up_s, upd_n (by omega), hsame t.length (by omega) (by omega)]
        have := hM (t.length - 1) (by omega)
        rw [show t.length - 1 + 1 = t.length by omega] at this
        exact this
      have p1 : (nI (sr hg e) = nI (ds hg (lst t))) = (sr hg e = ds hg (lst t)) := nI_eqp (by omega) (by omega)
      have nx : ∀ w2 : rg_W, rg_fr [29] (rg_up w1 30 (t.length + 1) (nI e)) w2 → KnM hg w2 → okB hg t e = false → Z 2 [.ref 18, .int (nI (t.length + 1)), .int (nI (e + 1))] [] w2 0 := fun w2 f1 f2 h => by
        refine ih (e + 1) w2 ⟨by omega, rg_fr_tr (rg_fr_up hf (by decide) _ _) (rg_fr_sub f1 (by decide)), fun i h1 h2 => ?_, f2, fun b hb => ?_⟩ (by omega)
        · rw [f1.1 30 (by decide), rg_up_s, upd_n (by omega)]
          exact hsame i h1 h2
        · by_cases hbe : b = e
          · subst hbe; exact h
          · exact hno b (by omega)
      refine hZ (rg_cut [2]) 400 2 _ _ _ ?_; simp only [rg_e_iload_2 (cut := rg_cut [2]) (f := true) d_M_hasEnd_2 rfl 3 rfl, rg_e_aload_0 (cut := rg_cut [2]) (f := false) d_M_hasEnd_3 rfl 4 rfl, rg_e_geti (P := P_M_hasEnd) (cut := rg_cut [2]) (f := false) d_M_hasEnd_4 rfl 7 rfl 18 4 9 rfl (fun _ => rfl), rg_e_icmp_ge (cut := rg_cut [2]) (f := false) d_M_hasEnd_7 rfl 10 rfl 58 rfl, rg_e_aload_0 (cut := rg_cut [2]) (f := false) d_M_hasEnd_10 rfl 11 rfl, rg_e_getr (P := P_M_hasEnd) (cut := rg_cut [2]) (f := false) d_M_hasEnd_11 rfl 14 rfl 18 4 15 30 rfl (fun _ => rfl), rg_e_iload_1 (cut := rg_cut [2]) (f := false) d_M_hasEnd_14 rfl 15 rfl, rg_e_iload_2 (cut := rg_cut [2]) (f := false) d_M_hasEnd_15 rfl 16 rfl, rg_e_iast (cut := rg_cut [2]) (f := false) d_M_hasEnd_16 rfl 17 rfl 30 44 rfl, rg_e_aload_0 (cut := rg_cut [2]) (f := false) d_M_hasEnd_17 rfl 18 rfl, rg_e_getr (P := P_M_hasEnd) (cut := rg_cut [2]) (f := false) d_M_hasEnd_18 rfl 21 rfl 18 4 10 25 rfl (fun _ => rfl), rg_e_iload_2 (cut := rg_cut [2]) (f := false) d_M_hasEnd_21 rfl 22 rfl, rg_e_iald (cut := rg_cut [2]) (f := false) d_M_hasEnd_22 rfl 23 rfl 25 81 rfl, rg_e_aload_0 (cut := rg_cut [2]) (f := false) d_M_hasEnd_23 rfl 24 rfl, rg_e_getr (P := P_M_hasEnd) (cut := rg_cut [2]) (f := false) d_M_hasEnd_24 rfl 27 rfl 18 4 11 26 rfl (fun _ => rfl), rg_e_aload_0 (cut := rg_cut [2]) (f := false) d_M_hasEnd_27 rfl 28 rfl, rg_e_getr (P := P_M_hasEnd) (cut := rg_cut [2]) (f := false) d_M_hasEnd_28 rfl 31 rfl 18 4 15 30 rfl (fun _ => rfl), rg_e_iload_1 (cut := rg_cut [2]) (f := false) d_M_hasEnd_31 rfl 32 rfl, rg_e_iconst (cut := rg_cut [2]) (f := false) d_M_hasEnd_32 rfl 33 rfl (nI 1) rg_ki_1, rg_e_isub (cut := rg_cut [2]) (f := false) d_M_hasEnd_33 rfl 34 rfl, rg_e_iald (cut := rg_cut [2]) (f := false) d_M_hasEnd_34 rfl 35 rfl 30 44 rfl, rg_e_iald (cut := rg_cut [2]) (f := false) d_M_hasEnd_35 rfl 36 rfl 26 81 rfl, rg_e_icmp_ne (cut := rg_cut [2]) (f := false) d_M_hasEnd_36 rfl 39 rfl 52 rfl, rg_e_aload_0 (cut := rg_cut [2]) (f := false) d_M_hasEnd_39 rfl 40 rfl, rg_e_iconst (cut := rg_cut [2]) (f := false) d_M_hasEnd_40 rfl 41 rfl (nI 1) rg_ki_1, rg_e_iload_1 (cut := rg_cut [2]) (f := false) d_M_hasEnd_41 rfl 42 rfl, rg_e_iconst (cut := rg_cut [2]) (f := false) d_M_hasEnd_42 rfl 43 rfl (nI 1) rg_ki_1, rg_e_iadd (cut := rg_cut [2]) (f := false) d_M_hasEnd_43 rfl 44 rfl, rg_e_cv3 (P := P_M_hasEnd) (cut := rg_cut [2]) (f := false) d_M_hasEnd_44 rfl T_M_isSafe rfl, rg_e_if_eq (cut := rg_cut [2]) (f := false) d_M_hasEnd_47 rfl 50 rfl 52 rfl, rg_e_iconst (cut := rg_cut [2]) (f := false) d_M_hasEnd_50 rfl 51 rfl (nI 1) rg_ki_1, rg_e_iret (cut := rg_cut [2]) (f := false) d_M_hasEnd_51 rfl, rg_e_iinc_2 (cut := rg_cut [2]) (f := false) d_M_hasEnd_52 rfl 55 rfl (nI 1) rg_ki_1, rg_e_goto (cut := rg_cut [2]) (f := false) d_M_hasEnd_55 rfl 2 rfl, rg_e_iconst (cut := rg_cut [2]) (f := false) d_M_hasEnd_58 rfl 59 rfl (nI 0) rg_ki_0, rg_e_iret (cut := rg_cut [2]) (f := false) d_M_hasEnd_59 rfl, rg_e_cut (cut := rg_cut [2]) 2 rfl, rg_nx_i, rg_nx_v, rg_wd_n, rg_wd_i, rg_wd_l, rg_wd_r, rg_clr_i, rg_clr_l, rg_clr_r, rg_clr_a, rg_clr_n, true_and, and_true, Nat.reduceAdd, Nat.reduceLeDiff, ↓Te_M_isSafe, rg_rt_e, rg_fit_ie, rg_fit_ve, rg_fit_1e, rg_fit_0e, rg_fit_be, h9, v1, c1, s1, v2, c2, v3, c3, ve, ce, e1, e2, e3, p1, nI_add, rg_up_n, ne_eq, not_false_eq_true, Nat.reduceEqDiff, zI_eq]
      refine ⟨fun h => absurd h (nI_ge he9 (by omega)), fun _ => ⟨fun h => nx _ (rg_fr_rf _ _) (hk.fr (rg_up_n (by decide))) (by unfold okB; rw [decide_eq_false h]; rfl), fun h => ?_⟩⟩
      have h := Classical.not_not.mp h
      have hC2 := Ch_app hC he9 (Or.inr h)
      have hl2 : (t ++ [e]).length = t.length + 1 := by simp
      refine ⟨ln, hg, 1, t.length + 2, fun i => (t ++ [e]).getD (i - 1) 0, hG1.f (rg_fr_up (rg_fr_rf _ _) (by decide) _ _) (by rw [rg_up_n (by decide)]) (hk.fr (rg_up_n (by decide))), rfl, rfl, by omega, by omega, by omega, fun i h1 h2 => ⟨?_, hC2.1 _ (gD_mem (by omega))⟩, fun w2 f1 f2 => ?_⟩
      · show _ = nI ((t ++ [e]).getD (i - 1) 0)
        rw [rg_up_s]
        by_cases ei : i = t.length + 1
        · subst ei
          rw [upd_s, Nat.add_sub_cancel, getD_e]
        · rw [upd_n ei, hsame i h1 (by omega), getD_l (by omega)]
          have := hM (i - 1) (by omega)
          rwa [show i - 1 + 1 = i by omega] at this
      · have key : sfR hg (fun i => (t ++ [e]).getD (i - 1) 0) 1 (t.length + 2) = sfB hg t e := by
          have := sf_1 hC2
          rw [hl2] at this
          rw [Bool.eq_iff_iff]
          exact this.trans (Sf_app hS)
        rw [key]
        refine ⟨fun h1 => nx w2 f1 f2 (by unfold okB; rw [h1, Bool.and_false]), fun h1 => ?_⟩
        have h1 : sfB hg t e = true := by rw [← Bool.not_eq_false]; exact h1
        have hany : (List.range (eN hg)).any (okB hg t) = true := List.any_eq_true.mpr ⟨e, List.mem_range.mpr he9, by unfold okB; rw [h1, decide_eq_true h]; rfl⟩
        rw [hany] at hK
        refine hK w2 (rg_fr_tr (rg_fr_up hf (by decide) _ _) (rg_fr_sub f1 (by decide))) (fun i g1 g2 => ?_) f2
        rw [f1.1 30 (by decide), rg_up_s, upd_n (by omega)]
        exact hsame i g1 g2
    · obtain rfl : e = eN hg := by omega
      refine hZ (rg_cut [2]) 400 2 _ _ _ ?_; simp only [rg_e_iload_2 (cut := rg_cut [2]) (f := true) d_M_hasEnd_2 rfl 3 rfl, rg_e_aload_0 (cut := rg_cut [2]) (f := false) d_M_hasEnd_3 rfl 4 rfl, rg_e_geti (P := P_M_hasEnd) (cut := rg_cut [2]) (f := false) d_M_hasEnd_4 rfl 7 rfl 18 4 9 rfl (fun _ => rfl), rg_e_icmp_ge (cut := rg_cut [2]) (f := false) d_M_hasEnd_7 rfl 10 rfl 58 rfl, rg_e_aload_0 (cut := rg_cut [2]) (f := false) d_M_hasEnd_10 rfl 11 rfl, rg_e_getr (P := P_M_hasEnd) (cut := rg_cut [2]) (f := false) d_M_hasEnd_11 rfl 14 rfl 18 4 15 30 rfl (fun _ => rfl), rg_e_iload_1 (cut := rg_cut [2]) (f := false) d_M_hasEnd_14 rfl 15 rfl, rg_e_iload_2 (cut := rg_cut [2]) (f := false) d_M_hasEnd_15 rfl 16 rfl, rg_e_iast (cut := rg_cut [2]) (f := false) d_M_hasEnd_16 rfl 17 rfl 30 44 rfl, rg_e_aload_0 (cut := rg_cut [2]) (f := false) d_M_hasEnd_17 rfl 18 rfl, rg_e_getr (P := P_M_hasEnd) (cut := rg_cut [2]) (f := false) d_M_hasEnd_18 rfl 21 rfl 18 4 10 25 rfl (fun _ => rfl), rg_e_iload_2 (cut := rg_cut [2]) (f := false) d_M_hasEnd_21 rfl 22 rfl, rg_e_iald (cut := rg_cut [2]) (f := false) d_M_hasEnd_22 rfl 23 rfl 25 81 rfl, rg_e_aload_0 (cut := rg_cut [2]) (f := false) d_M_hasEnd_23 rfl 24 rfl, rg_e_getr (P := P_M_hasEnd) (cut := rg_cut [2]) (f := false) d_M_hasEnd_24 rfl 27 rfl 18 4 11 26 rfl (fun _ => rfl), rg_e_aload_0 (cut := rg_cut [2]) (f := false) d_M_hasEnd_27 rfl 28 rfl, rg_e_getr (P := P_M_hasEnd) (cut := rg_cut [2]) (f := false) d_M_hasEnd_28 rfl 31 rfl 18 4 15 30 rfl (fun _ => rfl), rg_e_iload_1 (cut := rg_cut [2]) (f := false) d_M_hasEnd_31 rfl 32 rfl, rg_e_iconst (cut := rg_cut [2]) (f := false) d_M_hasEnd_32 rfl 33 rfl (nI 1) rg_ki_1, rg_e_isub (cut := rg_cut [2]) (f := false) d_M_hasEnd_33 rfl 34 rfl, rg_e_iald (cut := rg_cut [2]) (f := false) d_M_hasEnd_34 rfl 35 rfl 30 44 rfl, rg_e_iald (cut := rg_cut [2]) (f := false) d_M_hasEnd_35 rfl 36 rfl 26 81 rfl, rg_e_icmp_ne (cut := rg_cut [2]) (f := false) d_M_hasEnd_36 rfl 39 rfl 52 rfl, rg_e_aload_0 (cut := rg_cut [2]) (f := false) d_M_hasEnd_39 rfl 40 rfl, rg_e_iconst (cut := rg_cut [2]) (f := false) d_M_hasEnd_40 rfl 41 rfl (nI 1) rg_ki_1, rg_e_iload_1 (cut := rg_cut [2]) (f := false) d_M_hasEnd_41 rfl 42 rfl, rg_e_iconst (cut := rg_cut [2]) (f := false) d_M_hasEnd_42 rfl 43 rfl (nI 1) rg_ki_1, rg_e_iadd (cut := rg_cut [2]) (f := false) d_M_hasEnd_43 rfl 44 rfl, rg_e_cv3 (P := P_M_hasEnd) (cut := rg_cut [2]) (f := false) d_M_hasEnd_44 rfl T_M_isSafe rfl, rg_e_if_eq (cut := rg_cut [2]) (f := false) d_M_hasEnd_47 rfl 50 rfl 52 rfl, rg_e_iconst (cut := rg_cut [2]) (f := false) d_M_hasEnd_50 rfl 51 rfl (nI 1) rg_ki_1, rg_e_iret (cut := rg_cut [2]) (f := false) d_M_hasEnd_51 rfl, rg_e_iinc_2 (cut := rg_cut [2]) (f := false) d_M_hasEnd_52 rfl 55 rfl (nI 1) rg_ki_1, rg_e_goto (cut := rg_cut [2]) (f := false) d_M_hasEnd_55 rfl 2 rfl, rg_e_iconst (cut := rg_cut [2]) (f := false) d_M_hasEnd_58 rfl 59 rfl (nI 0) rg_ki_0, rg_e_iret (cut := rg_cut [2]) (f := false) d_M_hasEnd_59 rfl, rg_e_cut (cut := rg_cut [2]) 2 rfl, rg_nx_i, rg_nx_v, rg_wd_n, rg_wd_i, rg_wd_l, rg_wd_r, rg_clr_i, rg_clr_l, rg_clr_r, rg_clr_a, rg_clr_n, true_and, and_true, Nat.reduceAdd, Nat.reduceLeDiff, ↓Te_M_isSafe, rg_rt_e, rg_fit_ie, rg_fit_ve, rg_fit_1e, rg_fit_0e, rg_fit_be, h9]
      refine ⟨fun _ => ?_, fun h => absurd (nI_le he9 (by omega)) h⟩
      have hany : (List.range (eN hg)).any (okB hg t) = false := List.any_eq_false.mpr (fun b hb => by rw [hno b (List.mem_range.mp hb)]; decide)
      rw [hany] at hK
      exact hK w1 hf hsame hk
  refine hZ (rg_cut [2]) 400 0 _ _ _ ?_; simp only [rg_e_iconst (cut := rg_cut [2]) (f := true) d_M_hasEnd_0 rfl 1 rfl (nI 0) rg_ki_0, rg_e_istore_2 (cut := rg_cut [2]) (f := false) d_M_hasEnd_1 rfl 2 rfl, rg_e_cut (cut := rg_cut [2]) 2 rfl, rg_nx_i, rg_nx_v, rg_wd_n, rg_wd_i, rg_wd_l, rg_wd_r, rg_clr_i, rg_clr_l, rg_clr_r, rg_clr_a, rg_clr_n, true_and, and_true, Nat.reduceAdd, Nat.reduceLeDiff, ↓Te_M_isSafe, rg_rt_e, rg_fit_ie, rg_fit_ve, rg_fit_1e, rg_fit_0e, rg_fit_be]
  exact loop 0 w ⟨by omega, rg_fr_rf _ _, fun _ _ _ => rfl, hG.2.2.1, fun b hb => absurd hb (by omega)⟩
-- M.hasBeginning
def P_M_hasBeginning : rg_P := (rg_F_M, [(227, 3, 0, T_M_isSafe)], [], [], [], [], 0)
def T_M_hasBeginning : rg_T := fun as w K => match as with
  | [.ref 18, .int x] => ∃ ln hg t, GM ln hg w ∧ x = nI (t.length + 1) ∧ 0 < t.length ∧ t.length ≤ 40 ∧ MT t w ∧ ChL hg t ∧ SfL hg t ∧ ∀ w', rg_fr [29, 30] w w' → (∀ i, 1 ≤ i → i ≤ t.length → w'.1 30 i = w.1 30 i) → KnM hg w' → K (some (.int (zI (preB hg t)))) w'
  | _ => False
theorem Te_M_hasBeginning (x : Int32) (w : rg_W) (K : Option Value → rg_W → Prop) : T_M_hasBeginning [.ref 18, .int x] w K = (∃ ln hg t, GM ln hg w ∧ x = nI (t.length + 1) ∧ 0 < t.length ∧ t.length ≤ 40 ∧ MT t w ∧ ChL hg t ∧ SfL hg t ∧ ∀ w', rg_fr [29, 30] w w' → (∀ i, 1 ≤ i → i ≤ t.length → w'.1 30 i = w.1 30 i) → KnM hg w' → K (some (.int (zI (preB hg t)))) w') := rfl
theorem r_M_hasBeginning : ∀ as w K, T_M_hasBeginning as w K → ∃ r, as = .ref 18 :: r := by
  intro as w K h
  unfold T_M_hasBeginning at h
  split at h
  · exact ⟨_, rfl⟩
  · exact h.elim
theorem G_M_hasBeginning (l : Launch) : rg_Good l y_M_hasBeginning c_M_hasBeginning 3 (some .boolean) 2 T_M_hasBeginning := by
  refine rg_good_of (P := P_M_hasBeginning) (by decide) (rg_pok rg_F_M_ok (rg_cons (cw_M_113 (G_M_isSafe l) (by decide) r_M_isSafe) rg_nil)) ?_
  intro as w K Z hT hZ
  unfold T_M_hasBeginning at hT
  split at hT
  rotate_left
  · exact hT.elim
  rename_i x
  refine ⟨Nat.le_of_ble_eq_true rfl, ?_⟩
  show Z 0 [.ref 18, .int x, .null] [] w 0
  obtain ⟨ln, hg, t, hG, rfl, ht, ht40, hM, hC, hS, hK⟩ := hT
  have h72 := eN_le hG.2.2.2
  have hle : t.getD 0 0 < eN hg := hC.1 _ (gD_mem (by omega))
  have ll := sr_lt hle
  have v0 : vp_in (nI 0) 44 := vp_in_nI (by omega) (by omega)
  have c0 : (nI 0).toNatClampNeg = 0 := nI_clamp (by omega)
  have v1 : vp_in (nI 1) 44 := vp_in_nI (by omega) (by omega)
  have c1 : (nI 1).toNatClampNeg = 1 := nI_clamp (by omega)
  have v3 : vp_in (nI (t.getD 0 0)) 81 := vp_in_nI (by omega) (by omega)
  have c3 : (nI (t.getD 0 0)).toNatClampNeg = t.getD 0 0 := nI_clamp (by omega)
  have loop : ∀ (e : Nat) (w1 : rg_W), (e ≤ eN hg ∧ rg_fr [29, 30] w w1 ∧ (∀ i, 1 ≤ i → i ≤ t.length → w1.1 30 i = w.1 30 i) ∧ KnM hg w1 ∧ ∀ b, b < e → (decide (ds hg b = sr hg (t.getD 0 0)) && t.all (fun f => !pbE hg b f)) = false) → Z 2 [.ref 18, .int (nI (t.length + 1)), .int (nI e)] [] w1 0 := by
    refine rg_lp2 _ _ (fun e _ => eN hg - e) ?_
    intro e w1 ⟨he, hf, hsame, hk, hno⟩ ih
    have hG1 : GM ln hg w1 := hG.f (rg_fr_sub hf (by decide)) (by rw [hf.1 18 (by decide)]) hk
    have h9 := hG1.1.1
    rcases Nat.lt_or_ge e (eN hg) with he9 | he9
    · have ve : vp_in (nI e) 81 := vp_in_nI (by omega) (by omega)
      have ce : (nI e).toNatClampNeg = e := nI_clamp (by omega)
      have le := sr_lt he9
      have e1 := (hG1.1.2 e he9).2.1
      have e2 := (hG1.1.2 (t.getD 0 0) hle).1
      have e3 : (rg_up w1 30 0 (nI e)).1 30 1 = nI (t.getD 0 0) := by
        rw [rg_up_s, upd_n (by omega), hsame 1 (by omega) (by omega)]
        exact hM 0 (by omega)
      have p1 : (nI (ds hg e) = nI (sr hg (t.getD 0 0))) = (ds hg e = sr hg (t.getD 0 0)) := nI_eqp (by omega) (by omega)
      have nx : ∀ w2 : rg_W, rg_fr [29] (rg_up w1 30 0 (nI e)) w2 → KnM hg w2 → (decide (ds hg e = sr hg (t.getD 0 0)) && t.all (fun f => !pbE hg e f)) = false → Z 2 [.ref 18, .int (nI (t.length + 1)), .int (nI (e + 1))] [] w2 0 := fun w2 f1 f2 h => by
        refine ih (e + 1) w2 ⟨by omega, rg_fr_tr (rg_fr_up hf (by decide) _ _) (rg_fr_sub f1 (by decide)), fun i h1 h2 => ?_, f2, fun b hb => ?_⟩ (by omega)
        · rw [f1.1 30 (by decide), rg_up_s, upd_n (by omega)]
          exact hsame i h1 h2
        · by_cases hbe : b = e
          · subst hbe; exact h
          · exact hno b (by omega)
      refine hZ (rg_cut [2]) 400 2 _ _ _ ?_; simp only [rg_e_iload_2 (cut := rg_cut [2]) (f := true) d_M_hasBeginning_2 rfl 3 rfl, rg_e_aload_0 (cut := rg_cut [2]) (f := false) d_M_hasBeginning_3 rfl 4 rfl, rg_e_geti (P := P_M_hasBeginning) (cut := rg_cut [2]) (f := false) d_M_hasBeginning_4 rfl 7 rfl 18 4 9 rfl (fun _ => rfl), rg_e_icmp_ge (cut := rg_cut [2]) (f := false) d_M_hasBeginning_7 rfl 10 rfl 54 rfl, rg_e_aload_0 (cut := rg_cut [2]) (f := false) d_M_hasBeginning_10 rfl 11 rfl, rg_e_getr (P := P_M_hasBeginning) (cut := rg_cut [2]) (f := false) d_M_hasBeginning_11 rfl 14 rfl 18 4 15 30 rfl (fun _ => rfl), rg_e_iconst (cut := rg_cut [2]) (f := false) d_M_hasBeginning_14 rfl 15 rfl (nI 0) rg_ki_0, rg_e_iload_2 (cut := rg_cut [2]) (f := false) d_M_hasBeginning_15 rfl 16 rfl, rg_e_iast (cut := rg_cut [2]) (f := false) d_M_hasBeginning_16 rfl 17 rfl 30 44 rfl, rg_e_aload_0 (cut := rg_cut [2]) (f := false) d_M_hasBeginning_17 rfl 18 rfl, rg_e_getr (P := P_M_hasBeginning) (cut := rg_cut [2]) (f := false) d_M_hasBeginning_18 rfl 21 rfl 18 4 11 26 rfl (fun _ => rfl), rg_e_iload_2 (cut := rg_cut [2]) (f := false) d_M_hasBeginning_21 rfl 22 rfl, rg_e_iald (cut := rg_cut [2]) (f := false) d_M_hasBeginning_22 rfl 23 rfl 26 81 rfl, rg_e_aload_0 (cut := rg_cut [2]) (f := false) d_M_hasBeginning_23 rfl 24 rfl, rg_e_getr (P := P_M_hasBeginning) (cut := rg_cut [2]) (f := false) d_M_hasBeginning_24 rfl 27 rfl 18 4 10 25 rfl (fun _ => rfl), rg_e_aload_0 (cut := rg_cut [2]) (f := false) d_M_hasBeginning_27 rfl 28 rfl, rg_e_getr (P := P_M_hasBeginning) (cut := rg_cut [2]) (f := false) d_M_hasBeginning_28 rfl 31 rfl 18 4 15 30 rfl (fun _ => rfl), rg_e_iconst (cut := rg_cut [2]) (f := false) d_M_hasBeginning_31 rfl 32 rfl (nI 1) rg_ki_1, rg_e_iald (cut := rg_cut [2]) (f := false) d_M_hasBeginning_32 rfl 33 rfl 30 44 rfl, rg_e_iald (cut := rg_cut [2]) (f := false) d_M_hasBeginning_33 rfl 34 rfl 25 81 rfl, rg_e_icmp_ne (cut := rg_cut [2]) (f := false) d_M_hasBeginning_34 rfl 37 rfl 48 rfl, rg_e_aload_0 (cut := rg_cut [2]) (f := false) d_M_hasBeginning_37 rfl 38 rfl, rg_e_iconst (cut := rg_cut [2]) (f := false) d_M_hasBeginning_38 rfl 39 rfl (nI 0) rg_ki_0, rg_e_iload_1 (cut := rg_cut [2]) (f := false) d_M_hasBeginning_39 rfl 40 rfl, rg_e_cv3 (P := P_M_hasBeginning) (cut := rg_cut [2]) (f := false) d_M_hasBeginning_40 rfl T_M_isSafe rfl, rg_e_if_eq (cut := rg_cut [2]) (f := false) d_M_hasBeginning_43 rfl 46 rfl 48 rfl, rg_e_iconst (cut := rg_cut [2]) (f := false) d_M_hasBeginning_46 rfl 47 rfl (nI 1) rg_ki_1, rg_e_iret (cut := rg_cut [2]) (f := false) d_M_hasBeginning_47 rfl, rg_e_iinc_2 (cut := rg_cut [2]) (f := false) d_M_hasBeginning_48 rfl 51 rfl (nI 1) rg_ki_1, rg_e_goto (cut := rg_cut [2]) (f := false) d_M_hasBeginning_51 rfl 2 rfl, rg_e_iconst (cut := rg_cut [2]) (f := false) d_M_hasBeginning_54 rfl 55 rfl (nI 0) rg_ki_0, rg_e_iret (cut := rg_cut [2]) (f := false) d_M_hasBeginning_55 rfl, rg_e_cut (cut := rg_cut [2]) 2 rfl, rg_nx_i, rg_nx_v, rg_wd_n, rg_wd_i, rg_wd_l, rg_wd_r, rg_clr_i, rg_clr_l, rg_clr_r, rg_clr_a, rg_clr_n, true_and, and_true, Nat.reduceAdd, Nat.reduceLeDiff, ↓Te_M_isSafe, rg_rt_e, rg_fit_ie, rg_fit_ve, rg_fit_1e, rg_fit_0e, rg_fit_be, h9, v0, c0, v1, c1, v3, c3, ve, ce, e1, e2, e3, p1, nI_add, rg_up_n, ne_eq, not_false_eq_true, Nat.reduceEqDiff, zI_eq]
      refine ⟨fun h => absurd h (nI_ge he9 (by omega)), fun _ => ⟨fun h => nx _ (rg_fr_rf _ _) (hk.fr (rg_up_n (by decide))) (by rw [decide_eq_false h]; rfl), fun h => ?_⟩⟩
      have h := Classical.not_not.mp h
      have hC2 := Ch_cons hC he9 h
      refine ⟨ln, hg, 0, t.length + 1, fun i => (e :: t).getD i 0, hG1.f (rg_fr_up (rg_fr_rf _ _) (by decide) _ _) (by rw [rg_up_n (by decide)]) (hk.fr (rg_up_n (by decide))), rfl, rfl, by omega, by omega, by omega, fun i h1 h2 => ⟨?_, hC2.1 _ (gD_mem (by rw [List.length_cons]; exact h2))⟩, fun w2 f1 f2 => ?_⟩
      · show _ = nI ((e :: t).getD i 0)
        rw [rg_up_s]
        cases i with
        | zero => rw [upd_s, List.getD_cons_zero]
        | succ i =>
          rw [upd_n (by omega), hsame (i + 1) (by omega) (by omega), List.getD_cons_succ]
          exact hM i (by omega)
      · have key : sfR hg (fun i => (e :: t).getD i 0) 0 (t.length + 1) = t.all (fun f => !pbE hg e f) := by
          have := sf_0 hC2
          rw [List.length_cons] at this
          rw [Bool.eq_iff_iff]
          exact this.trans (Sf_cons hS)
        rw [key]
        refine ⟨fun h1 => nx w2 f1 f2 (by rw [h1, Bool.and_false]), fun h1 => ?_⟩
        have h1 : t.all (fun f => !pbE hg e f) = true := by rw [← Bool.not_eq_false]; exact h1
        have hany : preB hg t = true := List.any_eq_true.mpr ⟨e, List.mem_range.mpr he9, by rw [h1, decide_eq_true h]; rfl⟩
        rw [hany] at hK
        refine hK w2 (rg_fr_tr (rg_fr_up hf (by decide) _ _) (rg_fr_sub f1 (by decide))) (fun i g1 g2 => ?_) f2
        rw [f1.1 30 (by decide), rg_up_s, upd_n (by omega)]
        exact hsame i g1 g2
    · obtain rfl : e = eN hg := by omega
      refine hZ (rg_cut [2]) 400 2 _ _ _ ?_; simp only [rg_e_iload_2 (cut := rg_cut [2]) (f := true) d_M_hasBeginning_2 rfl 3 rfl, rg_e_aload_0 (cut := rg_cut [2]) (f := false) d_M_hasBeginning_3 rfl 4 rfl, rg_e_geti (P := P_M_hasBeginning) (cut := rg_cut [2]) (f := false) d_M_hasBeginning_4 rfl 7 rfl 18 4 9 rfl (fun _ => rfl), rg_e_icmp_ge (cut := rg_cut [2]) (f := false) d_M_hasBeginning_7 rfl 10 rfl 54 rfl, rg_e_aload_0 (cut := rg_cut [2]) (f := false) d_M_hasBeginning_10 rfl 11 rfl, rg_e_getr (P := P_M_hasBeginning) (cut := rg_cut [2]) (f := false) d_M_hasBeginning_11 rfl 14 rfl 18 4 15 30 rfl (fun _ => rfl), rg_e_iconst (cut := rg_cut [2]) (f := false) d_M_hasBeginning_14 rfl 15 rfl (nI 0) rg_ki_0, rg_e_iload_2 (cut := rg_cut [2]) (f := false) d_M_hasBeginning_15 rfl 16 rfl, rg_e_iast (cut := rg_cut [2]) (f := false) d_M_hasBeginning_16 rfl 17 rfl 30 44 rfl, rg_e_aload_0 (cut := rg_cut [2]) (f := false) d_M_hasBeginning_17 rfl 18 rfl, rg_e_getr (P := P_M_hasBeginning) (cut := rg_cut [2]) (f := false) d_M_hasBeginning_18 rfl 21 rfl 18 4 11 26 rfl (fun _ => rfl), rg_e_iload_2 (cut := rg_cut [2]) (f := false) d_M_hasBeginning_21 rfl 22 rfl, rg_e_iald (cut := rg_cut [2]) (f := false) d_M_hasBeginning_22 rfl 23 rfl 26 81 rfl, rg_e_aload_0 (cut := rg_cut [2]) (f := false) d_M_hasBeginning_23 rfl 24 rfl, rg_e_getr (P := P_M_hasBeginning) (cut := rg_cut [2]) (f := false) d_M_hasBeginning_24 rfl 27 rfl 18 4 10 25 rfl (fun _ => rfl), rg_e_aload_0 (cut := rg_cut [2]) (f := false) d_M_hasBeginning_27 rfl 28 rfl, rg_e_getr (P := P_M_hasBeginning) (cut := rg_cut [2]) (f := false) d_M_hasBeginning_28 rfl 31 rfl 18 4 15 30 rfl (fun _ => rfl), rg_e_iconst (cut := rg_cut [2]) (f := false) d_M_hasBeginning_31 rfl 32 rfl (nI 1) rg_ki_1, rg_e_iald (cut := rg_cut [2]) (f := false) d_M_hasBeginning_32 rfl 33 rfl 30 44 rfl, rg_e_iald (cut := rg_cut [2]) (f := false) d_M_hasBeginning_33 rfl 34 rfl 25 81 rfl, rg_e_icmp_ne (cut := rg_cut [2]) (f := false) d_M_hasBeginning_34 rfl 37 rfl 48 rfl, rg_e_aload_0 (cut := rg_cut [2]) (f := false) d_M_hasBeginning_37 rfl 38 rfl, rg_e_iconst (cut := rg_cut [2]) (f := false) d_M_hasBeginning_38 rfl 39 rfl (nI 0) rg_ki_0, rg_e_iload_1 (cut := rg_cut [2]) (f := false) d_M_hasBeginning_39 rfl 40 rfl, rg_e_cv3 (P := P_M_hasBeginning) (cut := rg_cut [2]) (f := false) d_M_hasBeginning_40 rfl T_M_isSafe rfl, rg_e_if_eq (cut := rg_cut [2]) (f := false) d_M_hasBeginning_43 rfl 46 rfl 48 rfl, rg_e_iconst (cut := rg_cut [2]) (f := false) d_M_hasBeginning_46 rfl 47 rfl (nI 1) rg_ki_1, rg_e_iret (cut := rg_cut [2]) (f := false) d_M_hasBeginning_47 rfl, rg_e_iinc_2 (cut := rg_cut [2]) (f := false) d_M_hasBeginning_48 rfl 51 rfl (nI 1) rg_ki_1, rg_e_goto (cut := rg_cut [2]) (f := false) d_M_hasBeginning_51 rfl 2 rfl, rg_e_iconst (cut := rg_cut [2]) (f := false) d_M_hasBeginning_54 rfl 55 rfl (nI 0) rg_ki_0, rg_e_iret (cut := rg_cut [2]) (f := false) d_M_hasBeginning_55 rfl, rg_e_cut (cut := rg_cut [2]) 2 rfl, rg_nx_i, rg_nx_v, rg_wd_n, rg_wd_i, rg_wd_l, rg_wd_r, rg_clr_i, rg_clr_l, rg_clr_r, rg_clr_a, rg_clr_n, true_and, and_true, Nat.reduceAdd, Nat.reduceLeDiff, ↓Te_M_isSafe, rg_rt_e, rg_fit_ie, rg_fit_ve, rg_fit_1e, rg_fit_0e, rg_fit_be, h9]
      refine ⟨fun _ => ?_, fun h => absurd (nI_le he9 (by omega)) h⟩
      have hany : preB hg t = false := List.any_eq_false.mpr (fun b hb => by rw [hno b (List.mem_range.mp hb)]; decide)
      rw [hany] at hK
      exact hK w1 hf hsame hk
  refine hZ (rg_cut [2]) 400 0 _ _ _ ?_; simp only [rg_e_iconst (cut := rg_cut [2]) (f := true) d_M_hasBeginning_0 rfl 1 rfl (nI 0) rg_ki_0, rg_e_istore_2 (cut := rg_cut [2]) (f := false) d_M_hasBeginning_1 rfl 2 rfl, rg_e_cut (cut := rg_cut [2]) 2 rfl, rg_nx_i, rg_nx_v, rg_wd_n, rg_wd_i, rg_wd_l, rg_wd_r, rg_clr_i, rg_clr_l, rg_clr_r, rg_clr_a, rg_clr_n, true_and, and_true, Nat.reduceAdd, Nat.reduceLeDiff, ↓Te_M_isSafe, rg_rt_e, rg_fit_ie, rg_fit_ve, rg_fit_1e, rg_fit_0e, rg_fit_be]
  exact loop 0 w ⟨by omega, rg_fr_rf _ _, fun _ _ _ => rfl, hG.2.2.1, fun b hb => absurd hb (by omega)⟩
/-- walks kept, as the reference holds them -/
def AcM (A : List (List Nat)) (w : rg_W) : Prop := w.1 18 17 = nI A.length ∧ A.length ≤ 50 ∧ ∀ k, k < A.length → (A.getD k []).length ≤ 40 ∧ w.1 32 k = nI (A.getD k []).length ∧ ∀ i, i < (A.getD k []).length → w.1 33 (40 * k + i) = nI ((A.getD k []).getD i 0)
theorem AcM.fr {A : List (List Nat)} {w w' : rg_W} (h : AcM A w) (h1 : w'.1 18 17 = w.1 18 17) (h2 : w'.1 32 = w.1 32) (h3 : w'.1 33 = w.1 33) : AcM A w' := by
  unfold AcM
  rw [h1, h2, h3]
  exact h
theorem cR_nil {q : Nat → Bool} : ∀ k x, cR q x k = [] → ∀ e, x ≤ e → e < x + k → q e = false
  | 0, x, _, e, h1, h2 => by omega
  | k + 1, x, h, e, h1, h2 => by
    rw [cR] at h
    split at h
    · cases h
    · rename_i hq
      by_cases hx : e = x
      · subst hx; simpa using hq
      · exact cR_nil k (x + 1) h e (by omega) (by omega)
theorem cs_any {hg : Nat → Nat → Nat} {t : List Nat} : (List.range (eN hg)).any (okB hg t) = false ↔ cs_ hg t 0 = [] := by
  unfold cs_
  constructor
  · intro h
    refine cR_no _ _ (fun e h1 h2 => ?_)
    have := List.any_eq_false.mp h e (List.mem_range.mpr (by omega))
    simpa using this
  · intro h
    refine List.any_eq_false.mpr (fun b hb => ?_)
    rw [cR_nil _ _ h b (by omega) (by have := List.mem_range.mp hb; omega)]
    decide
/-- what a trail adds by itself -/
noncomputable def own (hg : Nat → Nat → Nat) (t : List Nat) : List (List Nat) := if (List.range (eN hg)).any (okB hg t) = true then [] else if preB hg t = true then [] else [t]
def KpR (hg : Nat → Nat → Nat) (t : List Nat) (w w' : rg_W) : Prop := rg_fr [18, 29, 30, 32, 33] w w' ∧ (∀ q, q ≠ 17 → w'.1 18 q = w.1 18 q) ∧ (∀ i, 1 ≤ i → i ≤ t.length → w'.1 30 i = w.1 30 i) ∧ KnM hg w'
-- M.keep
def P_M_keep : rg_P := (rg_F_M, [(233, 2, 0, T_M_hasEnd), (239, 2, 0, T_M_hasBeginning)], [], [], [], [], 0)
def T_M_keep : rg_T := fun as w K => match as with
  | [.ref 18, .int x] => ∃ ln hg t A, GM ln hg w ∧ x = nI t.length ∧ 0 < t.length ∧ t.length ≤ 40 ∧ MT t w ∧ ChL hg t ∧ SfL hg t ∧ AcM A w ∧ (A.length + (own hg t).length ≤ 50 → ∀ w', KpR hg t w w' → AcM (A ++ own hg t) w' → K (some (.int (nI 1))) w') ∧ (¬ A.length + (own hg t).length ≤ 50 → ∀ w', KpR hg t w w' → K (some (.int (nI 0))) w')
  | _ => False
theorem Te_M_keep (x : Int32) (w : rg_W) (K : Option Value → rg_W → Prop) : T_M_keep [.ref 18, .int x] w K = (∃ ln hg t A, GM ln hg w ∧ x = nI t.length ∧ 0 < t.length ∧ t.length ≤ 40 ∧ MT t w ∧ ChL hg t ∧ SfL hg t ∧ AcM A w ∧ (A.length + (own hg t).length ≤ 50 → ∀ w', KpR hg t w w' → AcM (A ++ own hg t) w' → K (some (.int (nI 1))) w') ∧ (¬ A.length + (own hg t).length ≤ 50 → ∀ w', KpR hg t w w' → K (some (.int (nI 0))) w')) := rfl
theorem r_M_keep : ∀ as w K, T_M_keep as w K → ∃ r, as = .ref 18 :: r := by
  intro as w K h
  unfold T_M_keep at h
  split at h
  · exact ⟨_, rfl⟩
  · exact h.elim
theorem G_M_keep (l : Launch) : rg_Good l y_M_keep c_M_keep 3 (some .boolean) 3 T_M_keep := by
  refine rg_good_of (P := P_M_keep) (by decide) (rg_pok rg_F_M_ok (rg_cons (cw_M_116 (G_M_hasEnd l) (by decide) r_M_hasEnd) (rg_cons (cw_M_119 (G_M_hasBeginning l) (by decide) r_M_hasBeginning) rg_nil))) ?_
  intro as w K Z hT hZ
  unfold T_M_keep at hT
  split at hT
  rotate_left
  · exact hT.elim
  rename_i x
  refine ⟨Nat.le_of_ble_eq_true rfl, ?_⟩
  show Z 0 [.ref 18, .int x, .null] [] w 0
  obtain ⟨ln, hg, t, A, hG, rfl, ht, ht40, hM, hC, hS, hA, hK1, hK0⟩ := hT
  have hl50 := hA.2.1
  have full : ∀ (w1 : rg_W), KpR hg t w w1 → AcM A w1 → MT t w1 → A.length < 50 → own hg t = [t] → w1.1 32 A.length = nI t.length → ∀ (k : Nat) (w2 : rg_W), (k ≤ t.length ∧ rg_fr [33] w1 w2 ∧ (∀ q, q < 40 * A.length → w2.1 33 q = w1.1 33 q) ∧ ∀ b, b < k → w2.1 33 (40 * A.length + b) = nI (t.getD b 0)) → Z 45 [.ref 18, .int (nI t.length), .int (nI k)] [] w2 0 := by
    intro w1 hP hA1 hM1 hlt how h32
    refine rg_lp2 _ _ (fun k _ => t.length - k) ?_
    intro k w2 ⟨hk, hf, hlo, hhi⟩ ih
    have h17 : w2.1 18 17 = nI A.length := by rw [hf.1 18 (by decide)]; exact hA1.1
    rcases Nat.lt_or_ge k t.length with hk9 | hk9
    · have x1 : nI 40 * nI A.length + nI k = nI (40 * A.length + k) := by rw [pk_mul, nI_add]
      have v1 : vp_in (nI (40 * A.length + k)) 2000 := vp_in_nI (by omega) (by omega)
      have c1 : (nI (40 * A.length + k)).toNatClampNeg = 40 * A.length + k := nI_clamp (by omega)
      have v2 : vp_in (nI (k + 1)) 44 := vp_in_nI (by omega) (by omega)
      have c2 : (nI (k + 1)).toNatClampNeg = k + 1 := nI_clamp (by omega)
      have e1 : w2.1 30 (k + 1) = nI (t.getD k 0) := by rw [hf.1 30 (by decide)]; exact hM1 k hk9
      refine hZ (rg_cut [45]) 400 45 _ _ _ ?_; simp only [rg_e_iload_2 (cut := rg_cut [45]) (f := true) d_M_keep_45 rfl 46 rfl, rg_e_iload_1 (cut := rg_cut [45]) (f := false) d_M_keep_46 rfl 47 rfl, rg_e_icmp_ge (cut := rg_cut [45]) (f := false) d_M_keep_47 rfl 50 rfl 78 rfl, rg_e_aload_0 (cut := rg_cut [45]) (f := false) d_M_keep_50 rfl 51 rfl, rg_e_getr (P := P_M_keep) (cut := rg_cut [45]) (f := false) d_M_keep_51 rfl 54 rfl 18 4 19 33 rfl (fun _ => rfl), rg_e_bipush (cut := rg_cut [45]) (f := false) d_M_keep_54 rfl 56 rfl (nI 40) rg_kb_40, rg_e_aload_0 (cut := rg_cut [45]) (f := false) d_M_keep_56 rfl 57 rfl, rg_e_geti (P := P_M_keep) (cut := rg_cut [45]) (f := false) d_M_keep_57 rfl 60 rfl 18 4 17 rfl (fun _ => rfl), rg_e_imul (cut := rg_cut [45]) (f := false) d_M_keep_60 rfl 61 rfl, rg_e_iload_2 (cut := rg_cut [45]) (f := false) d_M_keep_61 rfl 62 rfl, rg_e_iadd (cut := rg_cut [45]) (f := false) d_M_keep_62 rfl 63 rfl, rg_e_aload_0 (cut := rg_cut [45]) (f := false) d_M_keep_63 rfl 64 rfl, rg_e_getr (P := P_M_keep) (cut := rg_cut [45]) (f := false) d_M_keep_64 rfl 67 rfl 18 4 15 30 rfl (fun _ => rfl), rg_e_iload_2 (cut := rg_cut [45]) (f := false) d_M_keep_67 rfl 68 rfl, rg_e_iconst (cut := rg_cut [45]) (f := false) d_M_keep_68 rfl 69 rfl (nI 1) rg_ki_1, rg_e_iadd (cut := rg_cut [45]) (f := false) d_M_keep_69 rfl 70 rfl, rg_e_iald (cut := rg_cut [45]) (f := false) d_M_keep_70 rfl 71 rfl 30 44 rfl, rg_e_iast (cut := rg_cut [45]) (f := false) d_M_keep_71 rfl 72 rfl 33 2000 rfl, rg_e_iinc_2 (cut := rg_cut [45]) (f := false) d_M_keep_72 rfl 75 rfl (nI 1) rg_ki_1, rg_e_goto (cut := rg_cut [45]) (f := false) d_M_keep_75 rfl 45 rfl, rg_e_aload_0 (cut := rg_cut [45]) (f := false) d_M_keep_78 rfl 79 rfl, rg_e_dupr (cut := rg_cut [45]) (f := false) d_M_keep_79 rfl 80 rfl, rg_e_geti (P := P_M_keep) (cut := rg_cut [45]) (f := false) d_M_keep_80 rfl 83 rfl 18 4 17 rfl (fun _ => rfl), rg_e_iconst (cut := rg_cut [45]) (f := false) d_M_keep_83 rfl 84 rfl (nI 1) rg_ki_1, rg_e_iadd (cut := rg_cut [45]) (f := false) d_M_keep_84 rfl 85 rfl, rg_e_put (P := P_M_keep) (cut := rg_cut [45]) (f := false) d_M_keep_85 rfl 88 rfl 18 4 17 rfl rfl, rg_e_iconst (cut := rg_cut [45]) (f := false) d_M_keep_88 rfl 89 rfl (nI 1) rg_ki_1, rg_e_iret (cut := rg_cut [45]) (f := false) d_M_keep_89 rfl, rg_e_cut (cut := rg_cut [45]) 45 rfl, rg_nx_i, rg_nx_v, rg_wd_n, rg_wd_i, rg_wd_l, rg_wd_r, rg_clr_i, rg_clr_l, rg_clr_r, rg_clr_a, rg_clr_n, true_and, and_true, Nat.reduceAdd, Nat.reduceLeDiff, ↓Te_M_hasEnd, ↓Te_M_hasBeginning, rg_rt_e, rg_fit_ie, rg_fit_ve, rg_fit_1e, rg_fit_0e, rg_fit_be, h17, x1, v1, c1, v2, c2, e1, nI_add]
      refine ⟨fun h => absurd h (nI_ge hk9 (by omega)), fun _ => ih (k + 1) _ ⟨by omega, rg_fr_up hf (by decide) _ _, fun q hq => ?_, fun b hb => ?_⟩ (by omega)⟩
      · rw [rg_up_s, upd_n (by omega)]; exact hlo q hq
      · rw [rg_up_s]
        by_cases e : b = k
        · subst e; rw [upd_s]
        · rw [upd_n (by omega)]; exact hhi b (by omega)
    · obtain rfl : k = t.length := by omega
      have c17 : (rg_up w2 18 17 (nI (A.length + 1))).1 18 17 = nI (A.length + 1) := rg_up_ss _ _ _ _
      refine hZ (rg_cut [45]) 400 45 _ _ _ ?_; simp only [rg_e_iload_2 (cut := rg_cut [45]) (f := true) d_M_keep_45 rfl 46 rfl, rg_e_iload_1 (cut := rg_cut [45]) (f := false) d_M_keep_46 rfl 47 rfl, rg_e_icmp_ge (cut := rg_cut [45]) (f := false) d_M_keep_47 rfl 50 rfl 78 rfl, rg_e_aload_0 (cut := rg_cut [45]) (f := false) d_M_keep_50 rfl 51 rfl, rg_e_getr (P := P_M_keep) (cut := rg_cut [45]) (f := false) d_M_keep_51 rfl 54 rfl 18 4 19 33 rfl (fun _ => rfl), rg_e_bipush (cut := rg_cut [45]) (f := false) d_M_keep_54 rfl 56 rfl (nI 40) rg_kb_40, rg_e_aload_0 (cut := rg_cut [45]) (f := false) d_M_keep_56 rfl 57 rfl, rg_e_geti (P := P_M_keep) (cut := rg_cut [45]) (f := false) d_M_keep_57 rfl 60 rfl 18 4 17 rfl (fun _ => rfl), rg_e_imul (cut := rg_cut [45]) (f := false) d_M_keep_60 rfl 61 rfl, rg_e_iload_2 (cut := rg_cut [45]) (f := false) d_M_keep_61 rfl 62 rfl, rg_e_iadd (cut := rg_cut [45]) (f := false) d_M_keep_62 rfl 63 rfl, rg_e_aload_0 (cut := rg_cut [45]) (f := false) d_M_keep_63 rfl 64 rfl, rg_e_getr (P := P_M_keep) (cut := rg_cut [45]) (f := false) d_M_keep_64 rfl 67 rfl 18 4 15 30 rfl (fun _ => rfl), rg_e_iload_2 (cut := rg_cut [45]) (f := false) d_M_keep_67 rfl 68 rfl, rg_e_iconst (cut := rg_cut [45]) (f := false) d_M_keep_68 rfl 69 rfl (nI 1) rg_ki_1, rg_e_iadd (cut := rg_cut [45]) (f := false) d_M_keep_69 rfl 70 rfl, rg_e_iald (cut := rg_cut [45]) (f := false) d_M_keep_70 rfl 71 rfl 30 44 rfl, rg_e_iast (cut := rg_cut [45]) (f := false) d_M_keep_71 rfl 72 rfl 33 2000 rfl, rg_e_iinc_2 (cut := rg_cut [45]) (f := false) d_M_keep_72 rfl 75 rfl (nI 1) rg_ki_1, rg_e_goto (cut := rg_cut [45]) (f := false) d_M_keep_75 rfl 45 rfl, rg_e_aload_0 (cut := rg_cut [45]) (f := false) d_M_keep_78 rfl 79 rfl, rg_e_dupr (cut := rg_cut [45]) (f := false) d_M_keep_79 rfl 80 rfl, rg_e_geti (P := P_M_keep) (cut := rg_cut [45]) (f := false) d_M_keep_80 rfl 83 rfl 18 4 17 rfl (fun _ => rfl), rg_e_iconst (cut := rg_cut [45]) (f := false) d_M_keep_83 rfl 84 rfl (nI 1) rg_ki_1, rg_e_iadd (cut := rg_cut [45]) (f := false) d_M_keep_84 rfl 85 rfl, rg_e_put (P := P_M_keep) (cut := rg_cut [45]) (f := false) d_M_keep_85 rfl 88 rfl 18 4 17 rfl rfl, rg_e_iconst (cut := rg_cut [45]) (f := false) d_M_keep_88 rfl 89 rfl (nI 1) rg_ki_1, rg_e_iret (cut := rg_cut [45]) (f := false) d_M_keep_89 rfl, rg_e_cut (cut := rg_cut [45]) 45 rfl, rg_nx_i, rg_nx_v, rg_wd_n, rg_wd_i, rg_wd_l, rg_wd_r, rg_clr_i, rg_clr_l, rg_clr_r, rg_clr_a, rg_clr_n, true_and, and_true, Nat.reduceAdd, Nat.reduceLeDiff, ↓Te_M_hasEnd, ↓Te_M_hasBeginning, rg_rt_e, rg_fit_ie, rg_fit_ve, rg_fit_1e, rg_fit_0e, rg_fit_be, h17, nI_add]
      refine ⟨fun _ => hK1 (by rw [how]; simp; omega) _ ⟨rg_fr_up (rg_fr_tr hP.1 (rg_fr_sub hf (by decide))) (by decide) _ _, fun q hq => ?_, fun i h1 h2 => ?_, ?_⟩ ?_, fun h => absurd (nI_le hk9 (by omega)) h⟩
      · rw [rg_up_s, upd_n hq, hf.1 18 (by decide)]; exact hP.2.1 q hq
      · rw [rg_up_n (by decide), hf.1 30 (by decide)]; exact hP.2.2.1 i h1 h2
      · exact hP.2.2.2.fr (by rw [rg_up_n (by decide), hf.1 29 (by decide)])
      · rw [how]
        unfold AcM
        rw [List.length_append, List.length_singleton, rg_up_ss, rg_up_n (by decide), rg_up_n (by decide), hf.1 32 (by decide)]
        refine ⟨rfl, by omega, fun b hb => ?_⟩
        by_cases e : b = A.length
        · subst e
          rw [getD_e]
          exact ⟨ht40, h32, hhi⟩
        · rw [getD_l (by omega)]
          obtain ⟨g1, g2, g3⟩ := hA1.2.2 b (by omega)
          exact ⟨g1, g2, fun i hi => by rw [hlo _ (by omega)]; exact g3 i hi⟩
  refine hZ (rg_cut [45]) 400 0 _ _ _ ?_; simp only [rg_e_aload_0 (cut := rg_cut [45]) (f := true) d_M_keep_0 rfl 1 rfl, rg_e_iload_1 (cut := rg_cut [45]) (f := false) d_M_keep_1 rfl 2 rfl, rg_e_iconst (cut := rg_cut [45]) (f := false) d_M_keep_2 rfl 3 rfl (nI 1) rg_ki_1, rg_e_iadd (cut := rg_cut [45]) (f := false) d_M_keep_3 rfl 4 rfl, rg_e_cv2 (P := P_M_keep) (cut := rg_cut [45]) (f := false) d_M_keep_4 rfl T_M_hasEnd rfl, rg_e_if_ne (cut := rg_cut [45]) (f := false) d_M_keep_7 rfl 10 rfl 20 rfl, rg_e_aload_0 (cut := rg_cut [45]) (f := false) d_M_keep_10 rfl 11 rfl, rg_e_iload_1 (cut := rg_cut [45]) (f := false) d_M_keep_11 rfl 12 rfl, rg_e_iconst (cut := rg_cut [45]) (f := false) d_M_keep_12 rfl 13 rfl (nI 1) rg_ki_1, rg_e_iadd (cut := rg_cut [45]) (f := false) d_M_keep_13 rfl 14 rfl, rg_e_cv2 (P := P_M_keep) (cut := rg_cut [45]) (f := false) d_M_keep_14 rfl T_M_hasBeginning rfl, rg_e_if_eq (cut := rg_cut [45]) (f := false) d_M_keep_17 rfl 20 rfl 22 rfl, rg_e_iconst (cut := rg_cut [45]) (f := false) d_M_keep_20 rfl 21 rfl (nI 1) rg_ki_1, rg_e_iret (cut := rg_cut [45]) (f := false) d_M_keep_21 rfl, rg_e_aload_0 (cut := rg_cut [45]) (f := false) d_M_keep_22 rfl 23 rfl, rg_e_geti (P := P_M_keep) (cut := rg_cut [45]) (f := false) d_M_keep_23 rfl 26 rfl 18 4 17 rfl (fun _ => rfl), rg_e_bipush (cut := rg_cut [45]) (f := false) d_M_keep_26 rfl 28 rfl (nI 50) rg_kb_50, rg_e_icmp_ne (cut := rg_cut [45]) (f := false) d_M_keep_28 rfl 31 rfl 33 rfl, rg_e_iconst (cut := rg_cut [45]) (f := false) d_M_keep_31 rfl 32 rfl (nI 0) rg_ki_0, rg_e_iret (cut := rg_cut [45]) (f := false) d_M_keep_32 rfl, rg_e_aload_0 (cut := rg_cut [45]) (f := false) d_M_keep_33 rfl 34 rfl, rg_e_getr (P := P_M_keep) (cut := rg_cut [45]) (f := false) d_M_keep_34 rfl 37 rfl 18 4 18 32 rfl (fun _ => rfl), rg_e_aload_0 (cut := rg_cut [45]) (f := false) d_M_keep_37 rfl 38 rfl, rg_e_geti (P := P_M_keep) (cut := rg_cut [45]) (f := false) d_M_keep_38 rfl 41 rfl 18 4 17 rfl (fun _ => rfl), rg_e_iload_1 (cut := rg_cut [45]) (f := false) d_M_keep_41 rfl 42 rfl, rg_e_iast (cut := rg_cut [45]) (f := false) d_M_keep_42 rfl 43 rfl 32 50 rfl, rg_e_iconst (cut := rg_cut [45]) (f := false) d_M_keep_43 rfl 44 rfl (nI 0) rg_ki_0, rg_e_istore_2 (cut := rg_cut [45]) (f := false) d_M_keep_44 rfl 45 rfl, rg_e_cut (cut := rg_cut [45]) 45 rfl, rg_nx_i, rg_nx_v, rg_wd_n, rg_wd_i, rg_wd_l, rg_wd_r, rg_clr_i, rg_clr_l, rg_clr_r, rg_clr_a, rg_clr_n, true_and, and_true, Nat.reduceAdd, Nat.reduceLeDiff, ↓Te_M_hasEnd, ↓Te_M_hasBeginning, rg_rt_e, rg_fit_ie, rg_fit_ve, rg_fit_1e, rg_fit_0e, rg_fit_be, zI_eq, nI_add]
  have kp : ∀ {w1 : rg_W}, rg_fr [29, 30] w w1 → (∀ i, 1 ≤ i → i ≤ t.length → w1.1 30 i = w.1 30 i) → KnM hg w1 → KpR hg t w w1 ∧ AcM A w1 ∧ MT t w1 := fun f1 f2 f3 =>
    ⟨⟨rg_fr_sub f1 (by decide), fun q _ => by rw [f1.1 18 (by decide)], f2, f3⟩, hA.fr (by rw [f1.1 18 (by decide)]) (f1.1 32 (by decide)) (f1.1 33 (by decide)), fun i hi => by rw [f2 (i + 1) (by omega) (by omega)]; exact hM i hi⟩
  refine ⟨ln, hg, t, hG, rfl, ht, ht40, hM, hC, hS, fun w1 f1 f2 f3 => ⟨fun h => ?_, fun h => ?_⟩⟩
  · obtain ⟨k1, k2, k3⟩ := kp f1 f2 f3
    have how : own hg t = [] := by unfold own; rw [if_pos (by rw [← Bool.not_eq_false]; exact h)]
    rw [how, List.append_nil] at hK1
    exact hK1 hl50 w1 k1 k2
  · have h := Classical.not_not.mp h
    obtain ⟨k1, k2, k3⟩ := kp f1 f2 f3
    refine ⟨ln, hg, t, hG.f (rg_fr_sub f1 (by decide)) (by rw [f1.1 18 (by decide)]) f3, rfl, ht, ht40, k3, hC, hS, fun w2 g1 g2 g3 => ?_⟩
    have hf2 : rg_fr [29, 30] w w2 := rg_fr_tr f1 g1
    obtain ⟨m1, m2, m3⟩ := kp hf2 (fun i a b => (g2 i a b).trans (f2 i a b)) g3
    have h17 := m2.1
    refine ⟨fun h1 => ?_, fun h1 => ?_⟩
    · have how : own hg t = [t] := by unfold own; rw [if_neg (by rw [h]; decide), if_neg (by rw [h1]; decide)]
      rw [h17, nI_eqp (by omega) (by omega), nI_clamp (by omega)]
      refine ⟨fun h2 => ⟨vp_in_nI (by omega) (by omega), ?_⟩, fun h2 => hK0 (by rw [how]; simp; omega) w2 m1⟩
      refine full (rg_up w2 32 A.length (nI t.length)) ⟨rg_fr_up m1.1 (by decide) _ _, fun q hq => by rw [rg_up_n (by decide)]; exact m1.2.1 q hq, fun i a b => by rw [rg_up_n (by decide)]; exact m1.2.2.1 i a b, m1.2.2.2.fr (rg_up_n (by decide))⟩ ?_ (fun i hi => by rw [rg_up_n (by decide)]; exact m3 i hi) (by omega) how (rg_up_ss _ _ _ _) 0 _ ⟨by omega, rg_fr_rf _ _, fun _ _ => rfl, fun b hb => absurd hb (by omega)⟩
      unfold AcM
      rw [rg_up_n (by decide), rg_up_s, rg_up_n (by decide)]
      refine ⟨h17, hl50, fun b hb => ?_⟩
      rw [upd_n (by omega)]
      exact m2.2.2 b hb
    · have how : own hg t = [] := by unfold own; rw [if_neg (by rw [h]; decide), if_pos (by rw [← Bool.not_eq_false]; exact h1)]
      rw [how, List.append_nil] at hK1
      exact hK1 hl50 w2 m1 m2
theorem vis_own (hg : Nat → Nat → Nat) (k : Nat) (t : List Nat) : vis hg (k + 1) t = (vL (vis hg k) t (cs_ hg t 0)).map (own hg t ++ ·) := by
  unfold own
  rw [vis]
  by_cases h : cs_ hg t 0 = []
  · have ha : ¬ (List.range (eN hg)).any (okB hg t) = true := by rw [cs_any.mpr h]; decide
    rw [if_pos h, if_neg ha, h, vL, Option.map_some, List.append_nil]
  · have : (List.range (eN hg)).any (okB hg t) = true := by
      rw [← Bool.not_eq_false]
      exact fun z => h (cs_any.mp z)
    rw [if_neg h, if_pos this]
    simp
noncomputable def okM (hg : Nat → Nat → Nat) (t : List Nat) (e : Nat) : Bool := decide (t = []) || okB hg t e
noncomputable def chM (hg : Nat → Nat → Nat) (t : List Nat) (x : Nat) : List Nat := cR (okM hg t) x (eN hg - x)
theorem chM_t {hg : Nat → Nat → Nat} {t : List Nat} {x : Nat} (hx : x < eN hg) (h : okM hg t x = true) : chM hg t x = x :: chM hg t (x + 1) := by
  unfold chM
  rw [show eN hg - x = (eN hg - (x + 1)) + 1 by omega, cR, if_pos h]
theorem chM_f {hg : Nat → Nat → Nat} {t : List Nat} {x : Nat} (hx : x < eN hg) (h : okM hg t x = false) : chM hg t x = chM hg t (x + 1) := by
  unfold chM
  rw [show eN hg - x = (eN hg - (x + 1)) + 1 by omega, cR, if_neg (by rw [h]; decide)]
theorem chM_0 {hg : Nat → Nat → Nat} {t : List Nat} (h : t ≠ []) : chM hg t 0 = cs_ hg t 0 := by
  unfold chM cs_
  have : okM hg t = okB hg t := by
    funext e
    unfold okM
    rw [decide_eq_false h, Bool.false_or]
  rw [this]
def MF (w w' : rg_W) : Prop := rg_fr [18, 29, 30, 31, 32, 33] w w' ∧ ∀ q, q ≠ 17 → w'.1 18 q = w.1 18 q
theorem MF.tr {w w1 w2 : rg_W} (h : MF w w1) (g : MF w1 w2) : MF w w2 := ⟨rg_fr_tr h.1 g.1, fun q hq => (g.2 q hq).trans (h.2 q hq)⟩
theorem MF.rf (w : rg_W) : MF w w := ⟨rg_fr_rf _ _, fun _ _ => rfl⟩
theorem MF.kp {hg : Nat → Nat → Nat} {t : List Nat} {w w' : rg_W} (h : KpR hg t w w') : MF w w' := ⟨rg_fr_sub h.1 (by decide), h.2.1⟩
theorem vL_cons (V : List Nat → Option (List (List Nat))) (t : List Nat) (e : Nat) (cs : List Nat) : vL V t (e :: cs) = (match V (t ++ [e]), vL V t cs with
    | some a, some b => some (a ++ b)
    | _, _ => none) := rfl
