/-! the reference: ways -/
theorem es_kE {hg : Nat → Nat → Nat} {e : Nat} (h : e < eN hg) : kE hg (sr hg e) (ds hg e) = true := by
  have := (esT_lt h).2
  unfold kE sr ds
  rw [show 9 * ((esT hg 81).getD e 0 / 9) + (esT hg 81).getD e 0 % 9 = (esT hg 81).getD e 0 by omega]
  exact this
theorem es_mem {hg : Nat → Nat → Nat} {a b : Nat} (ha : a < 9) (hb : b < 9) (h : kE hg a b = true) : ∃ e, e < eN hg ∧ sr hg e = a ∧ ds hg e = b := by
  have hm : 9 * a + b ∈ esT hg 81 := List.mem_filter.mpr ⟨List.mem_range.mpr (by omega), h⟩
  obtain ⟨k, hk⟩ := List.getElem?_of_mem hm
  have hl := (List.getElem?_eq_some_iff.mp hk).1
  have e : (esT hg 81).getD k 0 = 9 * a + b := by rw [List.getD_eq_getElem?_getD, hk]; rfl
  refine ⟨k, hl, ?_, ?_⟩
  · unfold sr; rw [e]; omega
  · unfold ds; rw [e]; omega
/-- closed over the edges -/
def Cld (hg : Nat → Nat → Nat) (r : Nat → Bool) (i k : Nat) : Prop := r (9 * i + sr hg k) = true → r (9 * i + ds hg k) = true
theorem rc_of {hg : Nat → Nat → Nat} {r : Nat → Bool} (h1 : ∀ a b, a < 9 → b < 9 → r (9 * a + b) = true → TC (kE hg) a b) (h2 : ∀ e, e < eN hg → r (9 * sr hg e + ds hg e) = true) (h3 : ∀ i, i < 9 → ∀ k, k < eN hg → Cld hg r i k) {a b : Nat} (ha : a < 9) (hb : b < 9) : r (9 * a + b) = rcB (kE hg) a b := by
  rw [Bool.eq_iff_iff, rcB_iff]
  refine ⟨h1 a b ha hb, ?_⟩
  have step : ∀ n c, c < 9 → r (9 * a + c) = true → pth (kE hg) n c b → r (9 * a + b) = true := by
    intro n
    induction n with
    | zero =>
      intro c hc h g
      obtain ⟨e, he, rfl, rfl⟩ := es_mem hc hb g
      exact h3 a ha e he h
    | succ n ih =>
      intro c hc h ⟨k, hk, g1, g2⟩
      obtain ⟨e, he, rfl, rfl⟩ := es_mem hc hk g1
      exact ih _ hk (h3 a ha e he h) g2
  rintro ⟨n, h⟩
  cases n with
  | zero =>
    obtain ⟨e, he, rfl, rfl⟩ := es_mem ha hb h
    exact h2 e he
  | succ n =>
    obtain ⟨k, hk, g1, g2⟩ := h
    obtain ⟨e, he, rfl, rfl⟩ := es_mem ha hk g1
    exact step n _ hk (h2 e he) g2
theorem cnF_mono {p q : Nat → Bool} : ∀ n, (∀ i, i < n → p i = true → q i = true) → cnF p n ≤ cnF q n
  | 0, _ => Nat.le_refl _
  | n + 1, h => by
    have := cnF_mono n (fun i hi => h i (by omega))
    unfold cnF
    by_cases hp : p n = true
    · rw [if_pos hp, if_pos (h n (by omega) hp)]; omega
    · rw [if_neg hp]; omega
theorem cnF_grow {p q : Nat → Bool} : ∀ n, (∀ i, i < n → p i = true → q i = true) → ∀ t, t < n → p t = false → q t = true → cnF p n < cnF q n
  | 0, _, t, ht, _, _ => absurd ht (by omega)
  | n + 1, h, t, ht, hp, hq => by
    unfold cnF
    by_cases htn : t = n
    · subst htn
      have := cnF_mono t (fun i hi => h i (by omega))
      rw [if_neg (by rw [hp]; decide), if_pos hq]
      omega
    · have := cnF_grow n (fun i hi => h i (by omega)) t (by omega) hp hq
      by_cases hp : p n = true
      · rw [if_pos hp, if_pos (h n (by omega) hp)]; omega
      · rw [if_neg hp]; omega
def setB (r : Nat → Bool) (t : Nat) : Nat → Bool := fun i => r i || decide (i = t)
theorem setB_s (r : Nat → Bool) (t : Nat) : setB r t t = true := by unfold setB; simp
theorem setB_n {r : Nat → Bool} {t i : Nat} (h : i ≠ t) : setB r t i = r i := by unfold setB; simp [h]
theorem setB_le {r : Nat → Bool} {t i : Nat} (h : r i = true) : setB r t i = true := by unfold setB; rw [h]; rfl
/-- what stands in reached, sound and with every edge -/
def SpR (hg : Nat → Nat → Nat) (w0 : rg_W) (r : Nat → Bool) (w : rg_W) : Prop := rg_fr [28] w0 w ∧ (∀ t, t < 81 → w.1 28 t = zI (r t)) ∧ ∀ a b, a < 9 → b < 9 → r (9 * a + b) = true → TC (kE hg) a b
theorem SpR.put {hg : Nat → Nat → Nat} {w0 : rg_W} {r : Nat → Bool} {w : rg_W} (h : SpR hg w0 r w) {a b : Nat} (ha : a < 9) (hb : b < 9) (ht : TC (kE hg) a b) : SpR hg w0 (setB r (9 * a + b)) (rg_up w 28 (9 * a + b) (nI 1)) := by
  refine ⟨rg_fr_up h.1 (by decide) _ _, fun t h81 => ?_, fun a' b' ha' hb' hr => ?_⟩
  · rw [rg_up_s]
    by_cases e : t = 9 * a + b
    · subst e; rw [upd_s, setB_s]; rfl
    · rw [upd_n e, setB_n e]; exact h.2.1 t h81
  · by_cases e : 9 * a' + b' = 9 * a + b
    · obtain rfl : a' = a := by omega
      obtain rfl : b' = b := by omega
      exact ht
    · rw [setB_n e] at hr
      exact h.2.2 a' b' ha' hb' hr
-- M.spread
def P_M_spread : rg_P := (rg_F_M, [], [], [], [], [], 0)
def T_M_spread : rg_T := fun as w K => match as with
  | [.ref 18] => ∃ nr ln hg, nr ≤ 9 ∧ HgL nr ln hg ∧ EgM ln hg w ∧ (∀ t, t < 81 → w.1 28 t = nI 0) ∧ ∀ w', rg_fr [28] w w' → RcM hg w' → K none w'
  | _ => False
theorem Te_M_spread  (w : rg_W) (K : Option Value → rg_W → Prop) : T_M_spread [.ref 18] w K = (∃ nr ln hg, nr ≤ 9 ∧ HgL nr ln hg ∧ EgM ln hg w ∧ (∀ t, t < 81 → w.1 28 t = nI 0) ∧ ∀ w', rg_fr [28] w w' → RcM hg w' → K none w') := rfl
theorem r_M_spread : ∀ as w K, T_M_spread as w K → ∃ r, as = .ref 18 :: r := by
  intro as w K h
  unfold T_M_spread at h
  split at h
  · exact ⟨_, rfl⟩
  · exact h.elim
theorem G_M_spread (l : Launch) : rg_Good l y_M_spread c_M_spread 4 none 0 T_M_spread := by
  refine rg_good_of (P := P_M_spread) (by decide) (rg_pok rg_F_M_ok rg_nil) ?_
  intro as w K Z hT hZ
  unfold T_M_spread at hT
  split at hT
  rotate_left
  · exact hT.elim
  refine ⟨Nat.le_of_ble_eq_true rfl, ?_⟩
  show Z 0 [.ref 18, .null, .null, .null] [] w 0
  obtain ⟨nr, ln, hg, hn9, hH, hE, h0, hK⟩ := hT
  have h72 := eN_le hH.1
  have z1 : (nI 1 = 0) = False := by decide +kernel
  have z0 : (nI 0 = 0) = True := by decide +kernel
  have at' : ∀ {r : Nat → Bool} {w1 : rg_W}, SpR hg w r w1 → ∀ k, k < eN hg → w1.1 25 k = nI (sr hg k) ∧ w1.1 26 k = nI (ds hg k) ∧ w1.1 18 9 = nI (eN hg) := fun h k hk => by
    rw [h.1.1 25 (by decide), h.1.1 26 (by decide), h.1.1 18 (by decide)]
    exact ⟨(hE.2 k hk).1, (hE.2 k hk).2.1, hE.1⟩
  have h9 : ∀ {r : Nat → Bool} {w1 : rg_W}, SpR hg w r w1 → w1.1 18 9 = nI (eN hg) := fun h => by rw [h.1.1 18 (by decide)]; exact hE.1
  -- one node's ways
  have l3 : ∀ (r0 : Nat → Bool) (i k : Nat) (r : Nat → Bool) (m : Bool) (w1 : rg_W), (i < 9 ∧ k ≤ eN hg ∧ SpR hg w r w1 ∧ (∀ t, r0 t = true → r t = true) ∧ (m = true → cnF r0 81 < cnF r 81) ∧ (m = false → r = r0 ∧ (∀ i' k', i' < i → k' < eN hg → Cld hg r i' k') ∧ ∀ k', k' < k → Cld hg r i k')) →
      (∀ (r' : Nat → Bool) (m' : Bool) (w2 : rg_W), SpR hg w r' w2 → (∀ t, r0 t = true → r' t = true) → (m' = true → cnF r0 81 < cnF r' 81) → (m' = false → r' = r0 ∧ ∀ i' k', i' < i + 1 → k' < eN hg → Cld hg r' i' k') → ∀ a3 : Value, Z 48 [.ref 18, .int (zI m'), .int (nI (i + 1)), a3] [] w2 0) →
      Z 56 [.ref 18, .int (zI m), .int (nI i), .int (nI k)] [] w1 0 := by
    intro r0 i k r m w1 hI hout
    revert k r m w1
    refine rg_lp4 _ _ (fun k _ _ _ => eN hg - k) ?_
    intro k r m w1 ⟨hi, hk, hS, hm, hg1, hg2⟩ ih
    rcases Nat.lt_or_ge k (eN hg) with hk9 | hk9
    · obtain ⟨e1, e2, e3⟩ := at' hS k hk9
      have hl := sr_lt hk9
      have vk : vp_in (nI k) 81 := vp_in_nI (by omega) (by omega)
      have ck : (nI k).toNatClampNeg = k := nI_clamp (by omega)
      have x1 : nI 9 * nI i + nI (sr hg k) = nI (9 * i + sr hg k) := by rw [pk_mul, nI_add]
      have x2 : nI 9 * nI i + nI (ds hg k) = nI (9 * i + ds hg k) := by rw [pk_mul, nI_add]
      have v1 : vp_in (nI (9 * i + sr hg k)) 81 := vp_in_nI (by omega) (by omega)
      have v2 : vp_in (nI (9 * i + ds hg k)) 81 := vp_in_nI (by omega) (by omega)
      have c1 : (nI (9 * i + sr hg k)).toNatClampNeg = 9 * i + sr hg k := nI_clamp (by omega)
      have c2 : (nI (9 * i + ds hg k)).toNatClampNeg = 9 * i + ds hg k := nI_clamp (by omega)
      have r1 := hS.2.1 (9 * i + sr hg k) (by omega)
      have r2 := hS.2.1 (9 * i + ds hg k) (by omega)
      have same : Cld hg r i k → Z 56 [.ref 18, .int (zI m), .int (nI i), .int (nI (k + 1))] [] w1 0 := fun hc => by
        refine ih (k + 1) r m w1 ⟨hi, by omega, hS, hm, hg1, fun h => ⟨(hg2 h).1, (hg2 h).2.1, fun k' hk' => ?_⟩⟩ (by omega)
        by_cases e : k' = k
        · subst e; exact hc
        · exact (hg2 h).2.2 k' (by omega)
      refine hZ (rg_cut [2, 40, 48, 56]) 400 56 _ _ _ ?_; simp only [rg_e_iload_3 (cut := rg_cut [2, 40, 48, 56]) (f := true) d_M_spread_56 rfl 57 rfl, rg_e_aload_0 (cut := rg_cut [2, 40, 48, 56]) (f := false) d_M_spread_57 rfl 58 rfl, rg_e_geti (P := P_M_spread) (cut := rg_cut [2, 40, 48, 56]) (f := false) d_M_spread_58 rfl 61 rfl 18 4 9 rfl (fun _ => rfl), rg_e_icmp_ge (cut := rg_cut [2, 40, 48, 56]) (f := false) d_M_spread_61 rfl 64 rfl 130 rfl, rg_e_aload_0 (cut := rg_cut [2, 40, 48, 56]) (f := false) d_M_spread_64 rfl 65 rfl, rg_e_getr (P := P_M_spread) (cut := rg_cut [2, 40, 48, 56]) (f := false) d_M_spread_65 rfl 68 rfl 18 4 13 28 rfl (fun _ => rfl), rg_e_bipush (cut := rg_cut [2, 40, 48, 56]) (f := false) d_M_spread_68 rfl 70 rfl (nI 9) rg_kb_9, rg_e_iload_2 (cut := rg_cut [2, 40, 48, 56]) (f := false) d_M_spread_70 rfl 71 rfl, rg_e_imul (cut := rg_cut [2, 40, 48, 56]) (f := false) d_M_spread_71 rfl 72 rfl, rg_e_aload_0 (cut := rg_cut [2, 40, 48, 56]) (f := false) d_M_spread_72 rfl 73 rfl, rg_e_getr (P := P_M_spread) (cut := rg_cut [2, 40, 48, 56]) (f := false) d_M_spread_73 rfl 76 rfl 18 4 10 25 rfl (fun _ => rfl), rg_e_iload_3 (cut := rg_cut [2, 40, 48, 56]) (f := false) d_M_spread_76 rfl 77 rfl, rg_e_iald (cut := rg_cut [2, 40, 48, 56]) (f := false) d_M_spread_77 rfl 78 rfl 25 81 rfl, rg_e_iadd (cut := rg_cut [2, 40, 48, 56]) (f := false) d_M_spread_78 rfl 79 rfl, rg_e_zald (cut := rg_cut [2, 40, 48, 56]) (f := false) d_M_spread_79 rfl 80 rfl 28 81 rfl, rg_e_if_eq (cut := rg_cut [2, 40, 48, 56]) (f := false) d_M_spread_80 rfl 83 rfl 124 rfl, rg_e_aload_0 (cut := rg_cut [2, 40, 48, 56]) (f := false) d_M_spread_83 rfl 84 rfl, rg_e_getr (P := P_M_spread) (cut := rg_cut [2, 40, 48, 56]) (f := false) d_M_spread_84 rfl 87 rfl 18 4 13 28 rfl (fun _ => rfl), rg_e_bipush (cut := rg_cut [2, 40, 48, 56]) (f := false) d_M_spread_87 rfl 89 rfl (nI 9) rg_kb_9, rg_e_iload_2 (cut := rg_cut [2, 40, 48, 56]) (f := false) d_M_spread_89 rfl 90 rfl, rg_e_imul (cut := rg_cut [2, 40, 48, 56]) (f := false) d_M_spread_90 rfl 91 rfl, rg_e_aload_0 (cut := rg_cut [2, 40, 48, 56]) (f := false) d_M_spread_91 rfl 92 rfl, rg_e_getr (P := P_M_spread) (cut := rg_cut [2, 40, 48, 56]) (f := false) d_M_spread_92 rfl 95 rfl 18 4 11 26 rfl (fun _ => rfl), rg_e_iload_3 (cut := rg_cut [2, 40, 48, 56]) (f := false) d_M_spread_95 rfl 96 rfl, rg_e_iald (cut := rg_cut [2, 40, 48, 56]) (f := false) d_M_spread_96 rfl 97 rfl 26 81 rfl, rg_e_iadd (cut := rg_cut [2, 40, 48, 56]) (f := false) d_M_spread_97 rfl 98 rfl, rg_e_zald (cut := rg_cut [2, 40, 48, 56]) (f := false) d_M_spread_98 rfl 99 rfl 28 81 rfl, rg_e_if_eq (cut := rg_cut [2, 40, 48, 56]) (f := false) d_M_spread_99 rfl 102 rfl 105 rfl, rg_e_goto (cut := rg_cut [2, 40, 48, 56]) (f := false) d_M_spread_102 rfl 124 rfl, rg_e_aload_0 (cut := rg_cut [2, 40, 48, 56]) (f := false) d_M_spread_105 rfl 106 rfl, rg_e_getr (P := P_M_spread) (cut := rg_cut [2, 40, 48, 56]) (f := false) d_M_spread_106 rfl 109 rfl 18 4 13 28 rfl (fun _ => rfl), rg_e_bipush (cut := rg_cut [2, 40, 48, 56]) (f := false) d_M_spread_109 rfl 111 rfl (nI 9) rg_kb_9, rg_e_iload_2 (cut := rg_cut [2, 40, 48, 56]) (f := false) d_M_spread_111 rfl 112 rfl, rg_e_imul (cut := rg_cut [2, 40, 48, 56]) (f := false) d_M_spread_112 rfl 113 rfl, rg_e_aload_0 (cut := rg_cut [2, 40, 48, 56]) (f := false) d_M_spread_113 rfl 114 rfl, rg_e_getr (P := P_M_spread) (cut := rg_cut [2, 40, 48, 56]) (f := false) d_M_spread_114 rfl 117 rfl 18 4 11 26 rfl (fun _ => rfl), rg_e_iload_3 (cut := rg_cut [2, 40, 48, 56]) (f := false) d_M_spread_117 rfl 118 rfl, rg_e_iald (cut := rg_cut [2, 40, 48, 56]) (f := false) d_M_spread_118 rfl 119 rfl 26 81 rfl, rg_e_iadd (cut := rg_cut [2, 40, 48, 56]) (f := false) d_M_spread_119 rfl 120 rfl, rg_e_iconst (cut := rg_cut [2, 40, 48, 56]) (f := false) d_M_spread_120 rfl 121 rfl (nI 1) rg_ki_1, rg_e_zast (cut := rg_cut [2, 40, 48, 56]) (f := false) d_M_spread_121 rfl 122 rfl 28 81 rfl, rg_e_iconst (cut := rg_cut [2, 40, 48, 56]) (f := false) d_M_spread_122 rfl 123 rfl (nI 1) rg_ki_1, rg_e_istore_1 (cut := rg_cut [2, 40, 48, 56]) (f := false) d_M_spread_123 rfl 124 rfl, rg_e_iinc_3 (cut := rg_cut [2, 40, 48, 56]) (f := false) d_M_spread_124 rfl 127 rfl (nI 1) rg_ki_1, rg_e_goto (cut := rg_cut [2, 40, 48, 56]) (f := false) d_M_spread_127 rfl 56 rfl, rg_e_iinc_2 (cut := rg_cut [2, 40, 48, 56]) (f := false) d_M_spread_130 rfl 133 rfl (nI 1) rg_ki_1, rg_e_goto (cut := rg_cut [2, 40, 48, 56]) (f := false) d_M_spread_133 rfl 48 rfl, rg_e_cut (cut := rg_cut [2, 40, 48, 56]) 2 rfl, rg_e_cut (cut := rg_cut [2, 40, 48, 56]) 40 rfl, rg_e_cut (cut := rg_cut [2, 40, 48, 56]) 48 rfl, rg_e_cut (cut := rg_cut [2, 40, 48, 56]) 56 rfl, rg_nx_i, rg_nx_v, rg_wd_n, rg_wd_i, rg_wd_l, rg_wd_r, rg_clr_i, rg_clr_l, rg_clr_r, rg_clr_a, rg_clr_n, true_and, and_true, Nat.reduceAdd, Nat.reduceLeDiff, rg_rt_e, rg_fit_ie, rg_fit_ve, rg_fit_1e, rg_fit_0e, rg_fit_be, e3, vk, ck, e1, e2, x1, x2, v1, v2, c1, c2, r1, r2, zI_eq, nI_add, nar1]
      refine ⟨fun h => absurd h (nI_ge hk9 (by omega)), fun _ => ⟨fun h => same (fun z => by rw [h] at z; cases z), fun h => ⟨fun h1 => ?_, fun h1 => same (fun _ => by rw [← Bool.not_eq_false]; exact h1)⟩⟩⟩
      have h : r (9 * i + sr hg k) = true := by rw [← Bool.not_eq_false]; exact h
      have ht : TC (kE hg) i (ds hg k) := TC.tr hl.1 (hS.2.2 _ _ hi hl.1 h) ⟨0, es_kE hk9⟩
      have gr : cnF r 81 < cnF (setB r (9 * i + ds hg k)) 81 := cnF_grow 81 (fun t _ => setB_le) (9 * i + ds hg k) (by omega) h1 (setB_s _ _)
      have le : cnF r0 81 ≤ cnF r 81 := cnF_mono 81 (fun t _ => hm t)
      exact ih (k + 1) _ true _ ⟨hi, by omega, hS.put hi hl.2 ht, fun t h => setB_le (hm t h), fun _ => by omega, fun h => by cases h⟩ (by omega)
    · obtain rfl : k = eN hg := by omega
      have e3 := h9 hS
      refine hZ (rg_cut [2, 40, 48, 56]) 400 56 _ _ _ ?_; simp only [rg_e_iload_3 (cut := rg_cut [2, 40, 48, 56]) (f := true) d_M_spread_56 rfl 57 rfl, rg_e_aload_0 (cut := rg_cut [2, 40, 48, 56]) (f := false) d_M_spread_57 rfl 58 rfl, rg_e_geti (P := P_M_spread) (cut := rg_cut [2, 40, 48, 56]) (f := false) d_M_spread_58 rfl 61 rfl 18 4 9 rfl (fun _ => rfl), rg_e_icmp_ge (cut := rg_cut [2, 40, 48, 56]) (f := false) d_M_spread_61 rfl 64 rfl 130 rfl, rg_e_aload_0 (cut := rg_cut [2, 40, 48, 56]) (f := false) d_M_spread_64 rfl 65 rfl, rg_e_getr (P := P_M_spread) (cut := rg_cut [2, 40, 48, 56]) (f := false) d_M_spread_65 rfl 68 rfl 18 4 13 28 rfl (fun _ => rfl), rg_e_bipush (cut := rg_cut [2, 40, 48, 56]) (f := false) d_M_spread_68 rfl 70 rfl (nI 9) rg_kb_9, rg_e_iload_2 (cut := rg_cut [2, 40, 48, 56]) (f := false) d_M_spread_70 rfl 71 rfl, rg_e_imul (cut := rg_cut [2, 40, 48, 56]) (f := false) d_M_spread_71 rfl 72 rfl, rg_e_aload_0 (cut := rg_cut [2, 40, 48, 56]) (f := false) d_M_spread_72 rfl 73 rfl, rg_e_getr (P := P_M_spread) (cut := rg_cut [2, 40, 48, 56]) (f := false) d_M_spread_73 rfl 76 rfl 18 4 10 25 rfl (fun _ => rfl), rg_e_iload_3 (cut := rg_cut [2, 40, 48, 56]) (f := false) d_M_spread_76 rfl 77 rfl, rg_e_iald (cut := rg_cut [2, 40, 48, 56]) (f := false) d_M_spread_77 rfl 78 rfl 25 81 rfl, rg_e_iadd (cut := rg_cut [2, 40, 48, 56]) (f := false) d_M_spread_78 rfl 79 rfl, rg_e_zald (cut := rg_cut [2, 40, 48, 56]) (f := false) d_M_spread_79 rfl 80 rfl 28 81 rfl, rg_e_if_eq (cut := rg_cut [2, 40, 48, 56]) (f := false) d_M_spread_80 rfl 83 rfl 124 rfl, rg_e_aload_0 (cut := rg_cut [2, 40, 48, 56]) (f := false) d_M_spread_83 rfl 84 rfl, rg_e_getr (P := P_M_spread) (cut := rg_cut [2, 40, 48, 56]) (f := false) d_M_spread_84 rfl 87 rfl 18 4 13 28 rfl (fun _ => rfl), rg_e_bipush (cut := rg_cut [2, 40, 48, 56]) (f := false) d_M_spread_87 rfl 89 rfl (nI 9) rg_kb_9, rg_e_iload_2 (cut := rg_cut [2, 40, 48, 56]) (f := false) d_M_spread_89 rfl 90 rfl, rg_e_imul (cut := rg_cut [2, 40, 48, 56]) (f := false) d_M_spread_90 rfl 91 rfl, rg_e_aload_0 (cut := rg_cut [2, 40, 48, 56]) (f := false) d_M_spread_91 rfl 92 rfl, rg_e_getr (P := P_M_spread) (cut := rg_cut [2, 40, 48, 56]) (f := false) d_M_spread_92 rfl 95 rfl 18 4 11 26 rfl (fun _ => rfl), rg_e_iload_3 (cut := rg_cut [2, 40, 48, 56]) (f := false) d_M_spread_95 rfl 96 rfl, rg_e_iald (cut := rg_cut [2, 40, 48, 56]) (f := false) d_M_spread_96 rfl 97 rfl 26 81 rfl, rg_e_iadd (cut := rg_cut [2, 40, 48, 56]) (f := false) d_M_spread_97 rfl 98 rfl, rg_e_zald (cut := rg_cut [2, 40, 48, 56]) (f := false) d_M_spread_98 rfl 99 rfl 28 81 rfl, rg_e_if_eq (cut := rg_cut [2, 40, 48, 56]) (f := false) d_M_spread_99 rfl 102 rfl 105 rfl, rg_e_goto (cut := rg_cut [2, 40, 48, 56]) (f := false) d_M_spread_102 rfl 124 rfl, rg_e_aload_0 (cut := rg_cut [2, 40, 48, 56]) (f := false) d_M_spread_105 rfl 106 rfl, rg_e_getr (P := P_M_spread) (cut := rg_cut [2, 40, 48, 56]) (f := false) d_M_spread_106 rfl 109 rfl 18 4 13 28 rfl (fun _ => rfl), rg_e_bipush (cut := rg_cut [2, 40, 48, 56]) (f := false) d_M_spread_109 rfl 111 rfl (nI 9) rg_kb_9, rg_e_iload_2 (cut := rg_cut [2, 40, 48, 56]) (f := false) d_M_spread_111 rfl 112 rfl, rg_e_imul (cut := rg_cut [2, 40, 48, 56]) (f := false) d_M_spread_112 rfl 113 rfl, rg_e_aload_0 (cut := rg_cut [2, 40, 48, 56]) (f := false) d_M_spread_113 rfl 114 rfl, rg_e_getr (P := P_M_spread) (cut := rg_cut [2, 40, 48, 56]) (f := false) d_M_spread_114 rfl 117 rfl 18 4 11 26 rfl (fun _ => rfl), rg_e_iload_3 (cut := rg_cut [2, 40, 48, 56]) (f := false) d_M_spread_117 rfl 118 rfl, rg_e_iald (cut := rg_cut [2, 40, 48, 56]) (f := false) d_M_spread_118 rfl 119 rfl 26 81 rfl, rg_e_iadd (cut := rg_cut [2, 40, 48, 56]) (f := false) d_M_spread_119 rfl 120 rfl, rg_e_iconst (cut := rg_cut [2, 40, 48, 56]) (f := false) d_M_spread_120 rfl 121 rfl (nI 1) rg_ki_1, rg_e_zast (cut := rg_cut [2, 40, 48, 56]) (f := false) d_M_spread_121 rfl 122 rfl 28 81 rfl, rg_e_iconst (cut := rg_cut [2, 40, 48, 56]) (f := false) d_M_spread_122 rfl 123 rfl (nI 1) rg_ki_1, rg_e_istore_1 (cut := rg_cut [2, 40, 48, 56]) (f := false) d_M_spread_123 rfl 124 rfl, rg_e_iinc_3 (cut := rg_cut [2, 40, 48, 56]) (f := false) d_M_spread_124 rfl 127 rfl (nI 1) rg_ki_1, rg_e_goto (cut := rg_cut [2, 40, 48, 56]) (f := false) d_M_spread_127 rfl 56 rfl, rg_e_iinc_2 (cut := rg_cut [2, 40, 48, 56]) (f := false) d_M_spread_130 rfl 133 rfl (nI 1) rg_ki_1, rg_e_goto (cut := rg_cut [2, 40, 48, 56]) (f := false) d_M_spread_133 rfl 48 rfl, rg_e_cut (cut := rg_cut [2, 40, 48, 56]) 2 rfl, rg_e_cut (cut := rg_cut [2, 40, 48, 56]) 40 rfl, rg_e_cut (cut := rg_cut [2, 40, 48, 56]) 48 rfl, rg_e_cut (cut := rg_cut [2, 40, 48, 56]) 56 rfl, rg_nx_i, rg_nx_v, rg_wd_n, rg_wd_i, rg_wd_l, rg_wd_r, rg_clr_i, rg_clr_l, rg_clr_r, rg_clr_a, rg_clr_n, true_and, and_true, Nat.reduceAdd, Nat.reduceLeDiff, rg_rt_e, rg_fit_ie, rg_fit_ve, rg_fit_1e, rg_fit_0e, rg_fit_be, e3, nI_add]
      refine ⟨fun _ => hout r m w1 hS hm hg1 (fun h => ⟨(hg2 h).1, fun i' k' h1 h2 => ?_⟩) _, fun h => absurd (nI_le hk9 (by omega)) h⟩
      by_cases e : i' = i
      · subst e; exact (hg2 h).2.2 k' h2
      · exact (hg2 h).2.1 i' k' (by omega) h2
  have l2 : ∀ (r0 : Nat → Bool), (∀ (r' : Nat → Bool) (m' : Bool) (w2 : rg_W), SpR hg w r' w2 → (∀ t, r0 t = true → r' t = true) → (m' = true → cnF r0 81 < cnF r' 81) → (m' = false → r' = r0 ∧ ∀ i' k', i' < 9 → k' < eN hg → Cld hg r' i' k') → ∀ a2 a3 : Value, Z 40 [.ref 18, .int (zI m'), a2, a3] [] w2 0) →
      ∀ (i : Nat) (r : Nat → Bool) (m : Bool) (w1 : rg_W) (a3 : Value), (i ≤ 9 ∧ SpR hg w r w1 ∧ (∀ t, r0 t = true → r t = true) ∧ (m = true → cnF r0 81 < cnF r 81) ∧ (m = false → r = r0 ∧ ∀ i' k', i' < i → k' < eN hg → Cld hg r i' k')) →
      Z 48 [.ref 18, .int (zI m), .int (nI i), a3] [] w1 0 := by
    intro r0 hout
    refine rg_lp5 _ _ (fun i _ _ _ _ => 9 - i) ?_
    intro i r m w1 a3 ⟨hi, hS, hm, hg1, hg2⟩ ih
    rcases Nat.lt_or_ge i 9 with hi9 | hi9
    · refine hZ (rg_cut [2, 40, 48, 56]) 400 48 _ _ _ ?_; simp only [rg_e_iload_2 (cut := rg_cut [2, 40, 48, 56]) (f := true) d_M_spread_48 rfl 49 rfl, rg_e_bipush (cut := rg_cut [2, 40, 48, 56]) (f := false) d_M_spread_49 rfl 51 rfl (nI 9) rg_kb_9, rg_e_icmp_ge (cut := rg_cut [2, 40, 48, 56]) (f := false) d_M_spread_51 rfl 54 rfl 136 rfl, rg_e_iconst (cut := rg_cut [2, 40, 48, 56]) (f := false) d_M_spread_54 rfl 55 rfl (nI 0) rg_ki_0, rg_e_istore_3 (cut := rg_cut [2, 40, 48, 56]) (f := false) d_M_spread_55 rfl 56 rfl, rg_e_goto (cut := rg_cut [2, 40, 48, 56]) (f := false) d_M_spread_136 rfl 40 rfl, rg_e_cut (cut := rg_cut [2, 40, 48, 56]) 2 rfl, rg_e_cut (cut := rg_cut [2, 40, 48, 56]) 40 rfl, rg_e_cut (cut := rg_cut [2, 40, 48, 56]) 48 rfl, rg_e_cut (cut := rg_cut [2, 40, 48, 56]) 56 rfl, rg_nx_i, rg_nx_v, rg_wd_n, rg_wd_i, rg_wd_l, rg_wd_r, rg_clr_i, rg_clr_l, rg_clr_r, rg_clr_a, rg_clr_n, true_and, and_true, Nat.reduceAdd, Nat.reduceLeDiff, rg_rt_e, rg_fit_ie, rg_fit_ve, rg_fit_1e, rg_fit_0e, rg_fit_be]
      refine ⟨fun h => absurd h (nI_ge hi9 (by omega)), fun _ => l3 r0 i 0 r m w1 ⟨hi9, by omega, hS, hm, hg1, fun h => ⟨(hg2 h).1, (hg2 h).2, fun k' hk' => absurd hk' (by omega)⟩⟩ (fun r' m' w2 f1 f2 f3 f4 a3 => ih (i + 1) r' m' w2 a3 ⟨by omega, f1, f2, f3, f4⟩ (by omega))⟩
    · obtain rfl : i = 9 := by omega
      refine hZ (rg_cut [2, 40, 48, 56]) 400 48 _ _ _ ?_; simp only [rg_e_iload_2 (cut := rg_cut [2, 40, 48, 56]) (f := true) d_M_spread_48 rfl 49 rfl, rg_e_bipush (cut := rg_cut [2, 40, 48, 56]) (f := false) d_M_spread_49 rfl 51 rfl (nI 9) rg_kb_9, rg_e_icmp_ge (cut := rg_cut [2, 40, 48, 56]) (f := false) d_M_spread_51 rfl 54 rfl 136 rfl, rg_e_iconst (cut := rg_cut [2, 40, 48, 56]) (f := false) d_M_spread_54 rfl 55 rfl (nI 0) rg_ki_0, rg_e_istore_3 (cut := rg_cut [2, 40, 48, 56]) (f := false) d_M_spread_55 rfl 56 rfl, rg_e_goto (cut := rg_cut [2, 40, 48, 56]) (f := false) d_M_spread_136 rfl 40 rfl, rg_e_cut (cut := rg_cut [2, 40, 48, 56]) 2 rfl, rg_e_cut (cut := rg_cut [2, 40, 48, 56]) 40 rfl, rg_e_cut (cut := rg_cut [2, 40, 48, 56]) 48 rfl, rg_e_cut (cut := rg_cut [2, 40, 48, 56]) 56 rfl, rg_nx_i, rg_nx_v, rg_wd_n, rg_wd_i, rg_wd_l, rg_wd_r, rg_clr_i, rg_clr_l, rg_clr_r, rg_clr_a, rg_clr_n, true_and, and_true, Nat.reduceAdd, Nat.reduceLeDiff, rg_rt_e, rg_fit_ie, rg_fit_ve, rg_fit_1e, rg_fit_0e, rg_fit_be]
      exact ⟨fun _ => hout r m w1 hS hm hg1 hg2 _ _, fun h => absurd (nI_le hi9 (by omega)) h⟩
  have l1 : ∀ (r : Nat → Bool) (m : Bool) (w1 : rg_W) (a2 a3 : Value), (SpR hg w r w1 ∧ (∀ e, e < eN hg → r (9 * sr hg e + ds hg e) = true) ∧ (m = false → ∀ i' k', i' < 9 → k' < eN hg → Cld hg r i' k')) → Z 40 [.ref 18, .int (zI m), a2, a3] [] w1 0 := by
    refine rg_lp5 _ _ (fun r m _ _ _ => 2 * (81 - cnF r 81) + (if m = true then 1 else 0)) ?_
    intro r m w1 a2 a3 ⟨hS, hb, hc⟩ ih
    cases m with
    | false =>
      have zz : (zI false = 0) = True := by decide +kernel
      refine hZ (rg_cut [2, 40, 48, 56]) 400 40 _ _ _ ?_; simp only [rg_e_iload_1 (cut := rg_cut [2, 40, 48, 56]) (f := true) d_M_spread_40 rfl 41 rfl, rg_e_if_eq (cut := rg_cut [2, 40, 48, 56]) (f := false) d_M_spread_41 rfl 44 rfl 139 rfl, rg_e_iconst (cut := rg_cut [2, 40, 48, 56]) (f := false) d_M_spread_44 rfl 45 rfl (nI 0) rg_ki_0, rg_e_istore_1 (cut := rg_cut [2, 40, 48, 56]) (f := false) d_M_spread_45 rfl 46 rfl, rg_e_iconst (cut := rg_cut [2, 40, 48, 56]) (f := false) d_M_spread_46 rfl 47 rfl (nI 0) rg_ki_0, rg_e_istore_2 (cut := rg_cut [2, 40, 48, 56]) (f := false) d_M_spread_47 rfl 48 rfl, rg_e_vret (cut := rg_cut [2, 40, 48, 56]) (f := false) d_M_spread_139 rfl, rg_e_cut (cut := rg_cut [2, 40, 48, 56]) 2 rfl, rg_e_cut (cut := rg_cut [2, 40, 48, 56]) 40 rfl, rg_e_cut (cut := rg_cut [2, 40, 48, 56]) 48 rfl, rg_e_cut (cut := rg_cut [2, 40, 48, 56]) 56 rfl, rg_nx_i, rg_nx_v, rg_wd_n, rg_wd_i, rg_wd_l, rg_wd_r, rg_clr_i, rg_clr_l, rg_clr_r, rg_clr_a, rg_clr_n, true_and, and_true, Nat.reduceAdd, Nat.reduceLeDiff, rg_rt_e, rg_fit_ie, rg_fit_ve, rg_fit_1e, rg_fit_0e, rg_fit_be, zz, forall_const, not_true_eq_false, false_imp_iff, and_true, true_and]
      refine hK w1 hS.1 (fun t ht => ?_)
      rw [hS.2.1 t ht, ← rc_of hS.2.2 hb (fun i hi k hk => hc rfl i k hi hk) (by omega) (by omega), show 9 * (t / 9) + t % 9 = t by omega]
    | true =>
      have zz : (zI true = 0) = False := by decide +kernel
      refine hZ (rg_cut [2, 40, 48, 56]) 400 40 _ _ _ ?_; simp only [rg_e_iload_1 (cut := rg_cut [2, 40, 48, 56]) (f := true) d_M_spread_40 rfl 41 rfl, rg_e_if_eq (cut := rg_cut [2, 40, 48, 56]) (f := false) d_M_spread_41 rfl 44 rfl 139 rfl, rg_e_iconst (cut := rg_cut [2, 40, 48, 56]) (f := false) d_M_spread_44 rfl 45 rfl (nI 0) rg_ki_0, rg_e_istore_1 (cut := rg_cut [2, 40, 48, 56]) (f := false) d_M_spread_45 rfl 46 rfl, rg_e_iconst (cut := rg_cut [2, 40, 48, 56]) (f := false) d_M_spread_46 rfl 47 rfl (nI 0) rg_ki_0, rg_e_istore_2 (cut := rg_cut [2, 40, 48, 56]) (f := false) d_M_spread_47 rfl 48 rfl, rg_e_vret (cut := rg_cut [2, 40, 48, 56]) (f := false) d_M_spread_139 rfl, rg_e_cut (cut := rg_cut [2, 40, 48, 56]) 2 rfl, rg_e_cut (cut := rg_cut [2, 40, 48, 56]) 40 rfl, rg_e_cut (cut := rg_cut [2, 40, 48, 56]) 48 rfl, rg_e_cut (cut := rg_cut [2, 40, 48, 56]) 56 rfl, rg_nx_i, rg_nx_v, rg_wd_n, rg_wd_i, rg_wd_l, rg_wd_r, rg_clr_i, rg_clr_l, rg_clr_r, rg_clr_a, rg_clr_n, true_and, and_true, Nat.reduceAdd, Nat.reduceLeDiff, rg_rt_e, rg_fit_ie, rg_fit_ve, rg_fit_1e, rg_fit_0e, rg_fit_be, zz, forall_const, not_true_eq_false, not_false_eq_true, false_imp_iff, and_true, true_and]
      refine l2 r (fun r' m' w2 f1 f2 f3 f4 a2 a3 => ih r' m' w2 a2 a3 ⟨f1, fun e he => f2 _ (hb e he), fun h => (f4 h).2⟩ ?_) 0 r false w1 _ ⟨by omega, hS, fun t h => h, fun h => (by cases h), fun _ => ⟨rfl, fun i' k' h => absurd h (by omega)⟩⟩
      have := cnF_le r' 81
      cases m' with
      | true =>
        have := f3 rfl
        simp only [if_true]
        omega
      | false =>
        rw [(f4 rfl).1]
        simp
  have l0 : ∀ (k : Nat) (r : Nat → Bool) (w1 : rg_W), (k ≤ eN hg ∧ SpR hg w r w1 ∧ ∀ e, e < k → r (9 * sr hg e + ds hg e) = true) → ∀ a2 a3 : Value, Z 2 [.ref 18, .int (nI k), a2, a3] [] w1 0 := by
    refine rg_lp3 _ _ (fun k _ _ => eN hg - k) ?_
    intro k r w1 ⟨hk, hS, hb⟩ ih a2 a3
    rcases Nat.lt_or_ge k (eN hg) with hk9 | hk9
    · obtain ⟨e1, e2, e3⟩ := at' hS k hk9
      have hl := sr_lt hk9
      have vk : vp_in (nI k) 81 := vp_in_nI (by omega) (by omega)
      have ck : (nI k).toNatClampNeg = k := nI_clamp (by omega)
      have x2 : nI 9 * nI (sr hg k) + nI (ds hg k) = nI (9 * sr hg k + ds hg k) := by rw [pk_mul, nI_add]
      have v2 : vp_in (nI (9 * sr hg k + ds hg k)) 81 := vp_in_nI (by omega) (by omega)
      have c2 : (nI (9 * sr hg k + ds hg k)).toNatClampNeg = 9 * sr hg k + ds hg k := nI_clamp (by omega)
      refine hZ (rg_cut [2, 40, 48, 56]) 400 2 _ _ _ ?_; simp only [rg_e_iload_1 (cut := rg_cut [2, 40, 48, 56]) (f := true) d_M_spread_2 rfl 3 rfl, rg_e_aload_0 (cut := rg_cut [2, 40, 48, 56]) (f := false) d_M_spread_3 rfl 4 rfl, rg_e_geti (P := P_M_spread) (cut := rg_cut [2, 40, 48, 56]) (f := false) d_M_spread_4 rfl 7 rfl 18 4 9 rfl (fun _ => rfl), rg_e_icmp_ge (cut := rg_cut [2, 40, 48, 56]) (f := false) d_M_spread_7 rfl 10 rfl 38 rfl, rg_e_aload_0 (cut := rg_cut [2, 40, 48, 56]) (f := false) d_M_spread_10 rfl 11 rfl, rg_e_getr (P := P_M_spread) (cut := rg_cut [2, 40, 48, 56]) (f := false) d_M_spread_11 rfl 14 rfl 18 4 13 28 rfl (fun _ => rfl), rg_e_bipush (cut := rg_cut [2, 40, 48, 56]) (f := false) d_M_spread_14 rfl 16 rfl (nI 9) rg_kb_9, rg_e_aload_0 (cut := rg_cut [2, 40, 48, 56]) (f := false) d_M_spread_16 rfl 17 rfl, rg_e_getr (P := P_M_spread) (cut := rg_cut [2, 40, 48, 56]) (f := false) d_M_spread_17 rfl 20 rfl 18 4 10 25 rfl (fun _ => rfl), rg_e_iload_1 (cut := rg_cut [2, 40, 48, 56]) (f := false) d_M_spread_20 rfl 21 rfl, rg_e_iald (cut := rg_cut [2, 40, 48, 56]) (f := false) d_M_spread_21 rfl 22 rfl 25 81 rfl, rg_e_imul (cut := rg_cut [2, 40, 48, 56]) (f := false) d_M_spread_22 rfl 23 rfl, rg_e_aload_0 (cut := rg_cut [2, 40, 48, 56]) (f := false) d_M_spread_23 rfl 24 rfl, rg_e_getr (P := P_M_spread) (cut := rg_cut [2, 40, 48, 56]) (f := false) d_M_spread_24 rfl 27 rfl 18 4 11 26 rfl (fun _ => rfl), rg_e_iload_1 (cut := rg_cut [2, 40, 48, 56]) (f := false) d_M_spread_27 rfl 28 rfl, rg_e_iald (cut := rg_cut [2, 40, 48, 56]) (f := false) d_M_spread_28 rfl 29 rfl 26 81 rfl, rg_e_iadd (cut := rg_cut [2, 40, 48, 56]) (f := false) d_M_spread_29 rfl 30 rfl, rg_e_iconst (cut := rg_cut [2, 40, 48, 56]) (f := false) d_M_spread_30 rfl 31 rfl (nI 1) rg_ki_1, rg_e_zast (cut := rg_cut [2, 40, 48, 56]) (f := false) d_M_spread_31 rfl 32 rfl 28 81 rfl, rg_e_iinc_1 (cut := rg_cut [2, 40, 48, 56]) (f := false) d_M_spread_32 rfl 35 rfl (nI 1) rg_ki_1, rg_e_goto (cut := rg_cut [2, 40, 48, 56]) (f := false) d_M_spread_35 rfl 2 rfl, rg_e_iconst (cut := rg_cut [2, 40, 48, 56]) (f := false) d_M_spread_38 rfl 39 rfl (nI 1) rg_ki_1, rg_e_istore_1 (cut := rg_cut [2, 40, 48, 56]) (f := false) d_M_spread_39 rfl 40 rfl, rg_e_cut (cut := rg_cut [2, 40, 48, 56]) 2 rfl, rg_e_cut (cut := rg_cut [2, 40, 48, 56]) 40 rfl, rg_e_cut (cut := rg_cut [2, 40, 48, 56]) 48 rfl, rg_e_cut (cut := rg_cut [2, 40, 48, 56]) 56 rfl, rg_nx_i, rg_nx_v, rg_wd_n, rg_wd_i, rg_wd_l, rg_wd_r, rg_clr_i, rg_clr_l, rg_clr_r, rg_clr_a, rg_clr_n, true_and, and_true, Nat.reduceAdd, Nat.reduceLeDiff, rg_rt_e, rg_fit_ie, rg_fit_ve, rg_fit_1e, rg_fit_0e, rg_fit_be, e3, vk, ck, e1, e2, x2, v2, c2, nI_add, nar1]
      refine ⟨fun h => absurd h (nI_ge hk9 (by omega)), fun _ => ih (k + 1) _ _ ⟨by omega, hS.put hl.1 hl.2 ⟨0, es_kE hk9⟩, fun e he => ?_⟩ (by omega) a2 a3⟩
      by_cases ek : e = k
      · subst ek; exact setB_s _ _
      · exact setB_le (hb e (by omega))
    · obtain rfl : k = eN hg := by omega
      have e3 := h9 hS
      refine hZ (rg_cut [2, 40, 48, 56]) 400 2 _ _ _ ?_; simp only [rg_e_iload_1 (cut := rg_cut [2, 40, 48, 56]) (f := true) d_M_spread_2 rfl 3 rfl, rg_e_aload_0 (cut := rg_cut [2, 40, 48, 56]) (f := false) d_M_spread_3 rfl 4 rfl, rg_e_geti (P := P_M_spread) (cut := rg_cut [2, 40, 48, 56]) (f := false) d_M_spread_4 rfl 7 rfl 18 4 9 rfl (fun _ => rfl), rg_e_icmp_ge (cut := rg_cut [2, 40, 48, 56]) (f := false) d_M_spread_7 rfl 10 rfl 38 rfl, rg_e_aload_0 (cut := rg_cut [2, 40, 48, 56]) (f := false) d_M_spread_10 rfl 11 rfl, rg_e_getr (P := P_M_spread) (cut := rg_cut [2, 40, 48, 56]) (f := false) d_M_spread_11 rfl 14 rfl 18 4 13 28 rfl (fun _ => rfl), rg_e_bipush (cut := rg_cut [2, 40, 48, 56]) (f := false) d_M_spread_14 rfl 16 rfl (nI 9) rg_kb_9, rg_e_aload_0 (cut := rg_cut [2, 40, 48, 56]) (f := false) d_M_spread_16 rfl 17 rfl, rg_e_getr (P := P_M_spread) (cut := rg_cut [2, 40, 48, 56]) (f := false) d_M_spread_17 rfl 20 rfl 18 4 10 25 rfl (fun _ => rfl), rg_e_iload_1 (cut := rg_cut [2, 40, 48, 56]) (f := false) d_M_spread_20 rfl 21 rfl, rg_e_iald (cut := rg_cut [2, 40, 48, 56]) (f := false) d_M_spread_21 rfl 22 rfl 25 81 rfl, rg_e_imul (cut := rg_cut [2, 40, 48, 56]) (f := false) d_M_spread_22 rfl 23 rfl, rg_e_aload_0 (cut := rg_cut [2, 40, 48, 56]) (f := false) d_M_spread_23 rfl 24 rfl, rg_e_getr (P := P_M_spread) (cut := rg_cut [2, 40, 48, 56]) (f := false) d_M_spread_24 rfl 27 rfl 18 4 11 26 rfl (fun _ => rfl), rg_e_iload_1 (cut := rg_cut [2, 40, 48, 56]) (f := false) d_M_spread_27 rfl 28 rfl, rg_e_iald (cut := rg_cut [2, 40, 48, 56]) (f := false) d_M_spread_28 rfl 29 rfl 26 81 rfl, rg_e_iadd (cut := rg_cut [2, 40, 48, 56]) (f := false) d_M_spread_29 rfl 30 rfl, rg_e_iconst (cut := rg_cut [2, 40, 48, 56]) (f := false) d_M_spread_30 rfl 31 rfl (nI 1) rg_ki_1, rg_e_zast (cut := rg_cut [2, 40, 48, 56]) (f := false) d_M_spread_31 rfl 32 rfl 28 81 rfl, rg_e_iinc_1 (cut := rg_cut [2, 40, 48, 56]) (f := false) d_M_spread_32 rfl 35 rfl (nI 1) rg_ki_1, rg_e_goto (cut := rg_cut [2, 40, 48, 56]) (f := false) d_M_spread_35 rfl 2 rfl, rg_e_iconst (cut := rg_cut [2, 40, 48, 56]) (f := false) d_M_spread_38 rfl 39 rfl (nI 1) rg_ki_1, rg_e_istore_1 (cut := rg_cut [2, 40, 48, 56]) (f := false) d_M_spread_39 rfl 40 rfl, rg_e_cut (cut := rg_cut [2, 40, 48, 56]) 2 rfl, rg_e_cut (cut := rg_cut [2, 40, 48, 56]) 40 rfl, rg_e_cut (cut := rg_cut [2, 40, 48, 56]) 48 rfl, rg_e_cut (cut := rg_cut [2, 40, 48, 56]) 56 rfl, rg_nx_i, rg_nx_v, rg_wd_n, rg_wd_i, rg_wd_l, rg_wd_r, rg_clr_i, rg_clr_l, rg_clr_r, rg_clr_a, rg_clr_n, true_and, and_true, Nat.reduceAdd, Nat.reduceLeDiff, rg_rt_e, rg_fit_ie, rg_fit_ve, rg_fit_1e, rg_fit_0e, rg_fit_be, e3]
      exact ⟨fun _ => l1 r true w1 _ _ ⟨hS, hb, fun h => (by cases h)⟩, fun h => absurd (nI_le hk9 (by omega)) h⟩
  refine hZ (rg_cut [2, 40, 48, 56]) 400 0 _ _ _ ?_; simp only [rg_e_iconst (cut := rg_cut [2, 40, 48, 56]) (f := true) d_M_spread_0 rfl 1 rfl (nI 0) rg_ki_0, rg_e_istore_1 (cut := rg_cut [2, 40, 48, 56]) (f := false) d_M_spread_1 rfl 2 rfl, rg_e_cut (cut := rg_cut [2, 40, 48, 56]) 2 rfl, rg_e_cut (cut := rg_cut [2, 40, 48, 56]) 40 rfl, rg_e_cut (cut := rg_cut [2, 40, 48, 56]) 48 rfl, rg_e_cut (cut := rg_cut [2, 40, 48, 56]) 56 rfl, rg_nx_i, rg_nx_v, rg_wd_n, rg_wd_i, rg_wd_l, rg_wd_r, rg_clr_i, rg_clr_l, rg_clr_r, rg_clr_a, rg_clr_n, true_and, and_true, Nat.reduceAdd, Nat.reduceLeDiff, rg_rt_e, rg_fit_ie, rg_fit_ve, rg_fit_1e, rg_fit_0e, rg_fit_be]
  exact l0 0 (fun _ => false) w ⟨by omega, ⟨rg_fr_rf _ _, h0, fun a b _ _ h => (by cases h)⟩, fun e he => absurd he (by omega)⟩ _ _
