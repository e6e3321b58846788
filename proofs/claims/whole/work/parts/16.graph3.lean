/-! Edges: ways, the graph's making, its kind, what passes a walk -/
theorem BS.rem {x : Int32} {p : Nat → Bool} (h : BS x p) {i : Nat} (hi : i < 9) : BS (x &&& ((nI 1 <<< (nI i &&& 31)) ^^^ (-1))) (fun k => p k && !decide (k = i)) := by
  refine ⟨fun k hk => ?_, fun k hk => ?_⟩
  · rw [b_and, b_xor, bt_sh hi (by omega), b_m1 k (by omega), h.1 k hk, Bool.xor_true]
  · rw [b_and, h.2 k hk, Bool.false_and]
theorem BS.or {x y : Int32} {p q : Nat → Bool} (h : BS x p) (g : BS y q) : BS (x ||| y) (fun k => p k || q k) :=
  ⟨fun k hk => by rw [b_or, h.1 k hk, g.1 k hk], fun k hk => by rw [b_or, h.2 k hk, g.2 k hk]; rfl⟩
theorem BS.and {x y : Int32} {p q : Nat → Bool} (h : BS x p) (g : BS y q) : BS (x &&& y) (fun k => p k && q k) :=
  ⟨fun k hk => by rw [b_and, h.1 k hk, g.1 k hk], fun k hk => by rw [b_and, h.2 k hk, g.2 k hk]; rfl⟩
theorem BS.one {i : Nat} (hi : i < 9) : BS (nI 1 <<< (nI i &&& 31)) (fun k => decide (k = i)) :=
  ⟨fun k hk => bt_sh hi (by omega), fun k hk => by
    rcases Nat.lt_or_ge k 32 with q | q
    · rw [bt_sh hi q, decide_eq_false (by omega)]
    · exact bt_hi q⟩
theorem BS.eq {x y : Int32} {p q : Nat → Bool} (h : BS x p) (g : BS y q) : (x = y) = ∀ j, j < 9 → p j = q j := by
  apply propext
  constructor
  · rintro rfl j hj
    rw [← h.1 j hj, ← g.1 j hj]
  · intro e
    apply b_ext
    intro i _
    rcases Nat.lt_or_ge i 9 with hi | hi
    · rw [h.1 i hi, g.1 i hi, e i hi]
    · rw [h.2 i hi, g.2 i hi]
theorem BS.eq0 {x : Int32} {p : Nat → Bool} (h : BS x p) : (x = 0) = ∀ j, j < 9 → p j = false := by
  rw [← nI_0]
  exact h.eq BS.zero
/-- ways: n + 1 edges -/
def pth (E : Nat → Nat → Bool) : Nat → Nat → Nat → Prop
  | 0, i, j => E i j = true
  | n + 1, i, j => ∃ k, k < 9 ∧ E i k = true ∧ pth E n k j
def TC (E : Nat → Nat → Bool) (i j : Nat) : Prop := ∃ n, pth E n i j
noncomputable def rcB (E : Nat → Nat → Bool) (i j : Nat) : Bool := @decide (TC E i j) (Classical.propDecidable _)
theorem rcB_iff {E : Nat → Nat → Bool} {i j : Nat} : rcB E i j = true ↔ TC E i j := @decide_eq_true_iff _ (Classical.propDecidable _)
theorem TC.tr {E : Nat → Nat → Bool} {i k j : Nat} (hk : k < 9) : TC E i k → TC E k j → TC E i j := by
  rintro ⟨n, h⟩ ⟨m, g⟩
  refine ⟨n + m + 1, ?_⟩
  induction n generalizing i with
  | zero =>
    rw [Nat.zero_add]
    exact ⟨k, hk, h, g⟩
  | succ n ih =>
    obtain ⟨a, ha, h1, h2⟩ := h
    rw [show n + 1 + m + 1 = (n + m + 1) + 1 by omega]
    exact ⟨a, ha, h1, ih h2⟩
def stW (R : Nat → Nat → Bool) (t : Nat) : Nat → Nat → Bool := fun a j => R a j || (R a t && R t j)
def Rw (E : Nat → Nat → Bool) : Nat → Nat → Nat → Bool
  | 0 => E
  | t + 1 => stW (Rw E t) t
theorem Rw_closed (E : Nat → Nat → Bool) : ∀ t k i j, k < t → Rw E t i k = true → Rw E t k j = true → Rw E t i j = true := by
  intro t
  induction t with
  | zero => intro k i j h; omega
  | succ t ih =>
    intro k i j hk h1 h2
    simp only [Rw, stW, Bool.or_eq_true, Bool.and_eq_true] at h1 h2 ⊢
    by_cases hkt : k = t
    · subst hkt
      right
      exact ⟨by rcases h1 with h | h; exact h; exact h.1, by rcases h2 with h | h; exact h; exact h.2⟩
    · have hk : k < t := by omega
      rcases h1 with h1 | ⟨h1, h3⟩ <;> rcases h2 with h2 | ⟨h2, h4⟩
      · exact Or.inl (ih k i j hk h1 h2)
      · exact Or.inr ⟨ih k i t hk h1 h2, h4⟩
      · exact Or.inr ⟨h1, ih k t j hk h3 h2⟩
      · exact Or.inr ⟨h1, h4⟩
theorem Rw_has (E : Nat → Nat → Bool) : ∀ t i j, E i j = true → Rw E t i j = true := by
  intro t
  induction t with
  | zero => exact fun i j h => h
  | succ t ih =>
    intro i j h
    simp only [Rw, stW, Bool.or_eq_true]
    exact Or.inl (ih i j h)
theorem Rw_sound (E : Nat → Nat → Bool) : ∀ t, t ≤ 9 → ∀ i j, Rw E t i j = true → TC E i j := by
  intro t
  induction t with
  | zero => exact fun _ i j h => ⟨0, h⟩
  | succ t ih =>
    intro ht i j h
    simp only [Rw, stW, Bool.or_eq_true, Bool.and_eq_true] at h
    rcases h with h | ⟨h, g⟩
    · exact ih (by omega) i j h
    · exact TC.tr (by omega) (ih (by omega) _ _ h) (ih (by omega) _ _ g)
theorem Rw_rc (E : Nat → Nat → Bool) (i j : Nat) : Rw E 9 i j = rcB E i j := by
  rw [Bool.eq_iff_iff, rcB_iff]
  refine ⟨Rw_sound E 9 (by omega) i j, ?_⟩
  rintro ⟨n, h⟩
  induction n generalizing i with
  | zero => exact Rw_has E 9 i j h
  | succ n ih =>
    obtain ⟨k, hk, h1, h2⟩ := h
    exact Rw_closed E 9 k i j hk (Rw_has E 9 i k h1) (ih k h2)
/-- an edge that is left -/
def kE (hg : Nat → Nat → Nat) (a b : Nat) : Bool := kp hg (9 * a + b)
-- E.findReached
def P_E_findReached : rg_P := (rg_F_E, [(134, 2, 0, T_G_holds)], [], [], [], [], 0)
def T_E_findReached : rg_T := fun as w K => match as with
  | [.ref 4] => ∃ E, (∀ a, a < 9 → BS (w.1 10 a) (E a)) ∧ ∀ w', rg_fr [12] w w' → (∀ a, a < 9 → BS (w'.1 12 a) (rcB E a)) → K none w'
  | _ => False
theorem Te_E_findReached  (w : rg_W) (K : Option Value → rg_W → Prop) : T_E_findReached [.ref 4] w K = (∃ E, (∀ a, a < 9 → BS (w.1 10 a) (E a)) ∧ ∀ w', rg_fr [12] w w' → (∀ a, a < 9 → BS (w'.1 12 a) (rcB E a)) → K none w') := rfl
theorem r_E_findReached : ∀ as w K, T_E_findReached as w K → ∃ r, as = .ref 4 :: r := by
  intro as w K h
  unfold T_E_findReached at h
  split at h
  · exact ⟨_, rfl⟩
  · exact h.elim
theorem G_E_findReached (l : Launch) : rg_Good l y_E_findReached c_E_findReached 3 none 1 T_E_findReached := by
  refine rg_good_of (P := P_E_findReached) (by decide) (rg_pok rg_F_E_ok (rg_cons (cw_E_67 (G_G_holds l) (by decide)) rg_nil)) ?_
  intro as w K Z hT hZ
  unfold T_E_findReached at hT
  split at hT
  rotate_left
  · exact hT.elim
  refine ⟨Nat.le_of_ble_eq_true rfl, ?_⟩
  show Z 0 [.ref 4, .null, .null] [] w 0
  obtain ⟨E, hE, hK⟩ := hT
  have l3 : ∀ (t i : Nat) (w1 : rg_W), (t < 9 ∧ i ≤ 9 ∧ rg_fr [12] w w1 ∧ ∀ a, a < 9 → BS (w1.1 12 a) (if a < i then stW (Rw E t) t a else Rw E t a)) →
      (∀ w2 : rg_W, rg_fr [12] w w2 → (∀ a, a < 9 → BS (w2.1 12 a) (Rw E (t + 1) a)) → ∀ a2 : Value, Z 28 [.ref 4, .int (nI (t + 1)), a2] [] w2 0) → Z 36 [.ref 4, .int (nI t), .int (nI i)] [] w1 0 := by
    intro t i w1 hI hout
    revert i w1
    refine rg_lp2 _ _ (fun i _ => 9 - i) ?_
    intro i w1 ⟨ht, hi, hf, hB⟩ ih
    rcases Nat.lt_or_ge i 9 with hi9 | hi9
    · have vi : vp_in (nI i) 9 := vp_in_nI hi9 (by omega)
      have vt : vp_in (nI t) 9 := vp_in_nI ht (by omega)
      have ci : (nI i).toNatClampNeg = i := nI_clamp (by omega)
      have ct : (nI t).toNatClampNeg = t := nI_clamp (by omega)
      have Bi : BS (w1.1 12 i) (Rw E t i) := by have := hB i hi9; rwa [if_neg (by omega)] at this
      have Bt : BS (w1.1 12 t) (Rw E t t) := by
        have := hB t ht
        by_cases h : t < i
        · rw [if_pos h] at this
          refine this.cg fun j _ => ?_
          unfold stW
          cases Rw E t t j <;> cases Rw E t t t <;> rfl
        · rwa [if_neg h] at this
      refine hZ (rg_cut [2, 28, 36]) 400 36 _ _ _ ?_; simp only [rg_e_iload_2 (cut := rg_cut [2, 28, 36]) (f := true) d_E_findReached_36 rfl 37 rfl, rg_e_bipush (cut := rg_cut [2, 28, 36]) (f := false) d_E_findReached_37 rfl 39 rfl (nI 9) rg_kb_9, rg_e_icmp_ge (cut := rg_cut [2, 28, 36]) (f := false) d_E_findReached_39 rfl 42 rfl 76 rfl, rg_e_aload_0 (cut := rg_cut [2, 28, 36]) (f := false) d_E_findReached_42 rfl 43 rfl, rg_e_getr (P := P_E_findReached) (cut := rg_cut [2, 28, 36]) (f := false) d_E_findReached_43 rfl 46 rfl 4 2 7 12 rfl (fun _ => rfl), rg_e_iload_2 (cut := rg_cut [2, 28, 36]) (f := false) d_E_findReached_46 rfl 47 rfl, rg_e_iald (cut := rg_cut [2, 28, 36]) (f := false) d_E_findReached_47 rfl 48 rfl 12 9 rfl, rg_e_iload_1 (cut := rg_cut [2, 28, 36]) (f := false) d_E_findReached_48 rfl 49 rfl, rg_e_cs2 (P := P_E_findReached) (cut := rg_cut [2, 28, 36]) (f := false) d_E_findReached_49 rfl T_G_holds rfl, rg_e_if_eq (cut := rg_cut [2, 28, 36]) (f := false) d_E_findReached_52 rfl 55 rfl 70 rfl, rg_e_aload_0 (cut := rg_cut [2, 28, 36]) (f := false) d_E_findReached_55 rfl 56 rfl, rg_e_getr (P := P_E_findReached) (cut := rg_cut [2, 28, 36]) (f := false) d_E_findReached_56 rfl 59 rfl 4 2 7 12 rfl (fun _ => rfl), rg_e_iload_2 (cut := rg_cut [2, 28, 36]) (f := false) d_E_findReached_59 rfl 60 rfl, rg_e_dup2ri (cut := rg_cut [2, 28, 36]) (f := false) d_E_findReached_60 rfl 61 rfl, rg_e_iald (cut := rg_cut [2, 28, 36]) (f := false) d_E_findReached_61 rfl 62 rfl 12 9 rfl, rg_e_aload_0 (cut := rg_cut [2, 28, 36]) (f := false) d_E_findReached_62 rfl 63 rfl, rg_e_getr (P := P_E_findReached) (cut := rg_cut [2, 28, 36]) (f := false) d_E_findReached_63 rfl 66 rfl 4 2 7 12 rfl (fun _ => rfl), rg_e_iload_1 (cut := rg_cut [2, 28, 36]) (f := false) d_E_findReached_66 rfl 67 rfl, rg_e_iald (cut := rg_cut [2, 28, 36]) (f := false) d_E_findReached_67 rfl 68 rfl 12 9 rfl, rg_e_ior (cut := rg_cut [2, 28, 36]) (f := false) d_E_findReached_68 rfl 69 rfl, rg_e_iast (cut := rg_cut [2, 28, 36]) (f := false) d_E_findReached_69 rfl 70 rfl 12 9 rfl, rg_e_iinc_2 (cut := rg_cut [2, 28, 36]) (f := false) d_E_findReached_70 rfl 73 rfl (nI 1) rg_ki_1, rg_e_goto (cut := rg_cut [2, 28, 36]) (f := false) d_E_findReached_73 rfl 36 rfl, rg_e_iinc_1 (cut := rg_cut [2, 28, 36]) (f := false) d_E_findReached_76 rfl 79 rfl (nI 1) rg_ki_1, rg_e_goto (cut := rg_cut [2, 28, 36]) (f := false) d_E_findReached_79 rfl 28 rfl, rg_e_cut (cut := rg_cut [2, 28, 36]) 2 rfl, rg_e_cut (cut := rg_cut [2, 28, 36]) 28 rfl, rg_e_cut (cut := rg_cut [2, 28, 36]) 36 rfl, rg_nx_i, rg_nx_v, rg_wd_n, rg_wd_i, rg_wd_l, rg_wd_r, rg_clr_i, rg_clr_l, rg_clr_r, rg_clr_a, rg_clr_n, true_and, and_true, Nat.reduceAdd, Nat.reduceLeDiff, ↓Te_G_holds, rg_rt_e, rg_fit_ie, rg_fit_ve, rg_fit_1e, rg_fit_0e, rg_fit_be, vi, vt, ci, ct, zI_eq, nI_add]
      rw [nI_lep (by omega) (by omega), Bi.h ht]
      refine ⟨fun h => by omega, fun _ => ⟨fun h => ?_, fun h => ?_⟩⟩
      · refine ih (i + 1) w1 ⟨ht, by omega, hf, fun a ha => ?_⟩ (by omega)
        by_cases hai : a = i
        · subst hai
          rw [if_pos (by omega)]
          refine Bi.cg fun j _ => ?_
          unfold stW
          rw [h]
          simp
        · have := hB a ha
          by_cases h : a < i
          · rw [if_pos h] at this; rw [if_pos (by omega)]; exact this
          · rw [if_neg h] at this; rw [if_neg (by omega)]; exact this
      · have h : Rw E t i t = true := by simpa using h
        refine ih (i + 1) _ ⟨ht, by omega, rg_fr_up hf (by decide) _ _, fun a ha => ?_⟩ (by omega)
        rw [rg_up_s]
        by_cases hai : a = i
        · subst hai
          rw [if_pos (by omega), upd_s]
          refine (Bi.or Bt).cg fun j _ => ?_
          unfold stW
          rw [h]
          simp
        · rw [upd_n hai]
          have := hB a ha
          by_cases h : a < i
          · rw [if_pos h] at this; rw [if_pos (by omega)]; exact this
          · rw [if_neg h] at this; rw [if_neg (by omega)]; exact this
    · obtain rfl : i = 9 := by omega
      refine hZ (rg_cut [2, 28, 36]) 400 36 _ _ _ ?_; simp only [rg_e_iload_2 (cut := rg_cut [2, 28, 36]) (f := true) d_E_findReached_36 rfl 37 rfl, rg_e_bipush (cut := rg_cut [2, 28, 36]) (f := false) d_E_findReached_37 rfl 39 rfl (nI 9) rg_kb_9, rg_e_icmp_ge (cut := rg_cut [2, 28, 36]) (f := false) d_E_findReached_39 rfl 42 rfl 76 rfl, rg_e_aload_0 (cut := rg_cut [2, 28, 36]) (f := false) d_E_findReached_42 rfl 43 rfl, rg_e_getr (P := P_E_findReached) (cut := rg_cut [2, 28, 36]) (f := false) d_E_findReached_43 rfl 46 rfl 4 2 7 12 rfl (fun _ => rfl), rg_e_iload_2 (cut := rg_cut [2, 28, 36]) (f := false) d_E_findReached_46 rfl 47 rfl, rg_e_iald (cut := rg_cut [2, 28, 36]) (f := false) d_E_findReached_47 rfl 48 rfl 12 9 rfl, rg_e_iload_1 (cut := rg_cut [2, 28, 36]) (f := false) d_E_findReached_48 rfl 49 rfl, rg_e_cs2 (P := P_E_findReached) (cut := rg_cut [2, 28, 36]) (f := false) d_E_findReached_49 rfl T_G_holds rfl, rg_e_if_eq (cut := rg_cut [2, 28, 36]) (f := false) d_E_findReached_52 rfl 55 rfl 70 rfl, rg_e_aload_0 (cut := rg_cut [2, 28, 36]) (f := false) d_E_findReached_55 rfl 56 rfl, rg_e_getr (P := P_E_findReached) (cut := rg_cut [2, 28, 36]) (f := false) d_E_findReached_56 rfl 59 rfl 4 2 7 12 rfl (fun _ => rfl), rg_e_iload_2 (cut := rg_cut [2, 28, 36]) (f := false) d_E_findReached_59 rfl 60 rfl, rg_e_dup2ri (cut := rg_cut [2, 28, 36]) (f := false) d_E_findReached_60 rfl 61 rfl, rg_e_iald (cut := rg_cut [2, 28, 36]) (f := false) d_E_findReached_61 rfl 62 rfl 12 9 rfl, rg_e_aload_0 (cut := rg_cut [2, 28, 36]) (f := false) d_E_findReached_62 rfl 63 rfl, rg_e_getr (P := P_E_findReached) (cut := rg_cut [2, 28, 36]) (f := false) d_E_findReached_63 rfl 66 rfl 4 2 7 12 rfl (fun _ => rfl), rg_e_iload_1 (cut := rg_cut [2, 28, 36]) (f := false) d_E_findReached_66 rfl 67 rfl, rg_e_iald (cut := rg_cut [2, 28, 36]) (f := false) d_E_findReached_67 rfl 68 rfl 12 9 rfl, rg_e_ior (cut := rg_cut [2, 28, 36]) (f := false) d_E_findReached_68 rfl 69 rfl, rg_e_iast (cut := rg_cut [2, 28, 36]) (f := false) d_E_findReached_69 rfl 70 rfl 12 9 rfl, rg_e_iinc_2 (cut := rg_cut [2, 28, 36]) (f := false) d_E_findReached_70 rfl 73 rfl (nI 1) rg_ki_1, rg_e_goto (cut := rg_cut [2, 28, 36]) (f := false) d_E_findReached_73 rfl 36 rfl, rg_e_iinc_1 (cut := rg_cut [2, 28, 36]) (f := false) d_E_findReached_76 rfl 79 rfl (nI 1) rg_ki_1, rg_e_goto (cut := rg_cut [2, 28, 36]) (f := false) d_E_findReached_79 rfl 28 rfl, rg_e_cut (cut := rg_cut [2, 28, 36]) 2 rfl, rg_e_cut (cut := rg_cut [2, 28, 36]) 28 rfl, rg_e_cut (cut := rg_cut [2, 28, 36]) 36 rfl, rg_nx_i, rg_nx_v, rg_wd_n, rg_wd_i, rg_wd_l, rg_wd_r, rg_clr_i, rg_clr_l, rg_clr_r, rg_clr_a, rg_clr_n, true_and, and_true, Nat.reduceAdd, Nat.reduceLeDiff, ↓Te_G_holds, rg_rt_e, rg_fit_ie, rg_fit_ve, rg_fit_1e, rg_fit_0e, rg_fit_be, nI_add]
      refine ⟨fun _ => hout w1 hf (fun a ha => ?_) _, fun h => absurd (nI_le hi9 (by omega)) h⟩
      have := hB a ha
      rwa [if_pos ha] at this
  have l2 : ∀ (t : Nat) (w1 : rg_W) (a2 : Value), (t ≤ 9 ∧ rg_fr [12] w w1 ∧ ∀ a, a < 9 → BS (w1.1 12 a) (Rw E t a)) → Z 28 [.ref 4, .int (nI t), a2] [] w1 0 := by
    refine rg_lp3 _ _ (fun t _ _ => 9 - t) ?_
    intro t w1 a2 ⟨ht, hf, hB⟩ ih
    refine hZ (rg_cut [2, 28, 36]) 400 28 _ _ _ ?_; simp only [rg_e_iload_1 (cut := rg_cut [2, 28, 36]) (f := true) d_E_findReached_28 rfl 29 rfl, rg_e_bipush (cut := rg_cut [2, 28, 36]) (f := false) d_E_findReached_29 rfl 31 rfl (nI 9) rg_kb_9, rg_e_icmp_ge (cut := rg_cut [2, 28, 36]) (f := false) d_E_findReached_31 rfl 34 rfl 82 rfl, rg_e_iconst (cut := rg_cut [2, 28, 36]) (f := false) d_E_findReached_34 rfl 35 rfl (nI 0) rg_ki_0, rg_e_istore_2 (cut := rg_cut [2, 28, 36]) (f := false) d_E_findReached_35 rfl 36 rfl, rg_e_vret (cut := rg_cut [2, 28, 36]) (f := false) d_E_findReached_82 rfl, rg_e_cut (cut := rg_cut [2, 28, 36]) 2 rfl, rg_e_cut (cut := rg_cut [2, 28, 36]) 28 rfl, rg_e_cut (cut := rg_cut [2, 28, 36]) 36 rfl, rg_nx_i, rg_nx_v, rg_wd_n, rg_wd_i, rg_wd_l, rg_wd_r, rg_clr_i, rg_clr_l, rg_clr_r, rg_clr_a, rg_clr_n, true_and, and_true, Nat.reduceAdd, Nat.reduceLeDiff, ↓Te_G_holds, rg_rt_e, rg_fit_ie, rg_fit_ve, rg_fit_1e, rg_fit_0e, rg_fit_be]
    rw [nI_lep (by omega) (by omega)]
    refine ⟨fun h => ?_, fun h => ?_⟩
    · obtain rfl : t = 9 := by omega
      exact hK w1 hf (fun a ha => (hB a ha).cg fun j _ => Rw_rc E a j)
    · exact l3 t 0 w1 ⟨by omega, by omega, hf, fun a ha => by rw [if_neg (by omega)]; exact hB a ha⟩ (fun w2 g1 g2 a2 => ih (t + 1) w2 a2 ⟨by omega, g1, g2⟩ (by omega))
  have l1 : ∀ (i : Nat) (w1 : rg_W) (a2 : Value), (i ≤ 9 ∧ rg_fr [12] w w1 ∧ ∀ a, a < i → BS (w1.1 12 a) (E a)) → Z 2 [.ref 4, .int (nI i), a2] [] w1 0 := by
    refine rg_lp3 _ _ (fun i _ _ => 9 - i) ?_
    intro i w1 a2 ⟨hi, hf, hB⟩ ih
    rcases Nat.lt_or_ge i 9 with hi9 | hi9
    · have vi : vp_in (nI i) 9 := vp_in_nI hi9 (by omega)
      have ci : (nI i).toNatClampNeg = i := nI_clamp (by omega)
      refine hZ (rg_cut [2, 28, 36]) 400 2 _ _ _ ?_; simp only [rg_e_iload_1 (cut := rg_cut [2, 28, 36]) (f := true) d_E_findReached_2 rfl 3 rfl, rg_e_bipush (cut := rg_cut [2, 28, 36]) (f := false) d_E_findReached_3 rfl 5 rfl (nI 9) rg_kb_9, rg_e_icmp_ge (cut := rg_cut [2, 28, 36]) (f := false) d_E_findReached_5 rfl 8 rfl 26 rfl, rg_e_aload_0 (cut := rg_cut [2, 28, 36]) (f := false) d_E_findReached_8 rfl 9 rfl, rg_e_getr (P := P_E_findReached) (cut := rg_cut [2, 28, 36]) (f := false) d_E_findReached_9 rfl 12 rfl 4 2 7 12 rfl (fun _ => rfl), rg_e_iload_1 (cut := rg_cut [2, 28, 36]) (f := false) d_E_findReached_12 rfl 13 rfl, rg_e_aload_0 (cut := rg_cut [2, 28, 36]) (f := false) d_E_findReached_13 rfl 14 rfl, rg_e_getr (P := P_E_findReached) (cut := rg_cut [2, 28, 36]) (f := false) d_E_findReached_14 rfl 17 rfl 4 2 5 10 rfl (fun _ => rfl), rg_e_iload_1 (cut := rg_cut [2, 28, 36]) (f := false) d_E_findReached_17 rfl 18 rfl, rg_e_iald (cut := rg_cut [2, 28, 36]) (f := false) d_E_findReached_18 rfl 19 rfl 10 9 rfl, rg_e_iast (cut := rg_cut [2, 28, 36]) (f := false) d_E_findReached_19 rfl 20 rfl 12 9 rfl, rg_e_iinc_1 (cut := rg_cut [2, 28, 36]) (f := false) d_E_findReached_20 rfl 23 rfl (nI 1) rg_ki_1, rg_e_goto (cut := rg_cut [2, 28, 36]) (f := false) d_E_findReached_23 rfl 2 rfl, rg_e_iconst (cut := rg_cut [2, 28, 36]) (f := false) d_E_findReached_26 rfl 27 rfl (nI 0) rg_ki_0, rg_e_istore_1 (cut := rg_cut [2, 28, 36]) (f := false) d_E_findReached_27 rfl 28 rfl, rg_e_cut (cut := rg_cut [2, 28, 36]) 2 rfl, rg_e_cut (cut := rg_cut [2, 28, 36]) 28 rfl, rg_e_cut (cut := rg_cut [2, 28, 36]) 36 rfl, rg_nx_i, rg_nx_v, rg_wd_n, rg_wd_i, rg_wd_l, rg_wd_r, rg_clr_i, rg_clr_l, rg_clr_r, rg_clr_a, rg_clr_n, true_and, and_true, Nat.reduceAdd, Nat.reduceLeDiff, ↓Te_G_holds, rg_rt_e, rg_fit_ie, rg_fit_ve, rg_fit_1e, rg_fit_0e, rg_fit_be, vi, ci, nI_add]
      rw [nI_lep (by omega) (by omega)]
      refine ⟨fun h => by omega, fun _ => ih (i + 1) _ _ ⟨by omega, rg_fr_up hf (by decide) _ _, fun a ha => ?_⟩ (by omega)⟩
      rw [rg_up_s]
      by_cases hai : a = i
      · subst hai
        rw [upd_s, hf.1 10 (by decide)]
        exact hE a hi9
      · rw [upd_n hai]
        exact hB a (by omega)
    · obtain rfl : i = 9 := by omega
      refine hZ (rg_cut [2, 28, 36]) 400 2 _ _ _ ?_; simp only [rg_e_iload_1 (cut := rg_cut [2, 28, 36]) (f := true) d_E_findReached_2 rfl 3 rfl, rg_e_bipush (cut := rg_cut [2, 28, 36]) (f := false) d_E_findReached_3 rfl 5 rfl (nI 9) rg_kb_9, rg_e_icmp_ge (cut := rg_cut [2, 28, 36]) (f := false) d_E_findReached_5 rfl 8 rfl 26 rfl, rg_e_aload_0 (cut := rg_cut [2, 28, 36]) (f := false) d_E_findReached_8 rfl 9 rfl, rg_e_getr (P := P_E_findReached) (cut := rg_cut [2, 28, 36]) (f := false) d_E_findReached_9 rfl 12 rfl 4 2 7 12 rfl (fun _ => rfl), rg_e_iload_1 (cut := rg_cut [2, 28, 36]) (f := false) d_E_findReached_12 rfl 13 rfl, rg_e_aload_0 (cut := rg_cut [2, 28, 36]) (f := false) d_E_findReached_13 rfl 14 rfl, rg_e_getr (P := P_E_findReached) (cut := rg_cut [2, 28, 36]) (f := false) d_E_findReached_14 rfl 17 rfl 4 2 5 10 rfl (fun _ => rfl), rg_e_iload_1 (cut := rg_cut [2, 28, 36]) (f := false) d_E_findReached_17 rfl 18 rfl, rg_e_iald (cut := rg_cut [2, 28, 36]) (f := false) d_E_findReached_18 rfl 19 rfl 10 9 rfl, rg_e_iast (cut := rg_cut [2, 28, 36]) (f := false) d_E_findReached_19 rfl 20 rfl 12 9 rfl, rg_e_iinc_1 (cut := rg_cut [2, 28, 36]) (f := false) d_E_findReached_20 rfl 23 rfl (nI 1) rg_ki_1, rg_e_goto (cut := rg_cut [2, 28, 36]) (f := false) d_E_findReached_23 rfl 2 rfl, rg_e_iconst (cut := rg_cut [2, 28, 36]) (f := false) d_E_findReached_26 rfl 27 rfl (nI 0) rg_ki_0, rg_e_istore_1 (cut := rg_cut [2, 28, 36]) (f := false) d_E_findReached_27 rfl 28 rfl, rg_e_cut (cut := rg_cut [2, 28, 36]) 2 rfl, rg_e_cut (cut := rg_cut [2, 28, 36]) 28 rfl, rg_e_cut (cut := rg_cut [2, 28, 36]) 36 rfl, rg_nx_i, rg_nx_v, rg_wd_n, rg_wd_i, rg_wd_l, rg_wd_r, rg_clr_i, rg_clr_l, rg_clr_r, rg_clr_a, rg_clr_n, true_and, and_true, Nat.reduceAdd, Nat.reduceLeDiff, ↓Te_G_holds, rg_rt_e, rg_fit_ie, rg_fit_ve, rg_fit_1e, rg_fit_0e, rg_fit_be]
      exact ⟨fun _ => l2 0 w1 _ ⟨by omega, hf, hB⟩, fun h => absurd (nI_le hi9 (by omega)) h⟩
  refine hZ (rg_cut [2, 28, 36]) 400 0 _ _ _ ?_; simp only [rg_e_iconst (cut := rg_cut [2, 28, 36]) (f := true) d_E_findReached_0 rfl 1 rfl (nI 0) rg_ki_0, rg_e_istore_1 (cut := rg_cut [2, 28, 36]) (f := false) d_E_findReached_1 rfl 2 rfl, rg_e_cut (cut := rg_cut [2, 28, 36]) 2 rfl, rg_e_cut (cut := rg_cut [2, 28, 36]) 28 rfl, rg_e_cut (cut := rg_cut [2, 28, 36]) 36 rfl, rg_nx_i, rg_nx_v, rg_wd_n, rg_wd_i, rg_wd_l, rg_wd_r, rg_clr_i, rg_clr_l, rg_clr_r, rg_clr_a, rg_clr_n, true_and, and_true, Nat.reduceAdd, Nat.reduceLeDiff, ↓Te_G_holds, rg_rt_e, rg_fit_ie, rg_fit_ve, rg_fit_1e, rg_fit_0e, rg_fit_be]
  exact l1 0 w _ ⟨by omega, rg_fr_rf _ _, fun a ha => absurd ha (by omega)⟩
/-- the graph of hg over the nodes nd, as Edges holds it -/
def GrW (nd : Nat → Bool) (hg : Nat → Nat → Nat) (w : rg_W) : Prop := BS (w.1 4 8) nd ∧ w.1 4 9 = nI (cnF (hgC hg) 81) ∧ GE hg 81 w ∧ ∀ a, a < 9 → BS (w.1 12 a) (rcB (kE hg) a)
/-- firstOut -/
def FoW (hg : Nat → Nat → Nat) (w : rg_W) : Prop := ∀ i, i ≤ 9 → w.1 9 i = nI (esT hg (9 * i)).length
theorem hgN_ok (nr : Nat) {ln pk : Nat → Nat} {w : rg_W} (hR : Rd nr ln pk w) (least : Nat) : (∀ a b, hgN nr ln pk least a b ≤ 12) ∧ ∀ i, hgN nr ln pk least i i = 0 := by
  refine ⟨fun a b => ?_, fun i => ?_⟩
  · unfold hgN
    split
    · rename_i h
      have := (hR.2.2 b (ndN_lt h.2.2)).2.1
      split <;> omega
    · omega
  · unfold hgN
    rw [if_neg (by simp)]
-- E.make
def P_E_make : rg_P := (rg_F_E, [(93, 2, 0, T_E_findNodes), (101, 3, 0, T_E_layAll), (109, 2, 0, T_E_keepUnsaid), (117, 1, 0, T_E_findReached)], [], [], [], [], 0)
def T_E_make : rg_T := fun as w K => match as with
  | [.ref 4, .ref 1, .int least] => ∃ nr ln pk least', Rd nr ln pk w ∧ w.1 4 8 = nI 0 ∧ w.1 4 9 = nI 0 ∧ w.1 4 10 = nI 0 ∧ (∀ a, a < 9 → w.1 10 a = nI 0 ∧ w.1 11 a = nI 0) ∧ least = nI least' ∧ 1 ≤ least' ∧ least' ≤ 12 ∧ ∀ w', rg_fr [4, 5, 6, 7, 8, 9, 10, 11, 12] w w' → GrW (ndN nr ln pk) (hgN nr ln pk least') w' → FoW (hgN nr ln pk least') w' → K none w'
  | _ => False
theorem Te_E_make (least : Int32) (w : rg_W) (K : Option Value → rg_W → Prop) : T_E_make [.ref 4, .ref 1, .int least] w K = (∃ nr ln pk least', Rd nr ln pk w ∧ w.1 4 8 = nI 0 ∧ w.1 4 9 = nI 0 ∧ w.1 4 10 = nI 0 ∧ (∀ a, a < 9 → w.1 10 a = nI 0 ∧ w.1 11 a = nI 0) ∧ least = nI least' ∧ 1 ≤ least' ∧ least' ≤ 12 ∧ ∀ w', rg_fr [4, 5, 6, 7, 8, 9, 10, 11, 12] w w' → GrW (ndN nr ln pk) (hgN nr ln pk least') w' → FoW (hgN nr ln pk least') w' → K none w') := rfl
theorem r_E_make : ∀ as w K, T_E_make as w K → ∃ r, as = .ref 4 :: r := by
  intro as w K h
  unfold T_E_make at h
  split at h
  · exact ⟨_, rfl⟩
  · exact h.elim
theorem G_E_make (l : Launch) : rg_Good l y_E_make c_E_make 4 none 4 T_E_make := by
  refine rg_good_of (P := P_E_make) (by decide) (rg_pok rg_F_E_ok (rg_cons (cw_E_46 (G_E_findNodes l) (by decide) r_E_findNodes) (rg_cons (cw_E_50 (G_E_layAll l) (by decide) r_E_layAll) (rg_cons (cw_E_54 (G_E_keepUnsaid l) (by decide) r_E_keepUnsaid) (rg_cons (cw_E_58 (G_E_findReached l) (by decide) r_E_findReached) rg_nil))))) ?_
  intro as w K Z hT hZ
  unfold T_E_make at hT
  split at hT
  rotate_left
  · exact hT.elim
  rename_i least
  refine ⟨Nat.le_of_ble_eq_true rfl, ?_⟩
  show Z 0 [.ref 4, .ref 1, .int least, .null] [] w 0
  obtain ⟨nr, ln, pk, least', hR, h8, h9, h10, hab, rfl, l1, l2, hK⟩ := hT
  have hok := hgN_ok nr hR least'
  have hlb : ∀ t, t ≤ 81 → (esT (hgN nr ln pk least') t).length ≤ 81 := fun t ht => by have := esT_len hok.2 t ht; omega
  have loop : ∀ (i : Nat) (w1 : rg_W), (i ≤ 9 ∧ rg_fr [4, 5, 6, 7, 8, 9, 10, 11, 12] w w1 ∧ BS (w1.1 4 8) (ndN nr ln pk) ∧ w1.1 4 9 = nI (cnF (hgC (hgN nr ln pk least')) 81) ∧ Hg (hgN nr ln pk least') w1 ∧ GE (hgN nr ln pk least') (9 * i) w1 ∧ ∀ q, q < i → w1.1 9 q = nI (esT (hgN nr ln pk least') (9 * q)).length) → Z 13 [.ref 4, .ref 1, .int (nI least'), .int (nI i)] [] w1 0 := by
    refine rg_lp2 _ _ (fun i _ => 9 - i) ?_
    intro i w1 ⟨hi, hf, g1, g2, g3, g4, g5⟩ ih
    have hc := g4.1
    rcases Nat.lt_or_ge i 9 with hi9 | hi9
    · have vi : vp_in (nI i) 10 := vp_in_nI (by omega) (by omega)
      have ci : (nI i).toNatClampNeg = i := nI_clamp (by omega)
      refine hZ (rg_cut [13]) 400 13 _ _ _ ?_; simp only [rg_e_iload_3 (cut := rg_cut [13]) (f := true) d_E_make_13 rfl 14 rfl, rg_e_bipush (cut := rg_cut [13]) (f := false) d_E_make_14 rfl 16 rfl (nI 9) rg_kb_9, rg_e_icmp_ge (cut := rg_cut [13]) (f := false) d_E_make_16 rfl 19 rfl 40 rfl, rg_e_aload_0 (cut := rg_cut [13]) (f := false) d_E_make_19 rfl 20 rfl, rg_e_getr (P := P_E_make) (cut := rg_cut [13]) (f := false) d_E_make_20 rfl 23 rfl 4 2 4 9 rfl (fun _ => rfl), rg_e_iload_3 (cut := rg_cut [13]) (f := false) d_E_make_23 rfl 24 rfl, rg_e_aload_0 (cut := rg_cut [13]) (f := false) d_E_make_24 rfl 25 rfl, rg_e_geti (P := P_E_make) (cut := rg_cut [13]) (f := false) d_E_make_25 rfl 28 rfl 4 2 10 rfl (fun _ => rfl), rg_e_iast (cut := rg_cut [13]) (f := false) d_E_make_28 rfl 29 rfl 9 10 rfl, rg_e_aload_0 (cut := rg_cut [13]) (f := false) d_E_make_29 rfl 30 rfl, rg_e_iload_3 (cut := rg_cut [13]) (f := false) d_E_make_30 rfl 31 rfl, rg_e_cv2 (P := P_E_make) (cut := rg_cut [13]) (f := false) d_E_make_31 rfl T_E_keepUnsaid rfl, rg_e_iinc_3 (cut := rg_cut [13]) (f := false) d_E_make_34 rfl 37 rfl (nI 1) rg_ki_1, rg_e_goto (cut := rg_cut [13]) (f := false) d_E_make_37 rfl 13 rfl, rg_e_aload_0 (cut := rg_cut [13]) (f := false) d_E_make_40 rfl 41 rfl, rg_e_getr (P := P_E_make) (cut := rg_cut [13]) (f := false) d_E_make_41 rfl 44 rfl 4 2 4 9 rfl (fun _ => rfl), rg_e_bipush (cut := rg_cut [13]) (f := false) d_E_make_44 rfl 46 rfl (nI 9) rg_kb_9, rg_e_aload_0 (cut := rg_cut [13]) (f := false) d_E_make_46 rfl 47 rfl, rg_e_geti (P := P_E_make) (cut := rg_cut [13]) (f := false) d_E_make_47 rfl 50 rfl 4 2 10 rfl (fun _ => rfl), rg_e_iast (cut := rg_cut [13]) (f := false) d_E_make_50 rfl 51 rfl 9 10 rfl, rg_e_aload_0 (cut := rg_cut [13]) (f := false) d_E_make_51 rfl 52 rfl, rg_e_cv1 (P := P_E_make) (cut := rg_cut [13]) (f := false) d_E_make_52 rfl T_E_findReached rfl, rg_e_vret (cut := rg_cut [13]) (f := false) d_E_make_55 rfl, rg_e_cut (cut := rg_cut [13]) 13 rfl, rg_nx_i, rg_nx_v, rg_wd_n, rg_wd_i, rg_wd_l, rg_wd_r, rg_clr_i, rg_clr_l, rg_clr_r, rg_clr_a, rg_clr_n, true_and, and_true, Nat.reduceAdd, Nat.reduceLeDiff, ↓Te_E_findNodes, ↓Te_E_layAll, ↓Te_E_keepUnsaid, ↓Te_E_findReached, rg_rt_e, rg_fit_ie, rg_fit_ve, rg_fit_1e, rg_fit_0e, rg_fit_be, vi, ci, nI_add, hc]
      rw [nI_lep (by omega) (by omega)]
      refine ⟨fun h => by omega, fun _ => ⟨hgN nr ln pk least', i, ⟨fun t ht => by rw [rg_up_n (by decide)]; exact g3.1 t ht, g3.2⟩, rfl, hi9, g4.fr (by rw [rg_up_n (by decide)]) (rg_up_n (by decide)) (rg_up_n (by decide)) (rg_up_n (by decide)) (rg_up_n (by decide)) (rg_up_n (by decide)), fun w' f1 f2 f3 => ?_⟩⟩
      refine ih (i + 1) w' ⟨by omega, rg_fr_tr (rg_fr_up hf (by decide) _ _) (rg_fr_sub f1 (by decide)), ?_, ?_, ⟨fun t ht => ?_, g3.2⟩, f3, fun q hq => ?_⟩ (by omega)
      · rw [f2 8 (by decide), rg_up_n (by decide)]; exact g1
      · rw [f2 9 (by decide), rg_up_n (by decide)]; exact g2
      · rw [f1.1 5 (by decide), rg_up_n (by decide)]; exact g3.1 t ht
      · rw [f1.1 9 (by decide), rg_up_s]
        by_cases hqi : q = i
        · subst hqi
          rw [upd_s]
        · rw [upd_n hqi]
          exact g5 q (by omega)
    · obtain rfl : i = 9 := by omega
      have v9 : vp_in (nI 9) 10 := vp_in_nI (by omega) (by omega)
      have c9 : (nI 9).toNatClampNeg = 9 := nI_clamp (by omega)
      refine hZ (rg_cut [13]) 400 13 _ _ _ ?_; simp only [rg_e_iload_3 (cut := rg_cut [13]) (f := true) d_E_make_13 rfl 14 rfl, rg_e_bipush (cut := rg_cut [13]) (f := false) d_E_make_14 rfl 16 rfl (nI 9) rg_kb_9, rg_e_icmp_ge (cut := rg_cut [13]) (f := false) d_E_make_16 rfl 19 rfl 40 rfl, rg_e_aload_0 (cut := rg_cut [13]) (f := false) d_E_make_19 rfl 20 rfl, rg_e_getr (P := P_E_make) (cut := rg_cut [13]) (f := false) d_E_make_20 rfl 23 rfl 4 2 4 9 rfl (fun _ => rfl), rg_e_iload_3 (cut := rg_cut [13]) (f := false) d_E_make_23 rfl 24 rfl, rg_e_aload_0 (cut := rg_cut [13]) (f := false) d_E_make_24 rfl 25 rfl, rg_e_geti (P := P_E_make) (cut := rg_cut [13]) (f := false) d_E_make_25 rfl 28 rfl 4 2 10 rfl (fun _ => rfl), rg_e_iast (cut := rg_cut [13]) (f := false) d_E_make_28 rfl 29 rfl 9 10 rfl, rg_e_aload_0 (cut := rg_cut [13]) (f := false) d_E_make_29 rfl 30 rfl, rg_e_iload_3 (cut := rg_cut [13]) (f := false) d_E_make_30 rfl 31 rfl, rg_e_cv2 (P := P_E_make) (cut := rg_cut [13]) (f := false) d_E_make_31 rfl T_E_keepUnsaid rfl, rg_e_iinc_3 (cut := rg_cut [13]) (f := false) d_E_make_34 rfl 37 rfl (nI 1) rg_ki_1, rg_e_goto (cut := rg_cut [13]) (f := false) d_E_make_37 rfl 13 rfl, rg_e_aload_0 (cut := rg_cut [13]) (f := false) d_E_make_40 rfl 41 rfl, rg_e_getr (P := P_E_make) (cut := rg_cut [13]) (f := false) d_E_make_41 rfl 44 rfl 4 2 4 9 rfl (fun _ => rfl), rg_e_bipush (cut := rg_cut [13]) (f := false) d_E_make_44 rfl 46 rfl (nI 9) rg_kb_9, rg_e_aload_0 (cut := rg_cut [13]) (f := false) d_E_make_46 rfl 47 rfl, rg_e_geti (P := P_E_make) (cut := rg_cut [13]) (f := false) d_E_make_47 rfl 50 rfl 4 2 10 rfl (fun _ => rfl), rg_e_iast (cut := rg_cut [13]) (f := false) d_E_make_50 rfl 51 rfl 9 10 rfl, rg_e_aload_0 (cut := rg_cut [13]) (f := false) d_E_make_51 rfl 52 rfl, rg_e_cv1 (P := P_E_make) (cut := rg_cut [13]) (f := false) d_E_make_52 rfl T_E_findReached rfl, rg_e_vret (cut := rg_cut [13]) (f := false) d_E_make_55 rfl, rg_e_cut (cut := rg_cut [13]) 13 rfl, rg_nx_i, rg_nx_v, rg_wd_n, rg_wd_i, rg_wd_l, rg_wd_r, rg_clr_i, rg_clr_l, rg_clr_r, rg_clr_a, rg_clr_n, true_and, and_true, Nat.reduceAdd, Nat.reduceLeDiff, ↓Te_E_findNodes, ↓Te_E_layAll, ↓Te_E_keepUnsaid, ↓Te_E_findReached, rg_rt_e, rg_fit_ie, rg_fit_ve, rg_fit_1e, rg_fit_0e, rg_fit_be, v9, c9, hc]
      refine ⟨fun _ => ⟨kE (hgN nr ln pk least'), fun a ha => ?_, fun w' f1 f2 => ?_⟩, fun h => absurd (nI_le hi9 (by omega)) h⟩
      · rw [rg_up_n (by decide)]
        refine (g4.2.2.1 a ha).cg fun b hb => ?_
        rw [decide_eq_true (by omega)]
        rfl
      · have k4 : w'.1 4 = w1.1 4 := by rw [f1.1 4 (by decide), rg_up_n (by decide)]
        have k9 : w'.1 9 = upd (w1.1 9) 9 (nI (esT (hgN nr ln pk least') (9 * 9)).length) := by rw [f1.1 9 (by decide), rg_up_s]
        refine hK w' (rg_fr_tr (rg_fr_up hf (by decide) _ _) (rg_fr_sub f1 (by decide))) ⟨by rw [k4]; exact g1, by rw [k4]; exact g2, ?_, f2⟩ (fun q hq => ?_)
        · refine g4.fr (by rw [k4]) ?_ ?_ ?_ ?_ ?_ <;> rw [f1.1 _ (by decide), rg_up_n (by decide)]
        · rw [k9]
          by_cases hq9 : q = 9
          · subst hq9
            rw [upd_s]
          · rw [upd_n hq9]
            exact g5 q (by omega)
  refine hZ (rg_cut [13]) 400 0 _ _ _ ?_; simp only [rg_e_aload_0 (cut := rg_cut [13]) (f := true) d_E_make_0 rfl 1 rfl, rg_e_aload_1 (cut := rg_cut [13]) (f := false) d_E_make_1 rfl 2 rfl, rg_e_cv2 (P := P_E_make) (cut := rg_cut [13]) (f := false) d_E_make_2 rfl T_E_findNodes rfl, rg_e_aload_0 (cut := rg_cut [13]) (f := false) d_E_make_5 rfl 6 rfl, rg_e_aload_1 (cut := rg_cut [13]) (f := false) d_E_make_6 rfl 7 rfl, rg_e_iload_2 (cut := rg_cut [13]) (f := false) d_E_make_7 rfl 8 rfl, rg_e_cv3 (P := P_E_make) (cut := rg_cut [13]) (f := false) d_E_make_8 rfl T_E_layAll rfl, rg_e_iconst (cut := rg_cut [13]) (f := false) d_E_make_11 rfl 12 rfl (nI 0) rg_ki_0, rg_e_istore_3 (cut := rg_cut [13]) (f := false) d_E_make_12 rfl 13 rfl, rg_e_cut (cut := rg_cut [13]) 13 rfl, rg_nx_i, rg_nx_v, rg_wd_n, rg_wd_i, rg_wd_l, rg_wd_r, rg_clr_i, rg_clr_l, rg_clr_r, rg_clr_a, rg_clr_n, true_and, and_true, Nat.reduceAdd, Nat.reduceLeDiff, ↓Te_E_findNodes, ↓Te_E_layAll, ↓Te_E_keepUnsaid, ↓Te_E_findReached, rg_rt_e, rg_fit_ie, rg_fit_ve, rg_fit_1e, rg_fit_0e, rg_fit_be]
  refine ⟨nr, ln, pk, hR, h8, fun v hv => ⟨nr, ln, pk, least', hR.fr (rg_up_n (by decide)) (rg_up_n (by decide)) (rg_up_n (by decide)), by rw [rg_up_ss]; exact hv, by rw [rg_up_s, upd_n (by decide)]; exact h9, rfl, l1, l2, fun w' f1 f2 f3 f4 => ?_⟩⟩
  have hf : rg_fr [4, 5, 6, 7, 8, 9, 10, 11, 12] w w' := rg_fr_tr (rg_fr_up (rg_fr_rf _ _) (by decide) _ _) (rg_fr_sub f1 (by decide))
  have e10 : w'.1 10 = w.1 10 := by rw [f1.1 10 (by decide), rg_up_n (by decide)]
  have e11 : w'.1 11 = w.1 11 := by rw [f1.1 11 (by decide), rg_up_n (by decide)]
  refine loop 0 w' ⟨by omega, hf, ?_, f3, ⟨f4, hok⟩, ⟨?_, fun k hk => absurd hk (Nat.not_lt_zero k), fun a ha => ?_, fun b hb => ?_⟩, fun q hq => absurd hq (by omega)⟩
  · rw [f2 8 (by decide), rg_up_ss]; exact hv
  · rw [f2 10 (by decide), rg_up_s, upd_n (by decide)]; exact h10
  · rw [e10, (hab a ha).1]
    exact BS.zero.cg fun b _ => by simp
  · rw [e11, (hab b hb).2]
    exact BS.zero.cg fun a _ => by simp
