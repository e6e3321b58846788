/-! a call of the program beside the same call of the reference -/
theorem Inv.th {nr : Nat} {ln pk : Nat → Nat} {nd : Nat → Bool} {hg : Nat → Nat → Nat} {A : List (List Nat)} {w : rg_W} (h : Inv nr ln pk nd hg A w) (v : Int32) : Inv nr ln pk nd hg A (rg_up w 18 0 v) := by
  obtain ⟨h1, h2, h3, h4, h5, h6, h7, h8, h9, h10, h11, h12⟩ := h
  have n : ∀ {k : Nat}, k ≠ 18 → (rg_up w 18 0 v).1 k = w.1 k := fun h => rg_up_n h
  have s : ∀ {q : Nat}, q ≠ 0 → (rg_up w 18 0 v).1 18 q = w.1 18 q := fun h => by rw [rg_up_s, upd_n h]
  refine ⟨h1.fr (n (by decide)) (n (by decide)) (n (by decide)), h2.fr (n (by decide)) (n (by decide)) (n (by decide)) (s (by decide)), ⟨?_, ?_, h3.2.2.1.fr ?_ (n (by decide)) (n (by decide)) (n (by decide)) (n (by decide)) (n (by decide)), ?_⟩, fun e i hi => ?_, h5, h6, h7, h8.f (rg_fr_up (rg_fr_rf _ _) (by decide) _ _) (s (by decide)) (h8.2.2.1.fr (n (by decide))), ?_, ?_, h11.fr (s (by decide)) (n (by decide)) (n (by decide)), h12⟩
  · rw [n (by decide)]; exact h3.1
  · rw [n (by decide)]; exact h3.2.1
  · rw [n (by decide)]
  · rw [n (by decide)]; exact h3.2.2.2
  · rw [n (by decide)]; exact h4 e i hi
  · rw [s (by decide)]; exact h9
  · unfold Ac
    rw [n (by decide), n (by decide), n (by decide)]
    exact h10
def InvE (w : rg_W) : Prop := ∃ nr ln pk nd hg A, Inv nr ln pk nd hg A w
/-- behind the wrapper: the reference says the same -/
def Sy (TM : rg_W → (Option Value → rg_W → Prop) → Prop) (g : Int32 → Int64) : Option Value → rg_W → Prop := fun r w1 => ∃ c, c ≤ 2 ∧ r = some (.int (nI c)) ∧ TM w1 (fun r2 w2 => ∃ v, r2 = some (.int v) ∧ w2.1 18 0 = nI c ∧ (c = 0 → w2.2 34 0 = g v) ∧ InvE w2)
theorem Inv.up {nr : Nat} {ln pk : Nat → Nat} {nd : Nat → Bool} {hg : Nat → Nat → Nat} {A : List (List Nat)} {w : rg_W} (h : Inv nr ln pk nd hg A w) (v : Int32) : InvE (rg_up w 18 0 v) := ⟨nr, ln, pk, nd, hg, A, h.th v⟩
theorem out_0 (w : rg_W) (v : Int32) (x : Int64) : (rg_up (rg_upL w 34 0 x) 18 0 v).2 34 0 = x := by
  rw [rg_up_2, rg_upL_s]
  exact if_pos rfl
theorem ixC_b {k : Int32} {n : Nat} {bad len : Prop} {at' : Nat → Prop} (hn : n < 2 ^ 31) (h : k < -1 ∨ ((k < -1) = False ∧ (k < nI n) = False ∧ (k < 0) = False ∧ (k = -1) = False)) (hb : bad) : ixC k n bad len at' := by
  refine ⟨fun _ => hb, fun e => ?_, fun q hq e => ?_⟩
  · rcases h with h | h
    · rw [e] at h; exact absurd h (of_eq_false ix_m.2.1)
    · exact absurd e (of_eq_false h.2.2.2)
  · rcases h with h | h
    · rw [e] at h; exact absurd h (of_eq_false (nI_ltm (by omega)))
    · have := of_eq_false h.2.1
      rw [e] at this
      exact absurd (nI_lt hq hn) this
theorem ixC_l {k : Int32} {n : Nat} {bad len : Prop} {at' : Nat → Prop} (hn : n < 2 ^ 31) (e : k = -1) (hl : len) : ixC k n bad len at' := by
  refine ⟨fun h => ?_, fun _ => hl, fun q hq e2 => ?_⟩
  · rcases h with h | h
    · rw [e] at h; exact absurd h (of_eq_false ix_m.2.1)
    · exact absurd e (of_eq_false h.2.2.2)
  · rw [e] at e2
    exact absurd (show nI q < 0 by rw [← e2]; decide +kernel) (nI_pos (by omega))
theorem ixC_a {k : Int32} {n q : Nat} {bad len : Prop} {at' : Nat → Prop} (hn : n < 2 ^ 31) (hq : q < n) (e : k = nI q) (ha : at' q) : ixC k n bad len at' := by
  refine ⟨fun h => ?_, fun e2 => ?_, fun q' hq' e2 => ?_⟩
  · rcases h with h | h
    · rw [e] at h; exact absurd h (of_eq_false (nI_ltm (by omega)))
    · have := of_eq_false h.2.1
      rw [e] at this
      exact absurd (nI_lt hq hn) this
  · rw [e] at e2
    exact absurd (show nI q < 0 by rw [e2]; decide +kernel) (nI_pos (by omega))
  · rw [e, nI_eqp (by omega) (by omega)] at e2
    rw [← e2]
    exact ha
theorem out_no {r : Int32} {n i : Nat} (hn : n < 2 ^ 31) (h : (decide (r < 0) || !decide (r < nI n)) = true) (hi : i < n) (e : r = nI i) : False := by
  rw [e, in_f hi hn] at h
  cases h
theorem sy_ok {nr : Nat} {ln pk : Nat → Nat} {nd : Nat → Bool} {hg : Nat → Nat → Nat} {A : List (List Nat)} {w : rg_W} (h : Inv nr ln pk nd hg A w) (g : Int32 → Int64) (v : Int32) : ∃ v', some (Value.int v) = some (.int v') ∧ (rg_up (rg_upL w 34 0 (g v)) 18 0 (nI 0)).1 18 0 = nI 0 ∧ ((0 : Nat) = 0 → (rg_up (rg_upL w 34 0 (g v)) 18 0 (nI 0)).2 34 0 = g v') ∧ InvE (rg_up (rg_upL w 34 0 (g v)) 18 0 (nI 0)) :=
  ⟨v, rfl, rg_up_ss _ _ _ _, fun _ => out_0 _ _ _, Inv.up (w := rg_upL w 34 0 (g v)) h _⟩
theorem sy_bad {nr : Nat} {ln pk : Nat → Nat} {nd : Nat → Bool} {hg : Nat → Nat → Nat} {A : List (List Nat)} {w : rg_W} (h : Inv nr ln pk nd hg A w) (g : Int32 → Int64) {c : Nat} (hc : c ≠ 0) (v : Int32) : ∃ v', some (Value.int v) = some (.int v') ∧ (rg_up w 18 0 (nI c)).1 18 0 = nI c ∧ (c = 0 → (rg_up w 18 0 (nI c)).2 34 0 = g v') ∧ InvE (rg_up w 18 0 (nI c)) :=
  ⟨v, rfl, rg_up_ss _ _ _ _, fun e => absurd e hc, h.up _⟩
theorem sy_letter {nr : Nat} {ln pk : Nat → Nat} {nd : Nat → Bool} {hg : Nat → Nat → Nat} {A : List (List Nat)} {w : rg_W} (h : Inv nr ln pk nd hg A w) (r k : Int32) : T_L_letter [.ref 0, .int r, .int k, .ref 34] w (Sy (fun w1 K => T_M_letter [.ref 18, .int r, .int k] w1 K) (fun v => v.toInt64)) := by
  have hn9 := h.1.1
  have eq : ∀ {i j : Nat}, i < nr → j < nr → r = nI i → r = nI j → j = i := fun hi hj e1 e2 => by
    rw [e1, nI_eqp (by omega) (by omega)] at e2
    exact e2.symm
  have b12 : ∀ {i : Nat}, i < nr → ln i < 2 ^ 31 := fun hi => by have := h.1.2.2 _ hi; omega
  refine ⟨nr, ln, pk, h.1, fun hb => ⟨1, by omega, rfl, nr, ln, pk, h.2.1, fun _ => sy_bad h _ (by decide) _, fun i hi e => (out_no (by omega) hb hi e).elim⟩, fun i hi e => ⟨fun hb => ⟨2, by omega, rfl, nr, ln, pk, h.2.1, fun z => (out_no (by omega) z hi e).elim, fun j hj e2 => ?_⟩, fun hb => ⟨0, by omega, rfl, nr, ln, pk, h.2.1, fun z => (out_no (by omega) z hi e).elim, fun j hj e2 => ?_⟩, fun q hq hb => ⟨0, by omega, rfl, nr, ln, pk, h.2.1, fun z => (out_no (by omega) z hi e).elim, fun j hj e2 => ?_⟩⟩⟩
  · obtain rfl := eq hi hj e e2
    exact ixC_b (b12 hj) hb (sy_bad h _ (by decide) _)
  · obtain rfl := eq hi hj e e2
    exact ixC_l (b12 hj) hb (sy_ok h _ _)
  · obtain rfl := eq hi hj e e2
    exact ixC_a (b12 hj) hq hb (sy_ok h _ _)
theorem sy_contained {nr : Nat} {ln pk : Nat → Nat} {nd : Nat → Bool} {hg : Nat → Nat → Nat} {A : List (List Nat)} {w : rg_W} (h : Inv nr ln pk nd hg A w) (r : Int32) : T_L_contained [.ref 0, .int r, .ref 34] w (Sy (fun w1 K => T_M_contained [.ref 18, .int r] w1 K) (fun v => if v = 0 then 0 else 1)) := by
  have hn9 := h.1.1
  refine ⟨nr, ln, pk, h.1, fun hb => ⟨1, by omega, rfl, nr, ln, pk, h.2.1, fun _ => sy_bad h _ (by decide) _, fun i hi e => (out_no (by omega) hb hi e).elim⟩, fun i hi e => ⟨0, by omega, rfl, nr, ln, pk, h.2.1, fun z => (out_no (by omega) z hi e).elim, fun j hj e2 => ?_⟩⟩
  rw [e, nI_eqp (by omega) (by omega)] at e2
  subst e2
  exact sy_ok h (fun v => if v = 0 then 0 else 1) _
theorem sy_way {nr : Nat} {ln pk : Nat → Nat} {nd : Nat → Bool} {hg : Nat → Nat → Nat} {A : List (List Nat)} {w : rg_W} (h : Inv nr ln pk nd hg A w) (x y : Int32) : T_L_way [.ref 0, .int x, .int y, .ref 34] w (Sy (fun w1 K => T_M_way [.ref 18, .int x, .int y] w1 K) (fun v => if v = 0 then 0 else 1)) := by
  have hn9 := h.1.1
  refine ⟨nr, ln, pk, nd, hg, h.1, h.2.2.1, fun hb => ⟨1, by omega, rfl, nr, ln, pk, hg, h.2.1, h.2.2.2.2.2.2.2.1.2.1, fun _ => sy_bad h _ (by decide) _, fun i j hi hj e1 e2 => ?_⟩, fun i j hi hj e1 e2 => ⟨0, by omega, rfl, nr, ln, pk, hg, h.2.1, h.2.2.2.2.2.2.2.1.2.1, fun hb => ?_, fun i' j' hi' hj' e1' e2' => ?_⟩⟩
  · rw [e1, e2, ndB_n (by have := ndN_lt hi; omega) (by omega), ndB_n (by have := ndN_lt hj; omega) (by omega), hi, hj] at hb
    rcases hb with z | z <;> cases z
  · rw [e1, e2, ndB_n (by have := ndN_lt hi; omega) (by omega), ndB_n (by have := ndN_lt hj; omega) (by omega), hi, hj] at hb
    rcases hb with z | z <;> cases z
  · have a1 := ndN_lt hi
    have a2 := ndN_lt hj
    have a3 := ndN_lt hi'
    have a4 := ndN_lt hj'
    rw [e1, nI_eqp (by omega) (by omega)] at e1'
    rw [e2, nI_eqp (by omega) (by omega)] at e2'
    subst e1' e2'
    exact sy_ok h (fun v => if v = 0 then 0 else 1) _
theorem sy_overlap {nr : Nat} {ln pk : Nat → Nat} {nd : Nat → Bool} {hg : Nat → Nat → Nat} {A : List (List Nat)} {w : rg_W} (h : Inv nr ln pk nd hg A w) (x y z : Int32) : T_L_overlap [.ref 0, .int x, .int y, .int z, .ref 34] w (Sy (fun w1 K => T_M_overlap [.ref 18, .int x, .int y, .int z] w1 K) (fun v => v.toInt64)) := by
  have hn9 := h.1.1
  have no : ∀ {i j least : Nat}, ndN nr ln pk i = true → ndN nr ln pk j = true → i ≠ j → 1 ≤ least → least ≤ 12 → x = nI i → y = nI j → z = nI least → (ndB nr ln pk x = false ∨ ndB nr ln pk y = false ∨ x = y ∨ (decide (z - nI 1 < 0) || !decide (z - nI 1 < nI 12)) = true) → False := by
    intro i j least hi hj hij k1 k2 e1 e2 e3 hb
    have a1 := ndN_lt hi
    have a2 := ndN_lt hj
    rw [e1, e2, e3, ndB_n (by omega) (by omega), ndB_n (by omega) (by omega), hi, hj, lst_f k1 k2, nI_eqp (by omega) (by omega)] at hb
    rcases hb with q | q | q | q
    · cases q
    · cases q
    · exact hij q
    · cases q
  refine ⟨nr, ln, pk, h.1, fun hb => ⟨1, by omega, rfl, nr, ln, pk, h.2.1, fun _ => sy_bad h _ (by decide) _, fun i j least hi hj hij k1 k2 e1 e2 e3 => (no hi hj hij k1 k2 e1 e2 e3 hb).elim⟩, fun i j least hi hj hij k1 k2 e1 e2 e3 => ⟨0, by omega, rfl, nr, ln, pk, h.2.1, fun hb => (no hi hj hij k1 k2 e1 e2 e3 hb).elim, fun i' j' least' hi' hj' hij' k1' k2' e1' e2' e3' => ?_⟩⟩
  have a1 := ndN_lt hi
  have a2 := ndN_lt hj
  have a3 := ndN_lt hi'
  have a4 := ndN_lt hj'
  rw [e1, nI_eqp (by omega) (by omega)] at e1'
  rw [e2, nI_eqp (by omega) (by omega)] at e2'
  rw [e3, nI_eqp (by omega) (by omega)] at e3'
  subst e1' e2' e3'
  exact sy_ok h (fun v => v.toInt64) _
theorem sy_edge {nr : Nat} {ln pk : Nat → Nat} {nd : Nat → Bool} {hg : Nat → Nat → Nat} {A : List (List Nat)} {w : rg_W} (h : Inv nr ln pk nd hg A w) (k c : Int32) : T_L_edge [.ref 0, .int k, .int c, .ref 34] w (Sy (fun w1 K => T_M_edge [.ref 18, .int k, .int c] w1 K) (fun v => v.toInt64)) := by
  have hH := h.2.2.2.2.1
  have h72 := eN_le hH.1
  have hE := h.2.2.2.2.2.2.2.1.1
  refine ⟨nr, ln, pk, hg, h.1, h.2.2.1.e hH.1, hH, fun hb => ⟨1, by omega, rfl, nr, ln, pk, hg, h.2.1, hH, hE, fun _ => sy_bad h _ (by decide) _, fun c' hc e => (out_no (by omega) hb hc e).elim⟩, fun c' hc e => ⟨fun hb => ⟨2, by omega, rfl, nr, ln, pk, hg, h.2.1, hH, hE, fun z => (out_no (by omega) z hc e).elim, fun c2 hc2 e2 => ⟨fun _ => sy_bad h _ (by decide) _, fun e' he' z => (out_no (by omega) hb he' z).elim⟩⟩, fun e' he' ek => ⟨0, by omega, rfl, nr, ln, pk, hg, h.2.1, hH, hE, fun z => (out_no (by omega) z hc e).elim, fun c2 hc2 e2 => ⟨fun z => (out_no (by omega) z he' ek).elim, fun e3 he3 ek3 => ?_⟩⟩⟩⟩
  rw [e, nI_eqp (by omega) (by omega)] at e2
  rw [ek, nI_eqp (by omega) (by omega)] at ek3
  subst e2 ek3
  exact sy_ok h (fun v => v.toInt64) _
theorem sy_walk {nr : Nat} {ln pk : Nat → Nat} {nd : Nat → Bool} {hg : Nat → Nat → Nat} {A : List (List Nat)} {w : rg_W} (h : Inv nr ln pk nd hg A w) (k i : Int32) : T_L_walk [.ref 0, .int k, .int i, .ref 34] w (Sy (fun w1 K => T_M_walk [.ref 18, .int k, .int i] w1 K) (fun v => v.toInt64)) := by
  have hA := h.2.2.2.2.2.2.2.2.2.1
  have hM := h.2.2.2.2.2.2.2.2.2.2.1
  have h50 := hA.2.1
  have b40 : ∀ {j : Nat}, j < A.length → (A.getD j []).length < 2 ^ 31 := fun hj => by have := (hA.2.2 _ hj).1; omega
  have eq : ∀ {i j : Nat}, i < A.length → j < A.length → k = nI i → k = nI j → j = i := fun hi hj e1 e2 => by
    rw [e1, nI_eqp (by omega) (by omega)] at e2
    exact e2.symm
  refine ⟨A, hA, fun hb => ⟨1, by omega, rfl, A, hM, fun _ => sy_bad h _ (by decide) _, fun j hj e => (out_no (by omega) hb hj e).elim⟩, fun k' hk e => ⟨fun hb => ⟨2, by omega, rfl, A, hM, fun z => (out_no (by omega) z hk e).elim, fun j hj e2 => ?_⟩, fun hb => ⟨0, by omega, rfl, A, hM, fun z => (out_no (by omega) z hk e).elim, fun j hj e2 => ?_⟩, fun q hq hb => ⟨0, by omega, rfl, A, hM, fun z => (out_no (by omega) z hk e).elim, fun j hj e2 => ?_⟩⟩⟩
  · obtain rfl := eq hk hj e e2
    exact ixC_b (b40 hj) hb (sy_bad h _ (by decide) _)
  · obtain rfl := eq hk hj e e2
    exact ixC_l (b40 hj) hb (sy_ok h _ _)
  · obtain rfl := eq hk hj e e2
    exact ixC_a (b40 hj) hq hb (sy_ok h _ _)
