/-! a call of the program beside the same call of the reference: spelled, safe, all, kind -/
theorem sy_spelled {nr : Nat} {ln pk : Nat → Nat} {nd : Nat → Bool} {hg : Nat → Nat → Nat} {A : List (List Nat)} {w : rg_W} (h : Inv nr ln pk nd hg A w) (k i : Int32) : T_L_spelled [.ref 0, .int k, .int i, .ref 34] w (Sy (fun w1 K => T_M_spelled [.ref 18, .int k, .int i] w1 K) (fun v => v.toInt64)) := by
  have hH := h.2.2.2.2.1
  have hE := h.2.2.2.2.2.2.2.1.1
  have hA := h.2.2.2.2.2.2.2.2.2.1
  have hM := h.2.2.2.2.2.2.2.2.2.2.1
  have hO := h.2.2.2.2.2.2.2.2.2.2.2
  have h50 := hA.2.1
  have bs : ∀ {j : Nat}, j < A.length → spL ln hg (A.getD j []) ≤ 492 := fun hj => spL_le h.2.1 hH hM hO hj
  have b40 : ∀ {j : Nat}, j < A.length → spL ln hg (A.getD j []) < 2 ^ 31 := fun hj => by have := bs hj; omega
  have eq : ∀ {i j : Nat}, i < A.length → j < A.length → k = nI i → k = nI j → j = i := fun hi hj e1 e2 => by
    rw [e1, nI_eqp (by omega) (by omega)] at e2
    exact e2.symm
  refine ⟨nr, ln, pk, hg, A, h.1, h.2.2.1.e hH.1, hA, h.ed, hO, fun hb => ⟨1, by omega, rfl, nr, ln, pk, hg, A, h.2.1, hE, hH, hM, hO, fun _ => sy_bad h _ (by decide) _, fun j hj e => (out_no (by omega) hb hj e).elim⟩, fun k' hk e => ⟨bs hk, fun hb => ⟨2, by omega, rfl, nr, ln, pk, hg, A, h.2.1, hE, hH, hM, hO, fun z => (out_no (by omega) z hk e).elim, fun j hj e2 => ?_⟩, fun hb => ⟨0, by omega, rfl, nr, ln, pk, hg, A, h.2.1, hE, hH, hM, hO, fun z => (out_no (by omega) z hk e).elim, fun j hj e2 => ?_⟩, fun q hq hb => ⟨0, by omega, rfl, nr, ln, pk, hg, A, h.2.1, hE, hH, hM, hO, fun z => (out_no (by omega) z hk e).elim, fun j hj e2 => ?_⟩⟩⟩
  · obtain rfl := eq hk hj e e2
    exact ixC_b (b40 hj) hb (sy_bad h _ (by decide) _)
  · obtain rfl := eq hk hj e e2
    exact ixC_l (b40 hj) hb (sy_ok h _ _)
  · obtain rfl := eq hk hj e e2
    exact ixC_a (b40 hj) hq hb (sy_ok h _ _)
/-- the reference's own scratch has changed -/
theorem Inv.scr {nr : Nat} {ln pk : Nat → Nat} {nd : Nat → Bool} {hg : Nat → Nat → Nat} {A A' : List (List Nat)} {w w' : rg_W} (h : Inv nr ln pk nd hg A w) (hf : rg_fr [18, 29, 30, 31, 32, 33] w w') (hq : ∀ q, q ≠ 0 → q ≠ 17 → w'.1 18 q = w.1 18 q) (hk : KnM hg w') (hA : Ac A' w') (hM : AcM A' w') (hO : AcOk hg A') : Inv nr ln pk nd hg A' w' := by
  obtain ⟨h1, h2, h3, h4, h5, h6, h7, h8, h9, h10, h11, h12⟩ := h
  have n : ∀ {k : Nat}, k ∉ [18, 29, 30, 31, 32, 33] → w'.1 k = w.1 k := fun h => hf.1 _ h
  refine ⟨h1.fr (n (by decide)) (n (by decide)) (n (by decide)), h2.fr (n (by decide)) (n (by decide)) (n (by decide)) (hq 1 (by decide) (by decide)), ⟨?_, ?_, h3.2.2.1.fr ?_ (n (by decide)) (n (by decide)) (n (by decide)) (n (by decide)) (n (by decide)), ?_⟩, fun e i hi => ?_, h5, h6, h7, h8.f hf (hq 9 (by decide) (by decide)) hk, ?_, hA, hM, hO⟩
  · rw [n (by decide)]; exact h3.1
  · rw [n (by decide)]; exact h3.2.1
  · rw [n (by decide)]
  · rw [n (by decide)]; exact h3.2.2.2
  · rw [n (by decide)]; exact h4 e i hi
  · rw [hq 5 (by decide) (by decide)]; exact h9
theorem Ac.fr {A : List (List Nat)} {w w' : rg_W} (h : Ac A w) (h1 : w'.1 13 3 = w.1 13 3) (h2 : w'.1 15 = w.1 15) (h3 : w'.1 14 = w.1 14) : Ac A w' := by
  unfold Ac
  rw [h1, h2, h3]
  exact h
theorem sy_all {nr : Nat} {ln pk : Nat → Nat} {nd : Nat → Bool} {hg : Nat → Nat → Nat} {A : List (List Nat)} {w : rg_W} (h : Inv nr ln pk nd hg A w) : T_G_all [.ref 0] w (fun r w1 => ∃ v, r = some (.int v) ∧ T_M_all [.ref 18] w1 (fun r2 w2 => r2 = some (.int v) ∧ InvE w2)) :=
  ⟨_, rfl, by rw [h.2.2.2.2.2.2.2.2.1, h.2.2.1.2.1], h.up _⟩
theorem sy_kind {nr : Nat} {ln pk : Nat → Nat} {nd : Nat → Bool} {hg : Nat → Nat → Nat} {A : List (List Nat)} {w : rg_W} (h : Inv nr ln pk nd hg A w) : T_G_kind [.ref 0] w (fun r w1 => ∃ v, r = some (.int v) ∧ T_M_kind [.ref 18] w1 (fun r2 w2 => r2 = some (.int v) ∧ InvE w2)) :=
  ⟨nd, hg, h.2.2.1, h.2.2.2.2.1.1, _, rfl, nr, ln, pk, hg, h.2.1, h.2.2.2.2.2.2.2.1.1, h.2.2.2.2.2.2.2.1.2.1, h.2.2.2.2.1, h.2.2.2.2.2.1, by rw [h.2.2.2.2.2.2.1], h.up _⟩
