/-! a call of the program beside the same call of the reference: build -/
theorem sy_build {nr : Nat} {ln pk : Nat → Nat} {nd : Nat → Bool} {hg : Nat → Nat → Nat} {A : List (List Nat)} {w : rg_W} (h : Inv nr ln pk nd hg A w) (z : Int32) : T_L_build [.ref 0, .int z, .ref 34] w (Sy (fun w1 K => T_M_build [.ref 18, .int z] w1 K) (fun v => v.toInt64)) := by
  have hn9 := h.1.1
  have no : ∀ {least : Nat}, 1 ≤ least → least ≤ 12 → z = nI least → (decide (z - nI 1 < 0) || !decide (z - nI 1 < nI 12)) = true → False := fun k1 k2 e hb => by
    rw [e, lst_f k1 k2] at hb
    cases hb
  refine ⟨nr, ln, pk, h.1, fun hb => ⟨1, by omega, rfl, nr, ln, pk, h.2.1, fun _ => sy_bad h _ (by decide) _, fun least k1 k2 e => (no k1 k2 e hb).elim⟩, fun least k1 k2 e w1 f1 _ h13 hG hF => ⟨0, by omega, rfl, nr, ln, pk, h.2.1.fr ?_ ?_ ?_ ?_, fun hb => (no k1 k2 e hb).elim, fun least2 k1' k2' e2 w2 f2 t0 t1 t17 t5 hE hC hN => ?_⟩⟩
  · exact f1.1 19 (by decide)
  · exact f1.1 20 (by decide)
  · exact f1.1 21 (by decide)
  · show w1.1 18 1 = _
    rw [f1.1 18 (by decide)]
  rw [e, nI_eqp (by omega) (by omega)] at e2
  subst e2
  have hL := hgN_L nr h.2.1.1 least k1
  have n2 : ∀ {k : Nat}, k ∉ [18, 22, 23, 24, 25, 26, 27, 28, 29] → w2.1 k = w1.1 k := fun hk => f2.1 _ hk
  have n1 : ∀ {k : Nat}, k ∉ [4, 5, 6, 7, 8, 9, 10, 11, 12, 13] → w1.1 k = w.1 k := fun hk => f1.1 _ hk
  refine ⟨_, rfl, t0, fun _ => ?_, nr, ln, pk, ndN nr ln pk, hgN nr ln pk least, [], h.1.fr ?_ ?_ ?_, ⟨h.2.1.1.fr ?_ ?_, t1, ?_⟩, ⟨?_, ?_, hG.2.2.1.fr ?_ (n2 (by decide)) (n2 (by decide)) (n2 (by decide)) (n2 (by decide)) (n2 (by decide)), ?_⟩, fun _ i hi => ?_, hL, fun a b hab => ?_, rfl, ⟨hE, hC, fun f g hf hg' => Or.inl (hN _ ?_), hL.1⟩, t5, Ac_nil ?_, AcM_nil t17, fun t ht => by cases ht⟩
  · rw [f2.2, rg_upL_s]
    exact if_pos rfl
  · rw [n2 (by decide), n1 (by decide)]
  · rw [n2 (by decide), n1 (by decide)]
  · rw [n2 (by decide), n1 (by decide)]
  · rw [n2 (by decide), n1 (by decide)]
  · rw [n2 (by decide), n1 (by decide)]
  · rw [n2 (by decide), n1 (by decide)]; exact h.2.1.2.2
  · rw [n2 (by decide)]; exact hG.1
  · rw [n2 (by decide)]; exact hG.2.1
  · rw [n2 (by decide)]
  · rw [n2 (by decide)]; exact hG.2.2.2
  · rw [n2 (by decide)]; exact hF i hi
  · unfold hgN at hab
    split at hab
    · rename_i hc
      exact hc.2.2
    · exact absurd rfl hab
  · have := eN_le hL.1
    omega
  · rw [n2 (by decide)]; exact h13
