/-! a call of the program beside the same call of the reference: read, clear -/
theorem NgG.fr {w w' : rg_W} (h : NgG w) (n : ∀ {k : Nat}, k ∈ [4, 10, 11, 12, 13] → w'.1 k = w.1 k) : NgG w' := by
  obtain ⟨h1, h2, h3, h4, h5⟩ := h
  refine ⟨fun i hi => ?_, ?_, ?_, ?_, ?_⟩
  · rw [n (by decide), n (by decide), n (by decide)]; exact h1 i hi
  · rw [n (by decide)]; exact h2
  · rw [n (by decide)]; exact h3
  · rw [n (by decide)]; exact h4
  · rw [n (by decide)]; exact h5
theorem bad_no {n : Int32} {k : Nat} (h3 : 3 ≤ k) (h12 : k ≤ 12) (e : n = nI k) : (decide (n < nI 3) || decide (nI 12 < n)) = false := by
  rw [e, decide_eq_false (by rw [nI_ltp (by omega) (by omega)]; omega), decide_eq_false (by rw [nI_ltp (by omega) (by omega)]; omega)]
  rfl
theorem sy_read {nr : Nat} {ln pk : Nat → Nat} {nd : Nat → Bool} {hg : Nat → Nat → Nat} {A : List (List Nat)} {w : rg_W} (h : Inv nr ln pk nd hg A w) (x n : Int32) : T_L_read [.ref 0, .int x, .int n, .ref 34] w (Sy (fun w1 K => T_M_read [.ref 18, .int x, .int n] w1 K) (fun v => v.toInt64)) := by
  have ft : ∀ {b : Bool}, b = true → b = false → False := fun h1 h2 => by rw [h1] at h2; cases h2
  refine ⟨nr, ln, pk, h.1, fun hb => ⟨1, by omega, rfl, nr, ln, pk, h.2.1, fun _ => sy_bad h _ (by decide) _, fun z _ => (ft hb z).elim, fun _ n' k3 k12 e => (ft hb (bad_no k3 k12 e)).elim⟩, fun hb h9 => ⟨2, by omega, rfl, nr, ln, pk, h.2.1, fun z => (ft z hb).elim, fun _ _ => sy_bad h _ (by decide) _, fun hlt => absurd h9 (by omega)⟩, fun hlt n' k3 k12 e w1 f1 hR hG => ⟨0, by omega, rfl, nr, ln, pk, h.2.1.fr ?_ ?_ ?_ ?_, fun z => (ft z (bad_no k3 k12 e)).elim, fun _ h9 => absurd h9 (by omega), fun _ n2 k3' k12' e2 w2 f2 t0 hM hN => ?_⟩⟩
  · exact f1.1 19 (by decide)
  · exact f1.1 20 (by decide)
  · exact f1.1 21 (by decide)
  · show w1.1 18 1 = _
    rw [f1.1 18 (by decide)]
  rw [e, nI_eqp (by omega) (by omega)] at e2
  subst e2
  refine ⟨_, rfl, t0, fun _ => ?_, _, _, _, _, _, _, Inv_none (hR.fr ?_ ?_ ?_) hM (hG.fr ?_) hN⟩
  · rw [f2.2, rg_upL_s]
    exact if_pos rfl
  · rw [f2.1 1 (by decide)]; rfl
  · rw [f2.1 2 (by decide)]; rfl
  · rw [f2.1 3 (by decide)]; rfl
  · intro k hk
    rw [f2.1 k (fun z => by revert z hk; simp only [List.mem_cons, List.not_mem_nil, or_false]; omega)]
    rfl
theorem sy_clear (w : rg_W) : T_G_clear [.ref 0] w (fun r w1 => r = none ∧ T_M_clear [.ref 18] w1 (fun r2 w2 => r2 = none ∧ InvE w2)) := by
  intro w1 ⟨f1, g1, g2, g3, g4⟩
  refine ⟨rfl, fun w2 ⟨f2, q, q5, q9, q17, q28, q29⟩ => ⟨rfl, 0, fun _ => 0, fun _ => 0, fun _ => false, hg0, [], Inv_none ⟨by omega, ?_, fun i hi => absurd hi (by omega)⟩ ⟨⟨by omega, fun i hi => absurd hi (by omega)⟩, rg_up_ss _ _ _ _, fun i hi => absurd hi (by omega)⟩ ⟨fun i hi => ?_, ?_, ?_, ?_, ?_⟩ ⟨?_, ?_, ?_, fun t ht => ?_, fun t ht => ?_⟩⟩⟩
  · rw [rg_up_n (by decide), f2.1 1 (by decide), rg_up_n (by decide), rg_up_ss]
  · rw [rg_up_n (by decide), rg_up_n (by decide), rg_up_n (by decide), f2.1 10 (by decide), f2.1 11 (by decide), f2.1 12 (by decide)]
    simp only [rg_up_n, ne_eq, not_false_eq_true, Nat.reduceEqDiff]
    exact g1 i hi
  · rw [rg_up_n (by decide), f2.1 4 (by decide)]
    simp only [rg_up_n, ne_eq, not_false_eq_true, Nat.reduceEqDiff]
    exact g2
  · rw [rg_up_n (by decide), f2.1 4 (by decide)]
    simp only [rg_up_n, ne_eq, not_false_eq_true, Nat.reduceEqDiff]
    exact g3
  · rw [rg_up_n (by decide), f2.1 4 (by decide)]
    simp only [rg_up_n, ne_eq, not_false_eq_true, Nat.reduceEqDiff]
    exact g4
  · rw [rg_up_n (by decide), f2.1 13 (by decide), rg_up_n (by decide), rg_up_n (by decide), rg_up_ss]
  · rw [rg_up_s, upd_n (by decide)]; exact q5
  · rw [rg_up_s, upd_n (by decide)]; exact q9
  · rw [rg_up_s, upd_n (by decide)]; exact q17
  · rw [rg_up_n (by decide)]; exact q28 t ht
  · rw [rg_up_n (by decide)]; exact q29 t ht
