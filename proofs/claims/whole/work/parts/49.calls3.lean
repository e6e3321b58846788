/-! a call of the program beside the same call of the reference: safe, walks -/
theorem n8_no {n : Int32} {k : Nat} (h : n < nI 1 ∨ ((n < nI 1) = False ∧ (n ≤ nI 8) = False)) (h1 : 1 ≤ k) (h8 : k ≤ 8) (e : n = nI k) : False := by
  rw [e] at h
  rw [nI_ltp (by omega) (by omega), nI_lep (by omega) (by omega)] at h
  rcases h with h | h
  · omega
  · exact of_eq_false h.2 h8
theorem sy_safe {nr : Nat} {ln pk : Nat → Nat} {nd : Nat → Bool} {hg : Nat → Nat → Nat} {A : List (List Nat)} {w : rg_W} (h : Inv nr ln pk nd hg A w) (p : Int64) (n : Int32) : T_L_safe [.ref 0, .long p, .int n, .ref 34] w (Sy (fun w1 K => T_M_safe [.ref 18, .long p, .int n] w1 K) (fun v => if v = 0 then 0 else 1)) := by
  have hH := h.2.2.2.2.1
  have hG := h.2.2.2.2.2.2.2.1
  have hA := h.2.2.2.2.2.2.2.2.2.1
  have hM := h.2.2.2.2.2.2.2.2.2.2.1
  have hO := h.2.2.2.2.2.2.2.2.2.2.2
  have bad : ∀ w1, rg_fr [30] w w1 → ∃ v', some (Value.int (nI 0)) = some (.int v') ∧ (rg_up w1 18 0 (nI 1)).1 18 0 = nI 1 ∧ ((1 : Nat) = 0 → (rg_up w1 18 0 (nI 1)).2 34 0 = (fun v => if v = 0 then 0 else 1) v') ∧ InvE (rg_up w1 18 0 (nI 1)) := fun w1 f => by
    refine ⟨_, rfl, rg_up_ss _ _ _ _, fun e => absurd e (by decide), nr, ln, pk, nd, hg, A, ?_⟩
    refine Inv.th ?_ _
    exact h.scr (rg_fr_sub f (by decide)) (fun q _ _ => by rw [f.1 18 (by decide)]) (hG.2.2.1.fr (f.1 29 (by decide))) (hA.fr (by rw [f.1 13 (by decide)]) (f.1 15 (by decide)) (f.1 14 (by decide))) (hM.fr (by rw [f.1 18 (by decide)]) (f.1 32 (by decide)) (f.1 33 (by decide))) hO
  refine ⟨hg, h.2.2.1.e hH.1, fun hb => ⟨1, by omega, rfl, ln, hg, hG, fun _ => sy_bad h _ (by decide) _, fun n' k1 k8 e => (n8_no hb k1 k8 e).elim⟩, fun n' k1 k8 e => ⟨fun ha => ⟨1, by omega, rfl, ln, hg, hG, fun hb => (n8_no hb k1 k8 e).elim, fun n2 k1' k8' e2 => ?_⟩, fun ha => ⟨0, by omega, rfl, ln, hg, hG, fun hb => (n8_no hb k1 k8 e).elim, fun n2 k1' k8' e2 => ?_⟩⟩⟩
  · rw [e, nI_eqp (by omega) (by omega)] at e2
    subst e2
    exact ⟨fun _ w1 f => bad w1 f, fun hb => (by rw [ha] at hb; cases hb)⟩
  · rw [e, nI_eqp (by omega) (by omega)] at e2
    subst e2
    refine ⟨fun hb => (by rw [ha] at hb; cases hb), fun _ w1 f1 w2 f2 hk => ⟨_, rfl, ?_, fun _ => ?_, nr, ln, pk, nd, hg, A, ?_⟩⟩
    · rw [f2.1 18 (by decide), rg_up_ss]
    · rw [f2.2, rg_up_2, f1.2, rg_upL_s]
      exact if_pos rfl
    · have n : ∀ {k : Nat}, k ∉ [18, 29, 30] → w2.1 k = w.1 k := fun {k} hk => by
        have a1 : k ≠ 18 := fun z => hk (by rw [z]; decide)
        have a2 : k ∉ [29] := fun z => hk (by rw [List.mem_singleton.mp z]; decide)
        have a3 : k ∉ [30] := fun z => hk (by rw [List.mem_singleton.mp z]; decide)
        rw [f2.1 k a2, rg_up_n a1, f1.1 k a3]
        rfl
      have q : ∀ q, q ≠ 0 → w2.1 18 q = w.1 18 q := fun q hq => by
        rw [f2.1 18 (by decide), rg_up_s, upd_n hq, f1.1 18 (by decide)]
        rfl
      refine Inv.scr (w := rg_upL w 34 0 ((fun v => if v = 0 then 0 else 1) (zI (swB hg (peN p n') n')))) h (rg_fr_tr (rg_fr_up (rg_fr_sub f1 (by decide)) (by decide) _ _) (rg_fr_sub f2 (by decide))) (fun q' h0 _ => q q' h0) hk (hA.fr (by rw [n (by decide)]) (n (by decide)) (n (by decide))) (hM.fr (q 17 (by decide)) (n (by decide)) (n (by decide))) hO
