/-! a call of the program beside the same call of the reference: walks -/
theorem Inv.mv {nr : Nat} {ln pk : Nat → Nat} {nd : Nat → Bool} {hg : Nat → Nat → Nat} {A A' : List (List Nat)} {w w' : rg_W} (h : Inv nr ln pk nd hg A w) (n : ∀ {k : Nat}, k ∉ [13, 14, 15, 16, 17, 18, 29, 30, 31, 32, 33] → w'.1 k = w.1 k) (hq : ∀ q, q ≠ 0 → q ≠ 17 → w'.1 18 q = w.1 18 q) (hk : KnM hg w') (hA : Ac A' w') (hM : AcM A' w') (hO : AcOk hg A') : Inv nr ln pk nd hg A' w' := by
  obtain ⟨h1, h2, h3, h4, h5, h6, h7, h8, h9, h10, h11, h12⟩ := h
  refine ⟨h1.fr (n (by decide)) (n (by decide)) (n (by decide)), h2.fr (n (by decide)) (n (by decide)) (n (by decide)) (hq 1 (by decide) (by decide)), ⟨?_, ?_, h3.2.2.1.fr ?_ (n (by decide)) (n (by decide)) (n (by decide)) (n (by decide)) (n (by decide)), ?_⟩, fun e i hi => ?_, h5, h6, h7, ⟨h8.1.fr (hq 9 (by decide) (by decide)) (n (by decide)) (n (by decide)) (n (by decide)), ?_, hk, h8.2.2.2⟩, ?_, hA, hM, hO⟩
  · rw [n (by decide)]; exact h3.1
  · rw [n (by decide)]; exact h3.2.1
  · rw [n (by decide)]
  · rw [n (by decide)]; exact h3.2.2.2
  · rw [n (by decide)]; exact h4 e i hi
  · unfold RcM; rw [n (by decide)]; exact h8.2.1
  · rw [hq 5 (by decide) (by decide)]; exact h9
theorem sy_walks {nr : Nat} {ln pk : Nat → Nat} {nd : Nat → Bool} {hg : Nat → Nat → Nat} {A : List (List Nat)} {w : rg_W} (h : Inv nr ln pk nd hg A w) : T_L_walks [.ref 0, .ref 34] w (Sy (fun w1 K => T_M_walks [.ref 18] w1 K) (fun v => v.toInt64)) := by
  have hH := h.2.2.2.2.1
  have hG := h.2.2.2.2.2.2.2.1
  have hS := h.2.2.2.2.2.2.1
  have pc : ∀ {w1 : rg_W}, rg_fr [13, 14, 15, 16, 17] w w1 → RdM nr ln pk w1 ∧ GM ln hg w1 := fun f => by
    refine ⟨h.2.1.fr (f.1 19 (by decide)) (f.1 20 (by decide)) (f.1 21 (by decide)) (by rw [f.1 18 (by decide)]), hG.1.fr (by rw [f.1 18 (by decide)]) (f.1 25 (by decide)) (f.1 26 (by decide)) (f.1 27 (by decide)), ?_, hG.2.2.1.fr (f.1 29 (by decide)), hG.2.2.2⟩
    unfold RcM
    rw [f.1 28 (by decide)]
    exact hG.2.1
  have nn : ∀ {w1 w2 : rg_W}, rg_fr [13, 14, 15, 16, 17] w w1 → (∀ a, a ∉ [18, 29, 30, 31, 32, 33] → w2.1 a = w1.1 a) → ∀ {k : Nat}, k ∉ [13, 14, 15, 16, 17, 18, 29, 30, 31, 32, 33] → w2.1 k = w.1 k := fun {w1 w2} f1 f2 {k} hk => by
    rw [f2 k (fun z => hk (by revert z; simp only [List.mem_cons, List.not_mem_nil, or_false]; omega)), f1.1 k (fun z => hk (by revert z; simp only [List.mem_cons, List.not_mem_nil, or_false]; omega))]
  refine ⟨nd, hg, h.2.2.1, h.2.2.2.1, hH.1, fun B w1 hs ht f1 hB => ⟨0, by omega, rfl, nr, ln, pk, hg, (pc f1).1, (pc f1).2, hH, h.2.2.2.2.2.1, fun R w2 s2 hv hR f2 t0 hM hk => ?_, fun hno => (hno ⟨by rw [← hS]; exact hs, B, (tp_eq hg).2 B ht⟩).elim⟩, fun hno w1 f1 hz => ⟨1, by omega, rfl, nr, ln, pk, hg, (pc f1).1, (pc f1).2, hH, h.2.2.2.2.2.1, fun R w2 s2 hv hR f2 t0 hM hk => (hno ⟨by rw [hS]; exact s2, R, (tp_eq hg).1 R hv hR⟩).elim, fun _ w2 f2 t0 t17 hk => ?_⟩⟩
  · obtain rfl : B = R := by
      have := ((tp_eq hg).2 B ht).1
      rw [hv] at this
      exact (Option.some.inj this).symm
    refine ⟨_, rfl, t0, fun _ => ?_, nr, ln, pk, nd, hg, B, h.mv (nn f1 f2.1.1) (fun q a b => ?_) hk (hB.fr ?_ ?_ ?_) hM (tp_ac hv)⟩
    · rw [f2.1.2, rg_upL_s]
      exact if_pos rfl
    · rw [f2.2 q a b]
      show w1.1 18 q = _
      rw [f1.1 18 (by decide)]
    · rw [f2.1.1 13 (by decide)]; rfl
    · rw [f2.1.1 15 (by decide)]; rfl
    · rw [f2.1.1 14 (by decide)]; rfl
  · refine ⟨_, rfl, t0, fun e => absurd e (by decide), nr, ln, pk, nd, hg, [], h.mv (nn f1 f2.1.1) (fun q a b => ?_) hk (Ac_nil ?_) (AcM_nil t17) (fun t ht => by cases ht)⟩
    · rw [f2.2 q a b, f1.1 18 (by decide)]
    · rw [f2.1.1 13 (by decide)]; exact hz
