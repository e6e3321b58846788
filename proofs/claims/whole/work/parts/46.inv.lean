/-! what holds between two calls of the law -/
def hg0 : Nat → Nat → Nat := fun _ _ => 0
theorem hg0_kp (t : Nat) : kp hg0 t = false := rfl
theorem hg0_es (t : Nat) : esT hg0 t = [] := by
  unfold esT
  exact List.filter_eq_nil_iff.mpr (fun x _ => by rw [hg0_kp]; decide)
theorem hg0_eN : eN hg0 = 0 := by unfold eN; rw [hg0_es]; rfl
theorem hg0_cn : ∀ t, cnF (hgC hg0) t = 0
  | 0 => rfl
  | t + 1 => by
    rw [cnF, hg0_cn t]
    rfl
theorem hg0_rc (i j : Nat) : rcB (kE hg0) i j = false := by
  rw [← Bool.not_eq_true, rcB_iff]
  intro h
  obtain ⟨k, hk⟩ := h.last
  cases hk
theorem hg0_sh (nd : Nat → Bool) : shN nd hg0 = 0 := by
  unfold shN
  rw [hg0_es]
  rfl
theorem hg0_L (nr : Nat) (ln : Nat → Nat) : HgL nr ln hg0 := ⟨fun _ => rfl, fun _ _ h => absurd rfl h⟩
/-- between two calls -/
def Inv (nr : Nat) (ln pk : Nat → Nat) (nd : Nat → Bool) (hg : Nat → Nat → Nat) (A : List (List Nat)) (w : rg_W) : Prop :=
  Rd nr ln pk w ∧ RdM nr ln pk w ∧ GrW nd hg w ∧ (shN nd hg = 2 → FoW hg w) ∧ HgL nr ln hg ∧ (∀ a b, hg a b ≠ 0 → ndN nr ln pk b = true) ∧ shN nd hg = shN (ndN nr ln pk) hg ∧ GM ln hg w ∧ w.1 18 5 = nI (cnF (hgC hg) 81) ∧ Ac A w ∧ AcM A w ∧ AcOk hg A
theorem Ac_nil {w : rg_W} (h : w.1 13 3 = nI 0) : Ac [] w := ⟨h, by simp, fun k hk => absurd hk (Nat.not_lt_zero k)⟩
theorem AcM_nil {w : rg_W} (h : w.1 18 17 = nI 0) : AcM [] w := ⟨h, by simp, fun k hk => absurd hk (Nat.not_lt_zero k)⟩
/-- no graph -/
theorem Inv_none {nr : Nat} {ln pk : Nat → Nat} {w : rg_W} (h1 : Rd nr ln pk w) (h2 : RdM nr ln pk w) (h3 : NgG w) (h4 : NgM w) : Inv nr ln pk (fun _ => false) hg0 [] w := by
  obtain ⟨g1, g2, g3, g4, g5⟩ := h3
  obtain ⟨m1, m2, m3, m4, m5⟩ := h4
  have z : ∀ {x : Int32} {p : Nat → Bool}, x = nI 0 → (∀ i, i < 9 → p i = false) → BS x p := fun e hp => by rw [e]; exact BS.zero.cg (fun i hi => (hp i hi).symm)
  refine ⟨h1, h2, ⟨z g2 (fun _ _ => rfl), by rw [g3, hg0_cn], ⟨by rw [hg0_es]; exact g4, fun k hk => ?_, fun a ha => z (g1 a ha).1 (fun i _ => ?_), fun a ha => z (g1 a ha).2.1 (fun i _ => ?_)⟩, fun a ha => z (g1 a ha).2.2 (fun i _ => hg0_rc a i)⟩, fun e => ?_, hg0_L nr ln, fun a b e => absurd rfl e, by rw [hg0_sh, hg0_sh], ⟨⟨by rw [hg0_eN]; exact m2, fun k hk => ?_⟩, fun t ht => by rw [m4 t ht, hg0_rc]; rfl, fun f g hf => ?_, fun _ => rfl⟩, by rw [m1, hg0_cn], Ac_nil g5, AcM_nil m3, fun t ht => by cases ht⟩
  · rw [hg0_es] at hk; exact absurd hk (Nat.not_lt_zero k)
  · rw [hg0_kp, Bool.and_false]
  · rw [hg0_kp, Bool.and_false]
  · rw [hg0_sh] at e; cases e
  · rw [hg0_eN] at hk; omega
  · rw [hg0_eN] at hf; omega
theorem Inv.ed {nr : Nat} {ln pk : Nat → Nat} {nd : Nat → Bool} {hg : Nat → Nat → Nat} {A : List (List Nat)} {w : rg_W} (h : Inv nr ln pk nd hg A w) : EdOk nr ln hg := fun e he => by
  obtain ⟨a, b, c⟩ := h.2.2.2.2.1.e he
  exact ⟨a, b, Nat.le_of_lt c⟩
/-- at the beginning: all is 0 -/
theorem Inv_new {w : rg_W} (h : ∀ k j, w.1 k j = 0) : Inv 0 (fun _ => 0) (fun _ => 0) (fun _ => false) hg0 [] w := by
  have z : ∀ k j, w.1 k j = nI 0 := fun k j => by rw [h k j]; rfl
  exact Inv_none ⟨by omega, z _ _, fun i hi => absurd hi (by omega)⟩ ⟨⟨by omega, fun i hi => absurd hi (by omega)⟩, z _ _, fun i hi => absurd hi (by omega)⟩ ⟨fun i _ => ⟨z _ _, z _ _, z _ _⟩, z _ _, z _ _, z _ _, z _ _⟩ ⟨z _ _, z _ _, z _ _, fun t _ => z _ _, fun t _ => z _ _⟩
