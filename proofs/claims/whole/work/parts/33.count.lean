/-! how many steps the search takes: at most two for every part of a greatest walk -/
theorem nd_le {l : List (List Nat)} : ∀ {m : List (List Nat)}, l.Nodup → (∀ x ∈ l, x ∈ m) → l.length ≤ m.length := by
  induction l with
  | nil => intro m _ _; exact Nat.zero_le _
  | cons a l ih =>
    intro m hn hs
    obtain ⟨h1, h2⟩ := List.nodup_cons.mp hn
    have ha : a ∈ m := hs a List.mem_cons_self
    have := ih (m := m.erase a) h2 (fun x hx => (List.mem_erase_of_ne (fun e : x = a => h1 (by rw [← e]; exact hx))).mpr (hs x (List.mem_cons_of_mem _ hx)))
    rw [List.length_erase_of_mem ha] at this
    have hp : 0 < m.length := List.length_pos_of_mem ha
    rw [List.length_cons]
    omega
def nL (N : List Nat → List (List Nat)) (t : List Nat) : List Nat → List (List Nat)
  | [] => []
  | e :: cs => N (t ++ [e]) ++ nL N t cs
/-- the trails that the search goes through from t on -/
noncomputable def vN (hg : Nat → Nat → Nat) : Nat → List Nat → List (List Nat)
  | 0, _ => []
  | k + 1, t => t :: nL (vN hg k) t (cs_ hg t 0)
theorem nL_mem {N : List Nat → List (List Nat)} {t s : List Nat} : ∀ {cs : List Nat}, s ∈ nL N t cs ↔ ∃ e, e ∈ cs ∧ s ∈ N (t ++ [e])
  | [] => by
    constructor
    · intro h; cases h
    · rintro ⟨e, h, _⟩; cases h
  | c :: cs => by
    rw [nL, List.mem_append, nL_mem]
    constructor
    · rintro (h | ⟨e, h1, h2⟩)
      · exact ⟨c, List.mem_cons_self, h⟩
      · exact ⟨e, List.mem_cons_of_mem _ h1, h2⟩
    · rintro ⟨e, h1, h2⟩
      rcases List.mem_cons.mp h1 with rfl | h1
      · exact Or.inl h2
      · exact Or.inr ⟨e, h1, h2⟩
theorem vL_some {V : List Nat → Option (List (List Nat))} {t : List Nat} : ∀ {cs : List Nat} {R : List (List Nat)}, vL V t cs = some R → ∀ e ∈ cs, ∃ S, V (t ++ [e]) = some S ∧ ∀ x ∈ S, x ∈ R
  | [], _, _, e, he => by cases he
  | c :: cs, R, h, e, he => by
    rw [vL_cons] at h
    cases h1 : V (t ++ [c]) with
    | none => rw [h1] at h; cases h
    | some a =>
      cases h2 : vL V t cs with
      | none => rw [h1, h2] at h; cases h
      | some b =>
        rw [h1, h2] at h
        injection h with h
        subst h
        rcases List.mem_cons.mp he with rfl | he
        · exact ⟨a, h1, fun x hx => List.mem_append_left _ hx⟩
        · obtain ⟨S, q1, q2⟩ := vL_some h2 e he
          exact ⟨S, q1, fun x hx => List.mem_append_right _ (q2 x hx)⟩
theorem vL_mem {V : List Nat → Option (List (List Nat))} {t : List Nat} : ∀ {cs : List Nat} {R : List (List Nat)}, vL V t cs = some R → ∀ x ∈ R, ∃ e, e ∈ cs ∧ ∃ S, V (t ++ [e]) = some S ∧ x ∈ S
  | [], R, h, x, hx => by
    injection h with h
    subst h
    cases hx
  | c :: cs, R, h, x, hx => by
    rw [vL_cons] at h
    cases h1 : V (t ++ [c]) with
    | none => rw [h1] at h; cases h
    | some a =>
      cases h2 : vL V t cs with
      | none => rw [h1, h2] at h; cases h
      | some b =>
        rw [h1, h2] at h
        injection h with h
        subst h
        rcases List.mem_append.mp hx with hx | hx
        · exact ⟨c, List.mem_cons_self, a, h1, hx⟩
        · obtain ⟨e, q1, q2⟩ := vL_mem h2 x hx
          exact ⟨e, List.mem_cons_of_mem _ q1, q2⟩
theorem vis_s {hg : Nat → Nat → Nat} {k : Nat} {t : List Nat} {R : List (List Nat)} (h : vis hg (k + 1) t = some R) : ∃ S, vL (vis hg k) t (cs_ hg t 0) = some S ∧ R = own hg t ++ S := by
  rw [vis_own] at h
  cases hv : vL (vis hg k) t (cs_ hg t 0) with
  | none => rw [hv] at h; cases h
  | some S =>
    rw [hv] at h
    injection h with h
    exact ⟨S, rfl, h.symm⟩
theorem sz_len {hg : Nat → Nat → Nat} : ∀ (k : Nat) (t : List Nat) (R : List (List Nat)), vis hg k t = some R → szV hg k t + 1 = 2 * (vN hg k t).length
  | 0, t, R, h => by rw [vis] at h; cases h
  | k + 1, t, R, h => by
    obtain ⟨S, h1, -⟩ := vis_s h
    have key : ∀ (cs : List Nat) (S : List (List Nat)), vL (vis hg k) t cs = some S → cL (szV hg k) t cs = 1 + 2 * (nL (vN hg k) t cs).length := by
      intro cs
      induction cs with
      | nil => intro S _; rfl
      | cons e cs ih =>
        intro S h
        rw [vL_cons] at h
        cases h1 : vis hg k (t ++ [e]) with
        | none => rw [h1] at h; cases h
        | some a =>
          cases h2 : vL (vis hg k) t cs with
          | none => rw [h1, h2] at h; cases h
          | some b =>
            have q1 := sz_len k (t ++ [e]) a h1
            have q2 := ih b h2
            rw [cL, nL, List.length_append]
            omega
    have := key _ S h1
    rw [szV, vN, List.length_cons, this]
    omega
theorem cR_mem {q : Nat → Bool} : ∀ {k x e : Nat}, e ∈ cR q x k ↔ x ≤ e ∧ e < x + k ∧ q e = true
  | 0, x, e => by
    constructor
    · intro h; cases h
    · intro h; omega
  | k + 1, x, e => by
    rw [cR]
    by_cases hq : q x = true
    · rw [if_pos hq, List.mem_cons, cR_mem]
      constructor
      · rintro (rfl | ⟨a, b, c⟩)
        · exact ⟨Nat.le_refl _, by omega, hq⟩
        · exact ⟨by omega, by omega, c⟩
      · rintro ⟨a, b, c⟩
        by_cases e1 : e = x
        · exact Or.inl e1
        · exact Or.inr ⟨by omega, by omega, c⟩
    · rw [if_neg hq, cR_mem]
      constructor
      · rintro ⟨a, b, c⟩
        exact ⟨by omega, by omega, c⟩
      · rintro ⟨a, b, c⟩
        refine ⟨?_, by omega, c⟩
        by_cases e1 : e = x
        · subst e1; exact absurd c hq
        · omega
theorem cR_nd {q : Nat → Bool} : ∀ (k x : Nat), (cR q x k).Nodup
  | 0, x => List.nodup_nil
  | k + 1, x => by
    rw [cR]
    by_cases hq : q x = true
    · rw [if_pos hq]
      refine List.nodup_cons.mpr ⟨fun h => ?_, cR_nd k (x + 1)⟩
      have := (cR_mem.mp h).1
      omega
    · rw [if_neg hq]
      exact cR_nd k (x + 1)
theorem cs_mem {hg : Nat → Nat → Nat} {t : List Nat} {e : Nat} : e ∈ cs_ hg t 0 ↔ e < eN hg ∧ okB hg t e = true := by
  unfold cs_
  rw [cR_mem]
  constructor
  · rintro ⟨a, b, c⟩; exact ⟨by omega, c⟩
  · rintro ⟨a, b⟩; exact ⟨by omega, by omega, b⟩
def Wlk (hg : Nat → Nat → Nat) (s : List Nat) : Prop := s ≠ [] ∧ ChL hg s ∧ SfL hg s
theorem Wlk.app {hg : Nat → Nat → Nat} {t : List Nat} {e : Nat} (h : Wlk hg t) (he : e ∈ cs_ hg t 0) : Wlk hg (t ++ [e]) := by
  obtain ⟨h1, h2⟩ := cs_mem.mp he
  unfold okB at h2
  rw [Bool.and_eq_true] at h2
  exact ⟨by simp, Ch_app h.2.1 h1 (Or.inr (of_decide_eq_true h2.1)), (Sf_app h.2.2).mpr h2.2⟩
theorem vN_ok {hg : Nat → Nat → Nat} : ∀ (k : Nat) (t : List Nat), Wlk hg t → ∀ s ∈ vN hg k t, Wlk hg s ∧ s.length < t.length + k
  | 0, t, _, s, hs => by cases hs
  | k + 1, t, h, s, hs => by
    rw [vN] at hs
    rcases List.mem_cons.mp hs with rfl | hs
    · exact ⟨h, by omega⟩
    · obtain ⟨e, h1, h2⟩ := nL_mem.mp hs
      obtain ⟨q1, q2⟩ := vN_ok k (t ++ [e]) (h.app h1) s h2
      rw [List.length_append, List.length_singleton] at q2
      exact ⟨q1, by omega⟩
theorem vN_pre {hg : Nat → Nat → Nat} : ∀ (k : Nat) (t s : List Nat), s ∈ vN hg k t → ∃ u, s = t ++ u
  | 0, t, s, hs => by cases hs
  | k + 1, t, s, hs => by
    rw [vN] at hs
    rcases List.mem_cons.mp hs with rfl | hs
    · exact ⟨[], by simp⟩
    · obtain ⟨e, h1, h2⟩ := nL_mem.mp hs
      obtain ⟨u, q⟩ := vN_pre k (t ++ [e]) s h2
      exact ⟨e :: u, by rw [q, List.append_assoc]; rfl⟩
theorem nL_nd {N : List Nat → List (List Nat)} {t : List Nat} (h1 : ∀ e, (N (t ++ [e])).Nodup) (h2 : ∀ e s, s ∈ N (t ++ [e]) → ∃ u, s = t ++ [e] ++ u) : ∀ cs : List Nat, cs.Nodup → (nL N t cs).Nodup
  | [], _ => List.nodup_nil
  | e :: cs, h => by
    obtain ⟨a, b⟩ := List.nodup_cons.mp h
    rw [nL, List.nodup_append]
    refine ⟨h1 e, nL_nd h1 h2 cs b, fun x hx y hy hxy => ?_⟩
    subst hxy
    obtain ⟨e', q1, q2⟩ := nL_mem.mp hy
    obtain ⟨u, r1⟩ := h2 e x hx
    obtain ⟨v, r2⟩ := h2 e' x q2
    rw [r1, List.append_assoc, List.append_assoc] at r2
    have r3 := List.append_cancel_left r2
    have : e = e' := by
      simp at r3
      exact r3.1
    subst this
    exact a q1
theorem vN_nd {hg : Nat → Nat → Nat} : ∀ (k : Nat) (t : List Nat), (vN hg k t).Nodup
  | 0, t => List.nodup_nil
  | k + 1, t => by
    rw [vN]
    refine List.nodup_cons.mpr ⟨fun h => ?_, nL_nd (fun e => vN_nd k _) (fun e s hs => vN_pre k _ s hs) _ (cR_nd _ _)⟩
    obtain ⟨e, h1, h2⟩ := nL_mem.mp h
    obtain ⟨u, q⟩ := vN_pre k _ _ h2
    have := congrArg List.length q
    simp only [List.length_append, List.length_singleton] at this
    omega
theorem gD_mid {t u : List Nat} {e : Nat} : (t ++ e :: u).getD t.length 0 = e := by
  simp [List.getD_eq_getElem?_getD]
/-- every safe walk that begins with t is gone through; if nothing makes it longer it is found -/
theorem vN_all {hg : Nat → Nat → Nat} : ∀ (u : List Nat) (k : Nat) (t : List Nat) (R : List (List Nat)), t ≠ [] → Wlk hg (t ++ u) → vis hg k t = some R → t ++ u ∈ vN hg k t ∧ (own hg (t ++ u) = [t ++ u] → t ++ u ∈ R)
  | _, 0, t, R, _, _, hv => by rw [vis] at hv; cases hv
  | [], k + 1, t, R, ht, hW, hv => by
    rw [List.append_nil]
    refine ⟨by rw [vN]; exact List.mem_cons_self, fun h => ?_⟩
    obtain ⟨S, q1, q2⟩ := vis_s hv
    rw [q2, h]
    exact List.mem_append_left _ List.mem_cons_self
  | e :: u, k + 1, t, R, ht, hW, hv => by
    have hl : 0 < t.length := List.length_pos_iff.mpr ht
    have hlen : (t ++ e :: u).length = t.length + 1 + u.length := by simp; omega
    have he : e < eN hg := hW.2.1.1 e (List.mem_append_right _ List.mem_cons_self)
    have hmem : e ∈ cs_ hg t 0 := by
      refine cs_mem.mpr ⟨he, ?_⟩
      unfold okB
      have c := hW.2.1.2 (t.length - 1) (by omega)
      rw [show t.length - 1 + 1 = t.length by omega, gD_mid, getD_l (by omega)] at c
      rw [decide_eq_true (show sr hg e = ds hg (lst t) from c.symm), Bool.true_and]
      unfold sfB
      rw [all_ix]
      intro i hi
      have := hW.2.2 i t.length hi (by omega)
      rw [gD_mid, getD_l hi] at this
      rw [this]
      rfl
    obtain ⟨S, q1, q2⟩ := vis_s hv
    obtain ⟨S', r1, r2⟩ := vL_some q1 e hmem
    have hap : t ++ e :: u = t ++ [e] ++ u := by simp
    obtain ⟨p1, p2⟩ := vN_all u k (t ++ [e]) S' (by simp) (by rw [← hap]; exact hW) r1
    rw [hap]
    refine ⟨by rw [vN]; exact List.mem_cons_of_mem _ (nL_mem.mpr ⟨e, hmem, p1⟩), fun h => ?_⟩
    rw [q2]
    exact List.mem_append_right _ (r2 _ (p2 h))
/-- what is found are safe walks -/
theorem vis_ok {hg : Nat → Nat → Nat} : ∀ (k : Nat) (t : List Nat) (R : List (List Nat)), Wlk hg t → vis hg k t = some R → ∀ s ∈ R, Wlk hg s ∧ s.length < t.length + k
  | 0, t, R, _, hv => by rw [vis] at hv; cases hv
  | k + 1, t, R, hW, hv => by
    intro s hs
    obtain ⟨S, q1, q2⟩ := vis_s hv
    rw [q2] at hs
    rcases List.mem_append.mp hs with hs | hs
    · unfold own at hs
      split at hs
      · cases hs
      · split at hs
        · cases hs
        · rw [List.mem_singleton.mp hs]
          exact ⟨hW, by omega⟩
    · obtain ⟨e, h1, S', h2, h3⟩ := vL_mem q1 s hs
      obtain ⟨r1, r2⟩ := vis_ok k (t ++ [e]) S' (hW.app h1) h2 s h3
      rw [List.length_append, List.length_singleton] at r2
      exact ⟨r1, by omega⟩
theorem Wlk.one {hg : Nat → Nat → Nat} {e : Nat} (he : e < eN hg) : Wlk hg [e] :=
  ⟨by simp, ⟨fun f hf => by rw [List.mem_singleton.mp hf]; exact he, fun i hi => by simp at hi⟩, fun p q hp hq => by simp at hq; omega⟩
/-- every safe walk stands in a greatest one -/
theorem in_max {hg : Nat → Nat → Nat} {R : List (List Nat)} (H : ∀ e, e < eN hg → ∃ S, vis hg 40 [e] = some S ∧ ∀ x ∈ S, x ∈ R) : ∀ (n : Nat) (s : List Nat), Wlk hg s → 41 ≤ s.length + n → ∃ m, m ∈ R ∧ ∃ a b, m = a ++ s ++ b := by
  intro n
  induction n with
  | zero =>
    intro s hW hn
    obtain ⟨e, u, rfl⟩ : ∃ e u, s = e :: u := by
      cases s with
      | nil => exact absurd rfl hW.1
      | cons e u => exact ⟨e, u, rfl⟩
    have he : e < eN hg := hW.2.1.1 e List.mem_cons_self
    obtain ⟨S, h1, h2⟩ := H e he
    obtain ⟨q1, -⟩ := vN_all u 40 [e] S (by simp) hW h1
    have := (vN_ok 40 [e] (Wlk.one he) _ q1).2
    simp at this hn
    omega
  | succ n ih =>
    intro s hW hn
    by_cases hc : cs_ hg s 0 = []
    · by_cases hp : preB hg s = true
      · obtain ⟨e, he, h1⟩ := List.any_eq_true.mp hp
        rw [Bool.and_eq_true] at h1
        have he := List.mem_range.mp he
        obtain ⟨m, q1, a, b, q2⟩ := ih (e :: s) ⟨by simp, Ch_cons hW.2.1 he (of_decide_eq_true h1.1), (Sf_cons hW.2.2).mpr h1.2⟩ (by rw [List.length_cons]; omega)
        exact ⟨m, q1, a ++ [e], b, by rw [q2]; simp⟩
      · obtain ⟨e, u, rfl⟩ : ∃ e u, s = e :: u := by
          cases s with
          | nil => exact absurd rfl hW.1
          | cons e u => exact ⟨e, u, rfl⟩
        have he : e < eN hg := hW.2.1.1 e List.mem_cons_self
        obtain ⟨S, h1, h2⟩ := H e he
        obtain ⟨-, q2⟩ := vN_all u 40 [e] S (by simp) hW h1
        have how : own hg (e :: u) = [e :: u] := by
          unfold own
          rw [if_neg (by rw [cs_any.mpr hc]; decide), if_neg hp]
        exact ⟨e :: u, h2 _ (q2 how), [], [], by simp⟩
    · obtain ⟨e, cs, hcs⟩ : ∃ e cs, cs_ hg s 0 = e :: cs := by
        cases h : cs_ hg s 0 with
        | nil => exact absurd h hc
        | cons e cs => exact ⟨e, cs, rfl⟩
      obtain ⟨m, q1, a, b, q2⟩ := ih (s ++ [e]) (hW.app (by rw [hcs]; exact List.mem_cons_self)) (by rw [List.length_append, List.length_singleton]; omega)
      exact ⟨m, q1, a, e :: b, by rw [q2]; simp⟩
/-- the parts of a walk -/
def prt (m : List Nat) : List (List Nat) := (List.range 40).flatMap (fun a => (List.range (40 - a)).map (fun b => (m.drop a).take (b + 1)))
theorem prt_len (m : List Nat) : (prt m).length = 820 := by
  unfold prt
  rw [List.length_flatMap]
  simp only [List.length_map, List.length_range]
  decide +kernel
theorem prt_mem {a s b : List Nat} (hs : s ≠ []) (h : (a ++ s ++ b).length ≤ 40) : s ∈ prt (a ++ s ++ b) := by
  have hl : 0 < s.length := List.length_pos_iff.mpr hs
  simp only [List.length_append] at h
  unfold prt
  refine List.mem_flatMap.mpr ⟨a.length, List.mem_range.mpr (by omega), List.mem_map.mpr ⟨s.length - 1, List.mem_range.mpr (by omega), ?_⟩⟩
  rw [List.append_assoc, List.drop_left, show s.length - 1 + 1 = s.length by omega, List.take_left]
theorem fm_len {R : List (List Nat)} : (R.flatMap prt).length = 820 * R.length := by
  induction R with
  | nil => rfl
  | cons m R ih =>
    rw [List.flatMap_cons, List.length_append, ih, prt_len, List.length_cons]
    omega
/-- the steps from all edges -/
noncomputable def sumS (hg : Nat → Nat → Nat) : List Nat → Nat
  | [] => 0
  | e :: cs => szV hg 40 [e] + sumS hg cs
theorem sum_le {hg : Nat → Nat → Nat} {R : List (List Nat)} (h : vL (vis hg 40) [] (chM hg [] 0) = some R) (hR : R.length ≤ 50) : sumS hg (chM hg [] 0) ≤ 82000 := by
  have hc : ∀ e, e ∈ chM hg [] 0 ↔ e < eN hg := fun e => by
    unfold chM
    rw [cR_mem]
    constructor
    · rintro ⟨_, b, _⟩; omega
    · intro b; exact ⟨by omega, by omega, rfl⟩
  have H : ∀ e, e < eN hg → ∃ S, vis hg 40 [e] = some S ∧ ∀ x ∈ S, x ∈ R := fun e he => vL_some h e ((hc e).mpr he)
  have hlen : (nL (vN hg 40) [] (chM hg [] 0)).length ≤ (R.flatMap prt).length := by
    refine nd_le (nL_nd (fun e => vN_nd 40 _) (fun e s hs => vN_pre 40 _ s hs) _ (cR_nd _ _)) (fun s hs => ?_)
    obtain ⟨e, h1, h2⟩ := nL_mem.mp hs
    have he := (hc e).mp h1
    obtain ⟨q1, q2⟩ := vN_ok 40 [e] (Wlk.one he) s h2
    obtain ⟨m, r1, a, b, r2⟩ := in_max H 41 s q1 (by omega)
    refine List.mem_flatMap.mpr ⟨m, r1, ?_⟩
    rw [r2]
    refine prt_mem q1.1 ?_
    rw [← r2]
    obtain ⟨e', x1, S, x2, x3⟩ := vL_mem h m r1
    have := (vis_ok 40 [e'] S (Wlk.one ((hc e').mp x1)) x2 m x3).2
    simp at this
    omega
  rw [fm_len] at hlen
  have key : ∀ (cs : List Nat), (∀ e ∈ cs, e < eN hg) → sumS hg cs + cs.length = 2 * (nL (vN hg 40) [] cs).length := by
    intro cs
    induction cs with
    | nil => intro _; rfl
    | cons e cs ih =>
      intro hcs
      obtain ⟨S, q1, -⟩ := H e (hcs e List.mem_cons_self)
      have q2 := sz_len 40 [e] S q1
      have q3 := ih (fun x hx => hcs x (List.mem_cons_of_mem _ hx))
      rw [sumS, nL, List.length_append, List.length_cons, List.nil_append]
      omega
  have := key _ (fun e he => (hc e).mp he)
  omega
theorem tp_ok {hg : Nat → Nat → Nat} : ∀ (k e M : Nat) (A R : List (List Nat)), vL (vis hg 40) [] (cR (okM hg []) e k) = some R → A.length + R.length ≤ 50 → sumS hg (cR (okM hg []) e k) ≤ M → tpF hg k e M A = some (A ++ R)
  | 0, e, M, A, R, h, _, _ => by
    injection h with h
    subst h
    rw [tpF, List.append_nil]
  | k + 1, e, M, A, R, h, hR, hM => by
    have hk : okM hg [] e = true := rfl
    rw [cR, if_pos hk] at h hM
    rw [vL_cons, List.nil_append] at h
    rw [sumS] at hM
    cases h1 : vis hg 40 [e] with
    | none => rw [h1] at h; cases h
    | some a =>
      cases h2 : vL (vis hg 40) [] (cR (okM hg []) (e + 1) k) with
      | none => rw [h1, h2] at h; cases h
      | some b =>
        rw [h1, h2] at h
        injection h with h
        subst h
        rw [List.length_append] at hR
        rw [tpF_t h1 (by omega) (by omega), tp_ok k (e + 1) _ (A ++ a) b h2 (by rw [List.length_append]; omega) (by omega), List.append_assoc]
theorem tp_no {hg : Nat → Nat → Nat} : ∀ (k e M : Nat) (A B : List (List Nat)), A.length ≤ 50 → tpF hg k e M A = some B → ∃ R, vL (vis hg 40) [] (cR (okM hg []) e k) = some R ∧ B = A ++ R ∧ B.length ≤ 50
  | 0, e, M, A, B, hA, h => by
    rw [tpF] at h
    injection h with h
    subst h
    exact ⟨[], rfl, (List.append_nil _).symm, hA⟩
  | k + 1, e, M, A, B, hA, h => by
    have hk : okM hg [] e = true := rfl
    rw [cR, if_pos hk, vL_cons, List.nil_append]
    rw [tpF] at h
    cases h1 : vis hg 40 [e] with
    | none => rw [h1] at h; cases h
    | some a =>
      rw [h1] at h
      dsimp only at h
      split at h
      · rename_i hc
        obtain ⟨R, q1, q2, q3⟩ := tp_no k (e + 1) _ (A ++ a) B (by rw [List.length_append]; exact hc.1) h
        exact ⟨a ++ R, by rw [q1], by rw [q2, List.append_assoc], q3⟩
      · cases h
/-- the program's search finds what the reference's finds -/
theorem tp_eq (hg : Nat → Nat → Nat) : (∀ R, vL (vis hg 40) [] (chM hg [] 0) = some R → R.length ≤ 50 → tpF hg (eN hg) 0 100000 [] = some R) ∧ ∀ B, tpF hg (eN hg) 0 100000 [] = some B → vL (vis hg 40) [] (chM hg [] 0) = some B ∧ B.length ≤ 50 := by
  have hc : chM hg [] 0 = cR (okM hg []) 0 (eN hg) := rfl
  refine ⟨fun R h hR => ?_, fun B h => ?_⟩
  · have hs := sum_le h hR
    rw [hc] at h hs
    have := tp_ok (eN hg) 0 100000 [] R h (by simpa using hR) (by omega)
    rwa [List.nil_append] at this
  · obtain ⟨R, q1, q2, q3⟩ := tp_no (eN hg) 0 100000 [] B (by simp) h
    rw [List.nil_append] at q2
    subst q2
    exact ⟨q1, q3⟩
theorem tp_ac {hg : Nat → Nat → Nat} {R : List (List Nat)} (h : vL (vis hg 40) [] (chM hg [] 0) = some R) : AcOk hg R := by
  intro t ht
  obtain ⟨e, h1, S, h2, h3⟩ := vL_mem h t ht
  have he : e < eN hg := by
    unfold chM at h1
    have := cR_mem.mp h1
    omega
  have := (vis_ok 40 [e] S (Wlk.one he) h2 t h3).1
  exact ⟨List.length_pos_iff.mpr this.1, this.2.1.1⟩
