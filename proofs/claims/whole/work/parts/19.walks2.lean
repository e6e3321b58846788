/-! Walks: the search -/
/-- an edge that may be put behind a trail -/
noncomputable def okB (hg : Nat → Nat → Nat) (t : List Nat) (e : Nat) : Bool := decide (sr hg e = ds hg (lst t)) && sfB hg t e
/-- those of k numbers from x on that have q -/
def cR (q : Nat → Bool) : Nat → Nat → List Nat
  | _, 0 => []
  | x, k + 1 => if q x = true then x :: cR q (x + 1) k else cR q (x + 1) k
theorem cR_no {q : Nat → Bool} : ∀ k x, (∀ e, x ≤ e → e < x + k → q e = false) → cR q x k = []
  | 0, _, _ => rfl
  | k + 1, x, h => by
    rw [cR, if_neg (by rw [h x (by omega) (by omega)]; decide)]
    exact cR_no k (x + 1) (fun e h1 h2 => h e (by omega) (by omega))
theorem cR_skip {q : Nat → Bool} : ∀ d x k, (∀ e, x ≤ e → e < x + d → q e = false) → cR q x (d + k) = cR q (x + d) k
  | 0, x, k, _ => by rw [Nat.zero_add]; rfl
  | d + 1, x, k, h => by
    rw [show d + 1 + k = (d + k) + 1 by omega, cR, if_neg (by rw [h x (by omega) (by omega)]; decide), cR_skip d (x + 1) k (fun e h1 h2 => h e (by omega) (by omega))]
    rw [show x + 1 + d = x + (d + 1) by omega]
theorem cR_cons {q : Nat → Bool} : ∀ k x e cs, cR q x k = e :: cs → x ≤ e ∧ e < x + k ∧ q e = true ∧ cR q (e + 1) (x + k - (e + 1)) = cs
  | 0, x, e, cs, h => by cases h
  | k + 1, x, e, cs, h => by
    rw [cR] at h
    split at h
    · rename_i hq
      injection h with h1 h2
      subst h1
      refine ⟨Nat.le_refl _, by omega, hq, ?_⟩
      rw [show x + (k + 1) - (x + 1) = k by omega]
      exact h2
    · obtain ⟨a, b, c, d⟩ := cR_cons k (x + 1) e cs h
      refine ⟨by omega, by omega, c, ?_⟩
      rw [show x + (k + 1) - (e + 1) = x + 1 + k - (e + 1) by omega]
      exact d
theorem cR_nb {q p : Nat → Bool} {hi N : Nat} (hN : hi ≤ N) (h2 : ∀ e, hi ≤ e → e < N → q e = false) : ∀ k x, k = hi - x → x ≤ N → (∀ e, x ≤ e → e < hi → q e = p e) → nbF p x k = (cR q x (N - x)).head? := by
  intro k
  induction k with
  | zero =>
    intro x hk hx h1
    rw [cR_no (N - x) x (fun e a b => h2 e (by omega) (by omega))]
    rfl
  | succ k ih =>
    intro x hk hx h1
    rw [nbF, show N - x = (N - (x + 1)) + 1 by omega, cR, h1 x (by omega) (by omega)]
    by_cases hp : p x = true
    · rw [if_pos hp, if_pos hp]; rfl
    · rw [if_neg hp, if_neg hp]
      exact ih (x + 1) (by omega) (by omega) (fun e a b => h1 e (by omega) b)
theorem esT_app (hg : Nat → Nat → Nat) (s : Nat) : ∀ t, s ≤ t → ∃ r, esT hg t = esT hg s ++ r ∧ ∀ z ∈ r, s ≤ z := by
  intro t
  induction t with
  | zero =>
    intro h
    obtain rfl : s = 0 := by omega
    exact ⟨[], by simp, fun z hz => by cases hz⟩
  | succ t ih =>
    intro h
    by_cases hs : s = t + 1
    · subst hs
      exact ⟨[], by simp, fun z hz => by cases hz⟩
    · obtain ⟨r, h1, h2⟩ := ih (by omega)
      refine ⟨r ++ (if kp hg t = true then [t] else []), by rw [esT_s, h1, List.append_assoc], fun z hz => ?_⟩
      rcases List.mem_append.mp hz with h3 | h3
      · exact h2 z h3
      · split at h3
        · rw [List.mem_singleton.mp h3]; omega
        · cases h3
theorem esT_cut {hg : Nat → Nat → Nat} {s e : Nat} (hs : s ≤ 81) (he : e < eN hg) : e < (esT hg s).length ↔ (esT hg 81).getD e 0 < s := by
  obtain ⟨r, h1, h2⟩ := esT_app hg s 81 hs
  constructor
  · intro h
    rw [h1, getD_l h]
    exact (esT_lt h).1
  · intro h
    rcases Nat.lt_or_ge e (esT hg s).length with q | q
    · exact q
    · exfalso
      have hm : (esT hg 81).getD e 0 ∈ r := by
        unfold eN at he
        rw [h1, List.length_append] at he
        rw [h1, List.getD_eq_getElem?_getD, List.getElem?_append_right q, List.getElem?_eq_getElem (by omega)]
        exact List.getElem_mem _
      have := h2 _ hm
      omega
theorem sr_iff {hg : Nat → Nat → Nat} {d e : Nat} (hd : d < 9) (he : e < eN hg) : sr hg e = d ↔ (esT hg (9 * d)).length ≤ e ∧ e < (esT hg (9 * (d + 1))).length := by
  have h1 := esT_cut (hg := hg) (s := 9 * d) (by omega) he
  have h2 := esT_cut (hg := hg) (s := 9 * (d + 1)) (by omega) he
  unfold sr
  omega
/-- the edges behind trail t from number x on -/
noncomputable def cs_ (hg : Nat → Nat → Nat) (t : List Nat) (x : Nat) : List Nat := cR (okB hg t) x (eN hg - x)
theorem cs_nb {hg : Nat → Nat → Nat} {t : List Nat} {x : Nat} (hd : ds hg (lst t) < 9) (hx : (esT hg (9 * ds hg (lst t))).length ≤ x) (hxN : x ≤ eN hg) :
    nbF (sfB hg t) x ((esT hg (9 * (ds hg (lst t) + 1))).length - x) = (cs_ hg t x).head? := by
  have hm : (esT hg (9 * (ds hg (lst t) + 1))).length ≤ eN hg := esT_mono hg (by omega)
  refine cR_nb hm (fun e h1 h2 => ?_) _ x rfl hxN (fun e h1 h2 => ?_)
  · unfold okB
    rw [decide_eq_false, Bool.false_and]
    intro h
    have := (sr_iff hd h2).mp h
    omega
  · unfold okB
    rw [decide_eq_true, Bool.true_and]
    exact (sr_iff hd (by omega)).mpr ⟨by omega, h2⟩
theorem cs_0 {hg : Nat → Nat → Nat} {t : List Nat} (hd : ds hg (lst t) < 9) : cs_ hg t 0 = cs_ hg t (esT hg (9 * ds hg (lst t))).length := by
  have hm : (esT hg (9 * ds hg (lst t))).length ≤ eN hg := esT_mono hg (by omega)
  unfold cs_
  have := cR_skip (q := okB hg t) (esT hg (9 * ds hg (lst t))).length 0 (eN hg - (esT hg (9 * ds hg (lst t))).length) (fun e h1 h2 => by
    unfold okB
    rw [decide_eq_false, Bool.false_and]
    intro h
    have := (sr_iff hd (by omega)).mp h
    omega)
  rw [show (esT hg (9 * ds hg (lst t))).length + (eN hg - (esT hg (9 * ds hg (lst t))).length) = eN hg - 0 by omega, Nat.zero_add] at this
  exact this
def vL (V : List Nat → Option (List (List Nat))) (t : List Nat) : List Nat → Option (List (List Nat))
  | [] => some []
  | e :: cs => match V (t ++ [e]), vL V t cs with
    | some a, some b => some (a ++ b)
    | _, _ => none
/-- what the search finds behind trail t, if no walk is too long (k more edges are too many) -/
noncomputable def vis (hg : Nat → Nat → Nat) : Nat → List Nat → Option (List (List Nat))
  | 0, _ => none
  | k + 1, t => if cs_ hg t 0 = [] then some (if preB hg t = true then [] else [t]) else vL (vis hg k) t (cs_ hg t 0)
def cL (C : List Nat → Nat) (t : List Nat) : List Nat → Nat
  | [] => 1
  | e :: cs => 1 + C (t ++ [e]) + cL C t cs
/-- how many steps it takes -/
noncomputable def szV (hg : Nat → Nat → Nat) : Nat → List Nat → Nat
  | 0, _ => 0
  | k + 1, t => cL (szV hg k) t (cs_ hg t 0)
noncomputable def rs_ (hg : Nat → Nat → Nat) (k : Nat) (t cs : List Nat) (g : Bool) : Option (List (List Nat)) := if cs = [] then some (if (g || preB hg t) = true then [] else [t]) else vL (vis hg k) t cs
theorem rs_cons (hg : Nat → Nat → Nat) (k : Nat) (t : List Nat) (e : Nat) (cs : List Nat) (g : Bool) : rs_ hg k t (e :: cs) g = (match vis hg k (t ++ [e]), rs_ hg k t cs true with
    | some a, some b => some (a ++ b)
    | _, _ => none) := by
  have h : rs_ hg k t cs true = vL (vis hg k) t cs := by
    unfold rs_
    by_cases hc : cs = []
    · subst hc; rfl
    · rw [if_neg hc]
  rw [h]
  unfold rs_
  rw [if_neg (by simp)]
  rfl
theorem vis_rs (hg : Nat → Nat → Nat) (k : Nat) (t : List Nat) : vis hg (k + 1) t = rs_ hg k t (cs_ hg t 0) false := by
  unfold vis rs_
  rfl
/-- a state of the search -/
def St (hg : Nat → Nat → Nat) (w0 : rg_W) (A : List (List Nat)) (t : List Nat) (nx : Nat → Nat) (w : rg_W) : Prop := rg_fr [13, 14, 15, 16, 17] w0 w ∧ Tr hg t w ∧ Ac A w ∧ ∀ i, i < t.length → w.1 17 i = nI (nx i) ∧ nx i < 2 ^ 30
theorem lst_app (t : List Nat) (e : Nat) : lst (t ++ [e]) = e := by
  unfold lst
  rw [List.length_append, List.length_singleton, Nat.add_sub_cancel]
  exact getD_e
