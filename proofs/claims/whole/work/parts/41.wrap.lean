/-! static methods that call one that throws, and catch what it throws -/
/-- rows of a table: begin, end, handler, name's index, exception -/
abbrev rg_Hk : Type := Nat × Nat × Nat × Nat × Nat
def rg_hh (hk : List rg_Hk) : List (Nat × Nat × Nat × Nat) := hk.map (fun r => (r.1, r.2.1, r.2.2.1, r.2.2.2.1))
def rg_hd (hk : List rg_Hk) : List (Nat × Nat) := hk.map (fun r => (r.2.2.2.2, r.2.2.1))
theorem rg_hk_split {k h : Nat} : ∀ {hk : List rg_Hk}, rg_lk (rg_hd hk) k = some h → ∃ pre r suf, hk = pre ++ r :: suf ∧ r.2.2.2.2 = k ∧ r.2.2.1 = h ∧ ∀ z ∈ pre, z.2.2.2.2 ≠ k
  | [], g => by cases g
  | r :: hk, g => by
    have g' : (if r.2.2.2.2 = k then some r.2.2.1 else rg_lk (rg_hd hk) k) = some h := g
    by_cases e : r.2.2.2.2 = k
    · rw [if_pos e] at g'
      exact ⟨[], r, hk, rfl, e, Option.some.inj g', fun z hz => by cases hz⟩
    · rw [if_neg e] at g'
      obtain ⟨pre, x, suf, q1, q2, q3, q4⟩ := rg_hk_split g'
      refine ⟨r :: pre, x, suf, by rw [q1]; rfl, q2, q3, fun z hz => ?_⟩
      rcases List.mem_cons.mp hz with rfl | hz
      · exact e
      · exact q4 z hz
def rg_ent (r : rg_Hk) : ExceptionTableEntry := ⟨r.1, r.2.1, r.2.2.1, r.2.2.2.1⟩
theorem rg_tab (hk : List rg_Hk) : tableOf (rg_hh hk) = hk.map rg_ent := by
  unfold tableOf rg_hh rg_ent
  rw [List.map_map]
  rfl
/-- a row's words -/
def rg_HkOk (own : String) (pc : Nat) (r : rg_Hk) : Prop := covers (rg_ent r) pc = true ∧ r.2.2.2.1 ≠ 0 ∧ Cond.classLink own r.2.2.2.1 (exN r.2.2.2.2) ∈ rg_TS ∧ 0 < r.2.2.2.2 ∧ r.2.2.2.2 < 5
theorem rg_cast : ∀ k, k < 5 → 0 < k → Cond.castable (exN k) (exN k) ∈ rg_DC := by
  have h : ∀ k, k < 5 → 0 < k → Cond.castable (exN k) (exN k) ∈ tables_1 := by decide +kernel
  intro k hk h0
  exact List.mem_filter.mpr ⟨h k hk h0, rfl⟩
theorem rg_u32 : ∀ k, k < 5 → (UInt32.ofNat k).toNat = k := by decide
section
variable {p : Program} {l : Launch} {e : Env} {R : Room} {s : State} {m : MethodId} {args : Array Value} {below : List Frame} {meth : Method} {c : Code} {Q : State → Prop} {cc : ByteArray} {E : rg_E} {nL : Nat} {cb : Nat → Nat × Nat}
/-- caught -/
theorem rg_caught {sa : Nat → Nat} {hk : List rg_Hk} {own : String} (htab : c.exceptionTable.toList = hk.map rg_ent) {Ts : List Cond} (hts : ∀ w ∈ Ts, w.before args s = true) (hTS : ∀ w ∈ rg_TS, w ∈ Ts) (hown : s.vm.findClass own = some m.cls) (hSX : rg_SX sa (rg_A E s.heap.size) s)
    {pc k h : Nat} (hok : ∀ r ∈ hk, rg_HkOk own pc r) (hlk : rg_lk (rg_hd hk) k = some h) {H : Heap} {locs : List Loc} {cells slots : Nat} {ls : Array Slot} {rest : List Value} {ce : Cell} {q : Addr} (hcell : H[q]? = some ce) (hv : ce.vm = .none) (hcl : s.vm.findClass (exN k) = some ce.cls)
    (kk : W p l e R s m args below meth c H locs cells slots Q (F0 m h ls [.ref q])) : vx_W p l e R s m args below meth c H locs cells slots Q (F0 m pc ls rest) q := by
  obtain ⟨pre, r, suf, q1, rfl, rfl, q4⟩ := rg_hk_split hlk
  have hr : r ∈ hk := by rw [q1]; exact List.mem_append_right _ List.mem_cons_self
  obtain ⟨c1, c2, c3, c4, c5⟩ := hok r hr
  refine vx_catch hown (pre.map rg_ent) (rg_ent r) (suf.map rg_ent) (by rw [htab, q1, List.map_append, List.map_cons]) (fun z hz => ?_) c1 c2 (hts _ (hTS _ c3)) (va_Nw.use (rg_DC_tab rfl) (hSX.2.2.2.1 _ (rg_cast _ c5 c4))) hcell hv hcl kk
  obtain ⟨z', hz', rfl⟩ := List.mem_map.mp hz
  obtain ⟨d1, d2, d3, d4, d5⟩ := hok z' (by rw [q1]; exact List.mem_append_left _ hz')
  exact Or.inr ⟨d2, _, hts _ (hTS _ d3), hSX.2.2.2.2 _ _ c5 d5 c4 d4 (fun z => q4 z' hz' z.symm)⟩
/-- behind a call that may throw -/
theorem rg_afterX {sa : Nat → Nat} {hk : List rg_Hk} {own : String} (htab : c.exceptionTable.toList = hk.map rg_ent) {Ts : List Cond} (hts : ∀ w ∈ Ts, w.before args s = true) (hTS : ∀ w ∈ rg_TS, w ∈ Ts) (hown : s.vm.findClass own = some m.cls) (hSX : rg_SX sa (rg_A E s.heap.size) s)
    {sz : Nat} {H : Heap} {locs : List Loc} {ls : Array Slot} {pc : Nat} (hok : ∀ r ∈ hk, rg_HkOk own pc r) {L st : List Value} {b : Nat} {st0 : List Value} {a : Array Value} {K : Option Value → rg_W → Prop} {b2 : Nat}
    (hr : vx_Run p l e R s m args below meth c H locs (cb b).1 (cb b).2 1 6 (F0 m pc ls (st0.map (rg_v E.1))) (st.map (rg_v E.1)) (rg_Qc E (rg_A E sz) K a) (rg_XC E (rg_A E sz) K) (rg_A E sz)) (hS : va_S (rg_A E s.heap.size) s.heap H locs) (hA : ∀ q, rg_A E sz q → rg_A E s.heap.size q)
    (hL : rg_L E.1 ls nL L) (hcb : (cb b).1 + 1 ≤ (cb b2).1 ∧ (cb b).2 + 6 ≤ (cb b2).2)
    (kk : ∀ r w', K r w' → rg_nx (rg_hd hk) pc L st b2 (rg_M p l e R s m args below meth c Q E (rg_A E s.heap.size) nL cb) r w') : W p l e R s m args below meth c H locs (cb b).1 (cb b).2 Q (F0 m pc ls (st0.map (rg_v E.1))) := by
  intro T hT X
  have keep : ∀ {st₀ t T' : State} {L' : List Loc}, st₀.heap = H → T'.heap = t.heap → (∀ q ∈ L', rg_A E sz q.base) → va_F (rg_A E sz) st₀ t → va_S (rg_A E s.heap.size) s.heap T'.heap (locs ++ L') := by
    intro st₀ t T' L' h0 e1 hL' ⟨hz, hk⟩
    rw [h0] at hz hk
    refine ⟨Nat.le_trans hS.1 (by rw [e1]; exact hz), fun q h1 h2 => ?_, fun q hq => ?_⟩
    · rw [e1, hk q (Nat.lt_of_lt_of_le h1 hS.1) (fun z => h2 (hA q z))]
      exact hS.2.1 q h1 h2
    · rcases List.mem_append.mp hq with h | h
      · exact hS.2.2 q h
      · exact hA _ (hL' q h)
  rcases hr T hT X with ⟨v, st₀, t, T', L', h0, X', hL', e1, e2, ⟨⟨r, w', hv, hpl, hp, hb⟩, hF⟩, go⟩ | ⟨q, st₀, t, T', L', N, ce, h0, X', hL', e1, e2, ⟨k, w', hN, k0, k5, hp, hb, hF⟩, hce, hcv, hcl, go⟩
  · have hv : v = r.map (rg_v E.1) := Outcome.returned.inj hv
    obtain ⟨t2, a1, b1⟩ := W.widen hcb.1 hcb.2 (rg_nx_pl hpl (kk r w' hp) T'.heap (locs ++ L') ls (by rw [e1]; exact hb) (keep h0 e1 hL' hF) hL) T' rfl X'
    refine ⟨t2, go t2 ?_, b1⟩
    have e3 : (rg_psh r st).map (rg_v E.1) = v.toList ++ st.map (rg_v E.1) := by
      rw [hv]
      cases r <;> rfl
    rw [e3] at a1
    exact a1
  · have hnx := kk _ _ hp
    unfold rg_nx at hnx
    dsimp only at hnx
    rw [rg_u32 k k5] at hnx
    cases hlk : rg_lk (rg_hd hk) k with
    | none => rw [hlk] at hnx; exact hnx.elim
    | some h =>
      rw [hlk] at hnx
      subst hN
      have kW := hnx q T'.heap (locs ++ L') ls (by rw [e1]; exact hb) (keep h0 e1 hL' hF) hL
      have := rg_caught (rest := st.map (rg_v E.1)) htab hts hTS hown hSX hok hlk (H := T'.heap) (by rw [e1]; exact hce) hcv hcl (W.widen hcb.1 hcb.2 kW)
      obtain ⟨t2, a1, b1⟩ := this T' rfl X'
      exact ⟨t2, go.trans a1, b1⟩
end
