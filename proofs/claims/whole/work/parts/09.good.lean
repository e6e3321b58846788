/-! a method's contract out of a walk of it, and calls -/
def rg_S (E : rg_E) (U : State) : Prop := va_K E.2.2 rg_cl (rg_tys E) U ∧ ∀ x ∈ rg_NW, va_Nw x U
def rg_D (E : rg_E) : Prop := ∀ i j, i < rg_lay.length → j < rg_lay.length → E.1 i = E.1 j → i = j
def rg_A (E : rg_E) (sz : Nat) : Nat → Prop := fun q => (∃ k, k < rg_lay.length ∧ q = E.1 k) ∨ sz ≤ q
theorem rg_D_va {E : rg_E} {sz : Nat} (h : rg_D E) (w : rg_W) : va_D (rg_A E sz) (rg_ws E w) := by
  have at' : ∀ (k : Nat) (q : Nat × va_E), (rg_ws E w)[k]? = some q → k < rg_lay.length ∧ q.1 = E.1 k := by
    intro k q hq
    rw [rg_ws_at] at hq
    cases hk : rg_lay[k]? with
    | none => rw [hk] at hq; cases hq
    | some z =>
      rw [hk] at hq
      cases hq
      exact ⟨(List.getElem?_eq_some_iff.mp hk).1, rfl⟩
  refine ⟨fun i j x y hx hy e => ?_, fun k q hq => Or.inl ⟨k, (at' k q hq).1, (at' k q hq).2⟩⟩
  obtain ⟨a1, a2⟩ := at' i x hx
  obtain ⟨b1, b2⟩ := at' j y hy
  exact h i j a1 b1 (by rw [← a2, ← b2]; exact e)
theorem rg_N_tab {x : Cond} (h : rg_isN x = true) : x.onTables = true := by
  cases x <;> first | rfl | exact absurd h (by simp [rg_isN])
theorem rg_S_same {E : rg_E} {u U : State} (hv : u.vm = U.vm) (h : rg_S E u) : rg_S E U :=
  ⟨va_K.moved (by rw [hv]; exact Vm.Alike.refl _) h.1, fun x hx => va_Nw.same (rg_N_tab (rg_NW_ok x hx)) hv (h.2 x hx)⟩
theorem rg_S_warm {E : rg_E} {s U : State} (hW : s.WarmedH U.vm) (h : rg_S E s) : rg_S E U := by
  refine ⟨va_K.moved hW.alike h.1, fun x hx => ?_⟩
  have h1 := rg_NW_ok x hx
  have h2 := h.2 x hx
  cases x <;> first | exact va_Nw.warmF hW h2 | exact va_Nw.warmM hW h2 | exact absurd h1 (by simp [rg_isN])
def rg_Pc (E : rg_E) (sz : Nat) (as : List Value) (w : rg_W) : Array Value → State → Prop := fun v U => v = (as.map (rg_v E.1)).toArray ∧ U.heap.size = sz ∧ va_P E.2.2 rg_cl (rg_ws E w) U.heap ∧ rg_S E U ∧ rg_D E
theorem rg_blind {E : rg_E} {sz : Nat} {as : List Value} {w : rg_W} : FrameBlind (rg_Pc E sz as w) :=
  fun a U g mk h => ⟨h.1, h.2.1, h.2.2.1, rg_S_same (u := U) (U := U.calling g mk a) rfl h.2.2.2.1, h.2.2.2.2⟩
/-- an end that is no throw -/
def rg_pl (r : Option Value) : Prop := match r with
  | none => True
  | some (.int _) => True
  | _ => False
def rg_Qc (E : rg_E) (A : Nat → Prop) (K : Option Value → rg_W → Prop) : Array Value → State → Outcome → State → Prop := fun _ st oc t =>
  (∃ (r : Option Value) (w' : rg_W), oc = .returned (r.map (rg_v E.1)) ∧ rg_pl r ∧ K r w' ∧ va_P E.2.2 rg_cl (rg_ws E w') t.heap) ∧ va_F A st t
def rg_rm (k : Nat) : Room := { frames := k, cells := 0, slots := 0, locals := 40 * k }
def rg_wsOf (y : MethodName) (cc : ByteArray) (maxL : Nat) (ret : Option FieldType) : List Cond := .code y cc maxL ret :: rg_TS
/-- method y keeps contract T, with room for n calls more than lv -/
def rg_Good (l : Launch) (y : MethodName) (cc : ByteArray) (maxL : Nat) (ret : Option FieldType) (lv : Nat) (T : rg_T) : Prop :=
  ∀ (n : Nat) (E : rg_E) (sz : Nat) (as : List Value) (w : rg_W) (K : Option Value → rg_W → Prop), T as w K →
    Met l y (rg_wsOf y cc maxL ret) (rg_rm (n + lv)) (rg_Pc E sz as w) (rg_Qc E (rg_A E sz) K) 0 0 (rg_A E sz)
def rg_fit (ret : Option FieldType) (r : Option Value) : Prop := match r with
  | some (.int v) => ∃ ty, ret = some ty ∧ narrow ty (.int v) = .int v
  | none => ret = none
  | _ => False
def rg_rt (ret : Option FieldType) (K : Option Value → rg_W → Prop) : rg_Rt := fun r w b => rg_fit ret r ∧ K r w
theorem rg_fit_i (v : Int32) : rg_fit (some .int) (some (.int v)) := ⟨.int, rfl, rfl⟩
theorem rg_fit_v : rg_fit none none := rfl
theorem rg_fit_z {v : Int32} (h : v = 0 ∨ v = 1) : rg_fit (some .boolean) (some (.int v)) := by
  refine ⟨.boolean, rfl, ?_⟩
  rcases h with rfl | rfl <;> decide +kernel
/-- the locals with which a method begins -/
def rg_loc : Nat → List Value → List Value
  | n, [] => List.replicate n .null
  | n, v :: r => if v.category = 2 then v :: .null :: rg_loc (n - 2) r else v :: rg_loc (n - 1) r
def rg_sz : List Value → Nat
  | [] => 0
  | v :: r => v.category + rg_sz r
theorem rg_sz_sl (ad : Nat → Nat) (as : List Value) : (lg_sl (as.map (rg_v ad))).length = rg_sz as := by
  induction as with
  | nil => rfl
  | cons v r ih =>
    have e : lg_sl ((v :: r).map (rg_v ad)) = (if (rg_v ad v).category = 2 then [Slot.val (rg_v ad v), .second] else [Slot.val (rg_v ad v)]) ++ lg_sl (r.map (rg_v ad)) := by simp [lg_sl]
    rw [e, List.length_append, ih, rg_v_cat]
    rcases lv_cat v with h | h <;> simp [h, rg_sz]
theorem rg_loc_len (as : List Value) : ∀ n, rg_sz as ≤ n → (rg_loc n as).length = n := by
  induction as with
  | nil => intro n _; simp [rg_loc]
  | cons v r ih =>
    intro n h
    simp only [rg_sz] at h
    rcases lv_cat v with hc | hc
    · rw [hc] at h
      simp only [rg_loc, hc]
      simp [ih (n - 1) (by omega)]
      omega
    · rw [hc] at h
      simp only [rg_loc, hc]
      simp [ih (n - 2) (by omega)]
      omega
theorem rg_loc_mem (ad : Nat → Nat) (as : List Value) : ∀ (n i0 i : Nat) (v : Value), (rg_loc n as)[i]? = some v → v ≠ .null → (i0 + i, rg_v ad v) ∈ lv_args i0 (as.map (rg_v ad)) := by
  induction as with
  | nil =>
    intro n i0 i v h hv
    simp only [rg_loc] at h
    exact absurd (List.eq_of_mem_replicate (List.mem_of_getElem? h)) hv
  | cons a r ih =>
    intro n i0 i v h hv
    simp only [List.map_cons, lv_args, rg_v_cat]
    rcases lv_cat a with hc | hc
    · simp only [rg_loc, hc] at h ⊢
      simp at h ⊢
      cases i with
      | zero => simp at h; left; subst h; simp
      | succ i =>
        right
        simp at h
        have := ih _ (i0 + 1) i v h hv
        rw [show i0 + (i + 1) = i0 + 1 + i by omega]
        exact this
    · simp only [rg_loc, hc] at h ⊢
      simp at h ⊢
      cases i with
      | zero => simp at h; left; subst h; simp
      | succ i =>
        cases i with
        | zero => simp at h; exact absurd h.symm hv
        | succ i =>
          right
          simp at h
          have := ih _ (i0 + 2) i v h hv
          rw [show i0 + (i + 1 + 1) = i0 + 2 + i by omega]
          exact this
/-- a field of a table is linked -/
def rg_FOk (own : String) (q : Nat × Nat × Nat) : Prop := ∃ (C : String) (T : u_T) (N : Nat), rg_cl[q.2.1]? = some (C, T, N) ∧ q.2.2 < N ∧
  (Cond.fieldLink own q.1 (T q.2.2).1 (T q.2.2).2.1 (T q.2.2).2.2.1 ∈ rg_TS ∨ ∃ host, Cond.fieldLinkNest own q.1 (T q.2.2).1 (T q.2.2).2.1 (T q.2.2).2.2.1 host ∈ rg_NW)
section
variable {p : Program} {l : Launch} {e : Env} {R : Room} {s : State} {m : MethodId} {args : Array Value} {below : List Frame} {meth : Method} {c : Code} {Q : State → Prop} {cc : ByteArray} {E : rg_E} {A : Nat → Prop} {nL : Nat} {cb : Nat → Nat × Nat}
theorem rg_get (hx : p.tables.exec = Jvm.exec) (hb : c.code = cc) (hS : rg_S E s) {Ts : List Cond} (hts : ∀ w ∈ Ts, w.before args s = true) (hTS : ∀ w ∈ rg_TS, w ∈ Ts) {own : String} (hown : s.vm.findClass own = some m.cls)
    {P : rg_P} (hF : ∀ q ∈ P.1, rg_FOk own q) : ∀ k q o v pc L r w b, rg_lk P.1 k = some q → rg_gf o q.1 q.2 w = some v → decode cc pc = .ok (.getfield k, 3) → rg_M p l e R s m args below meth c Q E A nL cb (pc + 3) L (v :: r) w b → rg_M p l e R s m args below meth c Q E A nL cb pc L (.ref o :: r) w b := by
  intro k q o v pc L r w b hk hg hd h H locs ls hP hSS hL
  obtain ⟨ci, j⟩ := q
  obtain ⟨C, T, N, h1, h2, h3⟩ := hF _ (rg_lk_mem hk)
  dsimp only at h1 h2 h3 hg
  have hlay : ∃ fs x, rg_lay[o]? = some (.inr (ci, fs)) ∧ fs[j]? = some x ∧ rg_v E.1 v = rg_fv E (w.1 o) j x := by
    unfold rg_gf at hg
    split at hg
    · rename_i c' fs hq
      split at hg
      · rename_i e1
        subst e1
        refine ⟨fs, ?_⟩
        split at hg
        · rename_i e2; cases hg; exact ⟨none, hq, e2, rfl⟩
        · rename_i q' e2; cases hg; exact ⟨some q', hq, e2, rfl⟩
        · cases hg
      · cases hg
    · cases hg
  obtain ⟨fs, x, q1, q2, q3⟩ := hlay
  have hat : (rg_ws E w)[o]? = some (E.1 o, .inr (ci, fs.mapIdx (rg_fv E (w.1 o)))) := by rw [rg_ws_at, q1]; rfl
  have hv : (fs.mapIdx (rg_fv E (w.1 o)))[j]? = some (rg_v E.1 v) := by rw [List.getElem?_mapIdx, q2, q3]; rfl
  have hin : ∀ w ∈ u_ws C T N, w ∈ Ts := fun w hw => hTS w ((rg_cls_ok ci C T N h1).1 w hw)
  have kk := h H locs ls hP hSS hL
  rcases h3 with h3 | ⟨host, h3⟩
  · exact va_get hx hb hts hin hown hS.1 hP o hat h1 j h2 (hts _ (hTS _ h3)) (fun _ z => z) hv hd kk
  · exact va_getN hx hb hts hin hown hS.1 hP o hat h1 j h2 (va_Nw.use (rg_N_tab rfl) (hS.2 _ h3)) (fun _ z => z) hv hd kk
theorem rg_put (hx : p.tables.exec = Jvm.exec) (hb : c.code = cc) (hS : rg_S E s) (hD : ∀ w, va_D A (rg_ws E w)) {Ts : List Cond} (hts : ∀ w ∈ Ts, w.before args s = true) (hTS : ∀ w ∈ rg_TS, w ∈ Ts) {own : String} (hown : s.vm.findClass own = some m.cls)
    {P : rg_P} (hF : ∀ q ∈ P.1, rg_FOk own q) : ∀ k q o x pc L r w b, rg_lk P.1 k = some q → rg_pf o q.1 q.2 = true → decode cc pc = .ok (.putfield k, 3) → rg_M p l e R s m args below meth c Q E A nL cb (pc + 3) L r (rg_up w o q.2 x) b → rg_M p l e R s m args below meth c Q E A nL cb pc L (.int x :: .ref o :: r) w b := by
  intro k q o x pc L r w b hk hg hd h H locs ls hP hSS hL
  obtain ⟨ci, j⟩ := q
  obtain ⟨C, T, N, h1, h2, h3⟩ := hF _ (rg_lk_mem hk)
  dsimp only at h1 h2 h3 hg h
  have hlay : ∃ fs, rg_lay[o]? = some (.inr (ci, fs)) ∧ fs[j]? = some none := by
    unfold rg_pf at hg
    split at hg
    · rename_i c' fs hq
      simp only [Bool.and_eq_true, beq_iff_eq] at hg
      obtain ⟨rfl, e2⟩ := hg
      exact ⟨fs, hq, e2⟩
    · cases hg
  obtain ⟨fs, q1, q2⟩ := hlay
  have hat : (rg_ws E w)[o]? = some (E.1 o, .inr (ci, fs.mapIdx (rg_fv E (w.1 o)))) := by rw [rg_ws_at, q1]; rfl
  obtain ⟨g1, ty0, g2, g3⟩ := rg_cls_ok ci C T N h1
  have hin : ∀ w ∈ u_ws C T N, w ∈ Ts := fun w hw => hTS w (g1 w hw)
  obtain ⟨f1, f2⟩ := rg_int_ok o ci fs j C T N q1 q2 h1
  have hjl : j < (fs.mapIdx (rg_fv E (w.1 o))).length := by simp; exact (List.getElem?_eq_some_iff.mp q2).1
  have hpd : parseFieldDescriptor (T j).2.2.1 = some .int := by rw [f2]; decide +kernel
  have fin : ∀ (H1 : Heap) (locs1 : List Loc), va_P E.2.2 rg_cl ((rg_ws E w).set o (E.1 o, .inr (ci, (fs.mapIdx (rg_fv E (w.1 o))).set j (.int x)))) H1 → va_D A ((rg_ws E w).set o (E.1 o, .inr (ci, (fs.mapIdx (rg_fv E (w.1 o))).set j (.int x)))) → va_S A s.heap H1 locs1 → W p l e R s m args below meth c H1 locs1 (cb b).1 (cb b).2 Q (F0 m (pc + 3) ls (r.map (rg_v E.1))) := by
    intro H1 locs1 hP1 _ hS1
    rw [rg_ws_set q1 (w' := rg_up w o j x) (by simp only [rg_cell, rg_up_s]; rw [rg_fs_set q2]) (fun a ha q => rg_cell_up ha q)] at hP1
    exact h H1 locs1 ls hP1 hS1 hL
  rcases h3 with h3 | ⟨host, h3⟩
  · exact va_put hx hb hts hin ty0 g2 g3 hown hS.1 hP (hD w) hSS o hat h1 j h2 (hts _ (hTS _ h3)) (fun _ z => z) f1 hpd rfl rfl hjl hd fin
  · exact va_putN hx hb hts hin ty0 g2 g3 hown hS.1 hP (hD w) hSS o hat h1 j h2 (va_Nw.use (rg_N_tab rfl) (hS.2 _ h3)) (fun _ z => z) f1 hpd rfl rfl hjl hd fin
/-- behind a run of a contract -/
theorem rg_after {sz : Nat} {H : Heap} {locs : List Loc} {ls : Array Slot} {pc : Nat} {L st : List Value} {b : Nat} {st0 : List Value} {a : Array Value} {K : Option Value → rg_W → Prop} {mc ms : Nat} {b2 : Nat}
    (hr : va_Run p l e R s m args below meth c H locs (cb b).1 (cb b).2 mc ms (F0 m pc ls (st0.map (rg_v E.1))) (st.map (rg_v E.1)) (rg_Qc E (rg_A E sz) K a) (rg_A E sz)) (hS : va_S A s.heap H locs) (hA : ∀ q, rg_A E sz q → A q)
    (hL : rg_L E.1 ls nL L) (hcb : (cb b).1 + mc ≤ (cb b2).1 ∧ (cb b).2 + ms ≤ (cb b2).2)
    (kk : ∀ r w', rg_pl r → K r w' → rg_M p l e R s m args below meth c Q E A nL cb (pc + 3) L (rg_psh r st) w' b2) : W p l e R s m args below meth c H locs (cb b).1 (cb b).2 Q (F0 m pc ls (st0.map (rg_v E.1))) := by
  intro T hT X
  obtain ⟨v, st₀, t, T', L', h0, X', hL', e1, e2, ⟨⟨r, w', hv, hpl, hp, hb⟩, hz, hk⟩, go⟩ := hr T hT X
  rw [h0] at hz hk
  have hv : v = r.map (rg_v E.1) := Outcome.returned.inj hv
  have hS' : va_S A s.heap T'.heap (locs ++ L') := by
    refine ⟨Nat.le_trans hS.1 (by rw [e1]; exact hz), fun q h1 h2 => ?_, fun q hq => ?_⟩
    · rw [e1, hk q (Nat.lt_of_lt_of_le h1 hS.1) (fun z => h2 (hA q z))]
      exact hS.2.1 q h1 h2
    · rcases List.mem_append.mp hq with h | h
      · exact hS.2.2 q h
      · exact hA _ (hL' q h)
  obtain ⟨t2, a1, b1⟩ := W.widen hcb.1 hcb.2 (kk r w' hpl hp T'.heap (locs ++ L') ls (by rw [e1]; exact hb) hS' hL) T' rfl X'
  refine ⟨t2, go t2 ?_, b1⟩
  have e3 : (rg_psh r st).map (rg_v E.1) = v.toList ++ st.map (rg_v E.1) := by
    rw [hv]
    cases r <;> rfl
  rw [e3] at a1
  exact a1
end
/-- Math.min -/
def T_J_min : rg_T := fun as w K => match as with
  | [.int x, .int y] => K (some (.int (if y < x then y else x))) w
  | _ => False
theorem Te_J_min (x y : Int32) (w : rg_W) (K : Option Value → rg_W → Prop) : T_J_min [.int x, .int y] w K = K (some (.int (if y < x then y else x))) w := rfl
def rg_MinOk (own : String) (lv : Nat) (q : Nat × Nat × Nat × rg_T) : Prop := ∃ idx, q.1 = 2 * idx ∧ q.2.1 = 2 ∧ q.2.2.1 = 0 ∧ q.2.2.2 = T_J_min ∧ 1 ≤ lv ∧ Cond.methodLink own idx Lib.Math.min.name ∈ rg_TS ∧ Cond.static Lib.Math.min.name ∈ rg_TS ∧ Cond.initialized "java/lang/Math" ∈ rg_TS ∧ Cond.code Lib.Math.min.name Lib.Math.min.code 2 (some .int) ∈ rg_TS
/-- a call's words -/
def rg_CallG (l : Launch) (own : String) (lv : Nat) (q : Nat × Nat × Nat × rg_T) : Prop := ∃ (y : MethodName) (cc : ByteArray) (maxL : Nat) (ret : Option FieldType) (lv' idx n : Nat),
  rg_Good l y cc maxL ret lv' q.2.2.2 ∧ q.2.2.1 = 0 ∧ lv' + 1 ≤ lv ∧ maxL ≤ 21 ∧ Cond.code y cc maxL ret ∈ rg_TS ∧ Cond.initialized y.cls ∈ rg_TS ∧
  (y.cls ≠ "java/lang/invoke/MethodHandle" ∧ y.cls ≠ "java/lang/invoke/VarHandle" ∧ (parseMethodDescriptor y.desc).map (fun d => d.parameters.length) = some n) ∧
  (Cond.methodLink own idx y ∈ rg_TS ∨ ∃ host, Cond.methodLinkNest own idx y host ∈ rg_NW) ∧
  ((q.1 = 2 * idx ∧ q.2.1 = n ∧ Cond.static y ∈ rg_TS) ∨
   (q.1 = 2 * idx + 1 ∧ q.2.1 = n + 1 ∧ Cond.instanceMethod y ∈ rg_TS ∧ Cond.selects y.cls y y ∈ rg_TS ∧ ∀ as w K, q.2.2.2 as w K → ∃ o ci fs T N r, as = .ref o :: r ∧ rg_lay[o]? = some (.inr (ci, fs)) ∧ rg_cl[ci]? = some (y.cls, T, N)))
def rg_CallOk (l : Launch) (own : String) (lv : Nat) (q : Nat × Nat × Nat × rg_T) : Prop := rg_CallG l own lv q ∨ rg_MinOk own lv q
section
variable {p : Program} {l : Launch} {e : Env} {s : State} {m : MethodId} {args : Array Value} {below : List Frame} {meth : Method} {c : Code} {Q : State → Prop} {cc : ByteArray} {E : rg_E} {nL : Nat}
theorem rg_goodIn {Ts : List Cond} (hTS : ∀ w ∈ rg_TS, w ∈ Ts) {y : MethodName} {cc : ByteArray} {maxL : Nat} {ret : Option FieldType} (h : Cond.code y cc maxL ret ∈ rg_TS) : GoodIn Ts (rg_wsOf y cc maxL ret) := by
  intro w hw
  rcases List.mem_cons.mp hw with rfl | hw
  · exact ⟨hTS _ h, Or.inl rfl⟩
  · exact ⟨hTS _ hw, good_of_word (rg_TS_ok w hw)⟩
theorem rg_nx_pl {hd : List (Nat × Nat)} {pc : Nat} {L st : List Value} {b : Nat} {go : rg_Go} {r : Option Value} {w : rg_W} (h : rg_pl r) (k : rg_nx hd pc L st b go r w) : go (pc + 3) L (rg_psh r st) w b := by
  unfold rg_nx at k
  split at k
  · exact h.elim
  · exact k
theorem rg_A_up {sz sz' : Nat} (h : sz ≤ sz') (q : Nat) (k : rg_A E sz' q) : rg_A E sz q := k.imp id (fun z => Nat.le_trans h z)
theorem rg_rm_ok {a b maxL : Nat} (h : a + 1 ≤ b) (hm : maxL ≤ 21) : (rg_rm a).frames + 1 ≤ (rg_rm b).frames ∧ 8 + (maxL + 11) + (rg_rm a).locals ≤ (rg_rm b).locals := by
  simp only [rg_rm]
  omega
set_option maxHeartbeats 1000000 in
theorem rg_callS {nn lv : Nat} (hx : p.tables.exec = Jvm.exec) (hb : c.code = cc) (hml : c.maxLocals = nL) (hS : rg_S E s) (hD : rg_D E) {Ts : List Cond} (hts : ∀ w ∈ Ts, w.before args s = true) (hTS : ∀ w ∈ rg_TS, w ∈ Ts) {own : String} (hown : s.vm.findClass own = some m.cls)
    {P : rg_P} (hC : ∀ q ∈ P.2.1, rg_CallOk l own lv q) : ∀ k n d T, rg_lk P.2.1 (2 * k) = some (n, d, T) → ∀ pc L as st w b K, decode cc pc = .ok (.invokestatic k, 3) → as.length = n → rg_wd st ≤ 8 → (d = 0 ∨ b + d ≤ P.2.2.2.2.2.2) → T as w K →
      (∀ r w', K r w' → rg_nx P.2.2.2.2.2.1 pc L st (b + d) (rg_M p l e (rg_rm (nn + lv)) s m args below meth c Q E (rg_A E s.heap.size) nL (fun _ => (0, 0))) r w') →
      rg_M p l e (rg_rm (nn + lv)) s m args below meth c Q E (rg_A E s.heap.size) nL (fun _ => (0, 0)) pc L (as.reverse ++ st) w b := by
  intro k n d T hk pc L as st w b K hd hn hw8 _ hT hnx H locs ls hP hSS hL
  rcases hC _ (rg_lk_mem hk) with hCG | ⟨idx, i1, i2, i3, i4, i5, i6, i7, i8, i9⟩
  rotate_left
  · dsimp only at i1 i2 i3 i4
    obtain rfl : k = idx := by omega
    subst i2 i3 i4
    unfold T_J_min at hT
    split at hT
    · rename_i x y
      have hk := rg_nx_pl (r := some (.int (if y < x then y else x))) trivial (hnx _ _ hT)
      exact va_mmin hx hb (by rw [hml]; exact hL.1.symm) hown (hts _ (hTS _ i6)) (hts _ (hTS _ i7)) (hts _ (hTS _ i8)) (hts _ (hTS _ i9)) (by show 1 ≤ nn + lv; omega) (by rw [rg_wd_eq]; show rg_wd st + 13 ≤ 40 * (nn + lv); omega) (Nat.le_refl _) (Nat.le_refl _) hd (hk H locs ls hP hSS hL)
    · exact hT.elim
  obtain ⟨y, cc', maxL, ret, lv', idx, n', hG, hd0, hlv, hmx, hcd, hini, hyd, hlk, hkind⟩ := hCG
  dsimp only at hd0 hkind hG
  subst hd0
  rcases hkind with ⟨e1, e2, hst⟩ | ⟨e1, -⟩
  · have e1 : k = idx := by omega
    subst e1
    subst e2
    have hM := hG (nn + lv - 1 - lv') E H.size as w K hT
    have hR := rg_rm_ok (a := nn + lv - 1 - lv' + lv') (b := nn + lv) (maxL := maxL) (by omega) hmx
    have hGI := rg_goodIn hTS hcd
    have hpre : PreS s H (rg_Pc E H.size as w) (as.map (rg_v E.1)) := ⟨rg_blind, fun U hU hW => ⟨rfl, by rw [hU], by rw [hU]; exact hP, rg_S_warm hW hS, hD⟩⟩
    have hstack : (F0 m pc ls ((as.reverse ++ st).map (rg_v E.1))).stack = (as.map (rg_v E.1)).reverse ++ st.map (rg_v E.1) := by simp
    have hW8 : 2 * (F0 m pc ls ((as.reverse ++ st).map (rg_v E.1))).monitorRoom + ((st.map (rg_v E.1)).map fun v => v.category).sum ≤ 8 := lv_room (by rw [rg_wd_eq]; exact hw8)
    rcases hlk with hlk | ⟨host, hlk⟩
    · refine rg_after (cb := fun _ => (0, 0)) (sz := H.size) (b := b) (b2 := b) (st := st) (a := (as.map (rg_v E.1)).toArray) (mc := 0) (ms := 0) (va_runS ⟨hx, hb, hml, hown, hts⟩ hM ⟨callB_of n hts hGI rfl rfl rfl (hts _ (hTS _ hini)) (hts _ (hTS _ hlk)) hyd hR, hts _ (hTS _ hst)⟩ hpre rfl (by simpa using hn) hL.1 hstack hW8 hd ⟨Nat.le_refl _, Nat.le_refl _⟩) hSS (rg_A_up hSS.1) hL ⟨Nat.le_refl _, Nat.le_refl _⟩ (fun r w' h1 h2 => rg_nx_pl h1 (hnx r w' h2))
    · refine rg_after (cb := fun _ => (0, 0)) (sz := H.size) (b := b) (b2 := b) (st := st) (a := (as.map (rg_v E.1)).toArray) (mc := 0) (ms := 0) (va_runSN ⟨hx, hb, hml, hown, hts⟩ hM ⟨va_cnB n hts hGI rfl rfl rfl (hS.2 _ hlk) (hts _ (hTS _ hini)) hyd hR, hts _ (hTS _ hst), trivial⟩ hpre rfl (by simpa using hn) hL.1 hstack hW8 hd ⟨Nat.le_refl _, Nat.le_refl _⟩) hSS (rg_A_up hSS.1) hL ⟨Nat.le_refl _, Nat.le_refl _⟩ (fun r w' h1 h2 => rg_nx_pl h1 (hnx r w' h2))
  · omega
set_option maxHeartbeats 1000000 in
theorem rg_callV {nn lv : Nat} (hx : p.tables.exec = Jvm.exec) (hb : c.code = cc) (hml : c.maxLocals = nL) (hS : rg_S E s) (hD : rg_D E) {Ts : List Cond} (hts : ∀ w ∈ Ts, w.before args s = true) (hTS : ∀ w ∈ rg_TS, w ∈ Ts) {own : String} (hown : s.vm.findClass own = some m.cls)
    {P : rg_P} (hC : ∀ q ∈ P.2.1, rg_CallOk l own lv q) : ∀ k n d T, rg_lk P.2.1 (2 * k + 1) = some (n, d, T) → ∀ pc L as st w b K, decode cc pc = .ok (.invokevirtual k, 3) → as.length = n → rg_wd st ≤ 8 → (d = 0 ∨ b + d ≤ P.2.2.2.2.2.2) → T as w K →
      (∀ r w', K r w' → rg_nx P.2.2.2.2.2.1 pc L st (b + d) (rg_M p l e (rg_rm (nn + lv)) s m args below meth c Q E (rg_A E s.heap.size) nL (fun _ => (0, 0))) r w') →
      rg_M p l e (rg_rm (nn + lv)) s m args below meth c Q E (rg_A E s.heap.size) nL (fun _ => (0, 0)) pc L (as.reverse ++ st) w b := by
  intro k n d T hk pc L as st w b K hd hn hw8 _ hT hnx H locs ls hP hSS hL
  rcases hC _ (rg_lk_mem hk) with hCG | ⟨idx, i1, -⟩
  rotate_left
  · dsimp only at i1
    omega
  obtain ⟨y, cc', maxL, ret, lv', idx, n', hG, hd0, hlv, hmx, hcd, hini, hyd, hlk, hkind⟩ := hCG
  dsimp only at hd0 hkind hG
  subst hd0
  rcases hkind with ⟨e1, -⟩ | ⟨e1, e2, hin, hsel, hrec⟩
  · omega
  · have e1 : k = idx := by omega
    subst e1
    have hM := hG (nn + lv - 1 - lv') E H.size as w K hT
    obtain ⟨o, ci, fs, T', N, rr, rfl, hlay, hcl⟩ := hrec as w K hT
    have hR := rg_rm_ok (a := nn + lv - 1 - lv' + lv') (b := nn + lv) (maxL := maxL) (by omega) hmx
    have hGI := rg_goodIn hTS hcd
    have hat : (rg_ws E w)[o]? = some (E.1 o, .inr (ci, fs.mapIdx (rg_fv E (w.1 o)))) := by rw [rg_ws_at, hlay]; rfl
    have hrcv := va_recv hS.1 hP hcl hat
    have hpre : PreV s H y.cls (E.1 o) (rg_Pc E H.size (.ref o :: rr) w) (rr.map (rg_v E.1)) := ⟨rg_blind, hrcv, fun U hU hW => ⟨rfl, by rw [hU], by rw [hU]; exact hP, rg_S_warm hW hS, hD⟩⟩
    have hstack : (F0 m pc ls (((Value.ref o :: rr).reverse ++ st).map (rg_v E.1))).stack = (rr.map (rg_v E.1)).reverse ++ .ref (E.1 o) :: st.map (rg_v E.1) := by simp [rg_v]
    have hW8 : 2 * (F0 m pc ls (((Value.ref o :: rr).reverse ++ st).map (rg_v E.1))).monitorRoom + ((st.map (rg_v E.1)).map fun v => v.category).sum ≤ 8 := lv_room (by rw [rg_wd_eq]; exact hw8)
    have hnl : (rr.map (rg_v E.1)).length = n' := by simp at hn ⊢; omega
    rcases hlk with hlk | ⟨host, hlk⟩
    · refine rg_after (cb := fun _ => (0, 0)) (sz := H.size) (b := b) (b2 := b) (st := st) (a := (Value.ref (E.1 o) :: rr.map (rg_v E.1)).toArray) (mc := 0) (ms := 0) (va_runV ⟨hx, hb, hml, hown, hts⟩ hM ⟨callB_of n' hts hGI rfl rfl rfl (hts _ (hTS _ hini)) (hts _ (hTS _ hlk)) hyd hR, hts _ (hTS _ hin), hts _ (hTS _ hsel)⟩ hpre rfl hnl hL.1 hstack hW8 hd ⟨Nat.le_refl _, Nat.le_refl _⟩) hSS (rg_A_up hSS.1) hL ⟨Nat.le_refl _, Nat.le_refl _⟩ (fun r w' h1 h2 => rg_nx_pl h1 (hnx r w' h2))
    · refine rg_after (cb := fun _ => (0, 0)) (sz := H.size) (b := b) (b2 := b) (st := st) (a := (Value.ref (E.1 o) :: rr.map (rg_v E.1)).toArray) (mc := 0) (ms := 0) (va_runVN ⟨hx, hb, hml, hown, hts⟩ hM ⟨va_cnB n' hts hGI rfl rfl rfl (hS.2 _ hlk) (hts _ (hTS _ hini)) hyd hR, hts _ (hTS _ hin), hts _ (hTS _ hsel)⟩ hpre rfl hnl hL.1 hstack hW8 hd ⟨Nat.le_refl _, Nat.le_refl _⟩) hSS (rg_A_up hSS.1) hL ⟨Nat.le_refl _, Nat.le_refl _⟩ (fun r w' h1 h2 => rg_nx_pl h1 (hnx r w' h2))
end
/-- what a plain method's table must be -/
def rg_POk (l : Launch) (own : String) (lv : Nat) (P : rg_P) : Prop := (∀ q ∈ P.1, rg_FOk own q) ∧ (∀ q ∈ P.2.1, rg_CallOk l own lv q) ∧ (∀ q ∈ P.2.2.1, Cond.constant own q.1 q.2 ∈ rg_TS) ∧ (∀ q ∈ P.2.2.2.1, Cond.constantLong own q.1 q.2 ∈ rg_TS) ∧ P.2.2.2.2.1 = []
set_option maxHeartbeats 1000000 in
theorem rg_good_of {l : Launch} {y : MethodName} {cc : ByteArray} {maxL : Nat} {ret : Option FieldType} {lv : Nat} {T : rg_T} {P : rg_P} (hy : plainName y.cls = true) (hP : rg_POk l y.cls lv P)
    (body : ∀ (as : List Value) (w : rg_W) (K : Option Value → rg_W → Prop) (Z : rg_Go), T as w K → (∀ (cut : Nat → Bool) (n : Nat) (pc : Nat) (L st : List Value) (w : rg_W), rg_run P none cc cut Z (rg_rt ret K) true n pc L st w 0 → Z pc L st w 0) → rg_sz as ≤ maxL ∧ Z 0 (rg_loc maxL as) [] w 0) :
    rg_Good l y cc maxL ret lv T := by
  intro nn E sz as w K hT
  refine Met.ofW (cc := cc) (maxL := maxL) (ret := ret) hy rfl ?_
  intro p e s m args below meth c s₁ B hml hv
  obtain ⟨rfl, rfl, hPw, hS, hD⟩ := hv
  have hx := B.exec
  have hb := B.bytes
  have hr := B.returns
  have hts := atoms_spec (ws := rg_wsOf y cc maxL ret) B.pre
  have hTS : ∀ w ∈ rg_TS, w ∈ rg_wsOf y cc maxL ret := fun w hw => List.mem_cons_of_mem _ hw
  have hown : s.vm.findClass y.cls = some m.cls := findClass_of_methodNamed B.named
  have hlocks := B.notSynchronized
  obtain ⟨hF, hC, hI, hJ, hN⟩ := hP
  have hclose : ∀ (cut : Nat → Bool) (n : Nat) (pc : Nat) (L st : List Value) (w : rg_W), rg_run P none cc cut (rg_M p l e (rg_rm (nn + lv)) s m (as.map (rg_v E.1)).toArray below meth c (MQ below (rg_Qc E (rg_A E s.heap.size) K) (as.map (rg_v E.1)).toArray s 0 0 (rg_A E s.heap.size)) E (rg_A E s.heap.size) maxL (fun _ => (0, 0))) (rg_rt ret K) true n pc L st w 0 → rg_M p l e (rg_rm (nn + lv)) s m (as.map (rg_v E.1)).toArray below meth c (MQ below (rg_Qc E (rg_A E s.heap.size) K) (as.map (rg_v E.1)).toArray s 0 0 (rg_A E s.heap.size)) E (rg_A E s.heap.size) maxL (fun _ => (0, 0)) pc L st w 0 := by
    intro cut n pc L st w h
    refine rg_close (fun go hgo => ?_) cut n true pc L st w 0 h
    intro i len pc L st w b
    refine rg_sound (rt := rg_rt ret K) hx hb hS.1 (fun w => rg_D_va hD w) (rg_get hx hb hS hts hTS hown hF) (rg_put hx hb hS (fun w => rg_D_va hD w) hts hTS hown hF) ?_ ?_ ?_ (rg_callS hx hb hml hS hD hts hTS hown hC) (rg_callV hx hb hml hS hD hts hTS hown hC) ?_ ?_ ?_ (fun N xs z => by cases z) hgo
    · intro k v pc L st w b hk hd h H locs ls hP hSS hL
      exact lv_ldc hx hb hown (hts _ (hTS _ (hI _ (rg_lk_mem hk)))) hd (h H locs ls hP hSS hL)
    · intro k v pc L st w b hk hd h H locs ls hP hSS hL
      exact lv_ldcw hx hb hown (hts _ (hTS _ (hI _ (rg_lk_mem hk)))) hd (h H locs ls hP hSS hL)
    · intro k v pc L st w b hk hd h H locs ls hP hSS hL
      exact lv_ldc2 hx hb hown (hts _ (hTS _ (hJ _ (rg_lk_mem hk)))) hd (h H locs ls hP hSS hL)
    · intro k x pc L st w b hk
      rw [hN] at hk
      cases hk
    · intro x pc L w b hd h H locs ls hP hSS hL
      obtain ⟨⟨ty, h1, h2⟩, h3⟩ := h
      exact W.zret hx hb (hr.trans h1) h2 (fun t ht _ => ⟨⟨some (.int x), w, rfl, trivial, h3, by rw [ht]; exact hP⟩, hSS.F ht⟩) hSS.2.2 hd
    · intro pc L w b hd h H locs ls hP hSS hL
      obtain ⟨h1, h3⟩ := h
      exact W.vret hx hb (hr.trans h1) (fun t ht _ => ⟨⟨none, w, rfl, trivial, h3, by rw [ht]; exact hP⟩, hSS.F ht⟩) hSS.2.2 hd
  obtain ⟨hsz, hbody⟩ := body as w K _ hT hclose
  have hl := lv_entry (as.map (rg_v E.1)) (n := maxL) (by rw [rg_sz_sl]; exact hsz)
  rw [lg_entry_eq]
  refine hbody s.heap [] _ hPw va_S.rf ⟨hl.1, hl.2.1, rg_loc_len as maxL hsz, fun i v h1 h2 => ?_⟩
  have := hl.2.2 _ (rg_loc_mem E.1 as maxL 0 i v h1 h2)
  rw [Nat.zero_add] at this
  exact this
