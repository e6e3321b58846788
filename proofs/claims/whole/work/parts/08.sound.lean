/-! the machine's side: cells of the world, locals, the walk's step is the machine's -/
abbrev rg_E : Type := (Nat → Nat) × (ClassId × ClassId × ClassId) × va_G
def rg_fv (E : rg_E) (f : Nat → Int32) (j : Nat) (o : Option Nat) : Value := match o with
  | none => .int (f j)
  | some q => .ref (E.1 q)
def rg_cell (E : rg_E) (w : rg_W) (k : Nat) (q : rg_K) : va_E := match q with
  | .inl (0, n) => .inl (E.2.1.1, n, .inl (w.1 k))
  | .inl (1, n) => .inl (E.2.1.2.1, n, .inl (w.1 k))
  | .inl (_ + 2, n) => .inl (E.2.1.2.2, n, .inr (.inl (w.2 k)))
  | .inr (ci, fs) => .inr (ci, fs.mapIdx (rg_fv E (w.1 k)))
def rg_ws (E : rg_E) (w : rg_W) : va_W := rg_lay.mapIdx (fun k q => (E.1 k, rg_cell E w k q))
theorem rg_ws_at (E : rg_E) (w : rg_W) (k : Nat) : (rg_ws E w)[k]? = rg_lay[k]?.map (fun q => (E.1 k, rg_cell E w k q)) := by
  simp [rg_ws]
theorem rg_ws_len (E : rg_E) (w : rg_W) : (rg_ws E w).length = rg_lay.length := by simp [rg_ws]
theorem rg_ws_set {E : rg_E} {w w' : rg_W} {k : Nat} {q : rg_K} {e : va_E} (hk : rg_lay[k]? = some q) (he : e = rg_cell E w' k q) (hn : ∀ j, j ≠ k → ∀ q, rg_cell E w' j q = rg_cell E w j q) :
    (rg_ws E w).set k (E.1 k, e) = rg_ws E w' := by
  apply List.ext_getElem?
  intro j
  by_cases h : j = k
  · subst h
    have hl : j < (rg_ws E w).length := by rw [rg_ws_len]; exact (List.getElem?_eq_some_iff.mp hk).1
    rw [List.getElem?_set_self hl, rg_ws_at, hk, he]
    rfl
  · rw [List.getElem?_set_ne (fun z => h z.symm), rg_ws_at, rg_ws_at]
    congr 1
    funext q
    rw [hn j h q]
theorem rg_cell_up {E : rg_E} {w : rg_W} {k j a : Nat} {x : Int32} (h : a ≠ k) (q : rg_K) : rg_cell E (rg_up w k j x) a q = rg_cell E w a q := by
  unfold rg_cell
  rw [rg_up_n h, rg_up_2]
theorem rg_cell_upL {E : rg_E} {w : rg_W} {k j a : Nat} {x : Int64} (h : a ≠ k) (q : rg_K) : rg_cell E (rg_upL w k j x) a q = rg_cell E w a q := by
  unfold rg_cell
  rw [rg_upL_n h, rg_upL_1]
theorem rg_fs_set {E : rg_E} {f : Nat → Int32} {fs : List (Option Nat)} {k : Nat} {x : Int32} (h : fs[k]? = some none) : (fs.mapIdx (rg_fv E f)).set k (.int x) = fs.mapIdx (rg_fv E (upd f k x)) := by
  apply List.ext_getElem?
  intro j
  by_cases hj : j = k
  · subst hj
    have hl : j < (fs.mapIdx (rg_fv E f)).length := by simp; exact (List.getElem?_eq_some_iff.mp h).1
    rw [List.getElem?_set_self hl, List.getElem?_mapIdx, h]
    simp [rg_fv, upd]
  · rw [List.getElem?_set_ne (fun z => hj z.symm), List.getElem?_mapIdx, List.getElem?_mapIdx]
    cases fs[j]? with
    | none => rfl
    | some o =>
      cases o with
      | none => simp [rg_fv, upd, hj]
      | some q => rfl
def rg_tys (E : rg_E) : List (ClassId × FieldType) := [(E.2.1.1, .int), (E.2.1.2.1, .boolean), (E.2.1.2.2, .long)]
/-- the locals -/
def rg_L (ad : Nat → Nat) (ls : Array Slot) (nL : Nat) (L : List Value) : Prop := ls.size = nL ∧ lv_wf ls ∧ L.length = nL ∧ ∀ (i : Nat) (v : Value), L[i]? = some v → v ≠ .null → ls[i]? = some (.val (rg_v ad v))
def rg_as (ad : Nat → Nat) (L : List Value) : List (Nat × Value) := (L.mapIdx (fun i v => (i, rg_v ad v))).filter (fun q => !(q.2 == .null))
theorem rg_v_null {ad : Nat → Nat} {v : Value} (h : v ≠ .null) : rg_v ad v ≠ .null := by
  cases v <;> simp_all [rg_v]
theorem rg_as_mem {ad : Nat → Nat} {L : List Value} {i : Nat} {v : Value} (h : L[i]? = some v) (hv : v ≠ .null) : (i, rg_v ad v) ∈ rg_as ad L := by
  refine List.mem_filter.mpr ⟨List.mem_of_getElem? (i := i) (by rw [List.getElem?_mapIdx, h]; rfl), ?_⟩
  have := rg_v_null (ad := ad) hv
  simp [this]
theorem rg_L_has {ad : Nat → Nat} {ls : Array Slot} {nL : Nat} {L : List Value} (h : rg_L ad ls nL L) : lv_has ls nL (rg_as ad L) := by
  refine ⟨h.1, h.2.1, fun q hq => ?_⟩
  obtain ⟨h1, h2⟩ := List.mem_filter.mp hq
  obtain ⟨i, hi⟩ := List.getElem?_of_mem h1
  rw [List.getElem?_mapIdx] at hi
  cases hL : L[i]? with
  | none => rw [hL] at hi; cases hi
  | some v =>
    rw [hL] at hi
    cases hi
    refine h.2.2.2 i v hL (fun z => ?_)
    subst z
    simp [rg_v] at h2
theorem rg_L_st {ad : Nat → Nat} {ls ls' : Array Slot} {nL : Nat} {L L' : List Value} {i : Nat} {v : Value} (h : rg_L ad ls nL L)
    (h' : lv_has ls' nL ((i, rg_v ad v) :: (rg_as ad L).filter (fun q => !(q.1 == i) && !(q.1 + 1 == i && q.2.category == 2)))) (hl : L'.length = L.length)
    (h3 : ∀ (j : Nat) (u : Value), L'[j]? = some u → u ≠ .null → (j = i ∧ u = v) ∨ (j ≠ i ∧ L[j]? = some u ∧ (j + 1 = i → u.category ≠ 2))) : rg_L ad ls' nL L' := by
  refine ⟨h'.1, h'.2.1, hl.trans h.2.2.1, fun j u hj hu => ?_⟩
  rcases h3 j u hj hu with ⟨rfl, rfl⟩ | ⟨q1, q2, q3⟩
  · exact h'.2.2 (j, rg_v ad u) List.mem_cons_self
  · refine h'.2.2 (j, rg_v ad u) (List.mem_cons_of_mem _ (List.mem_filter.mpr ⟨rg_as_mem q2 hu, ?_⟩))
    simp only [Bool.and_eq_true, Bool.not_eq_true', beq_eq_false_iff_ne, ne_eq, Bool.and_eq_false_iff]
    refine ⟨q1, ?_⟩
    by_cases hji : j + 1 = i
    · exact Or.inr (by rw [rg_v_cat]; exact q3 hji)
    · exact Or.inl hji
theorem rg_ty_0 {v : Value} (h : rg_ty v = 0) : ∃ x, v = .int x := by
  cases v <;> first | exact ⟨_, rfl⟩ | (simp [rg_ty] at h)
theorem rg_ty_1 {v : Value} (h : rg_ty v = 1) : ∃ x, v = .long x := by
  cases v <;> first | exact ⟨_, rfl⟩ | (simp [rg_ty] at h)
theorem rg_ty_2 {v : Value} (ad : Nat → Nat) (h : rg_ty v = 2) : v ≠ .null ∧ v.category = 1 ∧ ∃ a, rg_v ad v = .ref a := by
  cases v <;> first | exact ⟨by simp, rfl, _, rfl⟩ | (simp [rg_ty] at h)
theorem rg_nx_mono {hd : List (Nat × Nat)} {pc : Nat} {L st : List Value} {b : Nat} {go go2 : rg_Go} (h : ∀ pc L st w b, go pc L st w b → go2 pc L st w b) (r : Option Value) (w : rg_W) (k : rg_nx hd pc L st b go r w) : rg_nx hd pc L st b go2 r w := by
  unfold rg_nx at k ⊢
  split at k
  · split at k
    · exact fun a => h _ _ _ _ _ (k a)
    · exact k
  · exact h _ _ _ _ _ k
section
variable {p : Program} {l : Launch} {e : Env} {R : Room} {s : State} {m : MethodId} {args : Array Value} {below : List Frame} {meth : Method} {c : Code} {Q : State → Prop} {cc : ByteArray} {E : rg_E} {A : Nat → Prop} {nL : Nat} {cb : Nat → Nat × Nat}
def rg_M (p : Program) (l : Launch) (e : Env) (R : Room) (s : State) (m : MethodId) (args : Array Value) (below : List Frame) (meth : Method) (c : Code) (Q : State → Prop) (E : rg_E) (A : Nat → Prop) (nL : Nat) (cb : Nat → Nat × Nat) : rg_Go :=
  fun pc L st w b => ∀ (H : Heap) (locs : List Loc) (ls : Array Slot), va_P E.2.2 rg_cl (rg_ws E w) H → va_S A s.heap H locs → rg_L E.1 ls nL L → W p l e R s m args below meth c H locs (cb b).1 (cb b).2 Q (F0 m pc ls (st.map (rg_v E.1)))
theorem rg_ar_ws {E : rg_E} {w : rg_W} {o t n : Nat} (h : rg_ar o = some (t, n)) : rg_lay[o]? = some (.inl (t, n)) ∧ (rg_ws E w)[o]? = some (E.1 o, rg_cell E w o (.inl (t, n))) := by
  unfold rg_ar at h
  have h1 : rg_lay[o]? = some (.inl (t, n)) := by
    split at h
    · rename_i q hq
      cases h
      exact hq
    · cases h
  exact ⟨h1, by rw [rg_ws_at, h1]; rfl⟩

theorem rg_sound (hx : p.tables.exec = Jvm.exec) (hb : c.code = cc) (hK : va_K E.2.2 rg_cl (rg_tys E) s) (hD : ∀ w, va_D A (rg_ws E w)) {P : rg_P} {X : rg_X} {go : rg_Go} {rt : rg_Rt}
    (hget : ∀ k q o v pc L r w b, rg_lk P.1 k = some q → rg_gf o q.1 q.2 w = some v → decode cc pc = .ok (.getfield k, 3) → rg_M p l e R s m args below meth c Q E A nL cb (pc + 3) L (v :: r) w b → rg_M p l e R s m args below meth c Q E A nL cb pc L (.ref o :: r) w b)
    (hput : ∀ k q o x pc L r w b, rg_lk P.1 k = some q → rg_pf o q.1 q.2 = true → decode cc pc = .ok (.putfield k, 3) → rg_M p l e R s m args below meth c Q E A nL cb (pc + 3) L r (rg_up w o q.2 x) b → rg_M p l e R s m args below meth c Q E A nL cb pc L (.int x :: .ref o :: r) w b)
    (hldc : ∀ k v pc L st w b, rg_lk P.2.2.1 k = some v → decode cc pc = .ok (.ldc k, 2) → rg_M p l e R s m args below meth c Q E A nL cb (pc + 2) L (.int v :: st) w b → rg_M p l e R s m args below meth c Q E A nL cb pc L st w b)
    (hldcw : ∀ k v pc L st w b, rg_lk P.2.2.1 k = some v → decode cc pc = .ok (.ldc_w k, 3) → rg_M p l e R s m args below meth c Q E A nL cb (pc + 3) L (.int v :: st) w b → rg_M p l e R s m args below meth c Q E A nL cb pc L st w b)
    (hldc2 : ∀ k v pc L st w b, rg_lk P.2.2.2.1 k = some v → decode cc pc = .ok (.ldc2_w k, 3) → rg_M p l e R s m args below meth c Q E A nL cb (pc + 3) L (.long v :: st) w b → rg_M p l e R s m args below meth c Q E A nL cb pc L st w b)
    (hcallS : ∀ k n d T, rg_lk P.2.1 (2 * k) = some (n, d, T) → ∀ pc L as st w b K, decode cc pc = .ok (.invokestatic k, 3) → as.length = n → rg_wd st ≤ 8 → (d = 0 ∨ b + d ≤ P.2.2.2.2.2.2) → T as w K → (∀ r w', K r w' → rg_nx P.2.2.2.2.2.1 pc L st (b + d) (rg_M p l e R s m args below meth c Q E A nL cb) r w') → rg_M p l e R s m args below meth c Q E A nL cb pc L (as.reverse ++ st) w b)
    (hcallV : ∀ k n d T, rg_lk P.2.1 (2 * k + 1) = some (n, d, T) → ∀ pc L as st w b K, decode cc pc = .ok (.invokevirtual k, 3) → as.length = n → rg_wd st ≤ 8 → (d = 0 ∨ b + d ≤ P.2.2.2.2.2.2) → T as w K → (∀ r w', K r w' → rg_nx P.2.2.2.2.2.1 pc L st (b + d) (rg_M p l e R s m args below meth c Q E A nL cb) r w') → rg_M p l e R s m args below meth c Q E A nL cb pc L (as.reverse ++ st) w b)
    (hnew : ∀ k x pc L st w b, rg_lk P.2.2.2.2.1 k = some x → decode cc pc = .ok (.new k, 3) → rt (some (.float (UInt32.ofNat x))) w b → rg_M p l e R s m args below meth c Q E A nL cb pc L st w b)
    (hretI : ∀ x pc L w b, decode cc pc = .ok (.ireturn, 1) → rt (some (.int x)) w b → rg_M p l e R s m args below meth c Q E A nL cb pc L [.int x] w b)
    (hretV : ∀ pc L w b, decode cc pc = .ok (.return_, 1) → rt none w b → rg_M p l e R s m args below meth c Q E A nL cb pc L [] w b)
    (hX : ∀ N xs, X = some (N, xs) → va_X (E.1 99) N xs s s.heap ∧ E.1 99 < s.heap.size ∧ ¬ A (E.1 99))
    (hgo : ∀ pc L st w b, go pc L st w b → rg_M p l e R s m args below meth c Q E A nL cb pc L st w b)
    {i : Instr} {len pc : Nat} {L st : List Value} {w : rg_W} {b : Nat} (hd : decode cc pc = .ok (i, len)) (hl : rg_len i = 0 ∨ rg_len i = len) (h : rg_sem P X i pc L st w b go rt) : rg_M p l e R s m args below meth c Q E A nL cb pc L st w b := by
  cases i with
  | iconst n =>
    obtain rfl : 1 = len := hl.resolve_left (fun z => Nat.succ_ne_zero _ z)
    intro H locs ls hP hS hL
    exact lv_iconst hx hb hd rfl (hgo _ _ _ _ _ h H locs ls hP hS hL)
  | bipush n =>
    obtain rfl : 2 = len := hl.resolve_left (fun z => Nat.succ_ne_zero _ z)
    intro H locs ls hP hS hL
    exact lv_bipush hx hb hd rfl (hgo _ _ _ _ _ h H locs ls hP hS hL)
  | sipush n =>
    obtain rfl : 3 = len := hl.resolve_left (fun z => Nat.succ_ne_zero _ z)
    intro H locs ls hP hS hL
    exact lv_sipush hx hb hd rfl (hgo _ _ _ _ _ h H locs ls hP hS hL)
  | lconst n =>
    obtain rfl : 1 = len := hl.resolve_left (fun z => Nat.succ_ne_zero _ z)
    intro H locs ls hP hS hL
    exact lv_lconst hx hb hd rfl (hgo _ _ _ _ _ h H locs ls hP hS hL)
  | ldc k =>
    obtain rfl : 2 = len := hl.resolve_left (fun z => Nat.succ_ne_zero _ z)
    replace h := rg_some_inv h
    obtain ⟨v, h1, h⟩ := h
    exact hldc k v pc L st w b h1 hd (hgo _ _ _ _ _ h)
  | ldc_w k =>
    obtain rfl : 3 = len := hl.resolve_left (fun z => Nat.succ_ne_zero _ z)
    replace h := rg_some_inv h
    obtain ⟨v, h1, h⟩ := h
    exact hldcw k v pc L st w b h1 hd (hgo _ _ _ _ _ h)
  | ldc2_w k =>
    obtain rfl : 3 = len := hl.resolve_left (fun z => Nat.succ_ne_zero _ z)
    replace h := rg_some_inv h
    obtain ⟨v, h1, h⟩ := h
    exact hldc2 k v pc L st w b h1 hd (hgo _ _ _ _ _ h)
  | iload_n k =>
    obtain rfl : 1 = len := hl.resolve_left (fun z => Nat.succ_ne_zero _ z)
    replace h := rg_ld_inv h
    obtain ⟨v, h1, h2, h⟩ := h
    obtain ⟨x, rfl⟩ := rg_ty_0 h2
    intro H locs ls hP hS hL
    exact lv_iload_n hx hb hd rfl (hL.2.2.2 _ _ h1 (by simp)) (hgo _ _ _ _ _ h H locs ls hP hS hL)
  | iload k =>
    obtain rfl : 2 = len := hl.resolve_left (fun z => Nat.succ_ne_zero _ z)
    replace h := rg_ld_inv h
    obtain ⟨v, h1, h2, h⟩ := h
    obtain ⟨x, rfl⟩ := rg_ty_0 h2
    intro H locs ls hP hS hL
    exact lv_iload hx hb hd (hL.2.2.2 _ _ h1 (by simp)) (hgo _ _ _ _ _ h H locs ls hP hS hL)
  | lload_n k =>
    obtain rfl : 1 = len := hl.resolve_left (fun z => Nat.succ_ne_zero _ z)
    replace h := rg_ld_inv h
    obtain ⟨v, h1, h2, h⟩ := h
    obtain ⟨x, rfl⟩ := rg_ty_1 h2
    intro H locs ls hP hS hL
    exact lv_lload_n hx hb hd rfl (hL.2.2.2 _ _ h1 (by simp)) (hgo _ _ _ _ _ h H locs ls hP hS hL)
  | lload k =>
    obtain rfl : 2 = len := hl.resolve_left (fun z => Nat.succ_ne_zero _ z)
    replace h := rg_ld_inv h
    obtain ⟨v, h1, h2, h⟩ := h
    obtain ⟨x, rfl⟩ := rg_ty_1 h2
    intro H locs ls hP hS hL
    exact lv_lload hx hb hd (hL.2.2.2 _ _ h1 (by simp)) (hgo _ _ _ _ _ h H locs ls hP hS hL)
  | aload_n k =>
    obtain rfl : 1 = len := hl.resolve_left (fun z => Nat.succ_ne_zero _ z)
    replace h := rg_ld_inv h
    obtain ⟨v, h1, h2, h⟩ := h
    obtain ⟨q1, q2, a, q3⟩ := rg_ty_2 E.1 h2
    intro H locs ls hP hS hL
    refine lv_aload_n (x := a) hx hb hd rfl (by rw [← q3]; exact hL.2.2.2 _ _ h1 q1) ?_
    have z := (hgo _ _ _ _ _ h H locs ls hP hS hL)
    rw [List.map_cons, q3] at z
    exact z
  | aload k =>
    obtain rfl : 2 = len := hl.resolve_left (fun z => Nat.succ_ne_zero _ z)
    replace h := rg_ld_inv h
    obtain ⟨v, h1, h2, h⟩ := h
    obtain ⟨q1, q2, a, q3⟩ := rg_ty_2 E.1 h2
    intro H locs ls hP hS hL
    refine lv_aload (x := a) hx hb hd (by rw [← q3]; exact hL.2.2.2 _ _ h1 q1) ?_
    have z := (hgo _ _ _ _ _ h H locs ls hP hS hL)
    rw [List.map_cons, q3] at z
    exact z
  | istore_n k =>
    obtain rfl : 1 = len := hl.resolve_left (fun z => Nat.succ_ne_zero _ z)
    replace h := rg_i1_inv h
    obtain ⟨x, r, rfl, h⟩ := h
    replace h := rg_st_inv h
    obtain ⟨L', h1, h2, h4, h3⟩ := h
    intro H locs ls hP hS hL
    exact lv_istore_n hx hb hd rfl (rg_L_has hL) (by rw [← hL.2.2.1]; exact h2) rfl (fun ls' h' => hgo _ _ _ _ _ h1 H locs ls' hP hS (rg_L_st (v := .int x) hL h' h4 h3))
  | istore k =>
    obtain rfl : 2 = len := hl.resolve_left (fun z => Nat.succ_ne_zero _ z)
    replace h := rg_i1_inv h
    obtain ⟨x, r, rfl, h⟩ := h
    replace h := rg_st_inv h
    obtain ⟨L', h1, h2, h4, h3⟩ := h
    intro H locs ls hP hS hL
    exact lv_istore hx hb hd (rg_L_has hL) (by rw [← hL.2.2.1]; exact h2) rfl (fun ls' h' => hgo _ _ _ _ _ h1 H locs ls' hP hS (rg_L_st (v := .int x) hL h' h4 h3))
  | astore_n k =>
    obtain rfl : 1 = len := hl.resolve_left (fun z => Nat.succ_ne_zero _ z)
    replace h := rg_a1_inv h
    obtain ⟨v, r, rfl, h0, h⟩ := h
    replace h := rg_st_inv h
    obtain ⟨L', h1, h2, h4, h3⟩ := h
    obtain ⟨q1, q2, a, q3⟩ := rg_ty_2 E.1 h0
    intro H locs ls hP hS hL
    rw [List.map_cons, q3]
    exact lv_astore_n (x := a) hx hb hd rfl (rg_L_has hL) (by rw [← hL.2.2.1]; exact h2) rfl (fun ls' h' => hgo _ _ _ _ _ h1 H locs ls' hP hS (rg_L_st (v := v) hL (by rw [q3]; exact h') h4 h3))
  | astore k =>
    obtain rfl : 2 = len := hl.resolve_left (fun z => Nat.succ_ne_zero _ z)
    replace h := rg_a1_inv h
    obtain ⟨v, r, rfl, h0, h⟩ := h
    replace h := rg_st_inv h
    obtain ⟨L', h1, h2, h4, h3⟩ := h
    obtain ⟨q1, q2, a, q3⟩ := rg_ty_2 E.1 h0
    intro H locs ls hP hS hL
    rw [List.map_cons, q3]
    exact lv_astore (x := a) hx hb hd (rg_L_has hL) (by rw [← hL.2.2.1]; exact h2) rfl (fun ls' h' => hgo _ _ _ _ _ h1 H locs ls' hP hS (rg_L_st (v := v) hL (by rw [q3]; exact h') h4 h3))
  | iinc k n =>
    obtain rfl : 3 = len := hl.resolve_left (fun z => Nat.succ_ne_zero _ z)
    replace h := rg_ld_inv h
    obtain ⟨v, h1, h2, h⟩ := h
    obtain ⟨x, rfl⟩ := rg_ty_0 h2
    replace h := rg_i1_inv h
    obtain ⟨x2, r2, e2, h⟩ := h
    cases e2
    replace h := rg_st_inv h
    obtain ⟨L', g1, g2, g4, g3⟩ := h
    intro H locs ls hP hS hL
    obtain ⟨kk, hkk⟩ := List.getElem?_of_mem (rg_as_mem (ad := E.1) h1 (by simp))
    exact lv_iinc hx hb hd (rg_L_has hL) hkk rfl (by rw [← hL.2.2.1]; exact g2) rfl (fun ls' h' => hgo _ _ _ _ _ g1 H locs ls' hP hS (rg_L_st (v := .int (x + Int32.ofInt n)) hL h' g4 g3))
  | iadd =>
    obtain rfl : 1 = len := hl.resolve_left (fun z => Nat.succ_ne_zero _ z)
    replace h := rg_i2_inv h
    obtain ⟨x, y, r, rfl, h⟩ := h
    intro H locs ls hP hS hL
    exact lv_iadd hx hb hd (hgo _ _ _ _ _ h H locs ls hP hS hL)
  | isub =>
    obtain rfl : 1 = len := hl.resolve_left (fun z => Nat.succ_ne_zero _ z)
    replace h := rg_i2_inv h
    obtain ⟨x, y, r, rfl, h⟩ := h
    intro H locs ls hP hS hL
    exact lv_isub hx hb hd (hgo _ _ _ _ _ h H locs ls hP hS hL)
  | imul =>
    obtain rfl : 1 = len := hl.resolve_left (fun z => Nat.succ_ne_zero _ z)
    replace h := rg_i2_inv h
    obtain ⟨x, y, r, rfl, h⟩ := h
    intro H locs ls hP hS hL
    exact lv_imul hx hb hd (hgo _ _ _ _ _ h H locs ls hP hS hL)
  | iand =>
    obtain rfl : 1 = len := hl.resolve_left (fun z => Nat.succ_ne_zero _ z)
    replace h := rg_i2_inv h
    obtain ⟨x, y, r, rfl, h⟩ := h
    intro H locs ls hP hS hL
    exact lv_iand hx hb hd (hgo _ _ _ _ _ h H locs ls hP hS hL)
  | ior =>
    obtain rfl : 1 = len := hl.resolve_left (fun z => Nat.succ_ne_zero _ z)
    replace h := rg_i2_inv h
    obtain ⟨x, y, r, rfl, h⟩ := h
    intro H locs ls hP hS hL
    exact lv_ior hx hb hd (hgo _ _ _ _ _ h H locs ls hP hS hL)
  | ixor =>
    obtain rfl : 1 = len := hl.resolve_left (fun z => Nat.succ_ne_zero _ z)
    replace h := rg_i2_inv h
    obtain ⟨x, y, r, rfl, h⟩ := h
    intro H locs ls hP hS hL
    exact lv_ixor hx hb hd (hgo _ _ _ _ _ h H locs ls hP hS hL)
  | ishl =>
    obtain rfl : 1 = len := hl.resolve_left (fun z => Nat.succ_ne_zero _ z)
    replace h := rg_i2_inv h
    obtain ⟨x, y, r, rfl, h⟩ := h
    intro H locs ls hP hS hL
    exact lv_ishl hx hb hd (hgo _ _ _ _ _ h H locs ls hP hS hL)
  | ishr =>
    obtain rfl : 1 = len := hl.resolve_left (fun z => Nat.succ_ne_zero _ z)
    replace h := rg_i2_inv h
    obtain ⟨x, y, r, rfl, h⟩ := h
    intro H locs ls hP hS hL
    exact lv_ishr hx hb hd (hgo _ _ _ _ _ h H locs ls hP hS hL)
  | iushr =>
    obtain rfl : 1 = len := hl.resolve_left (fun z => Nat.succ_ne_zero _ z)
    replace h := rg_i2_inv h
    obtain ⟨x, y, r, rfl, h⟩ := h
    intro H locs ls hP hS hL
    exact lv_iushr hx hb hd rfl (hgo _ _ _ _ _ h H locs ls hP hS hL)
  | ladd =>
    obtain rfl : 1 = len := hl.resolve_left (fun z => Nat.succ_ne_zero _ z)
    replace h := rg_l2_inv h
    obtain ⟨x, y, r, rfl, h⟩ := h
    intro H locs ls hP hS hL
    exact lv_ladd hx hb hd (hgo _ _ _ _ _ h H locs ls hP hS hL)
  | land =>
    obtain rfl : 1 = len := hl.resolve_left (fun z => Nat.succ_ne_zero _ z)
    replace h := rg_l2_inv h
    obtain ⟨x, y, r, rfl, h⟩ := h
    intro H locs ls hP hS hL
    exact lv_land hx hb hd (hgo _ _ _ _ _ h H locs ls hP hS hL)
  | lor =>
    obtain rfl : 1 = len := hl.resolve_left (fun z => Nat.succ_ne_zero _ z)
    replace h := rg_l2_inv h
    obtain ⟨x, y, r, rfl, h⟩ := h
    intro H locs ls hP hS hL
    exact lv_lor hx hb hd (hgo _ _ _ _ _ h H locs ls hP hS hL)
  | lushr =>
    obtain rfl : 1 = len := hl.resolve_left (fun z => Nat.succ_ne_zero _ z)
    replace h := rg_il_inv h
    obtain ⟨x, y, r, rfl, h⟩ := h
    intro H locs ls hP hS hL
    exact lv_lushr hx hb hd rfl (hgo _ _ _ _ _ h H locs ls hP hS hL)
  | lshr =>
    obtain rfl : 1 = len := hl.resolve_left (fun z => Nat.succ_ne_zero _ z)
    replace h := rg_il_inv h
    obtain ⟨x, y, r, rfl, h⟩ := h
    intro H locs ls hP hS hL
    exact lv_lshr hx hb hd rfl (hgo _ _ _ _ _ h H locs ls hP hS hL)
  | lshl =>
    obtain rfl : 1 = len := hl.resolve_left (fun z => Nat.succ_ne_zero _ z)
    replace h := rg_il_inv h
    obtain ⟨x, y, r, rfl, h⟩ := h
    intro H locs ls hP hS hL
    exact lv_lshl hx hb hd rfl (hgo _ _ _ _ _ h H locs ls hP hS hL)
  | lcmp =>
    obtain rfl : 1 = len := hl.resolve_left (fun z => Nat.succ_ne_zero _ z)
    replace h := rg_l2_inv h
    obtain ⟨x, y, r, rfl, h⟩ := h
    intro H locs ls hP hS hL
    exact W.lcmp hx hb hd (hgo _ _ _ _ _ h H locs ls hP hS hL)
  | i2l =>
    obtain rfl : 1 = len := hl.resolve_left (fun z => Nat.succ_ne_zero _ z)
    replace h := rg_i1_inv h
    obtain ⟨x, r, rfl, h⟩ := h
    intro H locs ls hP hS hL
    exact lv_i2l hx hb hd rfl (hgo _ _ _ _ _ h H locs ls hP hS hL)
  | l2i =>
    obtain rfl : 1 = len := hl.resolve_left (fun z => Nat.succ_ne_zero _ z)
    replace h := rg_l1_inv h
    obtain ⟨x, r, rfl, h⟩ := h
    intro H locs ls hP hS hL
    exact lv_l2i hx hb hd rfl (hgo _ _ _ _ _ h H locs ls hP hS hL)
  | dup =>
    obtain rfl : 1 = len := hl.resolve_left (fun z => Nat.succ_ne_zero _ z)
    replace h := rg_a1_inv h
    obtain ⟨v, r, rfl, h1, h⟩ := h
    intro H locs ls hP hS hL
    exact lv_dup hx hb hd (by rw [rg_v_cat]; exact h1) (hgo _ _ _ _ _ h H locs ls hP hS hL)
  | pop =>
    obtain rfl : 1 = len := hl.resolve_left (fun z => Nat.succ_ne_zero _ z)
    replace h := rg_a1_inv h
    obtain ⟨v, r, rfl, h1, h⟩ := h
    intro H locs ls hP hS hL
    exact lv_pop hx hb hd (by rw [rg_v_cat]; exact h1) (hgo _ _ _ _ _ h H locs ls hP hS hL)
  | dup_x1 =>
    obtain rfl : 1 = len := hl.resolve_left (fun z => Nat.succ_ne_zero _ z)
    replace h := rg_a2_inv h
    obtain ⟨u, v, r, rfl, ⟨h1, h2⟩, h⟩ := h
    intro H locs ls hP hS hL
    exact lv_dup_x1 hx hb hd (by rw [rg_v_cat]; exact h1) (by rw [rg_v_cat]; exact h2) (hgo _ _ _ _ _ h H locs ls hP hS hL)
  | dup2 =>
    obtain rfl : 1 = len := hl.resolve_left (fun z => Nat.succ_ne_zero _ z)
    replace h := rg_a2_inv h
    obtain ⟨u, v, r, rfl, ⟨h1, h2⟩, h⟩ := h
    intro H locs ls hP hS hL
    exact lv_dup2_11 hx hb hd (by rw [rg_v_cat]; exact h1) (by rw [rg_v_cat]; exact h2) (hgo _ _ _ _ _ h H locs ls hP hS hL)
  | ifCond cd off =>
    obtain rfl : 3 = len := hl.resolve_left (fun z => Nat.succ_ne_zero _ z)
    replace h := rg_i1_inv h
    obtain ⟨x, r, rfl, h0, h1, h2⟩ := h
    intro H locs ls hP hS hL
    have kt := fun z => hgo _ _ _ _ _ (h1 z) H locs ls hP hS hL
    have kf := fun z => hgo _ _ _ _ _ (h2 z) H locs ls hP hS hL
    cases cd with
    | eq => exact lv_if_eq hx hb hd (Int.toNat_of_nonneg h0).symm kt kf
    | ne => exact lv_if_ne hx hb hd (Int.toNat_of_nonneg h0).symm kt (fun z => kf (fun y => y z))
    | lt => exact lv_if_lt hx hb hd (Int.toNat_of_nonneg h0).symm kt kf
    | ge => exact lv_if_ge hx hb hd (Int.toNat_of_nonneg h0).symm kt kf
    | gt => exact lv_if_gt hx hb hd (Int.toNat_of_nonneg h0).symm kt kf
    | le => exact lv_if_le hx hb hd (Int.toNat_of_nonneg h0).symm kt kf
  | if_icmp cd off =>
    obtain rfl : 3 = len := hl.resolve_left (fun z => Nat.succ_ne_zero _ z)
    replace h := rg_i2_inv h
    obtain ⟨x, y, r, rfl, h0, h1, h2⟩ := h
    intro H locs ls hP hS hL
    have kt := fun z => hgo _ _ _ _ _ (h1 z) H locs ls hP hS hL
    have kf := fun z => hgo _ _ _ _ _ (h2 z) H locs ls hP hS hL
    cases cd with
    | eq => exact lv_icmp_eq hx hb hd (Int.toNat_of_nonneg h0).symm kt kf
    | ne => exact lv_icmp_ne hx hb hd (Int.toNat_of_nonneg h0).symm kt (fun z => kf (fun y => y z))
    | lt => exact lv_icmp_lt hx hb hd (Int.toNat_of_nonneg h0).symm kt kf
    | ge => exact lv_icmp_ge hx hb hd (Int.toNat_of_nonneg h0).symm kt kf
    | gt => exact lv_icmp_gt hx hb hd (Int.toNat_of_nonneg h0).symm kt kf
    | le => exact lv_icmp_le hx hb hd (Int.toNat_of_nonneg h0).symm kt kf
  | goto off =>
    obtain rfl : 3 = len := hl.resolve_left (fun z => Nat.succ_ne_zero _ z)
    obtain ⟨h0, h⟩ := h
    intro H locs ls hP hS hL
    exact lv_goto hx hb hd (Int.toNat_of_nonneg h0).symm (hgo _ _ _ _ _ h H locs ls hP hS hL)
  | tableswitch d lo hi offs =>
    replace h := rg_i1_inv h
    obtain ⟨x, r, rfl, h1, h2⟩ := h
    intro H locs ls hP hS hL
    by_cases ho : x.toInt < lo ∨ hi < x.toInt
    · obtain ⟨h0, h⟩ := h1 ho
      exact lv_tableOut hx hb hd ho (Int.toNat_of_nonneg h0).symm (hgo _ _ _ _ _ h H locs ls hP hS hL)
    · have ho1 : ¬ x.toInt < lo := fun z => ho (Or.inl z)
      have ho2 : ¬ hi < x.toInt := fun z => ho (Or.inr z)
      obtain ⟨o, h3, h0, h⟩ := rg_some_inv (h2 ho1 ho2)
      exact lv_tableIn hx hb hd ho1 ho2 h3 (Int.toNat_of_nonneg h0).symm (hgo _ _ _ _ _ h H locs ls hP hS hL)
  | getfield k =>
    obtain rfl : 3 = len := hl.resolve_left (fun z => Nat.succ_ne_zero _ z)
    replace h := rg_r1_inv h
    obtain ⟨o, r, rfl, h⟩ := h
    replace h := rg_some_inv h
    obtain ⟨q, h1, h⟩ := h
    replace h := rg_some_inv h
    obtain ⟨v, h2, h⟩ := h
    exact hget k q o v pc L r w b h1 h2 hd (hgo _ _ _ _ _ h)
  | putfield k =>
    obtain rfl : 3 = len := hl.resolve_left (fun z => Nat.succ_ne_zero _ z)
    replace h := rg_ir_inv h
    obtain ⟨o, x, r, rfl, h⟩ := h
    replace h := rg_some_inv h
    obtain ⟨q, h1, h2, h⟩ := h
    exact hput k q o x pc L r w b h1 h2 hd (hgo _ _ _ _ _ h)
  | iaload =>
    obtain rfl : 1 = len := hl.resolve_left (fun z => Nat.succ_ne_zero _ z)
    replace h := rg_ri_inv h
    obtain ⟨k, i, r, rfl, h⟩ := h
    unfold rg_ial at h
    split at h
    · rename_i n ha
      obtain ⟨h1, h⟩ := h
      intro H locs ls hP hS hL
      exact va_iald hx hb hK hP k 0 (rg_ar_ws ha).2 rfl h1 hd (hgo _ _ _ _ _ h H locs ls hP hS hL)
    · exact h.elim
    · split at h
      · obtain ⟨rfl, h1, h⟩ := h
        intro H locs ls hP hS hL
        obtain ⟨x1, x2, x3⟩ := hX _ _ rfl
        exact va_sld hx hb x1 x2 x3 hS h1 hd (hgo _ _ _ _ _ h H locs ls hP hS hL)
      · exact h.elim
  | baload =>
    obtain rfl : 1 = len := hl.resolve_left (fun z => Nat.succ_ne_zero _ z)
    replace h := rg_ri_inv h
    obtain ⟨k, i, r, rfl, h⟩ := h
    unfold rg_zal at h
    split at h
    · rename_i n ha
      obtain ⟨h1, h⟩ := h
      intro H locs ls hP hS hL
      exact va_zald hx hb hK hP k 1 (rg_ar_ws ha).2 rfl h1 hd (hgo _ _ _ _ _ h H locs ls hP hS hL)
    · exact h.elim
  | laload =>
    obtain rfl : 1 = len := hl.resolve_left (fun z => Nat.succ_ne_zero _ z)
    replace h := rg_ri_inv h
    obtain ⟨k, i, r, rfl, h⟩ := h
    unfold rg_lal at h
    split at h
    · rename_i n ha
      obtain ⟨h1, h⟩ := h
      intro H locs ls hP hS hL
      exact va_lald hx hb hK hP k 2 (rg_ar_ws ha).2 rfl h1 hd (hgo _ _ _ _ _ h H locs ls hP hS hL)
    · exact h.elim
  | iastore =>
    obtain rfl : 1 = len := hl.resolve_left (fun z => Nat.succ_ne_zero _ z)
    replace h := rg_rii_inv h
    obtain ⟨k, i, x, r, rfl, h⟩ := h
    unfold rg_ias at h
    split at h
    · rename_i n ha
      obtain ⟨h1, h⟩ := h
      intro H locs ls hP hS hL
      refine va_iast hx hb hK hP (hD w) hS k 0 (rg_ar_ws ha).2 rfl h1 hd (fun H1 locs1 hP1 _ hS1 => ?_)
      rw [rg_ws_set (w' := rg_up w k i.toNatClampNeg x) (rg_ar_ws (E := E) (w := w) ha).1 (by simp only [rg_cell, rg_up_s]) (fun j hj q => rg_cell_up hj q)] at hP1
      exact hgo _ _ _ _ _ h H1 locs1 ls hP1 hS1 hL
    · exact h.elim
  | bastore =>
    obtain rfl : 1 = len := hl.resolve_left (fun z => Nat.succ_ne_zero _ z)
    replace h := rg_rii_inv h
    obtain ⟨k, i, x, r, rfl, h⟩ := h
    unfold rg_zas at h
    split at h
    · rename_i n ha
      obtain ⟨h1, h⟩ := h
      intro H locs ls hP hS hL
      refine va_zast hx hb hK hP (hD w) hS k 1 (rg_ar_ws ha).2 rfl h1 hd (fun H1 locs1 hP1 _ hS1 => ?_)
      rw [rg_ws_set (w' := rg_up w k i.toNatClampNeg (vp_nar .boolean x)) (rg_ar_ws (E := E) (w := w) ha).1 (by simp only [rg_cell, rg_up_s]) (fun j hj q => rg_cell_up hj q)] at hP1
      exact hgo _ _ _ _ _ h H1 locs1 ls hP1 hS1 hL
    · exact h.elim
  | lastore =>
    obtain rfl : 1 = len := hl.resolve_left (fun z => Nat.succ_ne_zero _ z)
    replace h := rg_ril_inv h
    obtain ⟨k, i, x, r, rfl, h⟩ := h
    unfold rg_las at h
    split at h
    · rename_i n ha
      obtain ⟨h1, h⟩ := h
      intro H locs ls hP hS hL
      refine va_last hx hb hK hP (hD w) hS k 2 (rg_ar_ws ha).2 rfl h1 hd (fun H1 locs1 hP1 _ hS1 => ?_)
      rw [rg_ws_set (w' := rg_upL w k i.toNatClampNeg x) (rg_ar_ws (E := E) (w := w) ha).1 (by simp only [rg_cell, rg_upL_s]) (fun j hj q => rg_cell_upL hj q)] at hP1
      exact hgo _ _ _ _ _ h H1 locs1 ls hP1 hS1 hL
    · exact h.elim
  | arraylength =>
    obtain rfl : 1 = len := hl.resolve_left (fun z => Nat.succ_ne_zero _ z)
    replace h := rg_r1_inv h
    obtain ⟨k, r, rfl, rfl, h⟩ := h
    replace h := rg_some_inv h
    obtain ⟨q, h1, h⟩ := h
    intro H locs ls hP hS hL
    obtain ⟨x1, x2, x3⟩ := hX q.1 q.2 h1
    exact va_slen hx hb x1 x2 x3 hS hd (hgo _ _ _ _ _ h H locs ls hP hS hL)
  | invokestatic k =>
    obtain rfl : 3 = len := hl.resolve_left (fun z => Nat.succ_ne_zero _ z)
    change rg_inv P (rg_lk P.2.1 (2 * k)) pc L st w b go at h
    unfold rg_inv at h
    split at h
    · exact h.elim
    · rename_i n d T hlk
      obtain ⟨h1, h⟩ := h
      replace h := rg_pop_inv h
      obtain ⟨as, st', h2, rfl, h3, h⟩ := h
      rw [List.append_nil] at h
      exact hcallS k n d T hlk pc L as st' w b _ hd h2 h3 h1 h (fun r w' z => rg_nx_mono hgo r w' z)
  | invokevirtual k =>
    obtain rfl : 3 = len := hl.resolve_left (fun z => Nat.succ_ne_zero _ z)
    change rg_inv P (rg_lk P.2.1 (2 * k + 1)) pc L st w b go at h
    unfold rg_inv at h
    split at h
    · exact h.elim
    · rename_i n d T hlk
      obtain ⟨h1, h⟩ := h
      replace h := rg_pop_inv h
      obtain ⟨as, st', h2, rfl, h3, h⟩ := h
      rw [List.append_nil] at h
      exact hcallV k n d T hlk pc L as st' w b _ hd h2 h3 h1 h (fun r w' z => rg_nx_mono hgo r w' z)
  | new k =>
    obtain rfl : 3 = len := hl.resolve_left (fun z => Nat.succ_ne_zero _ z)
    replace h := rg_some_inv h
    obtain ⟨x, h1, h⟩ := h
    exact hnew k x pc L st w b h1 hd h
  | ireturn =>
    obtain rfl : 1 = len := hl.resolve_left (fun z => Nat.succ_ne_zero _ z)
    replace h := rg_i1_inv h
    obtain ⟨x, r, rfl, rfl, h⟩ := h
    exact hretI x pc L w b hd h
  | return_ =>
    obtain rfl : 1 = len := hl.resolve_left (fun z => Nat.succ_ne_zero _ z)
    obtain ⟨rfl, h⟩ := h
    exact hretV pc L w b hd h
  | _ => exact False.elim h
theorem rg_close {P : rg_P} {X : rg_X} {rt : rg_Rt} {Z : rg_Go} (hstep : ∀ (go : rg_Go), (∀ pc L st w b, go pc L st w b → Z pc L st w b) → ∀ {i : Instr} {len pc : Nat} {L st : List Value} {w : rg_W} {b : Nat}, decode cc pc = .ok (i, len) → (rg_len i = 0 ∨ rg_len i = len) → rg_sem P X i pc L st w b go rt → Z pc L st w b) :
    ∀ (cut : Nat → Bool) (n : Nat) (f : Bool) (pc : Nat) (L st : List Value) (w : rg_W) (b : Nat), rg_run P X cc cut Z rt f n pc L st w b → Z pc L st w b := by
  intro cut n
  induction n with
  | zero => exact fun f pc L st w b h => h
  | succ n ih =>
    intro f pc L st w b h
    have h : (if (!f && cut pc) = true then Z pc L st w b else rg_one P X cc (rg_run P X cc cut Z rt false n) rt pc L st w b) := h
    split at h
    · exact h
    · unfold rg_one at h
      split at h
      · rename_i i len hd
        exact hstep _ (fun pc L st w b => ih false pc L st w b) hd h.1 h.2
      · exact h.elim
end
