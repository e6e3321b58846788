/-! calls out of any room; methods that throw -/
section
variable {p : Program} {l : Launch} {e : Env} {R : Room} {s : State} {m : MethodId} {args : Array Value} {below : List Frame} {meth : Method} {c : Code} {Q : State → Prop} {cc : ByteArray} {E : rg_E} {nL : Nat} {cb : Nat → Nat × Nat}
set_option maxHeartbeats 1000000 in
theorem rg_callS2 {nn lv : Nat} (hRf : R.frames = nn + lv) (hRl : 40 * (nn + lv) ≤ R.locals) (hcb : ∀ b, (cb b).1 ≤ R.cells ∧ (cb b).2 ≤ R.slots) (hx : p.tables.exec = Jvm.exec) (hb : c.code = cc) (hml : c.maxLocals = nL) (hS : rg_S E s) (hD : rg_D E) {Ts : List Cond} (hts : ∀ w ∈ Ts, w.before args s = true) (hTS : ∀ w ∈ rg_TS, w ∈ Ts) {own : String} (hown : s.vm.findClass own = some m.cls)
    {P : rg_P} (hC : ∀ q ∈ P.2.1, q.2.2.1 = 0 → rg_CallOk l own lv q) : ∀ k n T, rg_lk P.2.1 (2 * k) = some (n, 0, T) → ∀ pc L as st w b K, decode cc pc = .ok (.invokestatic k, 3) → as.length = n → rg_wd st ≤ 8 → T as w K →
      (∀ r w', K r w' → rg_nx P.2.2.2.2.2.1 pc L st b (rg_M p l e R s m args below meth c Q E (rg_A E s.heap.size) nL cb) r w') →
      rg_M p l e R s m args below meth c Q E (rg_A E s.heap.size) nL cb pc L (as.reverse ++ st) w b := by
  intro k n T hk pc L as st w b K hd hn hw8 hT hnx H locs ls hP hSS hL
  rcases hC _ (rg_lk_mem hk) rfl with hCG | ⟨idx, i1, i2, i3, i4, i5, i6, i7, i8, i9⟩
  rotate_left
  · dsimp only at i1 i2 i3 i4
    obtain rfl : k = idx := by omega
    subst i2 i4
    unfold T_J_min at hT
    split at hT
    · rename_i x y
      have hk := rg_nx_pl (r := some (.int (if y < x then y else x))) trivial (hnx _ _ hT)
      exact va_mmin hx hb (by rw [hml]; exact hL.1.symm) hown (hts _ (hTS _ i6)) (hts _ (hTS _ i7)) (hts _ (hTS _ i8)) (hts _ (hTS _ i9)) (by rw [hRf]; omega) (by rw [rg_wd_eq]; show rg_wd st + 13 ≤ R.locals; omega) (hcb b).1 (hcb b).2 hd (hk H locs ls hP hSS hL)
    · exact hT.elim
  obtain ⟨y, cc', maxL, ret, lv', idx, n', hG, hd0, hlv, hmx, hcd, hini, hyd, hlk, hkind⟩ := hCG
  dsimp only at hd0 hkind hG
  rcases hkind with ⟨e1, e2, hst⟩ | ⟨e1, -⟩
  · have e1 : k = idx := by omega
    subst e1
    subst e2
    have hM := hG (nn + lv - 1 - lv') E H.size as w K hT
    have hR : (rg_rm (nn + lv - 1 - lv' + lv')).frames + 1 ≤ R.frames ∧ 8 + (maxL + 11) + (rg_rm (nn + lv - 1 - lv' + lv')).locals ≤ R.locals := by simp only [rg_rm]; omega
    have hGI := rg_goodIn hTS hcd
    have hpre : PreS s H (rg_Pc E H.size as w) (as.map (rg_v E.1)) := ⟨rg_blind, fun U hU hW => ⟨rfl, by rw [hU], by rw [hU]; exact hP, rg_S_warm hW hS, hD⟩⟩
    have hstack : (F0 m pc ls ((as.reverse ++ st).map (rg_v E.1))).stack = (as.map (rg_v E.1)).reverse ++ st.map (rg_v E.1) := by simp
    have hW8 : 2 * (F0 m pc ls ((as.reverse ++ st).map (rg_v E.1))).monitorRoom + ((st.map (rg_v E.1)).map fun v => v.category).sum ≤ 8 := lv_room (by rw [rg_wd_eq]; exact hw8)
    rcases hlk with hlk | ⟨host, hlk⟩
    · refine rg_after (cb := cb) (sz := H.size) (b := b) (b2 := b) (st := st) (a := (as.map (rg_v E.1)).toArray) (mc := 0) (ms := 0) (va_runS ⟨hx, hb, hml, hown, hts⟩ hM ⟨callB_of n hts hGI rfl rfl rfl (hts _ (hTS _ hini)) (hts _ (hTS _ hlk)) hyd hR, hts _ (hTS _ hst)⟩ hpre rfl (by simpa using hn) hL.1 hstack hW8 hd (hcb b)) hSS (rg_A_up hSS.1) hL ⟨Nat.le_refl _, Nat.le_refl _⟩ (fun r w' h1 h2 => rg_nx_pl h1 (hnx r w' h2))
    · refine rg_after (cb := cb) (sz := H.size) (b := b) (b2 := b) (st := st) (a := (as.map (rg_v E.1)).toArray) (mc := 0) (ms := 0) (va_runSN ⟨hx, hb, hml, hown, hts⟩ hM ⟨va_cnB n hts hGI rfl rfl rfl (hS.2 _ hlk) (hts _ (hTS _ hini)) hyd hR, hts _ (hTS _ hst), trivial⟩ hpre rfl (by simpa using hn) hL.1 hstack hW8 hd (hcb b)) hSS (rg_A_up hSS.1) hL ⟨Nat.le_refl _, Nat.le_refl _⟩ (fun r w' h1 h2 => rg_nx_pl h1 (hnx r w' h2))
  · omega
set_option maxHeartbeats 1000000 in
theorem rg_callV2 {nn lv : Nat} (hRf : R.frames = nn + lv) (hRl : 40 * (nn + lv) ≤ R.locals) (hcb : ∀ b, (cb b).1 ≤ R.cells ∧ (cb b).2 ≤ R.slots) (hx : p.tables.exec = Jvm.exec) (hb : c.code = cc) (hml : c.maxLocals = nL) (hS : rg_S E s) (hD : rg_D E) {Ts : List Cond} (hts : ∀ w ∈ Ts, w.before args s = true) (hTS : ∀ w ∈ rg_TS, w ∈ Ts) {own : String} (hown : s.vm.findClass own = some m.cls)
    {P : rg_P} (hC : ∀ q ∈ P.2.1, q.2.2.1 = 0 → rg_CallOk l own lv q) : ∀ k n T, rg_lk P.2.1 (2 * k + 1) = some (n, 0, T) → ∀ pc L as st w b K, decode cc pc = .ok (.invokevirtual k, 3) → as.length = n → rg_wd st ≤ 8 → T as w K →
      (∀ r w', K r w' → rg_nx P.2.2.2.2.2.1 pc L st b (rg_M p l e R s m args below meth c Q E (rg_A E s.heap.size) nL cb) r w') →
      rg_M p l e R s m args below meth c Q E (rg_A E s.heap.size) nL cb pc L (as.reverse ++ st) w b := by
  intro k n T hk pc L as st w b K hd hn hw8 hT hnx H locs ls hP hSS hL
  rcases hC _ (rg_lk_mem hk) rfl with hCG | ⟨idx, i1, -⟩
  rotate_left
  · dsimp only at i1
    omega
  obtain ⟨y, cc', maxL, ret, lv', idx, n', hG, hd0, hlv, hmx, hcd, hini, hyd, hlk, hkind⟩ := hCG
  dsimp only at hd0 hkind hG
  rcases hkind with ⟨e1, -⟩ | ⟨e1, e2, hin, hsel, hrec⟩
  · omega
  · have e1 : k = idx := by omega
    subst e1
    have hM := hG (nn + lv - 1 - lv') E H.size as w K hT
    obtain ⟨o, ci, fs, T', N, rr, rfl, hlay, hcl⟩ := hrec as w K hT
    have hR : (rg_rm (nn + lv - 1 - lv' + lv')).frames + 1 ≤ R.frames ∧ 8 + (maxL + 11) + (rg_rm (nn + lv - 1 - lv' + lv')).locals ≤ R.locals := by simp only [rg_rm]; omega
    have hGI := rg_goodIn hTS hcd
    have hat : (rg_ws E w)[o]? = some (E.1 o, .inr (ci, fs.mapIdx (rg_fv E (w.1 o)))) := by rw [rg_ws_at, hlay]; rfl
    have hrcv := va_recv hS.1 hP hcl hat
    have hpre : PreV s H y.cls (E.1 o) (rg_Pc E H.size (.ref o :: rr) w) (rr.map (rg_v E.1)) := ⟨rg_blind, hrcv, fun U hU hW => ⟨rfl, by rw [hU], by rw [hU]; exact hP, rg_S_warm hW hS, hD⟩⟩
    have hstack : (F0 m pc ls (((Value.ref o :: rr).reverse ++ st).map (rg_v E.1))).stack = (rr.map (rg_v E.1)).reverse ++ .ref (E.1 o) :: st.map (rg_v E.1) := by simp [rg_v]
    have hW8 : 2 * (F0 m pc ls (((Value.ref o :: rr).reverse ++ st).map (rg_v E.1))).monitorRoom + ((st.map (rg_v E.1)).map fun v => v.category).sum ≤ 8 := lv_room (by rw [rg_wd_eq]; exact hw8)
    have hnl : (rr.map (rg_v E.1)).length = n' := by simp at hn ⊢; omega
    rcases hlk with hlk | ⟨host, hlk⟩
    · refine rg_after (cb := cb) (sz := H.size) (b := b) (b2 := b) (st := st) (a := (Value.ref (E.1 o) :: rr.map (rg_v E.1)).toArray) (mc := 0) (ms := 0) (va_runV ⟨hx, hb, hml, hown, hts⟩ hM ⟨callB_of n' hts hGI rfl rfl rfl (hts _ (hTS _ hini)) (hts _ (hTS _ hlk)) hyd hR, hts _ (hTS _ hin), hts _ (hTS _ hsel)⟩ hpre rfl hnl hL.1 hstack hW8 hd (hcb b)) hSS (rg_A_up hSS.1) hL ⟨Nat.le_refl _, Nat.le_refl _⟩ (fun r w' h1 h2 => rg_nx_pl h1 (hnx r w' h2))
    · refine rg_after (cb := cb) (sz := H.size) (b := b) (b2 := b) (st := st) (a := (Value.ref (E.1 o) :: rr.map (rg_v E.1)).toArray) (mc := 0) (ms := 0) (va_runVN ⟨hx, hb, hml, hown, hts⟩ hM ⟨va_cnB n' hts hGI rfl rfl rfl (hS.2 _ hlk) (hts _ (hTS _ hini)) hyd hR, hts _ (hTS _ hin), hts _ (hTS _ hsel)⟩ hpre rfl hnl hL.1 hstack hW8 hd (hcb b)) hSS (rg_A_up hSS.1) hL ⟨Nat.le_refl _, Nat.le_refl _⟩ (fun r w' h1 h2 => rg_nx_pl h1 (hnx r w' h2))
end
/-- exception k's name -/
def exN : Nat → String
  | 1 => "java/lang/IllegalArgumentException"
  | 2 => "java/lang/IllegalStateException"
  | 3 => "java/lang/IndexOutOfBoundsException"
  | _ => "java/util/NoSuchElementException"
def rg_strs : List (Nat × String) := [(34, "a read has 3 to 12 letters"), (45, "there are 9 reads"), (59, "no such read"), (67, "no such letter"), (76, "not two nodes"), (81, "least is 1 to 12"), (95, "no such what"), (100, "no such edge"), (112, "no such node"), (125, "a walk here has 1 to 8 edges"), (131, "no such edge, or no walk"), (141, "too many walks"), (144, "no such walk")]
def rg_isDC : Cond → Bool
  | .declares _ => true
  | .castable .. => true
  | _ => false
def rg_DC : List Cond := tables_1.filter rg_isDC
theorem rg_DC_ok : ∀ x ∈ rg_DC, rg_isDC x = true := fun x h => (List.mem_filter.mp h).2
theorem rg_DC_tab {x : Cond} (h : rg_isDC x = true) : x.onTables = true := by
  cases x <;> first | rfl | exact absurd h (by simp [rg_isDC])
/-- what a throw needs of the state -/
def rg_SX (sa : Nat → Nat) (A : Nat → Prop) (U : State) : Prop :=
  (∀ q ∈ rg_strs, vk_R "ReadGraph" q.1 q.2 (sa q.1) U) ∧ vx_Zq Bundle.tN "UNASSIGNED_STACK" Bundle.steD A U U.heap ∧ vx_Zq Bundle.tN "SUPPRESSED_SENTINEL" Bundle.listD A U U.heap ∧ (∀ x ∈ rg_DC, va_Nw x U) ∧ ∀ a b, a < 5 → b < 5 → 0 < a → 0 < b → a ≠ b → va_Nc (exN a) (exN b) U
theorem rg_SX_same {sa : Nat → Nat} {A : Nat → Prop} {u U : State} (hv : u.vm = U.vm) (hh : U.heap = u.heap) (h : rg_SX sa A u) : rg_SX sa A U := by
  obtain ⟨h1, h2, h3, h4, h5⟩ := h
  have al : u.vm.Alike U.vm := by rw [hv]; exact Vm.Alike.refl _
  refine ⟨fun q hq => vk_R.same hv.symm (h1 q hq), by rw [hh]; exact vx_Zq.moved al h2, by rw [hh]; exact vx_Zq.moved al h3, fun x hx => va_Nw.same (rg_DC_tab (rg_DC_ok x hx)) hv (h4 x hx), fun a b ha hb a0 b0 hab => va_Nc.moved al (h5 a b ha hb a0 b0 hab)⟩
theorem rg_SX_warm {sa : Nat → Nat} {E : rg_E} {s U : State} {H : Heap} {locs : List Loc} (hW : s.WarmedH U.vm) (hU : U.heap = H) (hS : va_S (rg_A E s.heap.size) s.heap H locs) (h : rg_SX sa (rg_A E s.heap.size) s) : rg_SX sa (rg_A E H.size) U := by
  obtain ⟨h1, h2, h3, h4, h5⟩ := h
  have zz : ∀ {n d : String}, vx_Zq Bundle.tN n d (rg_A E s.heap.size) s s.heap → vx_Zq Bundle.tN n d (rg_A E H.size) U U.heap := fun z => by
    rw [hU]
    exact vx_Zq.narrow (vx_Zq.kept (vx_Zq.moved hW.alike z) hS.2.1) (rg_A_up hS.1)
  refine ⟨fun q hq => vk_R.warm hW (h1 q hq), zz h2, zz h3, fun x hx => ?_, fun a b ha hb a0 b0 hab => va_Nc.moved hW.alike (h5 a b ha hb a0 b0 hab)⟩
  have g1 := rg_DC_ok x hx
  have g2 := h4 x hx
  cases x <;> first | exact va_Nw.warmD hW g2 | exact va_Nw.warmC hW g2 | exact absurd g1 (by simp [rg_isDC])
def rg_PcX (sa : Nat → Nat) (E : rg_E) (sz : Nat) (as : List Value) (w : rg_W) : Array Value → State → Prop := fun v U => rg_Pc E sz as w v U ∧ rg_SX sa (rg_A E sz) U
theorem rg_blindX {sa : Nat → Nat} {E : rg_E} {sz : Nat} {as : List Value} {w : rg_W} : FrameBlind (rg_PcX sa E sz as w) :=
  fun a U g mk h => ⟨rg_blind a U g mk h.1, rg_SX_same (u := U) (U := U.calling g mk a) rfl rfl h.2⟩
/-- the exception that left it -/
def rg_XC (E : rg_E) (A : Nat → Prop) (K : Option Value → rg_W → Prop) : String → State → State → Prop := fun N st t =>
  ∃ (k : Nat) (w' : rg_W), N = exN k ∧ 0 < k ∧ k < 5 ∧ K (some (.float (UInt32.ofNat k))) w' ∧ va_P E.2.2 rg_cl (rg_ws E w') t.heap ∧ va_F A st t
def rg_rmx (k : Nat) : Room := { frames := k, cells := 1, slots := 6, locals := 40 * k }
/-- method y keeps contract T, where an end .float k is exception k -/
def rg_GoodX (l : Launch) (y : MethodName) (cc : ByteArray) (maxL : Nat) (ret : Option FieldType) (lv : Nat) (T : rg_T) : Prop :=
  ∀ (n : Nat) (sa : Nat → Nat) (E : rg_E) (sz : Nat) (as : List Value) (w : rg_W) (K : Option Value → rg_W → Prop), T as w K →
    vx_Met l y (rg_wsOf y cc maxL ret) (rg_rmx (n + lv)) (rg_PcX sa E sz as w) (rg_Qc E (rg_A E sz) K) (rg_XC E (rg_A E sz) K) 1 6 (rg_A E sz)
def rg_sup : List String := ["java/lang/RuntimeException", "java/lang/Exception"]
/-- 'throw new' at pc of exception k: the name's index, the text's, the constructor's -/
abbrev rg_Th : Type := Nat × Nat × Nat × Nat × Nat × String
def rg_ThW (q : rg_Th) : List Cond := vx_atS "ReadGraph" q.2.2.2.2.1 (exN q.2.1) rg_sup
def rg_ThOk (cc : ByteArray) (q : rg_Th) : Prop := decode cc q.1 = .ok (.new q.2.2.1, 3) ∧ decode cc (q.1 + 3) = .ok (.dup, 1) ∧ decode cc (q.1 + 4) = .ok (.ldc q.2.2.2.1, 2) ∧ decode cc (q.1 + 6) = .ok (.invokespecial q.2.2.2.2.1, 3) ∧ decode cc (q.1 + 9) = .ok (.athrow, 1) ∧
  (q.2.2.2.1, q.2.2.2.2.2) ∈ rg_strs ∧ 0 < q.2.1 ∧ q.2.1 < 5
/-- the words of a throw of kind k, index by index -/
def rg_ThC (q : rg_Th) : Prop := Bundle.fit (exN q.2.1) = true ∧ Cond.classLink "ReadGraph" q.2.2.1 (exN q.2.1) ∈ rg_TS ∧ Cond.initialized (exN q.2.1) ∈ rg_TS ∧ (∀ w ∈ rg_ThW q, w ∈ rg_TS ∨ w ∈ rg_DC)
section
variable {p : Program} {l : Launch} {e : Env} {R : Room} {s : State} {m : MethodId} {args : Array Value} {below : List Frame} {meth : Method} {c : Code} {cc : ByteArray} {E : rg_E} {nL : Nat}
theorem rg_sup_fit : ∀ n ∈ rg_sup, Bundle.fit n = true := by decide +kernel
theorem rg_thr {nn : Nat} {sa : Nat → Nat} {K : Option Value → rg_W → Prop} (hn : 6 ≤ nn) (hx : p.tables.exec = Jvm.exec) (hb : c.code = cc) (hl : l.stackTraces = false) (hml : c.maxLocals = nL) (hlocks : meth.locks = false) (hout : ∀ x ∈ c.exceptionTable.toList, False)
    {Ts : List Cond} (hts : ∀ w ∈ Ts, w.before args s = true) (hTS : ∀ w ∈ rg_TS, w ∈ Ts) (hown : s.vm.findClass "ReadGraph" = some m.cls) (hSX : rg_SX sa (rg_A E s.heap.size) s) {q : rg_Th} (hq : rg_ThOk cc q) (hw : rg_ThC q) (L : List Value) (w : rg_W) (hK : K (some (.float (UInt32.ofNat q.2.1))) w) :
    rg_M p l e (rg_rmx nn) s m args below meth c (vx_MQ below (rg_Qc E (rg_A E s.heap.size) K) (rg_XC E (rg_A E s.heap.size) K) args s 1 6 (rg_A E s.heap.size)) E (rg_A E s.heap.size) nL (fun _ => (0, 0)) q.1 L [] w 0 := by
  intro H locs ls hP hS hL
  obtain ⟨d0, d3, d4, d6, d9, hs, k0, k5⟩ := hq
  obtain ⟨w1, w2, w3, w4⟩ := hw
  have hat : ∀ w ∈ rg_ThW q, w.before args s = true := fun w hw => by
    rcases w4 w hw with h | h
    · exact hts _ (hTS _ h)
    · exact va_Nw.use (rg_DC_tab (rg_DC_ok w h)) (hSX.2.2.2.1 w h)
  refine vx_throwS hx hb hl (own := "ReadGraph") (cls := exN q.2.1) (names := rg_sup) (A := rg_A E s.heap.size) hown w1 rg_sup_fit (hts _ (hTS _ w2)) (hts _ (hTS _ w3)) (hSX.1 _ hs) hat (fun w hw => ?_) hSX.2.1 hSX.2.2.1 hS (by rw [hml]; exact hL.1) d0 d3 d4 d6 d9 (fun x hx => (hout x hx).elim) ?_ ?_ (Nat.le_refl _) (Nat.le_refl _) hlocks (fun t hal hsz hkp => ?_) hS.2.2 (Nat.le_refl _) (Nat.le_refl _)
  · unfold vx_ot
    rcases List.mem_cons.mp hw with rfl | hw
    · exact Bool.or_eq_true_iff.mpr (Or.inr (rg_TS_ok _ w2))
    · rcases List.mem_cons.mp hw with rfl | hw
      · exact Bool.or_eq_true_iff.mpr (Or.inr (rg_TS_ok _ w3))
      · rcases w4 w hw with h | h
        · exact Bool.or_eq_true_iff.mpr (Or.inr (rg_TS_ok _ h))
        · exact Bool.or_eq_true_iff.mpr (Or.inl (rg_DC_tab (rg_DC_ok w h)))
  · show rg_sup.length + 3 < nn
    show 2 + 3 < nn
    omega
  · show (([] : List Value).map fun v => v.category).sum + (13 * (rg_sup.length + 1) + 43) ≤ 40 * nn
    show 0 + (13 * (2 + 1) + 43) ≤ 40 * nn
    omega
  · refine ⟨q.2.1, w, rfl, k0, k5, hK, hP.kept (fun k q hk => hkp _ (vx_lt hP hk)), Nat.le_trans hS.1 hsz, fun q h1 h2 => ?_⟩
    rw [hkp q (Nat.lt_of_lt_of_le h1 hS.1)]
    exact hS.2.1 q h1 h2
end
set_option maxHeartbeats 1000000 in
theorem rg_goodX_of {l : Launch} {y : MethodName} {cc : ByteArray} {maxL : Nat} {ret : Option FieldType} {lv : Nat} {T : rg_T} {P : rg_P} {thr : List rg_Th} (hl : l.stackTraces = false) (h6 : 6 ≤ lv) (hy : plainName y.cls = true) (hyG : y.cls = "ReadGraph") (hP : rg_POk l y.cls lv P) (hd0 : ∀ q ∈ P.2.1, q.2.2.1 = 0) (hth : ∀ q ∈ thr, rg_ThOk cc q ∧ rg_ThC q)
    (body : ∀ (as : List Value) (w : rg_W) (K : Option Value → rg_W → Prop) (Z : rg_Go), T as w K → (∀ (cut : Nat → Bool) (n : Nat) (pc : Nat) (L st : List Value) (w : rg_W), rg_run P none cc cut Z (rg_rt ret K) true n pc L st w 0 → Z pc L st w 0) → (∀ q ∈ thr, ∀ (L : List Value) (w : rg_W), K (some (.float (UInt32.ofNat q.2.1))) w → Z q.1 L [] w 0) → rg_sz as ≤ maxL ∧ Z 0 (rg_loc maxL as) [] w 0) :
    rg_GoodX l y cc maxL ret lv T := by
  intro nn sa E sz as w K hT
  refine vx_ofW (cc := cc) (maxL := maxL) (ret := ret) hy rfl ?_
  intro p e s m args below meth c s₁ B hml hout hv
  obtain ⟨⟨rfl, rfl, hPw, hS, hD⟩, hSX⟩ := hv
  have hx := B.exec
  have hb := B.bytes
  have hr := B.returns
  have hts := atoms_spec (ws := rg_wsOf y cc maxL ret) B.pre
  have hTS : ∀ w ∈ rg_TS, w ∈ rg_wsOf y cc maxL ret := fun w hw => List.mem_cons_of_mem _ hw
  have hown : s.vm.findClass y.cls = some m.cls := findClass_of_methodNamed B.named
  have hlocks := B.notSynchronized
  obtain ⟨hF, hC, hI, hJ, hN⟩ := hP
  have hRf : (rg_rmx (nn + lv)).frames = nn + lv := rfl
  have hRl : 40 * (nn + lv) ≤ (rg_rmx (nn + lv)).locals := Nat.le_refl _
  have hcb : ∀ b : Nat, ((fun _ => (0, 0) : Nat → Nat × Nat) b).1 ≤ (rg_rmx (nn + lv)).cells ∧ ((fun _ => (0, 0) : Nat → Nat × Nat) b).2 ≤ (rg_rmx (nn + lv)).slots := fun _ => ⟨Nat.zero_le _, Nat.zero_le _⟩
  have hclose : ∀ (cut : Nat → Bool) (n : Nat) (pc : Nat) (L st : List Value) (w : rg_W), rg_run P none cc cut (rg_M p l e (rg_rmx (nn + lv)) s m (as.map (rg_v E.1)).toArray below meth c (vx_MQ below (rg_Qc E (rg_A E s.heap.size) K) (rg_XC E (rg_A E s.heap.size) K) (as.map (rg_v E.1)).toArray s 1 6 (rg_A E s.heap.size)) E (rg_A E s.heap.size) maxL (fun _ => (0, 0))) (rg_rt ret K) true n pc L st w 0 → rg_M p l e (rg_rmx (nn + lv)) s m (as.map (rg_v E.1)).toArray below meth c (vx_MQ below (rg_Qc E (rg_A E s.heap.size) K) (rg_XC E (rg_A E s.heap.size) K) (as.map (rg_v E.1)).toArray s 1 6 (rg_A E s.heap.size)) E (rg_A E s.heap.size) maxL (fun _ => (0, 0)) pc L st w 0 := by
    intro cut n pc L st w h
    refine rg_close (fun go hgo => ?_) cut n true pc L st w 0 h
    intro i len pc L st w b
    refine rg_sound (rt := rg_rt ret K) hx hb hS.1 (fun w => rg_D_va hD w) (rg_get hx hb hS hts hTS hown hF) (rg_put hx hb hS (fun w => rg_D_va hD w) hts hTS hown hF) ?_ ?_ ?_ ?_ ?_ ?_ ?_ ?_ (fun N xs z => by cases z) hgo
    · intro k v pc L st w b hk hd h H locs ls hP hSS hL
      exact lv_ldc hx hb hown (hts _ (hTS _ (hI _ (rg_lk_mem hk)))) hd (h H locs ls hP hSS hL)
    · intro k v pc L st w b hk hd h H locs ls hP hSS hL
      exact lv_ldcw hx hb hown (hts _ (hTS _ (hI _ (rg_lk_mem hk)))) hd (h H locs ls hP hSS hL)
    · intro k v pc L st w b hk hd h H locs ls hP hSS hL
      exact lv_ldc2 hx hb hown (hts _ (hTS _ (hJ _ (rg_lk_mem hk)))) hd (h H locs ls hP hSS hL)
    · intro k n d T hk pc L as st w b K' hd hn hw _ hT hnx
      obtain rfl : d = 0 := hd0 _ (rg_lk_mem hk)
      exact rg_callS2 hRf hRl hcb hx hb hml hS hD hts hTS hown (fun q h _ => hC q h) k n T hk pc L as st w b K' hd hn hw hT hnx
    · intro k n d T hk pc L as st w b K' hd hn hw _ hT hnx
      obtain rfl : d = 0 := hd0 _ (rg_lk_mem hk)
      exact rg_callV2 hRf hRl hcb hx hb hml hS hD hts hTS hown (fun q h _ => hC q h) k n T hk pc L as st w b K' hd hn hw hT hnx
    · intro k x pc L st w b hk
      rw [hN] at hk
      cases hk
    · intro x pc L w b hd h H locs ls hP hSS hL
      obtain ⟨⟨ty, h1, h2⟩, h3⟩ := h
      refine vx_ret (W.widen (Nat.zero_le _) (Nat.zero_le _) (W.zret hx hb (hr.trans h1) h2 (fun t ht _ => ⟨⟨some (.int x), w, rfl, trivial, h3, by rw [ht]; exact hP⟩, hSS.F ht⟩) hSS.2.2 hd))
    · intro pc L w b hd h H locs ls hP hSS hL
      obtain ⟨h1, h3⟩ := h
      refine vx_ret (W.widen (Nat.zero_le _) (Nat.zero_le _) (W.vret hx hb (hr.trans h1) (fun t ht _ => ⟨⟨none, w, rfl, trivial, h3, by rw [ht]; exact hP⟩, hSS.F ht⟩) hSS.2.2 hd))
  have hthr := fun (q : rg_Th) (hq : q ∈ thr) (L : List Value) (w : rg_W) hK => rg_thr (nn := nn + lv) (nL := maxL) (E := E) (below := below) (e := e) (K := K) (by omega) hx hb hl hml hlocks hout hts hTS (by rw [← hyG]; exact hown) hSX (hth q hq).1 (hth q hq).2 L w hK
  obtain ⟨hsz, hbody⟩ := body as w K _ hT hclose hthr
  have hl := lv_entry (as.map (rg_v E.1)) (n := maxL) (by rw [rg_sz_sl]; exact hsz)
  rw [lg_entry_eq]
  refine hbody s.heap [] _ hPw va_S.rf ⟨hl.1, hl.2.1, rg_loc_len as maxL hsz, fun i v h1 h2 => ?_⟩
  have := hl.2.2 _ (rg_loc_mem E.1 as maxL 0 i v h1 h2)
  rw [Nat.zero_add] at this
  exact this
