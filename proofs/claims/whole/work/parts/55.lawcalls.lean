/-! the law's calls, on the machine -/
section
variable {p : Program} {l : Launch} {e : Env} {R : Room} {s : State} {m : MethodId} {args : Array Value} {below : List Frame} {meth : Method} {c : Code} {Q : State → Prop} {cc : ByteArray} {E : rg_E} {nL : Nat} {cb : Nat → Nat × Nat}
set_option maxHeartbeats 1000000 in
theorem rg_callV3 {nn lv : Nat} (hRf : nn + lv ≤ R.frames) (hRl : 40 * (nn + lv) ≤ R.locals) (hcb : ∀ b, (cb b).1 ≤ R.cells ∧ (cb b).2 ≤ R.slots) (hx : p.tables.exec = Jvm.exec) (hb : c.code = cc) (hml : c.maxLocals = nL) (hS : rg_S E s) (hD : rg_D E) {Ts : List Cond} (hts : ∀ w ∈ Ts, w.before args s = true) (hTS : ∀ w ∈ rg_TS, w ∈ Ts) {own : String} (hown : s.vm.findClass own = some m.cls)
    {P : rg_P} (hC : ∀ q ∈ P.2.1, q.2.2.1 = 0 → rg_CallOk l own lv q) : ∀ k n T, rg_lk P.2.1 (2 * k + 1) = some (n, 0, T) → ∀ pc L as st w b K, decode cc pc = .ok (.invokevirtual k, 3) → as.length = n → rg_wd st ≤ 8 → T as w K →
      (∀ r w', K r w' → rg_nx P.2.2.2.2.2.1 pc L st b (rg_M p l e R s m args below meth c Q E (rg_A E s.heap.size) nL cb) r w') →
      rg_M p l e R s m args below meth c Q E (rg_A E s.heap.size) nL cb pc L (as.reverse ++ st) w b := by
  intro k n T hk pc L as st w b K hd hn hw8 hT hnx H locs ls hP hSS hL
  rcases hC _ (rg_lk_mem hk) rfl with hCG | ⟨idx, i1, -⟩
  rotate_left
  · dsimp only at i1
    omega
  obtain ⟨y, cc', maxL, ret, lv', idx, n', hG, hd0, hlv, hmx, hcd, hini, hyd, hlk, hkind⟩ := hCG
  dsimp only at hd0 hkind hG
  rcases hkind with ⟨e1, -⟩ | ⟨e1, e2, hin, hsel, hrec⟩
  · omega
  · have e1 : k = idx := by omega
    subst e1
    have hM := hG (nn + lv - 1 - lv') E H.size as w K hT
    obtain ⟨o, ci, fs, T', N, rr, rfl, hlay, hcl⟩ := hrec as w K hT
    have hR : (rg_rm (nn + lv - 1 - lv' + lv')).frames + 1 ≤ R.frames ∧ 8 + (maxL + 11) + (rg_rm (nn + lv - 1 - lv' + lv')).locals ≤ R.locals := by simp only [rg_rm]; omega
    have hGI := rg_goodIn hTS hcd
    have hat : (rg_ws E w)[o]? = some (E.1 o, .inr (ci, fs.mapIdx (rg_fv E (w.1 o)))) := by rw [rg_ws_at, hlay]; rfl
    have hrcv := va_recv hS.1 hP hcl hat
    have hpre : PreV s H y.cls (E.1 o) (rg_Pc E H.size (.ref o :: rr) w) (rr.map (rg_v E.1)) := ⟨rg_blind, hrcv, fun U hU hW => ⟨rfl, by rw [hU], by rw [hU]; exact hP, rg_S_warm hW hS, hD⟩⟩
    have hstack : (F0 m pc ls (((Value.ref o :: rr).reverse ++ st).map (rg_v E.1))).stack = (rr.map (rg_v E.1)).reverse ++ .ref (E.1 o) :: st.map (rg_v E.1) := by simp [rg_v]
    have hW8 : 2 * (F0 m pc ls (((Value.ref o :: rr).reverse ++ st).map (rg_v E.1))).monitorRoom + ((st.map (rg_v E.1)).map fun v => v.category).sum ≤ 8 := lv_room (by rw [rg_wd_eq]; exact hw8)
    have hnl : (rr.map (rg_v E.1)).length = n' := by simp at hn ⊢; omega
    rcases hlk with hlk | ⟨host, hlk⟩
    · refine rg_after (cb := cb) (sz := H.size) (b := b) (b2 := b) (st := st) (a := (Value.ref (E.1 o) :: rr.map (rg_v E.1)).toArray) (mc := 0) (ms := 0) (va_runV ⟨hx, hb, hml, hown, hts⟩ hM ⟨callB_of n' hts hGI rfl rfl rfl (hts _ (hTS _ hini)) (hts _ (hTS _ hlk)) hyd hR, hts _ (hTS _ hin), hts _ (hTS _ hsel)⟩ hpre rfl hnl hL.1 hstack hW8 hd (hcb b)) hSS (rg_A_up hSS.1) hL ⟨Nat.le_refl _, Nat.le_refl _⟩ (fun r w' h1 h2 => rg_nx_pl h1 (hnx r w' h2))
    · refine rg_after (cb := cb) (sz := H.size) (b := b) (b2 := b) (st := st) (a := (Value.ref (E.1 o) :: rr.map (rg_v E.1)).toArray) (mc := 0) (ms := 0) (va_runVN ⟨hx, hb, hml, hown, hts⟩ hM ⟨va_cnB n' hts hGI rfl rfl rfl (hS.2 _ hlk) (hts _ (hTS _ hini)) hyd hR, hts _ (hTS _ hin), hts _ (hTS _ hsel)⟩ hpre rfl hnl hL.1 hstack hW8 hd (hcb b)) hSS (rg_A_up hSS.1) hL ⟨Nat.le_refl _, Nat.le_refl _⟩ (fun r w' h1 h2 => rg_nx_pl h1 (hnx r w' h2))
/-- a wrapper's words -/
def rg_CallW (l : Launch) (own : String) (lv k n : Nat) (T : rg_T) : Prop := ∃ (y : MethodName) (cc : ByteArray) (maxL : Nat) (hk : List rg_Hk) (lv' : Nat),
  rg_GoodW l y cc maxL (some .int) hk lv' T ∧ lv' + 1 ≤ lv ∧ maxL ≤ 21 ∧ Cond.codeWith y cc maxL (some .int) (rg_hh hk) ∈ lw_tbl ∧ Cond.initialized y.cls ∈ rg_TS ∧
  (y.cls ≠ "java/lang/invoke/MethodHandle" ∧ y.cls ≠ "java/lang/invoke/VarHandle" ∧ (parseMethodDescriptor y.desc).map (fun d => d.parameters.length) = some n) ∧ Cond.methodLink own k y ∈ rg_TS ∧ Cond.static y ∈ rg_TS
set_option maxHeartbeats 1000000 in
theorem rg_callW {nn lv : Nat} {sa : Nat → Nat} (hRf : nn + lv ≤ R.frames) (hRl : 40 * (nn + lv) ≤ R.locals) {bm : Nat} (hcb : ∀ b, b + 1 ≤ bm → ((cb b).1 + 1 ≤ R.cells ∧ (cb b).2 + 6 ≤ R.slots) ∧ (cb b).1 + 1 ≤ (cb (b + 1)).1 ∧ (cb b).2 + 6 ≤ (cb (b + 1)).2)
    (hx : p.tables.exec = Jvm.exec) (hb : c.code = cc) (hml : c.maxLocals = nL) (hS : rg_S E s) (hD : rg_D E) (hSX : rg_SX sa (rg_A E s.heap.size) s) (hts : ∀ w ∈ lw_tbl, w.before args s = true) (hTS : ∀ w ∈ rg_TS, w ∈ lw_tbl) {own : String} (hown : s.vm.findClass own = some m.cls)
    {k n : Nat} {T : rg_T} (hC : rg_CallW l own lv k n T) : ∀ pc L as st w b K, decode cc pc = .ok (.invokestatic k, 3) → as.length = n → rg_wd st ≤ 8 → b + 1 ≤ bm → T as w K →
      (∀ r w', K r w' → rg_nx [] pc L st (b + 1) (rg_M p l e R s m args below meth c Q E (rg_A E s.heap.size) nL cb) r w') →
      rg_M p l e R s m args below meth c Q E (rg_A E s.heap.size) nL cb pc L (as.reverse ++ st) w b := by
  intro pc L as st w b K hd hn hw8 hbm hT hnx H locs ls hP hSS hL
  obtain ⟨y, cc', maxL, hk, lv', hG, hlv, hmx, hcd, hini, hyd, hlk, hst⟩ := hC
  have hM := hG (nn + lv - 1 - lv') sa E H.size as w K hT
  have hR : (rg_rmx (nn + lv - 1 - lv' + lv')).frames + 1 ≤ R.frames ∧ 8 + (maxL + 11) + (rg_rmx (nn + lv - 1 - lv' + lv')).locals ≤ R.locals := by simp only [rg_rmx]; omega
  have hGI : GoodIn lw_tbl (Cond.codeWith y cc' maxL (some .int) (rg_hh hk) :: rg_TS) := by
    intro w hw
    rcases List.mem_cons.mp hw with rfl | hw
    · exact ⟨hcd, Or.inl rfl⟩
    · exact ⟨hTS _ hw, good_of_word (rg_TS_ok w hw)⟩
  have hpre : PreS s H (rg_PcX sa E H.size as w) (as.map (rg_v E.1)) := ⟨rg_blindX, fun U hU hW => ⟨⟨rfl, by rw [hU], by rw [hU]; exact hP, rg_S_warm hW hS, hD⟩, rg_SX_warm hW hU hSS hSX⟩⟩
  have hstack : (F0 m pc ls ((as.reverse ++ st).map (rg_v E.1))).stack = (as.map (rg_v E.1)).reverse ++ st.map (rg_v E.1) := by simp
  have hW8 : 2 * (F0 m pc ls ((as.reverse ++ st).map (rg_v E.1))).monitorRoom + ((st.map (rg_v E.1)).map fun v => v.category).sum ≤ 8 := lv_room (by rw [rg_wd_eq]; exact hw8)
  have hlen : ∀ sig, parseMethodDescriptor y.desc = some sig → n = sig.parameters.length := fun sig h => by
    have h2 := hyd.2.2
    rw [h] at h2
    exact (Option.some.inj h2).symm
  have hrun : vx_Run p l e R s m args below meth c H locs (cb b).1 (cb b).2 1 6 (F0 m pc ls ((as.reverse ++ st).map (rg_v E.1))) (st.map (rg_v E.1)) (rg_Qc E (rg_A E H.size) K (as.map (rg_v E.1)).toArray) (fun _ _ _ => False) (rg_A E H.size) := vx_runSX (hh := rg_hh hk) (n := n) ⟨hx, hb, hml, hown, hts⟩ hM ⟨⟨rfl, rfl, hR.1, hR.2, pay_in hts hGI, List.mem_cons_self⟩, hts _ hcd, hts _ (hTS _ hini), ⟨hyd.1, hyd.2.1⟩, hlen, hts _ (hTS _ hlk), hts _ (hTS _ hst)⟩ hpre (g := F0 m pc ls ((as.reverse ++ st).map (rg_v E.1))) rfl (by simpa using hn) hL.1 hstack hW8 hd (hcb b hbm).1
  refine rg_after (cb := cb) (sz := H.size) (b := b) (b2 := b + 1) (st := st) (a := (as.map (rg_v E.1)).toArray) (mc := 1) (ms := 6) (K := K) (fun T hT X => ?_) hSS (rg_A_up hSS.1) hL (hcb b hbm).2 (fun r w' h1 h2 => rg_nx_pl h1 (hnx r w' h2))
  rcases hrun T hT X with h | ⟨_, _, _, _, _, _, _, _, _, _, _, _, h, _⟩
  · exact h
  · exact False.elim h
end
/-- a row of the law's calls -/
def rg_LC (l : Launch) (q : Nat × Nat × Nat × rg_T) : Prop := (∃ k n T, q = (2 * k, n, 1, rg_upT T) ∧ rg_CallW l "ReadGraphLaw" 8 k n T) ∨ (∃ k n T, q = (2 * k + 1, n, 0, rg_upT T) ∧ rg_CallOk l "ReadGraphLaw" 8 (2 * k + 1, n, 0, T))
set_option maxRecDepth 20000 in
theorem lc_L_read (l : Launch) (hl : l.stackTraces = false) : rg_LC l (122, 4, 1, rg_upT T_L_read) :=
  Or.inl ⟨61, 4, T_L_read, rfl, y_L_read, c_L_read, 5, hk_L_read, 7, G_L_read l hl, by decide, by decide, List.mem_append_right _ (by decide +kernel), rg_in rfl (by decide +kernel), ⟨by decide, by decide, by decide +kernel⟩, rg_in rfl (by decide +kernel), rg_in rfl (by decide +kernel)⟩
set_option maxRecDepth 20000 in
theorem lc_M_read (l : Launch) : rg_LC l (133, 3, 0, rg_upT T_M_read) :=
  Or.inr ⟨66, 3, T_M_read, rfl, Or.inl ⟨y_M_read, c_M_read, 6, (some .int), 2, 66, 2, G_M_read l, rfl, by decide, by decide, rg_in rfl (by decide +kernel), rg_in rfl (by decide +kernel), ⟨by decide, by decide, by decide +kernel⟩, Or.inl (rg_in rfl (by decide +kernel)), Or.inr ⟨rfl, rfl, rg_in rfl (by decide +kernel), rg_in rfl (by decide +kernel), fun as w K h => by obtain ⟨r, rfl⟩ := r_M_read as w K h; exact ⟨18, 4, _, Tn_M, 20, r, rfl, rfl, rfl⟩⟩⟩⟩
set_option maxRecDepth 20000 in
theorem lc_M_thrown (l : Launch) : rg_LC l (135, 1, 0, rg_upT T_M_thrown) :=
  Or.inr ⟨67, 1, T_M_thrown, rfl, Or.inl ⟨y_M_thrown, c_M_thrown, 1, (some .int), 0, 67, 0, G_M_thrown l, rfl, by decide, by decide, rg_in rfl (by decide +kernel), rg_in rfl (by decide +kernel), ⟨by decide, by decide, by decide +kernel⟩, Or.inl (rg_in rfl (by decide +kernel)), Or.inr ⟨rfl, rfl, rg_in rfl (by decide +kernel), rg_in rfl (by decide +kernel), fun as w K h => by obtain ⟨r, rfl⟩ := r_M_thrown as w K h; exact ⟨18, 4, _, Tn_M, 20, r, rfl, rfl, rfl⟩⟩⟩⟩
set_option maxRecDepth 20000 in
theorem lc_G_clear (l : Launch) : rg_LC l (141, 1, 0, rg_upT T_G_clear) :=
  Or.inr ⟨70, 1, T_G_clear, rfl, Or.inl ⟨y_G_clear, c_G_clear, 1, none, 2, 70, 0, G_G_clear l, rfl, by decide, by decide, rg_in rfl (by decide +kernel), rg_in rfl (by decide +kernel), ⟨by decide, by decide, by decide +kernel⟩, Or.inl (rg_in rfl (by decide +kernel)), Or.inr ⟨rfl, rfl, rg_in rfl (by decide +kernel), rg_in rfl (by decide +kernel), fun as w K h => by obtain ⟨r, rfl⟩ := r_G_clear as w K h; exact ⟨0, 0, _, Tn_G, 3, r, rfl, rfl, rfl⟩⟩⟩⟩
set_option maxRecDepth 20000 in
theorem lc_M_clear (l : Launch) : rg_LC l (147, 1, 0, rg_upT T_M_clear) :=
  Or.inr ⟨73, 1, T_M_clear, rfl, Or.inl ⟨y_M_clear, c_M_clear, 1, none, 1, 73, 0, G_M_clear l, rfl, by decide, by decide, rg_in rfl (by decide +kernel), rg_in rfl (by decide +kernel), ⟨by decide, by decide, by decide +kernel⟩, Or.inl (rg_in rfl (by decide +kernel)), Or.inr ⟨rfl, rfl, rg_in rfl (by decide +kernel), rg_in rfl (by decide +kernel), fun as w K h => by obtain ⟨r, rfl⟩ := r_M_clear as w K h; exact ⟨18, 4, _, Tn_M, 20, r, rfl, rfl, rfl⟩⟩⟩⟩
set_option maxRecDepth 20000 in
theorem lc_L_letter (l : Launch) (hl : l.stackTraces = false) : rg_LC l (148, 4, 1, rg_upT T_L_letter) :=
  Or.inl ⟨74, 4, T_L_letter, rfl, y_L_letter, c_L_letter, 5, hk_L_letter, 7, G_L_letter l hl, by decide, by decide, List.mem_append_right _ (by decide +kernel), rg_in rfl (by decide +kernel), ⟨by decide, by decide, by decide +kernel⟩, rg_in rfl (by decide +kernel), rg_in rfl (by decide +kernel)⟩
set_option maxRecDepth 20000 in
theorem lc_M_letter (l : Launch) : rg_LC l (153, 3, 0, rg_upT T_M_letter) :=
  Or.inr ⟨76, 3, T_M_letter, rfl, Or.inl ⟨y_M_letter, c_M_letter, 4, (some .int), 1, 76, 2, G_M_letter l, rfl, by decide, by decide, rg_in rfl (by decide +kernel), rg_in rfl (by decide +kernel), ⟨by decide, by decide, by decide +kernel⟩, Or.inl (rg_in rfl (by decide +kernel)), Or.inr ⟨rfl, rfl, rg_in rfl (by decide +kernel), rg_in rfl (by decide +kernel), fun as w K h => by obtain ⟨r, rfl⟩ := r_M_letter as w K h; exact ⟨18, 4, _, Tn_M, 20, r, rfl, rfl, rfl⟩⟩⟩⟩
set_option maxRecDepth 20000 in
theorem lc_L_contained (l : Launch) (hl : l.stackTraces = false) : rg_LC l (154, 3, 1, rg_upT T_L_contained) :=
  Or.inl ⟨77, 3, T_L_contained, rfl, y_L_contained, c_L_contained, 4, hk_L_contained, 7, G_L_contained l hl, by decide, by decide, List.mem_append_right _ (by decide +kernel), rg_in rfl (by decide +kernel), ⟨by decide, by decide, by decide +kernel⟩, rg_in rfl (by decide +kernel), rg_in rfl (by decide +kernel)⟩
set_option maxRecDepth 20000 in
theorem lc_M_contained (l : Launch) : rg_LC l (161, 2, 0, rg_upT T_M_contained) :=
  Or.inr ⟨80, 2, T_M_contained, rfl, Or.inl ⟨y_M_contained, c_M_contained, 2, (some .boolean), 1, 80, 1, G_M_contained l, rfl, by decide, by decide, rg_in rfl (by decide +kernel), rg_in rfl (by decide +kernel), ⟨by decide, by decide, by decide +kernel⟩, Or.inl (rg_in rfl (by decide +kernel)), Or.inr ⟨rfl, rfl, rg_in rfl (by decide +kernel), rg_in rfl (by decide +kernel), fun as w K h => by obtain ⟨r, rfl⟩ := r_M_contained as w K h; exact ⟨18, 4, _, Tn_M, 20, r, rfl, rfl, rfl⟩⟩⟩⟩
set_option maxRecDepth 20000 in
theorem lc_L_overlap (l : Launch) (hl : l.stackTraces = false) : rg_LC l (162, 5, 1, rg_upT T_L_overlap) :=
  Or.inl ⟨81, 5, T_L_overlap, rfl, y_L_overlap, c_L_overlap, 6, hk_L_overlap, 7, G_L_overlap l hl, by decide, by decide, List.mem_append_right _ (by decide +kernel), rg_in rfl (by decide +kernel), ⟨by decide, by decide, by decide +kernel⟩, rg_in rfl (by decide +kernel), rg_in rfl (by decide +kernel)⟩
set_option maxRecDepth 20000 in
theorem lc_M_overlap (l : Launch) : rg_LC l (169, 4, 0, rg_upT T_M_overlap) :=
  Or.inr ⟨84, 4, T_M_overlap, rfl, Or.inl ⟨y_M_overlap, c_M_overlap, 4, (some .int), 2, 84, 3, G_M_overlap l, rfl, by decide, by decide, rg_in rfl (by decide +kernel), rg_in rfl (by decide +kernel), ⟨by decide, by decide, by decide +kernel⟩, Or.inl (rg_in rfl (by decide +kernel)), Or.inr ⟨rfl, rfl, rg_in rfl (by decide +kernel), rg_in rfl (by decide +kernel), fun as w K h => by obtain ⟨r, rfl⟩ := r_M_overlap as w K h; exact ⟨18, 4, _, Tn_M, 20, r, rfl, rfl, rfl⟩⟩⟩⟩
set_option maxRecDepth 20000 in
theorem lc_L_build (l : Launch) (hl : l.stackTraces = false) : rg_LC l (170, 3, 1, rg_upT T_L_build) :=
  Or.inl ⟨85, 3, T_L_build, rfl, y_L_build, c_L_build, 4, hk_L_build, 7, G_L_build l hl, by decide, by decide, List.mem_append_right _ (by decide +kernel), rg_in rfl (by decide +kernel), ⟨by decide, by decide, by decide +kernel⟩, rg_in rfl (by decide +kernel), rg_in rfl (by decide +kernel)⟩
set_option maxRecDepth 20000 in
theorem lc_M_build (l : Launch) : rg_LC l (175, 2, 0, rg_upT T_M_build) :=
  Or.inr ⟨87, 2, T_M_build, rfl, Or.inl ⟨y_M_build, c_M_build, 5, (some .int), 2, 87, 1, G_M_build l, rfl, by decide, by decide, rg_in rfl (by decide +kernel), rg_in rfl (by decide +kernel), ⟨by decide, by decide, by decide +kernel⟩, Or.inl (rg_in rfl (by decide +kernel)), Or.inr ⟨rfl, rfl, rg_in rfl (by decide +kernel), rg_in rfl (by decide +kernel), fun as w K h => by obtain ⟨r, rfl⟩ := r_M_build as w K h; exact ⟨18, 4, _, Tn_M, 20, r, rfl, rfl, rfl⟩⟩⟩⟩
set_option maxRecDepth 20000 in
theorem lc_G_all (l : Launch) : rg_LC l (177, 1, 0, rg_upT T_G_all) :=
  Or.inr ⟨88, 1, T_G_all, rfl, Or.inl ⟨y_G_all, c_G_all, 1, (some .int), 0, 88, 0, G_G_all l, rfl, by decide, by decide, rg_in rfl (by decide +kernel), rg_in rfl (by decide +kernel), ⟨by decide, by decide, by decide +kernel⟩, Or.inl (rg_in rfl (by decide +kernel)), Or.inr ⟨rfl, rfl, rg_in rfl (by decide +kernel), rg_in rfl (by decide +kernel), fun as w K h => by obtain ⟨r, rfl⟩ := r_G_all as w K h; exact ⟨0, 0, _, Tn_G, 3, r, rfl, rfl, rfl⟩⟩⟩⟩
set_option maxRecDepth 20000 in
theorem lc_M_all (l : Launch) : rg_LC l (183, 1, 0, rg_upT T_M_all) :=
  Or.inr ⟨91, 1, T_M_all, rfl, Or.inl ⟨y_M_all, c_M_all, 1, (some .int), 0, 91, 0, G_M_all l, rfl, by decide, by decide, rg_in rfl (by decide +kernel), rg_in rfl (by decide +kernel), ⟨by decide, by decide, by decide +kernel⟩, Or.inl (rg_in rfl (by decide +kernel)), Or.inr ⟨rfl, rfl, rg_in rfl (by decide +kernel), rg_in rfl (by decide +kernel), fun as w K h => by obtain ⟨r, rfl⟩ := r_M_all as w K h; exact ⟨18, 4, _, Tn_M, 20, r, rfl, rfl, rfl⟩⟩⟩⟩
set_option maxRecDepth 20000 in
theorem lc_L_edge (l : Launch) (hl : l.stackTraces = false) : rg_LC l (184, 4, 1, rg_upT T_L_edge) :=
  Or.inl ⟨92, 4, T_L_edge, rfl, y_L_edge, c_L_edge, 5, hk_L_edge, 7, G_L_edge l hl, by decide, by decide, List.mem_append_right _ (by decide +kernel), rg_in rfl (by decide +kernel), ⟨by decide, by decide, by decide +kernel⟩, rg_in rfl (by decide +kernel), rg_in rfl (by decide +kernel)⟩
set_option maxRecDepth 20000 in
theorem lc_M_edge (l : Launch) : rg_LC l (189, 3, 0, rg_upT T_M_edge) :=
  Or.inr ⟨94, 3, T_M_edge, rfl, Or.inl ⟨y_M_edge, c_M_edge, 4, (some .int), 1, 94, 2, G_M_edge l, rfl, by decide, by decide, rg_in rfl (by decide +kernel), rg_in rfl (by decide +kernel), ⟨by decide, by decide, by decide +kernel⟩, Or.inl (rg_in rfl (by decide +kernel)), Or.inr ⟨rfl, rfl, rg_in rfl (by decide +kernel), rg_in rfl (by decide +kernel), fun as w K h => by obtain ⟨r, rfl⟩ := r_M_edge as w K h; exact ⟨18, 4, _, Tn_M, 20, r, rfl, rfl, rfl⟩⟩⟩⟩
set_option maxRecDepth 20000 in
theorem lc_L_way (l : Launch) (hl : l.stackTraces = false) : rg_LC l (190, 4, 1, rg_upT T_L_way) :=
  Or.inl ⟨95, 4, T_L_way, rfl, y_L_way, c_L_way, 5, hk_L_way, 7, G_L_way l hl, by decide, by decide, List.mem_append_right _ (by decide +kernel), rg_in rfl (by decide +kernel), ⟨by decide, by decide, by decide +kernel⟩, rg_in rfl (by decide +kernel), rg_in rfl (by decide +kernel)⟩
set_option maxRecDepth 20000 in
theorem lc_M_way (l : Launch) : rg_LC l (195, 3, 0, rg_upT T_M_way) :=
  Or.inr ⟨97, 3, T_M_way, rfl, Or.inl ⟨y_M_way, c_M_way, 3, (some .boolean), 2, 97, 2, G_M_way l, rfl, by decide, by decide, rg_in rfl (by decide +kernel), rg_in rfl (by decide +kernel), ⟨by decide, by decide, by decide +kernel⟩, Or.inl (rg_in rfl (by decide +kernel)), Or.inr ⟨rfl, rfl, rg_in rfl (by decide +kernel), rg_in rfl (by decide +kernel), fun as w K h => by obtain ⟨r, rfl⟩ := r_M_way as w K h; exact ⟨18, 4, _, Tn_M, 20, r, rfl, rfl, rfl⟩⟩⟩⟩
set_option maxRecDepth 20000 in
theorem lc_G_kind (l : Launch) : rg_LC l (197, 1, 0, rg_upT T_G_kind) :=
  Or.inr ⟨98, 1, T_G_kind, rfl, Or.inl ⟨y_G_kind, c_G_kind, 1, (some .int), 2, 98, 0, G_G_kind l, rfl, by decide, by decide, rg_in rfl (by decide +kernel), rg_in rfl (by decide +kernel), ⟨by decide, by decide, by decide +kernel⟩, Or.inl (rg_in rfl (by decide +kernel)), Or.inr ⟨rfl, rfl, rg_in rfl (by decide +kernel), rg_in rfl (by decide +kernel), fun as w K h => by obtain ⟨r, rfl⟩ := r_G_kind as w K h; exact ⟨0, 0, _, Tn_G, 3, r, rfl, rfl, rfl⟩⟩⟩⟩
set_option maxRecDepth 20000 in
theorem lc_M_kind (l : Launch) : rg_LC l (203, 1, 0, rg_upT T_M_kind) :=
  Or.inr ⟨101, 1, T_M_kind, rfl, Or.inl ⟨y_M_kind, c_M_kind, 5, (some .int), 0, 101, 0, G_M_kind l, rfl, by decide, by decide, rg_in rfl (by decide +kernel), rg_in rfl (by decide +kernel), ⟨by decide, by decide, by decide +kernel⟩, Or.inl (rg_in rfl (by decide +kernel)), Or.inr ⟨rfl, rfl, rg_in rfl (by decide +kernel), rg_in rfl (by decide +kernel), fun as w K h => by obtain ⟨r, rfl⟩ := r_M_kind as w K h; exact ⟨18, 4, _, Tn_M, 20, r, rfl, rfl, rfl⟩⟩⟩⟩
set_option maxRecDepth 20000 in
theorem lc_L_safe (l : Launch) (hl : l.stackTraces = false) : rg_LC l (208, 4, 1, rg_upT T_L_safe) :=
  Or.inl ⟨104, 4, T_L_safe, rfl, y_L_safe, c_L_safe, 6, hk_L_safe, 7, G_L_safe l hl, by decide, by decide, List.mem_append_right _ (by decide +kernel), rg_in rfl (by decide +kernel), ⟨by decide, by decide, by decide +kernel⟩, rg_in rfl (by decide +kernel), rg_in rfl (by decide +kernel)⟩
set_option maxRecDepth 20000 in
theorem lc_M_safe (l : Launch) : rg_LC l (215, 3, 0, rg_upT T_M_safe) :=
  Or.inr ⟨107, 3, T_M_safe, rfl, Or.inl ⟨y_M_safe, c_M_safe, 7, (some .boolean), 2, 107, 2, G_M_safe l, rfl, by decide, by decide, rg_in rfl (by decide +kernel), rg_in rfl (by decide +kernel), ⟨by decide, by decide, by decide +kernel⟩, Or.inl (rg_in rfl (by decide +kernel)), Or.inr ⟨rfl, rfl, rg_in rfl (by decide +kernel), rg_in rfl (by decide +kernel), fun as w K h => by obtain ⟨r, rfl⟩ := r_M_safe as w K h; exact ⟨18, 4, _, Tn_M, 20, r, rfl, rfl, rfl⟩⟩⟩⟩
set_option maxRecDepth 20000 in
theorem lc_L_walks (l : Launch) (hl : l.stackTraces = false) : rg_LC l (216, 2, 1, rg_upT T_L_walks) :=
  Or.inl ⟨108, 2, T_L_walks, rfl, y_L_walks, c_L_walks, 3, hk_L_walks, 7, G_L_walks l hl, by decide, by decide, List.mem_append_right _ (by decide +kernel), rg_in rfl (by decide +kernel), ⟨by decide, by decide, by decide +kernel⟩, rg_in rfl (by decide +kernel), rg_in rfl (by decide +kernel)⟩
set_option maxRecDepth 20000 in
theorem lc_M_walks (l : Launch) : rg_LC l (223, 1, 0, rg_upT T_M_walks) :=
  Or.inr ⟨111, 1, T_M_walks, rfl, Or.inl ⟨y_M_walks, c_M_walks, 2, (some .int), 5, 111, 0, G_M_walks l, rfl, by decide, by decide, rg_in rfl (by decide +kernel), rg_in rfl (by decide +kernel), ⟨by decide, by decide, by decide +kernel⟩, Or.inl (rg_in rfl (by decide +kernel)), Or.inr ⟨rfl, rfl, rg_in rfl (by decide +kernel), rg_in rfl (by decide +kernel), fun as w K h => by obtain ⟨r, rfl⟩ := r_M_walks as w K h; exact ⟨18, 4, _, Tn_M, 20, r, rfl, rfl, rfl⟩⟩⟩⟩
set_option maxRecDepth 20000 in
theorem lc_L_walk (l : Launch) (hl : l.stackTraces = false) : rg_LC l (224, 4, 1, rg_upT T_L_walk) :=
  Or.inl ⟨112, 4, T_L_walk, rfl, y_L_walk, c_L_walk, 5, hk_L_walk, 7, G_L_walk l hl, by decide, by decide, List.mem_append_right _ (by decide +kernel), rg_in rfl (by decide +kernel), ⟨by decide, by decide, by decide +kernel⟩, rg_in rfl (by decide +kernel), rg_in rfl (by decide +kernel)⟩
set_option maxRecDepth 20000 in
theorem lc_M_walk (l : Launch) : rg_LC l (229, 3, 0, rg_upT T_M_walk) :=
  Or.inr ⟨114, 3, T_M_walk, rfl, Or.inl ⟨y_M_walk, c_M_walk, 4, (some .int), 1, 114, 2, G_M_walk l, rfl, by decide, by decide, rg_in rfl (by decide +kernel), rg_in rfl (by decide +kernel), ⟨by decide, by decide, by decide +kernel⟩, Or.inl (rg_in rfl (by decide +kernel)), Or.inr ⟨rfl, rfl, rg_in rfl (by decide +kernel), rg_in rfl (by decide +kernel), fun as w K h => by obtain ⟨r, rfl⟩ := r_M_walk as w K h; exact ⟨18, 4, _, Tn_M, 20, r, rfl, rfl, rfl⟩⟩⟩⟩
set_option maxRecDepth 20000 in
theorem lc_L_spelled (l : Launch) (hl : l.stackTraces = false) : rg_LC l (230, 4, 1, rg_upT T_L_spelled) :=
  Or.inl ⟨115, 4, T_L_spelled, rfl, y_L_spelled, c_L_spelled, 5, hk_L_spelled, 7, G_L_spelled l hl, by decide, by decide, List.mem_append_right _ (by decide +kernel), rg_in rfl (by decide +kernel), ⟨by decide, by decide, by decide +kernel⟩, rg_in rfl (by decide +kernel), rg_in rfl (by decide +kernel)⟩
set_option maxRecDepth 20000 in
theorem lc_M_spelled (l : Launch) : rg_LC l (235, 3, 0, rg_upT T_M_spelled) :=
  Or.inr ⟨117, 3, T_M_spelled, rfl, Or.inl ⟨y_M_spelled, c_M_spelled, 5, (some .int), 1, 117, 2, G_M_spelled l, rfl, by decide, by decide, rg_in rfl (by decide +kernel), rg_in rfl (by decide +kernel), ⟨by decide, by decide, by decide +kernel⟩, Or.inl (rg_in rfl (by decide +kernel)), Or.inr ⟨rfl, rfl, rg_in rfl (by decide +kernel), rg_in rfl (by decide +kernel), fun as w K h => by obtain ⟨r, rfl⟩ := r_M_spelled as w K h; exact ⟨18, 4, _, Tn_M, 20, r, rfl, rfl, rfl⟩⟩⟩⟩
theorem lw_calls (l : Launch) (hl : l.stackTraces = false) : ∀ q ∈ P_L_law.2.1, rg_LC l q := List.forall_mem_cons.mpr ⟨lc_L_read l hl, List.forall_mem_cons.mpr ⟨lc_M_read l, List.forall_mem_cons.mpr ⟨lc_M_thrown l, List.forall_mem_cons.mpr ⟨lc_G_clear l, List.forall_mem_cons.mpr ⟨lc_M_clear l, List.forall_mem_cons.mpr ⟨lc_L_letter l hl, List.forall_mem_cons.mpr ⟨lc_M_letter l, List.forall_mem_cons.mpr ⟨lc_L_contained l hl, List.forall_mem_cons.mpr ⟨lc_M_contained l, List.forall_mem_cons.mpr ⟨lc_L_overlap l hl, List.forall_mem_cons.mpr ⟨lc_M_overlap l, List.forall_mem_cons.mpr ⟨lc_L_build l hl, List.forall_mem_cons.mpr ⟨lc_M_build l, List.forall_mem_cons.mpr ⟨lc_G_all l, List.forall_mem_cons.mpr ⟨lc_M_all l, List.forall_mem_cons.mpr ⟨lc_L_edge l hl, List.forall_mem_cons.mpr ⟨lc_M_edge l, List.forall_mem_cons.mpr ⟨lc_L_way l hl, List.forall_mem_cons.mpr ⟨lc_M_way l, List.forall_mem_cons.mpr ⟨lc_G_kind l, List.forall_mem_cons.mpr ⟨lc_M_kind l, List.forall_mem_cons.mpr ⟨lc_L_safe l hl, List.forall_mem_cons.mpr ⟨lc_M_safe l, List.forall_mem_cons.mpr ⟨lc_L_walks l hl, List.forall_mem_cons.mpr ⟨lc_M_walks l, List.forall_mem_cons.mpr ⟨lc_L_walk l hl, List.forall_mem_cons.mpr ⟨lc_M_walk l, List.forall_mem_cons.mpr ⟨lc_L_spelled l hl, List.forall_mem_cons.mpr ⟨lc_M_spelled l, List.forall_mem_nil _⟩⟩⟩⟩⟩⟩⟩⟩⟩⟩⟩⟩⟩⟩⟩⟩⟩⟩⟩⟩⟩⟩⟩⟩⟩⟩⟩⟩⟩
