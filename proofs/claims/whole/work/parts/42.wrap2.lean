/-! static methods with a table: their contract -/
/-- a call of a method that throws: its words -/
def rg_CallX (l : Launch) (own : String) (lv : Nat) (q : Nat × Nat × Nat × rg_T) : Prop := ∃ (y : MethodName) (cc : ByteArray) (maxL : Nat) (ret : Option FieldType) (lv' idx n : Nat),
  rg_GoodX l y cc maxL ret lv' q.2.2.2 ∧ q.2.2.1 = 1 ∧ lv' + 1 ≤ lv ∧ maxL ≤ 21 ∧ Cond.code y cc maxL ret ∈ rg_TS ∧ Cond.initialized y.cls ∈ rg_TS ∧
  (y.cls ≠ "java/lang/invoke/MethodHandle" ∧ y.cls ≠ "java/lang/invoke/VarHandle" ∧ (parseMethodDescriptor y.desc).map (fun d => d.parameters.length) = some n) ∧
  Cond.methodLink own idx y ∈ rg_TS ∧ q.1 = 2 * idx + 1 ∧ q.2.1 = n + 1 ∧ Cond.instanceMethod y ∈ rg_TS ∧ Cond.selects y.cls y y ∈ rg_TS ∧ ∀ as w K, q.2.2.2 as w K → ∃ o ci fs T N r, as = .ref o :: r ∧ rg_lay[o]? = some (.inr (ci, fs)) ∧ rg_cl[ci]? = some (y.cls, T, N)
section
variable {p : Program} {l : Launch} {e : Env} {R : Room} {s : State} {m : MethodId} {args : Array Value} {below : List Frame} {meth : Method} {c : Code} {Q : State → Prop} {cc : ByteArray} {E : rg_E} {nL : Nat} {cb : Nat → Nat × Nat}
set_option maxHeartbeats 1000000 in
theorem rg_callX {nn lv : Nat} {sa : Nat → Nat} {hk : List rg_Hk} (htab : c.exceptionTable.toList = hk.map rg_ent) (hRf : R.frames = nn + lv) (hRl : 40 * (nn + lv) ≤ R.locals) {bm : Nat} (hcb : ∀ b, b + 1 ≤ bm → ((cb b).1 + 1 ≤ R.cells ∧ (cb b).2 + 6 ≤ R.slots) ∧ (cb b).1 + 1 ≤ (cb (b + 1)).1 ∧ (cb b).2 + 6 ≤ (cb (b + 1)).2)
    (hx : p.tables.exec = Jvm.exec) (hb : c.code = cc) (hml : c.maxLocals = nL) (hS : rg_S E s) (hD : rg_D E) (hSX : rg_SX sa (rg_A E s.heap.size) s) {Ts : List Cond} (hts : ∀ w ∈ Ts, w.before args s = true) (hTS : ∀ w ∈ rg_TS, w ∈ Ts) {own : String} (hown : s.vm.findClass own = some m.cls)
    {k n : Nat} {T : rg_T} (hC : rg_CallX l own lv (2 * k + 1, n, 1, T)) : ∀ pc L as st w b K, (∀ r ∈ hk, rg_HkOk own pc r) → decode cc pc = .ok (.invokevirtual k, 3) → as.length = n → rg_wd st ≤ 8 → b + 1 ≤ bm → T as w K →
      (∀ r w', K r w' → rg_nx (rg_hd hk) pc L st (b + 1) (rg_M p l e R s m args below meth c Q E (rg_A E s.heap.size) nL cb) r w') →
      rg_M p l e R s m args below meth c Q E (rg_A E s.heap.size) nL cb pc L (as.reverse ++ st) w b := by
  intro pc L as st w b K hok hd hn hw8 hbm hT hnx H locs ls hP hSS hL
  obtain ⟨y, cc', maxL, ret, lv', idx, n', hG, -, hlv, hmx, hcd, hini, hyd, hlk, e1, e2, hin, hsel, hrec⟩ := hC
  dsimp only at e1 e2 hG hrec
  obtain rfl : k = idx := by omega
  have hM := hG (nn + lv - 1 - lv') sa E H.size as w K hT
  obtain ⟨o, ci, fs, T', N, rr, rfl, hlay, hcl⟩ := hrec as w K hT
  have hR : (rg_rmx (nn + lv - 1 - lv' + lv')).frames + 1 ≤ R.frames ∧ 8 + (maxL + 11) + (rg_rmx (nn + lv - 1 - lv' + lv')).locals ≤ R.locals := by simp only [rg_rmx]; omega
  have hGI := rg_goodIn hTS hcd
  have hat : (rg_ws E w)[o]? = some (E.1 o, .inr (ci, fs.mapIdx (rg_fv E (w.1 o)))) := by rw [rg_ws_at, hlay]; rfl
  have hrcv := va_recv hS.1 hP hcl hat
  have hpre : PreV s H y.cls (E.1 o) (rg_PcX sa E H.size (.ref o :: rr) w) (rr.map (rg_v E.1)) := ⟨rg_blindX, hrcv, fun U hU hW => ⟨⟨rfl, by rw [hU], by rw [hU]; exact hP, rg_S_warm hW hS, hD⟩, rg_SX_warm hW hU hSS hSX⟩⟩
  have hstack : (F0 m pc ls (((Value.ref o :: rr).reverse ++ st).map (rg_v E.1))).stack = (rr.map (rg_v E.1)).reverse ++ .ref (E.1 o) :: st.map (rg_v E.1) := by simp [rg_v]
  have hW8 : 2 * (F0 m pc ls (((Value.ref o :: rr).reverse ++ st).map (rg_v E.1))).monitorRoom + ((st.map (rg_v E.1)).map fun v => v.category).sum ≤ 8 := lv_room (by rw [rg_wd_eq]; exact hw8)
  have hnl : (rr.map (rg_v E.1)).length = n' := by simp at hn ⊢; omega
  refine rg_afterX (cb := cb) (sz := H.size) (b := b) (b2 := b + 1) (st := st) (a := (Value.ref (E.1 o) :: rr.map (rg_v E.1)).toArray) htab hts hTS hown hSX hok (vx_runV ⟨hx, hb, hml, hown, hts⟩ hM ⟨callB_of n' hts hGI rfl rfl rfl (hts _ (hTS _ hini)) (hts _ (hTS _ hlk)) hyd hR, hts _ (hTS _ hin), hts _ (hTS _ hsel)⟩ hpre rfl hnl hL.1 hstack hW8 hd (hcb b hbm).1) hSS (rg_A_up hSS.1) hL (hcb b hbm).2 hnx
end
/-- static method y with the table hk keeps contract T -/
def rg_GoodW (l : Launch) (y : MethodName) (cc : ByteArray) (maxL : Nat) (ret : Option FieldType) (hk : List rg_Hk) (lv : Nat) (T : rg_T) : Prop :=
  ∀ (n : Nat) (sa : Nat → Nat) (E : rg_E) (sz : Nat) (as : List Value) (w : rg_W) (K : Option Value → rg_W → Prop), T as w K →
    vx_Met l y (Cond.codeWith y cc maxL ret (rg_hh hk) :: rg_TS) (rg_rmx (n + lv)) (rg_PcX sa E sz as w) (rg_Qc E (rg_A E sz) K) (fun _ _ _ => False) 1 6 (rg_A E sz)
def rg_cb1 (b : Nat) : Nat × Nat := (min b 1, 6 * min b 1)
/-- a contract, for every weaker end -/
def rg_upT (TG : rg_T) : rg_T := fun as w K => ∃ K0 : Option Value → rg_W → Prop, TG as w K0 ∧ ∀ r w', K0 r w' → K r w'
set_option maxHeartbeats 1000000 in
theorem rg_goodW_of {l : Launch} {y : MethodName} {cc : ByteArray} {maxL : Nat} {ret : Option FieldType} {hk : List rg_Hk} {lv k n cpc : Nat} {TG T : rg_T} (hy : plainName y.cls = true) (hC : rg_CallX l y.cls lv (2 * k + 1, n, 1, TG)) (hok : ∀ r ∈ hk, rg_HkOk y.cls cpc r) (hpc : ∀ pc, decode cc pc = .ok (.invokevirtual k, 3) → pc = cpc)
    (body : ∀ (as : List Value) (w : rg_W) (K : Option Value → rg_W → Prop) (Z : rg_Go), T as w K → (∀ (cut : Nat → Bool) (n' : Nat) (pc : Nat) (L st : List Value) (w : rg_W), rg_run ([], [(2 * k + 1, n, 1, rg_upT TG)], [], [], [], rg_hd hk, 1) none cc cut Z (rg_rt ret K) true n' pc L st w 0 → Z pc L st w 0) → rg_sz as ≤ maxL ∧ Z 0 (rg_loc maxL as) [] w 0) :
    rg_GoodW l y cc maxL ret hk lv T := by
  intro nn sa E sz as w K hT
  refine vx_ofWH (cc := cc) (maxL := maxL) (ret := ret) (hh := rg_hh hk) hy rfl ?_
  intro p e s m args below meth c s₁ B hml hv
  obtain ⟨⟨rfl, rfl, hPw, hS, hD⟩, hSX⟩ := hv
  have hx := B.exec
  have hb := B.bytes
  have hr := B.returns
  have hts := atoms_spec (ws := Cond.codeWith y cc maxL ret (rg_hh hk) :: rg_TS) B.pre
  have hTS : ∀ w ∈ rg_TS, w ∈ Cond.codeWith y cc maxL ret (rg_hh hk) :: rg_TS := fun w hw => List.mem_cons_of_mem _ hw
  have hown : s.vm.findClass y.cls = some m.cls := findClass_of_methodNamed B.named
  have htab : c.exceptionTable.toList = hk.map rg_ent := by rw [← rg_tab]; exact vx_table (x := y) B (hts _ List.mem_cons_self)
  have hRf : (rg_rmx (nn + lv)).frames = nn + lv := rfl
  have hRl : 40 * (nn + lv) ≤ (rg_rmx (nn + lv)).locals := Nat.le_refl _
  have hcb : ∀ b, b + 1 ≤ 1 → ((rg_cb1 b).1 + 1 ≤ (rg_rmx (nn + lv)).cells ∧ (rg_cb1 b).2 + 6 ≤ (rg_rmx (nn + lv)).slots) ∧ (rg_cb1 b).1 + 1 ≤ (rg_cb1 (b + 1)).1 ∧ (rg_cb1 b).2 + 6 ≤ (rg_cb1 (b + 1)).2 := fun b hb => by
    obtain rfl : b = 0 := by omega
    exact ⟨⟨Nat.le_refl _, Nat.le_refl _⟩, Nat.le_refl _, Nat.le_refl _⟩
  have hc1 : ∀ b, (rg_cb1 b).1 ≤ 1 ∧ (rg_cb1 b).2 ≤ 6 := fun b => by unfold rg_cb1; dsimp only; omega
  have hclose : ∀ (cut : Nat → Bool) (n' : Nat) (pc : Nat) (L st : List Value) (w : rg_W), rg_run ([], [(2 * k + 1, n, 1, rg_upT TG)], [], [], [], rg_hd hk, 1) none cc cut (rg_M p l e (rg_rmx (nn + lv)) s m (as.map (rg_v E.1)).toArray below meth c (vx_MQ below (rg_Qc E (rg_A E s.heap.size) K) (fun _ _ _ => False) (as.map (rg_v E.1)).toArray s 1 6 (rg_A E s.heap.size)) E (rg_A E s.heap.size) maxL rg_cb1) (rg_rt ret K) true n' pc L st w 0 → rg_M p l e (rg_rmx (nn + lv)) s m (as.map (rg_v E.1)).toArray below meth c (vx_MQ below (rg_Qc E (rg_A E s.heap.size) K) (fun _ _ _ => False) (as.map (rg_v E.1)).toArray s 1 6 (rg_A E s.heap.size)) E (rg_A E s.heap.size) maxL rg_cb1 pc L st w 0 := by
    intro cut n' pc L st w h
    refine rg_close (fun go hgo => ?_) cut n' true pc L st w 0 h
    intro i len pc L st w b
    refine rg_sound (rt := rg_rt ret K) hx hb hS.1 (fun w => rg_D_va hD w) ?_ ?_ ?_ ?_ ?_ ?_ ?_ ?_ ?_ ?_ (fun N xs z => by cases z) hgo
    · intro k' q o v pc L r w b hk'
      cases hk'
    · intro k' q o v pc L r w b hk'
      cases hk'
    · intro k' v pc L st w b hk'
      cases hk'
    · intro k' v pc L st w b hk'
      cases hk'
    · intro k' v pc L st w b hk'
      cases hk'
    · intro k' n1 d1 T1 hk' pc L as st w b K' hd
      exfalso
      have := rg_lk_mem hk'
      rw [List.mem_singleton] at this
      have := congrArg Prod.fst this
      dsimp only at this
      omega
    · intro k' n1 d1 T1 hk' pc L as st w b K' hd hn hw hbm hT hnx
      have := rg_lk_mem hk'
      rw [List.mem_singleton] at this
      have e0 := congrArg Prod.fst this
      dsimp only at e0
      obtain rfl : k' = k := by omega
      have e1 := congrArg Prod.snd this
      cases e1
      have hb1 : b + 1 ≤ 1 := by
        rcases hbm with z | z
        · cases z
        · exact z
      obtain rfl := hpc pc hd
      obtain ⟨K0, hT0, hup⟩ := hT
      exact rg_callX htab hRf hRl hcb hx hb hml hS hD hSX hts hTS hown hC _ L as st w b K0 hok hd hn hw hb1 hT0 (fun r w' h => hnx r w' (hup r w' h))
    · intro k' x pc L st w b hk'
      cases hk'
    · intro x pc L w b hd h H locs ls hP hSS hL
      obtain ⟨⟨ty, h1, h2⟩, h3⟩ := h
      exact vx_ret (W.widen (hc1 b).1 (hc1 b).2 (W.zret hx hb (hr.trans h1) h2 (fun t ht _ => ⟨⟨some (.int x), w, rfl, trivial, h3, by rw [ht]; exact hP⟩, hSS.F ht⟩) hSS.2.2 hd))
    · intro pc L w b hd h H locs ls hP hSS hL
      obtain ⟨h1, h3⟩ := h
      exact vx_ret (W.widen (hc1 b).1 (hc1 b).2 (W.vret hx hb (hr.trans h1) (fun t ht _ => ⟨⟨none, w, rfl, trivial, h3, by rw [ht]; exact hP⟩, hSS.F ht⟩) hSS.2.2 hd))
  obtain ⟨hsz, hbody⟩ := body as w K _ hT hclose
  have hl := lv_entry (as.map (rg_v E.1)) (n := maxL) (by rw [rg_sz_sl]; exact hsz)
  rw [lg_entry_eq]
  refine hbody s.heap [] _ hPw va_S.rf ⟨hl.1, hl.2.1, rg_loc_len as maxL hsz, fun i v h1 h2 => ?_⟩
  have := hl.2.2 _ (rg_loc_mem E.1 as maxL 0 i v h1 h2)
  rw [Nat.zero_add] at this
  exact this
