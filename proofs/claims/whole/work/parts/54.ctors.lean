/-! constructors -/
def rg_ai (c : ClassId) (n : Nat) : va_E := .inl (c, n, .inl (fun _ => 0))
def rg_al (c : ClassId) (n : Nat) : va_E := .inl (c, n, .inr (.inl (fun _ => 0)))
theorem rg_D1 {a sz : Nat} {e : va_E} : va_D (fun q => q = a ∨ sz ≤ q) [(a, e)] := by
  refine ⟨fun i j p q hi hj _ => ?_, fun k q hk => ?_⟩
  · have h1 : i < 1 := (List.getElem?_eq_some_iff.mp hi).1
    have h2 : j < 1 := (List.getElem?_eq_some_iff.mp hj).1
    omega
  · have h1 : k < 1 := (List.getElem?_eq_some_iff.mp hk).1
    obtain rfl : k = 0 := by omega
    cases hk
    exact Or.inl rfl
section
variable {p : Program} {l : Launch} {e : Env} {R : Room} {s : State} {m : MethodId} {args : Array Value} {below : List Frame} {meth : Method} {c : Code} {Q : State → Prop} {cc : ByteArray} {E : rg_E} {A : Nat → Prop}
/-- field k of the object being made gets a new array -/
theorem rg_fld (hx : p.tables.exec = Jvm.exec) (hb : c.code = cc) {Ts : List Cond} (hts : ∀ w ∈ Ts, w.before args s = true) (hTS : ∀ w ∈ rg_TS, w ∈ Ts) {own : String} (hown : s.vm.findClass own = some m.cls) (hin : meth.name = "<init>") (hK : va_K E.2.2 rg_cl (rg_tys E) s) (hA : ∀ q, s.heap.size ≤ q → A q)
    {ci N a : Nat} {T : u_T} {fs : List Value} {ws : va_W} {H : Heap} {locs : List Loc} {ls : Array Slot} {cells slots pc : Nat} (hcl : rg_cl[ci]? = some (own, T, N)) (hP : va_P E.2.2 rg_cl ((a, .inr (ci, fs)) :: ws) H) (hD : va_D A ((a, .inr (ci, fs)) :: ws)) (hS : va_S A s.heap H locs)
    (k index : Nat) (hk : k < N) (hkl : k < fs.length) {atype : ArrayType} {ty fty : FieldType} {cA : ClassId} (t : Nat) (ht : (rg_tys E)[t]? = some (cA, ty)) (hty : newarray.typeOf atype = ty) (hra : ∀ c, va_RA s c ty → s.vm.findClass ("[" ++ ty.toString) = some c) (harr : Cond.arrayClass ty ∈ rg_TS)
    {n : Int32} {N' : Nat} {a0 : vp_A} (ha : ∀ cA : ClassId, vp_cell cA a0 = arrV cA N' (fun _ => defaultValue ty)) (hn : ¬ n < 0) (hN : n.toNatClampNeg = N') (hbytes : N' * componentBytes ty ≤ 536870912) (hcells : cells + 1 ≤ R.cells) (hslots : slots + N' ≤ R.slots)
    (hlink : Cond.fieldLink own index (T k).1 (T k).2.1 (T k).2.2.1 ∈ rg_TS) (hfin : (T k).2.2.2 = true) (hdecl : (T k).1 = own) (hfd : parseFieldDescriptor (T k).2.2.1 = some fty) (hnf : ∀ q, narrow fty (.ref q) = .ref q) (hff : ∀ q, fits fty (.ref q) = true)
    (d1 : decode cc pc = .ok (.newarray atype, 2)) (d2 : decode cc (pc + 2) = .ok (.putfield index, 3))
    (kk : ∀ (q : Nat) (H1 : Heap) (locs1 : List Loc), va_P E.2.2 rg_cl ((a, .inr (ci, fs.set k (.ref q))) :: (ws ++ [(q, .inl (cA, a0))])) H1 → va_D A ((a, .inr (ci, fs.set k (.ref q))) :: (ws ++ [(q, .inl (cA, a0))])) → va_S A s.heap H1 locs1 → W p l e R s m args below meth c H1 locs1 (cells + 1) (slots + N') Q (F0 m (pc + 5) ls [])) :
    W p l e R s m args below meth c H locs cells slots Q (F0 m pc ls [.int n, .ref a]) := by
  refine va_newa hx hb (by rw [hty]; exact hts _ (hTS _ harr)) hty hK hP hD hS hA ha hn hN hbytes hcells hslots d1 (fun q cA1 H1 hK1 hP1 hD1 hS1 => ?_)
  have e1 := hra _ (hK1.2 3 (cA1, ty) rfl).2
  have e2 := hra _ (hK.2 t _ ht).2
  obtain rfl : cA1 = cA := Option.some.inj (e1.symm.trans e2)
  obtain ⟨g1, ty0, g2, g3⟩ := rg_cls_ok ci own T N hcl
  refine va_putF (ci := ci) hx hb hts (fun w hw => hTS w (g1 w hw)) ty0 g2 g3 hown hK hP1 hD1 hS1 0 rfl hcl k hk (hts _ (hTS _ hlink)) (fun _ z => z) hfin hin hdecl hfd (hnf q) (hff q) hkl d2 (fun H2 locs2 hP2 hD2 hS2 => ?_)
  exact kk q H2 locs2 hP2 hD2 hS2
end
/-- a constructor's contract: behind it the object and what it made are the cells B -/
def rg_Ini (l : Launch) (y : MethodName) (cc : ByteArray) (maxL lv : Nat) (E : rg_E) (As : List Value) (ci : Nat) (fs : List Value) (nc ns : Nat) (B : Nat → va_W → Prop) : Prop :=
  ∀ (a sz : Nat), Met l y (rg_wsOf y cc maxL none) { frames := lv, cells := nc, slots := ns, locals := 40 * lv }
    (fun v U => v = (Value.ref a :: As).toArray ∧ U.heap.size = sz ∧ va_P E.2.2 rg_cl [(a, .inr (ci, fs))] U.heap ∧ rg_S E U)
    (va_Qv (B a) (fun ws t => va_P E.2.2 rg_cl ws t.heap ∧ va_D (fun q => q = a ∨ sz ≤ q) ws) (fun q => q = a ∨ sz ≤ q)) nc ns (fun q => q = a ∨ sz ≤ q)
section
variable {p : Program} {l : Launch} {e : Env} {R : Room} {s : State} {m : MethodId} {args : Array Value} {below : List Frame} {meth : Method} {c : Code} {Q : State → Prop} {cc : ByteArray} {E : rg_E} {A : Nat → Prop}
set_option maxHeartbeats 1000000 in
/-- a constructor is called on a new object -/
theorem rg_iniC (hx : p.tables.exec = Jvm.exec) (hb : c.code = cc) {nL : Nat} (hml : c.maxLocals = nL) (hS0 : rg_S E s) {Ts : List Cond} (hts : ∀ w ∈ Ts, w.before args s = true) (hTS : ∀ w ∈ rg_TS, w ∈ Ts) {own : String} (hown : s.vm.findClass own = some m.cls) (hA : ∀ q, s.heap.size ≤ q → A q)
    {y : MethodName} {bytes : ByteArray} {maxL lv nc ns ci n index : Nat} {As fs : List Value} {B : Nat → va_W → Prop} (hI : rg_Ini l y bytes maxL lv E As ci fs nc ns B) (hyn : y.name = "<init>") (hcd : Cond.code y bytes maxL none ∈ rg_TS) (hini : Cond.initialized y.cls ∈ rg_TS) (hyd : y.cls ≠ "java/lang/invoke/MethodHandle" ∧ y.cls ≠ "java/lang/invoke/VarHandle" ∧ (parseMethodDescriptor y.desc).map (fun d => d.parameters.length) = some n) (hinst : Cond.instanceMethod y ∈ rg_TS)
    (hlk : Cond.methodLink own index y ∈ rg_TS ∨ ∃ host, Cond.methodLinkNest own index y host ∈ rg_NW) (hR : lv + 1 ≤ R.frames ∧ 8 + (maxL + 11) + 40 * lv ≤ R.locals)
    {wsG : va_W} {q : Nat} {H : Heap} {locs : List Loc} {ls : Array Slot} {rest st0 : List Value} {cells slots pc : Nat} (hls : ls.size = nL) (hn : As.length = n) (hP : va_P E.2.2 rg_cl (wsG ++ [(q, .inr (ci, fs))]) H) (hD : va_D A (wsG ++ [(q, .inr (ci, fs))])) (hS : va_S A s.heap H locs) (hw : (rest.map fun v => v.category).sum ≤ 8) (hd : decode cc pc = .ok (.invokespecial index, 3)) (hf : cells + nc ≤ R.cells ∧ slots + ns ≤ R.slots) (hst : st0 = As.reverse ++ .ref q :: rest)
    (kk : ∀ (ws1 : va_W) (H1 : Heap) (locs1 : List Loc), B q ws1 → va_P E.2.2 rg_cl (wsG ++ ws1) H1 → va_D A (wsG ++ ws1) → va_S A s.heap H1 locs1 → W p l e R s m args below meth c H1 locs1 (cells + nc) (slots + ns) Q (F0 m (pc + 3) ls rest)) : W p l e R s m args below meth c H locs cells slots Q (F0 m pc ls st0) := by
  subst hst
  have hlast : (wsG ++ [(q, (.inr (ci, fs) : va_E))])[wsG.length]? = some (q, .inr (ci, fs)) := by simp
  have hq : A q := hD.2 wsG.length _ hlast
  have hPq : va_P E.2.2 rg_cl [(q, .inr (ci, fs))] H := by
    intro k z hz
    have h1 : k < 1 := (List.getElem?_eq_some_iff.mp hz).1
    obtain rfl : k = 0 := by omega
    cases hz
    exact hP wsG.length _ hlast
  have hF : ∀ z, (z = q ∨ H.size ≤ z) → A z := fun z h => by
    rcases h with rfl | h
    · exact hq
    · exact hA _ (Nat.le_trans hS.1 h)
  have hGI := rg_goodIn hTS hcd
  have hM := hI q H.size
  have hpre : PreS s H (fun v U => v = (Value.ref q :: As).toArray ∧ U.heap.size = H.size ∧ va_P E.2.2 rg_cl [(q, .inr (ci, fs))] U.heap ∧ rg_S E U) (.ref q :: As) := ⟨fun a U g mk h => ⟨h.1, h.2.1, h.2.2.1, rg_S_same (u := U) (U := U.calling g mk a) rfl h.2.2.2⟩, fun U hU hW => ⟨rfl, by rw [hU], by rw [hU]; exact hPq, rg_S_warm hW hS0⟩⟩
  have old : ∀ (k : Nat) (z : Nat × va_E), wsG[k]? = some z → (wsG ++ [(q, (.inr (ci, fs) : va_E))])[k]? = some z := fun k z hz => by
    rw [List.getElem?_append_left (List.getElem?_eq_some_iff.mp hz).1]
    exact hz
  have far : ∀ (k : Nat) (z : Nat × va_E), wsG[k]? = some z → z.1 < H.size ∧ z.1 ≠ q := fun k z hz => by
    refine ⟨(hP k z (old k z hz)).lt, fun e => ?_⟩
    have h1 := hD.1 k wsG.length z _ (old k z hz) hlast e
    have h2 := (List.getElem?_eq_some_iff.mp hz).1
    omega
  have fin : va_Run p l e R s m args below meth c H locs cells slots nc ns (F0 m pc ls (As.reverse ++ .ref q :: rest)) rest (va_Qv (B q) (fun ws t => va_P E.2.2 rg_cl ws t.heap ∧ va_D (fun z => z = q ∨ H.size ≤ z) ws) (fun z => z = q ∨ H.size ≤ z) (Value.ref q :: As).toArray) (fun z => z = q ∨ H.size ≤ z) := by
    rcases hlk with hlk | ⟨host, hlk⟩
    · exact va_runI ⟨hx, hb, hml, hown, hts⟩ hM ⟨callB_of n hts hGI rfl rfl rfl (hts _ (hTS _ hini)) (hts _ (hTS _ hlk)) hyd hR, hyn, hts _ (hTS _ hinst)⟩ hpre rfl hn hls rfl (lv_room hw) hd hf
    · exact va_runIN ⟨hx, hb, hml, hown, hts⟩ hM ⟨va_cnB n hts hGI rfl rfl rfl (hS0.2 _ hlk) (hts _ (hTS _ hini)) hyd hR, hyn, hts _ (hTS _ hinst)⟩ hpre rfl hn hls rfl (lv_room hw) hd hf
  refine va_callv fin hS (fun z _ h => hF z h) hF (fun ws1 t H1 locs1 ht hvm hB hW hsz hkeep hS1 => ?_)
  obtain ⟨hP1, hD1⟩ := hW
  rw [ht] at hP1
  have hPG : va_P E.2.2 rg_cl wsG H := fun k z hz => hP k z (old k z hz)
  have hDG : va_D A wsG := ⟨fun i j x y hi hj e => hD.1 i j x y (old i x hi) (old j y hj) e, fun k z hz => hD.2 k z (old k z hz)⟩
  refine kk ws1 H1 locs1 hB ((hPG.kept (fun k z hz => hkeep _ (far k z hz).1 (fun h => ?_))).app hP1) (va_D.app hDG (hD1.weaken (fun k z _ h => hF _ h)) (fun i j x y hi hj e => ?_)) hS1
  · have := far k z hz
    rcases h with h | h
    · exact this.2 h
    · omega
  · have h1 := far i x hi
    have h2 := hD1.2 j y hj
    rcases h2 with h2 | h2
    · exact h1.2 (e.trans h2)
    · omega
end
def B_R (E : rg_E) (a : Nat) (ws : va_W) : Prop := ∃ q0 q1 : Nat, ws = [(a, .inr (1, [.ref q0, .ref q1, .int 0])), (q0, rg_ai E.2.1.1 9), (q1, rg_ai E.2.1.1 9)]
set_option maxHeartbeats 4000000 in
set_option maxRecDepth 100000 in
theorem I_R (l : Launch) (E : rg_E) : rg_Ini l y_R_init c_R_init 1 1 E [] 1 [.null, .null, .int 0] 2 18 (B_R E) := by
  intro a sz
  refine Met.ofW (cc := c_R_init) (maxL := 1) (ret := none) (by decide) rfl ?_
  intro p e s m args below meth c s₁ B hml hv
  obtain ⟨rfl, rfl, hP, hS0⟩ := hv
  have hx := B.exec
  have hb := B.bytes
  have hr := B.returns
  have hts := atoms_spec (ws := rg_wsOf y_R_init c_R_init 1 none) B.pre
  have hTS : ∀ w ∈ rg_TS, w ∈ rg_wsOf y_R_init c_R_init 1 none := fun w hw => List.mem_cons_of_mem _ hw
  have hown : s.vm.findClass "ReadGraph$Reads" = some m.cls := findClass_of_methodNamed B.named
  have hlocks := B.notSynchronized
  have hin : meth.name = "<init>" := (name_of_methodNamed B.named B.method).1
  have hD : va_D (fun q => q = a ∨ s.heap.size ≤ q) [(a, (.inr (1, [.null, .null, .int 0]) : va_E))] := rg_D1
  have hA : ∀ q : Nat, s.heap.size ≤ q → (fun q => q = a ∨ s.heap.size ≤ q) q := fun q h => Or.inr h
  have hS : va_S (fun q => q = a ∨ s.heap.size ≤ q) s.heap s.heap [] := va_S.rf
  have hl := lv_entry ([Value.ref a]) (n := 1) (Nat.le_of_ble_eq_true rfl)
  rw [lg_entry_eq]
  generalize (lg_sl ([Value.ref a]) ++ List.replicate (1 - (lg_sl ([Value.ref a])).length) Slot.unset).toArray = ls at hl ⊢
  have hl : lv_has ls 1 [(0, .ref a)] := hl
  have h0 : ls[0]? = some (.val (.ref a)) := lv_at hl 0 rfl
  skip
  refine lv_aload_n hx hb d_R_init_0 rfl h0 ?_
  refine W.objInit hx hb hown (hts (Cond.methodLink "ReadGraph$Reads" 3 Lib.objectInit) (hTS _ (rg_in rfl (by decide +kernel)))) (hts (Cond.instanceMethod Lib.objectInit) (hTS _ (rg_in rfl (by decide +kernel)))) (hts (Cond.code Lib.objectInit ⟨#[0xb1]⟩ 1 none) (hTS _ (rg_in rfl (by decide +kernel)))) rfl (by rw [hml]; exact hl.1) rfl d_R_init_1 (Nat.le_of_ble_eq_true rfl) (Nat.le_of_ble_eq_true rfl) ?_
  refine W.eq (g2 := F0 m 4 ls []) rfl ?_
  refine lv_aload_n hx hb d_R_init_4 rfl h0 ?_
  refine lv_bipush hx hb d_R_init_5 rfl ?_
  refine rg_fld hx hb hts hTS hown hin hS0.1 hA (ci := 1) (N := 3) (T := Tn_R) rfl hP hD hS 0 9 (by decide) (Nat.le_of_ble_eq_true rfl) (ty := .int) (fty := .array .int) 0 rfl rfl (fun _ h => h) (rg_in rfl (by decide +kernel)) (a0 := (9, .inl (fun _ => 0))) (N' := 9) (fun _ => rfl) (by decide +kernel) (by decide +kernel) (by decide) (Nat.le_of_ble_eq_true rfl) (Nat.le_of_ble_eq_true rfl) (rg_in rfl (by decide +kernel)) rfl rfl (by decide +kernel) (fun _ => rfl) (fun _ => rfl) d_R_init_7 d_R_init_9 (fun q0 H locs hP hD hS => ?_)
  refine lv_aload_n hx hb d_R_init_12 rfl h0 ?_
  refine lv_bipush hx hb d_R_init_13 rfl ?_
  refine rg_fld hx hb hts hTS hown hin hS0.1 hA (ci := 1) (N := 3) (T := Tn_R) rfl hP hD hS 1 15 (by decide) (Nat.le_of_ble_eq_true rfl) (ty := .int) (fty := .array .int) 0 rfl rfl (fun _ h => h) (rg_in rfl (by decide +kernel)) (a0 := (9, .inl (fun _ => 0))) (N' := 9) (fun _ => rfl) (by decide +kernel) (by decide +kernel) (by decide) (Nat.le_of_ble_eq_true rfl) (Nat.le_of_ble_eq_true rfl) (rg_in rfl (by decide +kernel)) rfl rfl (by decide +kernel) (fun _ => rfl) (fun _ => rfl) d_R_init_15 d_R_init_17 (fun q1 H locs hP hD hS => ?_)
  exact W.vret hx hb hr (fun t ht hW => ⟨⟨_, rfl, ⟨q0, q1, rfl⟩, by rw [ht]; exact hP, hD⟩, hS.F ht⟩) hS.2.2 d_R_init_20
def B_E (E : rg_E) (a : Nat) (ws : va_W) : Prop := ∃ q0 q1 q2 q3 q4 q5 q6 q7 : Nat, ws = [(a, .inr (2, [.ref q0, .ref q1, .ref q2, .ref q3, .ref q4, .ref q5, .ref q6, .ref q7, .int 0, .int 0, .int 0])), (q0, rg_ai E.2.1.1 81), (q1, rg_ai E.2.1.1 72), (q2, rg_ai E.2.1.1 72), (q3, rg_ai E.2.1.1 72), (q4, rg_ai E.2.1.1 10), (q5, rg_ai E.2.1.1 9), (q6, rg_ai E.2.1.1 9), (q7, rg_ai E.2.1.1 9)]
set_option maxHeartbeats 4000000 in
set_option maxRecDepth 100000 in
theorem I_E (l : Launch) (E : rg_E) : rg_Ini l y_E_init c_E_init 1 1 E [] 2 [.null, .null, .null, .null, .null, .null, .null, .null, .int 0, .int 0, .int 0] 8 334 (B_E E) := by
  intro a sz
  refine Met.ofW (cc := c_E_init) (maxL := 1) (ret := none) (by decide) rfl ?_
  intro p e s m args below meth c s₁ B hml hv
  obtain ⟨rfl, rfl, hP, hS0⟩ := hv
  have hx := B.exec
  have hb := B.bytes
  have hr := B.returns
  have hts := atoms_spec (ws := rg_wsOf y_E_init c_E_init 1 none) B.pre
  have hTS : ∀ w ∈ rg_TS, w ∈ rg_wsOf y_E_init c_E_init 1 none := fun w hw => List.mem_cons_of_mem _ hw
  have hown : s.vm.findClass "ReadGraph$Edges" = some m.cls := findClass_of_methodNamed B.named
  have hlocks := B.notSynchronized
  have hin : meth.name = "<init>" := (name_of_methodNamed B.named B.method).1
  have hD : va_D (fun q => q = a ∨ s.heap.size ≤ q) [(a, (.inr (2, [.null, .null, .null, .null, .null, .null, .null, .null, .int 0, .int 0, .int 0]) : va_E))] := rg_D1
  have hA : ∀ q : Nat, s.heap.size ≤ q → (fun q => q = a ∨ s.heap.size ≤ q) q := fun q h => Or.inr h
  have hS : va_S (fun q => q = a ∨ s.heap.size ≤ q) s.heap s.heap [] := va_S.rf
  have hl := lv_entry ([Value.ref a]) (n := 1) (Nat.le_of_ble_eq_true rfl)
  rw [lg_entry_eq]
  generalize (lg_sl ([Value.ref a]) ++ List.replicate (1 - (lg_sl ([Value.ref a])).length) Slot.unset).toArray = ls at hl ⊢
  have hl : lv_has ls 1 [(0, .ref a)] := hl
  have h0 : ls[0]? = some (.val (.ref a)) := lv_at hl 0 rfl
  skip
  refine lv_aload_n hx hb d_E_init_0 rfl h0 ?_
  refine W.objInit hx hb hown (hts (Cond.methodLink "ReadGraph$Edges" 3 Lib.objectInit) (hTS _ (rg_in rfl (by decide +kernel)))) (hts (Cond.instanceMethod Lib.objectInit) (hTS _ (rg_in rfl (by decide +kernel)))) (hts (Cond.code Lib.objectInit ⟨#[0xb1]⟩ 1 none) (hTS _ (rg_in rfl (by decide +kernel)))) rfl (by rw [hml]; exact hl.1) rfl d_E_init_1 (Nat.le_of_ble_eq_true rfl) (Nat.le_of_ble_eq_true rfl) ?_
  refine W.eq (g2 := F0 m 4 ls []) rfl ?_
  refine lv_aload_n hx hb d_E_init_4 rfl h0 ?_
  refine lv_bipush hx hb d_E_init_5 rfl ?_
  refine rg_fld hx hb hts hTS hown hin hS0.1 hA (ci := 2) (N := 11) (T := Tn_E) rfl hP hD hS 0 9 (by decide) (Nat.le_of_ble_eq_true rfl) (ty := .int) (fty := .array .int) 0 rfl rfl (fun _ h => h) (rg_in rfl (by decide +kernel)) (a0 := (81, .inl (fun _ => 0))) (N' := 81) (fun _ => rfl) (by decide +kernel) (by decide +kernel) (by decide) (Nat.le_of_ble_eq_true rfl) (Nat.le_of_ble_eq_true rfl) (rg_in rfl (by decide +kernel)) rfl rfl (by decide +kernel) (fun _ => rfl) (fun _ => rfl) d_E_init_7 d_E_init_9 (fun q0 H locs hP hD hS => ?_)
  refine lv_aload_n hx hb d_E_init_12 rfl h0 ?_
  refine lv_bipush hx hb d_E_init_13 rfl ?_
  refine rg_fld hx hb hts hTS hown hin hS0.1 hA (ci := 2) (N := 11) (T := Tn_E) rfl hP hD hS 1 15 (by decide) (Nat.le_of_ble_eq_true rfl) (ty := .int) (fty := .array .int) 0 rfl rfl (fun _ h => h) (rg_in rfl (by decide +kernel)) (a0 := (72, .inl (fun _ => 0))) (N' := 72) (fun _ => rfl) (by decide +kernel) (by decide +kernel) (by decide) (Nat.le_of_ble_eq_true rfl) (Nat.le_of_ble_eq_true rfl) (rg_in rfl (by decide +kernel)) rfl rfl (by decide +kernel) (fun _ => rfl) (fun _ => rfl) d_E_init_15 d_E_init_17 (fun q1 H locs hP hD hS => ?_)
  refine lv_aload_n hx hb d_E_init_20 rfl h0 ?_
  refine lv_bipush hx hb d_E_init_21 rfl ?_
  refine rg_fld hx hb hts hTS hown hin hS0.1 hA (ci := 2) (N := 11) (T := Tn_E) rfl hP hD hS 2 18 (by decide) (Nat.le_of_ble_eq_true rfl) (ty := .int) (fty := .array .int) 0 rfl rfl (fun _ h => h) (rg_in rfl (by decide +kernel)) (a0 := (72, .inl (fun _ => 0))) (N' := 72) (fun _ => rfl) (by decide +kernel) (by decide +kernel) (by decide) (Nat.le_of_ble_eq_true rfl) (Nat.le_of_ble_eq_true rfl) (rg_in rfl (by decide +kernel)) rfl rfl (by decide +kernel) (fun _ => rfl) (fun _ => rfl) d_E_init_23 d_E_init_25 (fun q2 H locs hP hD hS => ?_)
  refine lv_aload_n hx hb d_E_init_28 rfl h0 ?_
  refine lv_bipush hx hb d_E_init_29 rfl ?_
  refine rg_fld hx hb hts hTS hown hin hS0.1 hA (ci := 2) (N := 11) (T := Tn_E) rfl hP hD hS 3 21 (by decide) (Nat.le_of_ble_eq_true rfl) (ty := .int) (fty := .array .int) 0 rfl rfl (fun _ h => h) (rg_in rfl (by decide +kernel)) (a0 := (72, .inl (fun _ => 0))) (N' := 72) (fun _ => rfl) (by decide +kernel) (by decide +kernel) (by decide) (Nat.le_of_ble_eq_true rfl) (Nat.le_of_ble_eq_true rfl) (rg_in rfl (by decide +kernel)) rfl rfl (by decide +kernel) (fun _ => rfl) (fun _ => rfl) d_E_init_31 d_E_init_33 (fun q3 H locs hP hD hS => ?_)
  refine lv_aload_n hx hb d_E_init_36 rfl h0 ?_
  refine lv_bipush hx hb d_E_init_37 rfl ?_
  refine rg_fld hx hb hts hTS hown hin hS0.1 hA (ci := 2) (N := 11) (T := Tn_E) rfl hP hD hS 4 24 (by decide) (Nat.le_of_ble_eq_true rfl) (ty := .int) (fty := .array .int) 0 rfl rfl (fun _ h => h) (rg_in rfl (by decide +kernel)) (a0 := (10, .inl (fun _ => 0))) (N' := 10) (fun _ => rfl) (by decide +kernel) (by decide +kernel) (by decide) (Nat.le_of_ble_eq_true rfl) (Nat.le_of_ble_eq_true rfl) (rg_in rfl (by decide +kernel)) rfl rfl (by decide +kernel) (fun _ => rfl) (fun _ => rfl) d_E_init_39 d_E_init_41 (fun q4 H locs hP hD hS => ?_)
  refine lv_aload_n hx hb d_E_init_44 rfl h0 ?_
  refine lv_bipush hx hb d_E_init_45 rfl ?_
  refine rg_fld hx hb hts hTS hown hin hS0.1 hA (ci := 2) (N := 11) (T := Tn_E) rfl hP hD hS 5 27 (by decide) (Nat.le_of_ble_eq_true rfl) (ty := .int) (fty := .array .int) 0 rfl rfl (fun _ h => h) (rg_in rfl (by decide +kernel)) (a0 := (9, .inl (fun _ => 0))) (N' := 9) (fun _ => rfl) (by decide +kernel) (by decide +kernel) (by decide) (Nat.le_of_ble_eq_true rfl) (Nat.le_of_ble_eq_true rfl) (rg_in rfl (by decide +kernel)) rfl rfl (by decide +kernel) (fun _ => rfl) (fun _ => rfl) d_E_init_47 d_E_init_49 (fun q5 H locs hP hD hS => ?_)
  refine lv_aload_n hx hb d_E_init_52 rfl h0 ?_
  refine lv_bipush hx hb d_E_init_53 rfl ?_
  refine rg_fld hx hb hts hTS hown hin hS0.1 hA (ci := 2) (N := 11) (T := Tn_E) rfl hP hD hS 6 30 (by decide) (Nat.le_of_ble_eq_true rfl) (ty := .int) (fty := .array .int) 0 rfl rfl (fun _ h => h) (rg_in rfl (by decide +kernel)) (a0 := (9, .inl (fun _ => 0))) (N' := 9) (fun _ => rfl) (by decide +kernel) (by decide +kernel) (by decide) (Nat.le_of_ble_eq_true rfl) (Nat.le_of_ble_eq_true rfl) (rg_in rfl (by decide +kernel)) rfl rfl (by decide +kernel) (fun _ => rfl) (fun _ => rfl) d_E_init_55 d_E_init_57 (fun q6 H locs hP hD hS => ?_)
  refine lv_aload_n hx hb d_E_init_60 rfl h0 ?_
  refine lv_bipush hx hb d_E_init_61 rfl ?_
  refine rg_fld hx hb hts hTS hown hin hS0.1 hA (ci := 2) (N := 11) (T := Tn_E) rfl hP hD hS 7 33 (by decide) (Nat.le_of_ble_eq_true rfl) (ty := .int) (fty := .array .int) 0 rfl rfl (fun _ h => h) (rg_in rfl (by decide +kernel)) (a0 := (9, .inl (fun _ => 0))) (N' := 9) (fun _ => rfl) (by decide +kernel) (by decide +kernel) (by decide) (Nat.le_of_ble_eq_true rfl) (Nat.le_of_ble_eq_true rfl) (rg_in rfl (by decide +kernel)) rfl rfl (by decide +kernel) (fun _ => rfl) (fun _ => rfl) d_E_init_63 d_E_init_65 (fun q7 H locs hP hD hS => ?_)
  exact W.vret hx hb hr (fun t ht hW => ⟨⟨_, rfl, ⟨q0, q1, q2, q3, q4, q5, q6, q7, rfl⟩, by rw [ht]; exact hP, hD⟩, hS.F ht⟩) hS.2.2 d_E_init_68
def B_W (E : rg_E) (x : Nat) (a : Nat) (ws : va_W) : Prop := ∃ q0 q1 q2 q3 : Nat, ws = [(a, .inr (3, [.ref x, .ref q0, .ref q1, .int 0, .ref q2, .ref q3, .int 0])), (q0, rg_ai E.2.1.1 2000), (q1, rg_ai E.2.1.1 50), (q2, rg_ai E.2.1.1 40), (q3, rg_ai E.2.1.1 40)]
set_option maxHeartbeats 4000000 in
set_option maxRecDepth 100000 in
theorem I_W (l : Launch) (E : rg_E) (x : Nat) : rg_Ini l y_W_init c_W_init 2 1 E [.ref x] 3 [.null, .null, .null, .int 0, .null, .null, .int 0] 4 2130 (B_W E x) := by
  intro a sz
  refine Met.ofW (cc := c_W_init) (maxL := 2) (ret := none) (by decide) rfl ?_
  intro p e s m args below meth c s₁ B hml hv
  obtain ⟨rfl, rfl, hP, hS0⟩ := hv
  have hx := B.exec
  have hb := B.bytes
  have hr := B.returns
  have hts := atoms_spec (ws := rg_wsOf y_W_init c_W_init 2 none) B.pre
  have hTS : ∀ w ∈ rg_TS, w ∈ rg_wsOf y_W_init c_W_init 2 none := fun w hw => List.mem_cons_of_mem _ hw
  have hown : s.vm.findClass "ReadGraph$Walks" = some m.cls := findClass_of_methodNamed B.named
  have hlocks := B.notSynchronized
  have hin : meth.name = "<init>" := (name_of_methodNamed B.named B.method).1
  have hD : va_D (fun q => q = a ∨ s.heap.size ≤ q) [(a, (.inr (3, [.null, .null, .null, .int 0, .null, .null, .int 0]) : va_E))] := rg_D1
  have hA : ∀ q : Nat, s.heap.size ≤ q → (fun q => q = a ∨ s.heap.size ≤ q) q := fun q h => Or.inr h
  have hS : va_S (fun q => q = a ∨ s.heap.size ≤ q) s.heap s.heap [] := va_S.rf
  have hl := lv_entry ([Value.ref a, .ref x]) (n := 2) (Nat.le_of_ble_eq_true rfl)
  rw [lg_entry_eq]
  generalize (lg_sl ([Value.ref a, .ref x]) ++ List.replicate (2 - (lg_sl ([Value.ref a, .ref x])).length) Slot.unset).toArray = ls at hl ⊢
  have hl : lv_has ls 2 [(0, .ref a), (1, .ref x)] := hl
  have h0 : ls[0]? = some (.val (.ref a)) := lv_at hl 0 rfl
  have h1 : ls[1]? = some (.val (.ref x)) := lv_at hl 1 rfl
  refine lv_aload_n hx hb d_W_init_0 rfl h0 ?_
  refine W.objInit hx hb hown (hts (Cond.methodLink "ReadGraph$Walks" 3 Lib.objectInit) (hTS _ (rg_in rfl (by decide +kernel)))) (hts (Cond.instanceMethod Lib.objectInit) (hTS _ (rg_in rfl (by decide +kernel)))) (hts (Cond.code Lib.objectInit ⟨#[0xb1]⟩ 1 none) (hTS _ (rg_in rfl (by decide +kernel)))) rfl (by rw [hml]; exact hl.1) rfl d_W_init_1 (Nat.le_of_ble_eq_true rfl) (Nat.le_of_ble_eq_true rfl) ?_
  refine W.eq (g2 := F0 m 4 ls []) rfl ?_
  refine lv_aload_n hx hb d_W_init_4 rfl h0 ?_
  refine lv_sipush hx hb d_W_init_5 rfl ?_
  refine rg_fld hx hb hts hTS hown hin hS0.1 hA (ci := 3) (N := 7) (T := Tn_W) rfl hP hD hS 1 9 (by decide) (Nat.le_of_ble_eq_true rfl) (ty := .int) (fty := .array .int) 0 rfl rfl (fun _ h => h) (rg_in rfl (by decide +kernel)) (a0 := (2000, .inl (fun _ => 0))) (N' := 2000) (fun _ => rfl) (by decide +kernel) (by decide +kernel) (by decide) (Nat.le_of_ble_eq_true rfl) (Nat.le_of_ble_eq_true rfl) (rg_in rfl (by decide +kernel)) rfl rfl (by decide +kernel) (fun _ => rfl) (fun _ => rfl) d_W_init_8 d_W_init_10 (fun q0 H locs hP hD hS => ?_)
  refine lv_aload_n hx hb d_W_init_13 rfl h0 ?_
  refine lv_bipush hx hb d_W_init_14 rfl ?_
  refine rg_fld hx hb hts hTS hown hin hS0.1 hA (ci := 3) (N := 7) (T := Tn_W) rfl hP hD hS 2 15 (by decide) (Nat.le_of_ble_eq_true rfl) (ty := .int) (fty := .array .int) 0 rfl rfl (fun _ h => h) (rg_in rfl (by decide +kernel)) (a0 := (50, .inl (fun _ => 0))) (N' := 50) (fun _ => rfl) (by decide +kernel) (by decide +kernel) (by decide) (Nat.le_of_ble_eq_true rfl) (Nat.le_of_ble_eq_true rfl) (rg_in rfl (by decide +kernel)) rfl rfl (by decide +kernel) (fun _ => rfl) (fun _ => rfl) d_W_init_16 d_W_init_18 (fun q1 H locs hP hD hS => ?_)
  refine lv_aload_n hx hb d_W_init_21 rfl h0 ?_
  refine lv_bipush hx hb d_W_init_22 rfl ?_
  refine rg_fld hx hb hts hTS hown hin hS0.1 hA (ci := 3) (N := 7) (T := Tn_W) rfl hP hD hS 4 18 (by decide) (Nat.le_of_ble_eq_true rfl) (ty := .int) (fty := .array .int) 0 rfl rfl (fun _ h => h) (rg_in rfl (by decide +kernel)) (a0 := (40, .inl (fun _ => 0))) (N' := 40) (fun _ => rfl) (by decide +kernel) (by decide +kernel) (by decide) (Nat.le_of_ble_eq_true rfl) (Nat.le_of_ble_eq_true rfl) (rg_in rfl (by decide +kernel)) rfl rfl (by decide +kernel) (fun _ => rfl) (fun _ => rfl) d_W_init_24 d_W_init_26 (fun q2 H locs hP hD hS => ?_)
  refine lv_aload_n hx hb d_W_init_29 rfl h0 ?_
  refine lv_bipush hx hb d_W_init_30 rfl ?_
  refine rg_fld hx hb hts hTS hown hin hS0.1 hA (ci := 3) (N := 7) (T := Tn_W) rfl hP hD hS 5 21 (by decide) (Nat.le_of_ble_eq_true rfl) (ty := .int) (fty := .array .int) 0 rfl rfl (fun _ h => h) (rg_in rfl (by decide +kernel)) (a0 := (40, .inl (fun _ => 0))) (N' := 40) (fun _ => rfl) (by decide +kernel) (by decide +kernel) (by decide) (Nat.le_of_ble_eq_true rfl) (Nat.le_of_ble_eq_true rfl) (rg_in rfl (by decide +kernel)) rfl rfl (by decide +kernel) (fun _ => rfl) (fun _ => rfl) d_W_init_32 d_W_init_34 (fun q3 H locs hP hD hS => ?_)
  refine lv_aload_n hx hb d_W_init_37 rfl h0 ?_
  refine lv_aload_n hx hb d_W_init_38 rfl h1 ?_
  refine va_putF (ci := 3) (v := .ref x) (ty := .object "ReadGraph$Edges") (C := Rn_W) (T := Tn_W) (N := 7) hx hb hts (fun w hw => hTS w (us_W w hw)) ty_W ty_W_ok nm_W hown hS0.1 hP hD hS 0 rfl rfl 0 (by decide) (hts (Cond.fieldLink "ReadGraph$Walks" 24 "ReadGraph$Walks" "edges" "LReadGraph$Edges;") (hTS _ (rg_in rfl (by decide +kernel)))) (fun _ z => z) rfl hin rfl (by decide +kernel) rfl rfl (Nat.le_of_ble_eq_true rfl) d_W_init_39 (fun H locs hP hD hS => ?_)
  exact W.vret hx hb hr (fun t ht hW => ⟨⟨_, rfl, ⟨q0, q1, q2, q3, rfl⟩, by rw [ht]; exact hP, hD⟩, hS.F ht⟩) hS.2.2 d_W_init_42
def B_M (E : rg_E) (a : Nat) (ws : va_W) : Prop := ∃ q0 q1 q2 q3 q4 q5 q6 q7 q8 q9 q10 q11 q12 q13 q14 : Nat, ws = [(a, .inr (4, [.int 0, .int 0, .ref q0, .ref q1, .ref q2, .int 0, .ref q3, .ref q4, .ref q5, .int 0, .ref q6, .ref q7, .ref q8, .ref q9, .ref q10, .ref q11, .ref q12, .int 0, .ref q13, .ref q14])), (q0, rg_ai E.2.1.1 9), (q1, rg_ai E.2.1.1 108), (q2, rg_ai E.2.1.2.1 9), (q3, rg_ai E.2.1.1 81), (q4, rg_ai E.2.1.1 81), (q5, rg_ai E.2.1.1 81), (q6, rg_ai E.2.1.1 81), (q7, rg_ai E.2.1.1 81), (q8, rg_ai E.2.1.1 81), (q9, rg_ai E.2.1.2.1 81), (q10, rg_ai E.2.1.1 6561), (q11, rg_ai E.2.1.1 44), (q12, rg_ai E.2.1.1 44), (q13, rg_ai E.2.1.1 50), (q14, rg_ai E.2.1.1 2000)]
set_option maxHeartbeats 4000000 in
set_option maxRecDepth 100000 in
theorem I_M (l : Launch) (E : rg_E) : rg_Ini l y_M_init c_M_init 1 1 E [] 4 [.int 0, .int 0, .null, .null, .null, .int 0, .null, .null, .null, .int 0, .null, .null, .null, .null, .null, .null, .null, .int 0, .null, .null] 15 9392 (B_M E) := by
  intro a sz
  refine Met.ofW (cc := c_M_init) (maxL := 1) (ret := none) (by decide) rfl ?_
  intro p e s m args below meth c s₁ B hml hv
  obtain ⟨rfl, rfl, hP, hS0⟩ := hv
  have hx := B.exec
  have hb := B.bytes
  have hr := B.returns
  have hts := atoms_spec (ws := rg_wsOf y_M_init c_M_init 1 none) B.pre
  have hTS : ∀ w ∈ rg_TS, w ∈ rg_wsOf y_M_init c_M_init 1 none := fun w hw => List.mem_cons_of_mem _ hw
  have hown : s.vm.findClass "ReadGraphModel" = some m.cls := findClass_of_methodNamed B.named
  have hlocks := B.notSynchronized
  have hin : meth.name = "<init>" := (name_of_methodNamed B.named B.method).1
  have hD : va_D (fun q => q = a ∨ s.heap.size ≤ q) [(a, (.inr (4, [.int 0, .int 0, .null, .null, .null, .int 0, .null, .null, .null, .int 0, .null, .null, .null, .null, .null, .null, .null, .int 0, .null, .null]) : va_E))] := rg_D1
  have hA : ∀ q : Nat, s.heap.size ≤ q → (fun q => q = a ∨ s.heap.size ≤ q) q := fun q h => Or.inr h
  have hS : va_S (fun q => q = a ∨ s.heap.size ≤ q) s.heap s.heap [] := va_S.rf
  have hl := lv_entry ([Value.ref a]) (n := 1) (Nat.le_of_ble_eq_true rfl)
  rw [lg_entry_eq]
  generalize (lg_sl ([Value.ref a]) ++ List.replicate (1 - (lg_sl ([Value.ref a])).length) Slot.unset).toArray = ls at hl ⊢
  have hl : lv_has ls 1 [(0, .ref a)] := hl
  have h0 : ls[0]? = some (.val (.ref a)) := lv_at hl 0 rfl
  skip
  refine lv_aload_n hx hb d_M_init_0 rfl h0 ?_
  refine W.objInit hx hb hown (hts (Cond.methodLink "ReadGraphModel" 1 Lib.objectInit) (hTS _ (rg_in rfl (by decide +kernel)))) (hts (Cond.instanceMethod Lib.objectInit) (hTS _ (rg_in rfl (by decide +kernel)))) (hts (Cond.code Lib.objectInit ⟨#[0xb1]⟩ 1 none) (hTS _ (rg_in rfl (by decide +kernel)))) rfl (by rw [hml]; exact hl.1) rfl d_M_init_1 (Nat.le_of_ble_eq_true rfl) (Nat.le_of_ble_eq_true rfl) ?_
  refine W.eq (g2 := F0 m 4 ls []) rfl ?_
  refine lv_aload_n hx hb d_M_init_4 rfl h0 ?_
  refine lv_bipush hx hb d_M_init_5 rfl ?_
  refine rg_fld hx hb hts hTS hown hin hS0.1 hA (ci := 4) (N := 20) (T := Tn_M) rfl hP hD hS 2 7 (by decide) (Nat.le_of_ble_eq_true rfl) (ty := .int) (fty := .array .int) 0 rfl rfl (fun _ h => h) (rg_in rfl (by decide +kernel)) (a0 := (9, .inl (fun _ => 0))) (N' := 9) (fun _ => rfl) (by decide +kernel) (by decide +kernel) (by decide) (Nat.le_of_ble_eq_true rfl) (Nat.le_of_ble_eq_true rfl) (rg_in rfl (by decide +kernel)) rfl rfl (by decide +kernel) (fun _ => rfl) (fun _ => rfl) d_M_init_7 d_M_init_9 (fun q0 H locs hP hD hS => ?_)
  refine lv_aload_n hx hb d_M_init_12 rfl h0 ?_
  refine lv_bipush hx hb d_M_init_13 rfl ?_
  refine rg_fld hx hb hts hTS hown hin hS0.1 hA (ci := 4) (N := 20) (T := Tn_M) rfl hP hD hS 3 13 (by decide) (Nat.le_of_ble_eq_true rfl) (ty := .int) (fty := .array .int) 0 rfl rfl (fun _ h => h) (rg_in rfl (by decide +kernel)) (a0 := (108, .inl (fun _ => 0))) (N' := 108) (fun _ => rfl) (by decide +kernel) (by decide +kernel) (by decide) (Nat.le_of_ble_eq_true rfl) (Nat.le_of_ble_eq_true rfl) (rg_in rfl (by decide +kernel)) rfl rfl (by decide +kernel) (fun _ => rfl) (fun _ => rfl) d_M_init_15 d_M_init_17 (fun q1 H locs hP hD hS => ?_)
  refine lv_aload_n hx hb d_M_init_20 rfl h0 ?_
  refine lv_bipush hx hb d_M_init_21 rfl ?_
  refine rg_fld hx hb hts hTS hown hin hS0.1 hA (ci := 4) (N := 20) (T := Tn_M) rfl hP hD hS 4 16 (by decide) (Nat.le_of_ble_eq_true rfl) (ty := .boolean) (fty := .array .boolean) 1 rfl rfl (fun _ h => h) (rg_in rfl (by decide +kernel)) (a0 := (9, .inl (fun _ => 0))) (N' := 9) (fun _ => rfl) (by decide +kernel) (by decide +kernel) (by decide) (Nat.le_of_ble_eq_true rfl) (Nat.le_of_ble_eq_true rfl) (rg_in rfl (by decide +kernel)) rfl rfl (by decide +kernel) (fun _ => rfl) (fun _ => rfl) d_M_init_23 d_M_init_25 (fun q2 H locs hP hD hS => ?_)
  refine lv_aload_n hx hb d_M_init_28 rfl h0 ?_
  refine lv_bipush hx hb d_M_init_29 rfl ?_
  refine rg_fld hx hb hts hTS hown hin hS0.1 hA (ci := 4) (N := 20) (T := Tn_M) rfl hP hD hS 6 20 (by decide) (Nat.le_of_ble_eq_true rfl) (ty := .int) (fty := .array .int) 0 rfl rfl (fun _ h => h) (rg_in rfl (by decide +kernel)) (a0 := (81, .inl (fun _ => 0))) (N' := 81) (fun _ => rfl) (by decide +kernel) (by decide +kernel) (by decide) (Nat.le_of_ble_eq_true rfl) (Nat.le_of_ble_eq_true rfl) (rg_in rfl (by decide +kernel)) rfl rfl (by decide +kernel) (fun _ => rfl) (fun _ => rfl) d_M_init_31 d_M_init_33 (fun q3 H locs hP hD hS => ?_)
  refine lv_aload_n hx hb d_M_init_36 rfl h0 ?_
  refine lv_bipush hx hb d_M_init_37 rfl ?_
  refine rg_fld hx hb hts hTS hown hin hS0.1 hA (ci := 4) (N := 20) (T := Tn_M) rfl hP hD hS 7 23 (by decide) (Nat.le_of_ble_eq_true rfl) (ty := .int) (fty := .array .int) 0 rfl rfl (fun _ h => h) (rg_in rfl (by decide +kernel)) (a0 := (81, .inl (fun _ => 0))) (N' := 81) (fun _ => rfl) (by decide +kernel) (by decide +kernel) (by decide) (Nat.le_of_ble_eq_true rfl) (Nat.le_of_ble_eq_true rfl) (rg_in rfl (by decide +kernel)) rfl rfl (by decide +kernel) (fun _ => rfl) (fun _ => rfl) d_M_init_39 d_M_init_41 (fun q4 H locs hP hD hS => ?_)
  refine lv_aload_n hx hb d_M_init_44 rfl h0 ?_
  refine lv_bipush hx hb d_M_init_45 rfl ?_
  refine rg_fld hx hb hts hTS hown hin hS0.1 hA (ci := 4) (N := 20) (T := Tn_M) rfl hP hD hS 8 26 (by decide) (Nat.le_of_ble_eq_true rfl) (ty := .int) (fty := .array .int) 0 rfl rfl (fun _ h => h) (rg_in rfl (by decide +kernel)) (a0 := (81, .inl (fun _ => 0))) (N' := 81) (fun _ => rfl) (by decide +kernel) (by decide +kernel) (by decide) (Nat.le_of_ble_eq_true rfl) (Nat.le_of_ble_eq_true rfl) (rg_in rfl (by decide +kernel)) rfl rfl (by decide +kernel) (fun _ => rfl) (fun _ => rfl) d_M_init_47 d_M_init_49 (fun q5 H locs hP hD hS => ?_)
  refine lv_aload_n hx hb d_M_init_52 rfl h0 ?_
  refine lv_bipush hx hb d_M_init_53 rfl ?_
  refine rg_fld hx hb hts hTS hown hin hS0.1 hA (ci := 4) (N := 20) (T := Tn_M) rfl hP hD hS 10 29 (by decide) (Nat.le_of_ble_eq_true rfl) (ty := .int) (fty := .array .int) 0 rfl rfl (fun _ h => h) (rg_in rfl (by decide +kernel)) (a0 := (81, .inl (fun _ => 0))) (N' := 81) (fun _ => rfl) (by decide +kernel) (by decide +kernel) (by decide) (Nat.le_of_ble_eq_true rfl) (Nat.le_of_ble_eq_true rfl) (rg_in rfl (by decide +kernel)) rfl rfl (by decide +kernel) (fun _ => rfl) (fun _ => rfl) d_M_init_55 d_M_init_57 (fun q6 H locs hP hD hS => ?_)
  refine lv_aload_n hx hb d_M_init_60 rfl h0 ?_
  refine lv_bipush hx hb d_M_init_61 rfl ?_
  refine rg_fld hx hb hts hTS hown hin hS0.1 hA (ci := 4) (N := 20) (T := Tn_M) rfl hP hD hS 11 32 (by decide) (Nat.le_of_ble_eq_true rfl) (ty := .int) (fty := .array .int) 0 rfl rfl (fun _ h => h) (rg_in rfl (by decide +kernel)) (a0 := (81, .inl (fun _ => 0))) (N' := 81) (fun _ => rfl) (by decide +kernel) (by decide +kernel) (by decide) (Nat.le_of_ble_eq_true rfl) (Nat.le_of_ble_eq_true rfl) (rg_in rfl (by decide +kernel)) rfl rfl (by decide +kernel) (fun _ => rfl) (fun _ => rfl) d_M_init_63 d_M_init_65 (fun q7 H locs hP hD hS => ?_)
  refine lv_aload_n hx hb d_M_init_68 rfl h0 ?_
  refine lv_bipush hx hb d_M_init_69 rfl ?_
  refine rg_fld hx hb hts hTS hown hin hS0.1 hA (ci := 4) (N := 20) (T := Tn_M) rfl hP hD hS 12 35 (by decide) (Nat.le_of_ble_eq_true rfl) (ty := .int) (fty := .array .int) 0 rfl rfl (fun _ h => h) (rg_in rfl (by decide +kernel)) (a0 := (81, .inl (fun _ => 0))) (N' := 81) (fun _ => rfl) (by decide +kernel) (by decide +kernel) (by decide) (Nat.le_of_ble_eq_true rfl) (Nat.le_of_ble_eq_true rfl) (rg_in rfl (by decide +kernel)) rfl rfl (by decide +kernel) (fun _ => rfl) (fun _ => rfl) d_M_init_71 d_M_init_73 (fun q8 H locs hP hD hS => ?_)
  refine lv_aload_n hx hb d_M_init_76 rfl h0 ?_
  refine lv_bipush hx hb d_M_init_77 rfl ?_
  refine rg_fld hx hb hts hTS hown hin hS0.1 hA (ci := 4) (N := 20) (T := Tn_M) rfl hP hD hS 13 38 (by decide) (Nat.le_of_ble_eq_true rfl) (ty := .boolean) (fty := .array .boolean) 1 rfl rfl (fun _ h => h) (rg_in rfl (by decide +kernel)) (a0 := (81, .inl (fun _ => 0))) (N' := 81) (fun _ => rfl) (by decide +kernel) (by decide +kernel) (by decide) (Nat.le_of_ble_eq_true rfl) (Nat.le_of_ble_eq_true rfl) (rg_in rfl (by decide +kernel)) rfl rfl (by decide +kernel) (fun _ => rfl) (fun _ => rfl) d_M_init_79 d_M_init_81 (fun q9 H locs hP hD hS => ?_)
  refine lv_aload_n hx hb d_M_init_84 rfl h0 ?_
  refine lv_sipush hx hb d_M_init_85 rfl ?_
  refine rg_fld hx hb hts hTS hown hin hS0.1 hA (ci := 4) (N := 20) (T := Tn_M) rfl hP hD hS 14 41 (by decide) (Nat.le_of_ble_eq_true rfl) (ty := .int) (fty := .array .int) 0 rfl rfl (fun _ h => h) (rg_in rfl (by decide +kernel)) (a0 := (6561, .inl (fun _ => 0))) (N' := 6561) (fun _ => rfl) (by decide +kernel) (by decide +kernel) (by decide) (Nat.le_of_ble_eq_true rfl) (Nat.le_of_ble_eq_true rfl) (rg_in rfl (by decide +kernel)) rfl rfl (by decide +kernel) (fun _ => rfl) (fun _ => rfl) d_M_init_88 d_M_init_90 (fun q10 H locs hP hD hS => ?_)
  refine lv_aload_n hx hb d_M_init_93 rfl h0 ?_
  refine lv_bipush hx hb d_M_init_94 rfl ?_
  refine rg_fld hx hb hts hTS hown hin hS0.1 hA (ci := 4) (N := 20) (T := Tn_M) rfl hP hD hS 15 44 (by decide) (Nat.le_of_ble_eq_true rfl) (ty := .int) (fty := .array .int) 0 rfl rfl (fun _ h => h) (rg_in rfl (by decide +kernel)) (a0 := (44, .inl (fun _ => 0))) (N' := 44) (fun _ => rfl) (by decide +kernel) (by decide +kernel) (by decide) (Nat.le_of_ble_eq_true rfl) (Nat.le_of_ble_eq_true rfl) (rg_in rfl (by decide +kernel)) rfl rfl (by decide +kernel) (fun _ => rfl) (fun _ => rfl) d_M_init_96 d_M_init_98 (fun q11 H locs hP hD hS => ?_)
  refine lv_aload_n hx hb d_M_init_101 rfl h0 ?_
  refine lv_bipush hx hb d_M_init_102 rfl ?_
  refine rg_fld hx hb hts hTS hown hin hS0.1 hA (ci := 4) (N := 20) (T := Tn_M) rfl hP hD hS 16 47 (by decide) (Nat.le_of_ble_eq_true rfl) (ty := .int) (fty := .array .int) 0 rfl rfl (fun _ h => h) (rg_in rfl (by decide +kernel)) (a0 := (44, .inl (fun _ => 0))) (N' := 44) (fun _ => rfl) (by decide +kernel) (by decide +kernel) (by decide) (Nat.le_of_ble_eq_true rfl) (Nat.le_of_ble_eq_true rfl) (rg_in rfl (by decide +kernel)) rfl rfl (by decide +kernel) (fun _ => rfl) (fun _ => rfl) d_M_init_104 d_M_init_106 (fun q12 H locs hP hD hS => ?_)
  refine lv_aload_n hx hb d_M_init_109 rfl h0 ?_
  refine lv_bipush hx hb d_M_init_110 rfl ?_
  refine rg_fld hx hb hts hTS hown hin hS0.1 hA (ci := 4) (N := 20) (T := Tn_M) rfl hP hD hS 18 50 (by decide) (Nat.le_of_ble_eq_true rfl) (ty := .int) (fty := .array .int) 0 rfl rfl (fun _ h => h) (rg_in rfl (by decide +kernel)) (a0 := (50, .inl (fun _ => 0))) (N' := 50) (fun _ => rfl) (by decide +kernel) (by decide +kernel) (by decide) (Nat.le_of_ble_eq_true rfl) (Nat.le_of_ble_eq_true rfl) (rg_in rfl (by decide +kernel)) rfl rfl (by decide +kernel) (fun _ => rfl) (fun _ => rfl) d_M_init_112 d_M_init_114 (fun q13 H locs hP hD hS => ?_)
  refine lv_aload_n hx hb d_M_init_117 rfl h0 ?_
  refine lv_sipush hx hb d_M_init_118 rfl ?_
  refine rg_fld hx hb hts hTS hown hin hS0.1 hA (ci := 4) (N := 20) (T := Tn_M) rfl hP hD hS 19 53 (by decide) (Nat.le_of_ble_eq_true rfl) (ty := .int) (fty := .array .int) 0 rfl rfl (fun _ h => h) (rg_in rfl (by decide +kernel)) (a0 := (2000, .inl (fun _ => 0))) (N' := 2000) (fun _ => rfl) (by decide +kernel) (by decide +kernel) (by decide) (Nat.le_of_ble_eq_true rfl) (Nat.le_of_ble_eq_true rfl) (rg_in rfl (by decide +kernel)) rfl rfl (by decide +kernel) (fun _ => rfl) (fun _ => rfl) d_M_init_121 d_M_init_123 (fun q14 H locs hP hD hS => ?_)
  exact W.vret hx hb hr (fun t ht hW => ⟨⟨_, rfl, ⟨q0, q1, q2, q3, q4, q5, q6, q7, q8, q9, q10, q11, q12, q13, q14, rfl⟩, by rw [ht]; exact hP, hD⟩, hS.F ht⟩) hS.2.2 d_M_init_126
def B_G (E : rg_E) (a : Nat) (ws : va_W) : Prop := ∃ (r e w : Nat) (wsR wsE wsW : va_W), B_R E r wsR ∧ B_E E e wsE ∧ B_W E e w wsW ∧ ws = (a, .inr (0, [.ref r, .ref e, .ref w])) :: ((wsR ++ wsE) ++ wsW)
set_option maxHeartbeats 4000000 in
set_option maxRecDepth 100000 in
theorem I_G (l : Launch) (E : rg_E) : rg_Ini l y_G_init c_G_init 1 2 E [] 0 [.null, .null, .null] 17 2503 (B_G E) := by
  intro a sz
  refine Met.ofW (cc := c_G_init) (maxL := 1) (ret := none) (by decide) rfl ?_
  intro p e s m args below meth c s₁ B hml hv
  obtain ⟨rfl, rfl, hP, hS0⟩ := hv
  have hx := B.exec
  have hb := B.bytes
  have hr := B.returns
  have hts := atoms_spec (ws := rg_wsOf y_G_init c_G_init 1 none) B.pre
  have hTS : ∀ w ∈ rg_TS, w ∈ rg_wsOf y_G_init c_G_init 1 none := fun w hw => List.mem_cons_of_mem _ hw
  have hown : s.vm.findClass "ReadGraph" = some m.cls := findClass_of_methodNamed B.named
  have hlocks := B.notSynchronized
  have hin : meth.name = "<init>" := (name_of_methodNamed B.named B.method).1
  have hD : va_D (fun q => q = a ∨ s.heap.size ≤ q) [(a, (.inr (0, [.null, .null, .null]) : va_E))] := rg_D1
  have hA : ∀ q : Nat, s.heap.size ≤ q → (fun q => q = a ∨ s.heap.size ≤ q) q := fun q h => Or.inr h
  have hS : va_S (fun q => q = a ∨ s.heap.size ≤ q) s.heap s.heap [] := va_S.rf
  have hl := lv_entry ([Value.ref a]) (n := 1) (Nat.le_of_ble_eq_true rfl)
  rw [lg_entry_eq]
  generalize (lg_sl ([Value.ref a]) ++ List.replicate (1 - (lg_sl ([Value.ref a])).length) Slot.unset).toArray = ls at hl ⊢
  have hl : lv_has ls 1 [(0, .ref a)] := hl
  have h0 : ls[0]? = some (.val (.ref a)) := lv_at hl 0 rfl
  skip
  refine lv_aload_n hx hb d_G_init_0 rfl h0 ?_
  refine W.objInit hx hb hown (hts (Cond.methodLink "ReadGraph" 3 Lib.objectInit) (hTS _ (rg_in rfl (by decide +kernel)))) (hts (Cond.instanceMethod Lib.objectInit) (hTS _ (rg_in rfl (by decide +kernel)))) (hts (Cond.code Lib.objectInit ⟨#[0xb1]⟩ 1 none) (hTS _ (rg_in rfl (by decide +kernel)))) rfl (by rw [hml]; exact hl.1) rfl d_G_init_1 (Nat.le_of_ble_eq_true rfl) (Nat.le_of_ble_eq_true rfl) ?_
  refine W.eq (g2 := F0 m 4 ls []) rfl ?_
  refine lv_aload_n hx hb d_G_init_4 rfl h0 ?_
  refine va_new (ci := 1) (fs := [.null, .null, .int 0]) (C := Rn_R) (T := Tn_R) (N := 3) hx hb hts (fun w hw => hTS w (us_R w hw)) ty_R ty_R_ok hown (hts (Cond.classLink "ReadGraph" 9 "ReadGraph$Reads") (hTS _ (rg_in rfl (by decide +kernel)))) (hts (Cond.instantiable "ReadGraph$Reads" 3) (hTS _ (rg_in rfl (by decide +kernel)))) (hts (Cond.initialized "ReadGraph$Reads") (hTS _ (rg_in rfl (by decide +kernel)))) hS0.1 hP hD hS hA rfl (by decide +kernel) (Nat.le_of_ble_eq_true rfl) (Nat.le_of_ble_eq_true rfl) d_G_init_5 (fun r H hP hD hS => ?_)
  refine lv_dup hx hb d_G_init_8 rfl ?_
  refine rg_iniC hx hb hml hS0 hts hTS hown hA (I_R l E) rfl (rg_in rfl (by decide +kernel)) (rg_in rfl (by decide +kernel)) (n := 0) ⟨by decide, by decide, by decide +kernel⟩ (rg_in rfl (by decide +kernel)) (index := 11) (by first | exact Or.inl (rg_in rfl (by decide +kernel)) | exact Or.inr ⟨"ReadGraph", rg_inN rfl (by decide +kernel)⟩) ⟨Nat.le_of_ble_eq_true rfl, Nat.le_of_ble_eq_true rfl⟩ (wsG := [(a, .inr (0, [.null, .null, .null]))]) (rest := [.ref r, .ref a]) hl.1 rfl hP hD hS (Nat.le_of_ble_eq_true rfl) d_G_init_9 ⟨Nat.le_of_ble_eq_true rfl, Nat.le_of_ble_eq_true rfl⟩ rfl (fun wsR H locs hBR hP hD hS => ?_)
  refine va_putF (ci := 0) (v := .ref r) (ty := .object "ReadGraph$Reads") (C := Rn_G) (T := Tn_G) (N := 3) hx hb hts (fun w hw => hTS w (us_G w hw)) ty_G ty_G_ok nm_G hown hS0.1 hP hD hS 0 rfl rfl 0 (by decide) (hts (Cond.fieldLink "ReadGraph" 12 "ReadGraph" "reads" "LReadGraph$Reads;") (hTS _ (rg_in rfl (by decide +kernel)))) (fun _ z => z) rfl hin rfl (by decide +kernel) rfl rfl (Nat.le_of_ble_eq_true rfl) d_G_init_12 (fun H locs hP hD hS => ?_)
  have hP : va_P E.2.2 rg_cl ((a, .inr (0, [.ref r, .null, .null])) :: wsR) H := hP
  have hD : va_D (fun q => q = a ∨ s.heap.size ≤ q) ((a, .inr (0, [.ref r, .null, .null])) :: wsR) := hD
  refine lv_aload_n hx hb d_G_init_15 rfl h0 ?_
  refine va_new (ci := 2) (fs := [.null, .null, .null, .null, .null, .null, .null, .null, .int 0, .int 0, .int 0]) (C := Rn_E) (T := Tn_E) (N := 11) hx hb hts (fun w hw => hTS w (us_E w hw)) ty_E ty_E_ok hown (hts (Cond.classLink "ReadGraph" 16 "ReadGraph$Edges") (hTS _ (rg_in rfl (by decide +kernel)))) (hts (Cond.instantiable "ReadGraph$Edges" 11) (hTS _ (rg_in rfl (by decide +kernel)))) (hts (Cond.initialized "ReadGraph$Edges") (hTS _ (rg_in rfl (by decide +kernel)))) hS0.1 hP hD hS hA rfl (by decide +kernel) (Nat.le_of_ble_eq_true rfl) (Nat.le_of_ble_eq_true rfl) d_G_init_16 (fun e9 H hP hD hS => ?_)
  refine lv_dup hx hb d_G_init_19 rfl ?_
  refine rg_iniC hx hb hml hS0 hts hTS hown hA (I_E l E) rfl (rg_in rfl (by decide +kernel)) (rg_in rfl (by decide +kernel)) (n := 0) ⟨by decide, by decide, by decide +kernel⟩ (rg_in rfl (by decide +kernel)) (index := 18) (by first | exact Or.inl (rg_in rfl (by decide +kernel)) | exact Or.inr ⟨"ReadGraph", rg_inN rfl (by decide +kernel)⟩) ⟨Nat.le_of_ble_eq_true rfl, Nat.le_of_ble_eq_true rfl⟩ (wsG := ((a, .inr (0, [.ref r, .null, .null])) :: wsR)) (rest := [.ref e9, .ref a]) hl.1 rfl hP hD hS (Nat.le_of_ble_eq_true rfl) d_G_init_20 ⟨Nat.le_of_ble_eq_true rfl, Nat.le_of_ble_eq_true rfl⟩ rfl (fun wsE H locs hBE hP hD hS => ?_)
  refine va_putF (ci := 0) (v := .ref e9) (ty := .object "ReadGraph$Edges") (C := Rn_G) (T := Tn_G) (N := 3) hx hb hts (fun w hw => hTS w (us_G w hw)) ty_G ty_G_ok nm_G hown hS0.1 hP hD hS 0 rfl rfl 1 (by decide) (hts (Cond.fieldLink "ReadGraph" 19 "ReadGraph" "edges" "LReadGraph$Edges;") (hTS _ (rg_in rfl (by decide +kernel)))) (fun _ z => z) rfl hin rfl (by decide +kernel) rfl rfl (Nat.le_of_ble_eq_true rfl) d_G_init_23 (fun H locs hP hD hS => ?_)
  have hP : va_P E.2.2 rg_cl ((a, .inr (0, [.ref r, .ref e9, .null])) :: (wsR ++ wsE)) H := hP
  have hD : va_D (fun q => q = a ∨ s.heap.size ≤ q) ((a, .inr (0, [.ref r, .ref e9, .null])) :: (wsR ++ wsE)) := hD
  refine lv_aload_n hx hb d_G_init_26 rfl h0 ?_
  refine va_new (ci := 3) (fs := [.null, .null, .null, .int 0, .null, .null, .int 0]) (C := Rn_W) (T := Tn_W) (N := 7) hx hb hts (fun w hw => hTS w (us_W w hw)) ty_W ty_W_ok hown (hts (Cond.classLink "ReadGraph" 23 "ReadGraph$Walks") (hTS _ (rg_in rfl (by decide +kernel)))) (hts (Cond.instantiable "ReadGraph$Walks" 7) (hTS _ (rg_in rfl (by decide +kernel)))) (hts (Cond.initialized "ReadGraph$Walks") (hTS _ (rg_in rfl (by decide +kernel)))) hS0.1 hP hD hS hA rfl (by decide +kernel) (Nat.le_of_ble_eq_true rfl) (Nat.le_of_ble_eq_true rfl) d_G_init_27 (fun w9 H hP hD hS => ?_)
  refine lv_dup hx hb d_G_init_30 rfl ?_
  refine lv_aload_n hx hb d_G_init_31 rfl h0 ?_
  refine va_get hx hb hts (fun w hw => hTS w (us_G w hw)) hown hS0.1 hP 0 (ci := 0) (C := Rn_G) (T := Tn_G) (N := 3) (fs := [.ref r, .ref e9, .null]) rfl rfl 1 (by decide) (hts (Cond.fieldLink "ReadGraph" 19 "ReadGraph" "edges" "LReadGraph$Edges;") (hTS _ (rg_in rfl (by decide +kernel)))) (fun _ z => z) (v := .ref e9) rfl d_G_init_32 ?_
  refine rg_iniC hx hb hml hS0 hts hTS hown hA (I_W l E e9) rfl (rg_in rfl (by decide +kernel)) (rg_in rfl (by decide +kernel)) (n := 1) ⟨by decide, by decide, by decide +kernel⟩ (rg_in rfl (by decide +kernel)) (index := 25) (by first | exact Or.inl (rg_in rfl (by decide +kernel)) | exact Or.inr ⟨"ReadGraph", rg_inN rfl (by decide +kernel)⟩) ⟨Nat.le_of_ble_eq_true rfl, Nat.le_of_ble_eq_true rfl⟩ (wsG := ((a, .inr (0, [.ref r, .ref e9, .null])) :: (wsR ++ wsE))) (rest := [.ref w9, .ref a]) hl.1 rfl hP hD hS (Nat.le_of_ble_eq_true rfl) d_G_init_35 ⟨Nat.le_of_ble_eq_true rfl, Nat.le_of_ble_eq_true rfl⟩ rfl (fun wsW H locs hBW hP hD hS => ?_)
  refine va_putF (ci := 0) (v := .ref w9) (ty := .object "ReadGraph$Walks") (C := Rn_G) (T := Tn_G) (N := 3) hx hb hts (fun w hw => hTS w (us_G w hw)) ty_G ty_G_ok nm_G hown hS0.1 hP hD hS 0 rfl rfl 2 (by decide) (hts (Cond.fieldLink "ReadGraph" 28 "ReadGraph" "greatest" "LReadGraph$Walks;") (hTS _ (rg_in rfl (by decide +kernel)))) (fun _ z => z) rfl hin rfl (by decide +kernel) rfl rfl (Nat.le_of_ble_eq_true rfl) d_G_init_38 (fun H locs hP hD hS => ?_)
  exact W.vret hx hb hr (fun t ht hW => ⟨⟨_, rfl, ⟨r, e9, w9, wsR, wsE, wsW, hBR, hBE, hBW, rfl⟩, by rw [ht]; exact hP, hD⟩, hS.F ht⟩) hS.2.2 d_G_init_41
