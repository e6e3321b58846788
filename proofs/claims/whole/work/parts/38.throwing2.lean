/-! methods that throw also a NoSuchElementException -/
def rg_ThV (q : rg_Th) : List Cond := (th_at "ReadGraph" q.2.2.2.2.1 (exN q.2.1) "java/lang/RuntimeException" ["java/lang/Exception"]).filter vx_no
def rg_ThD (q : rg_Th) : Prop := Bundle.fit (exN q.2.1) = true ∧ Cond.classLink "ReadGraph" q.2.2.1 (exN q.2.1) ∈ rg_TS ∧ Cond.initialized (exN q.2.1) ∈ rg_TS ∧ (∀ w ∈ rg_ThV q, w ∈ rg_TS ∨ w ∈ rg_DC)
theorem thD_w : ((th_at "ReadGraph" 102 "java/util/NoSuchElementException" "java/lang/RuntimeException" ["java/lang/Exception"]).filter vx_no).all (fun w => decide (w ∈ tables_1) && (goodWord w || rg_isDC w)) = true := by decide +kernel
theorem thD_mk {k ik ic : Nat} (h1 : Bundle.fit (exN k) = true) (h2 : Cond.classLink "ReadGraph" ik (exN k) ∈ rg_TS) (h3 : Cond.initialized (exN k) ∈ rg_TS) (h4 : ∀ w ∈ (th_at "ReadGraph" ic (exN k) "java/lang/RuntimeException" ["java/lang/Exception"]).filter vx_no, w ∈ rg_TS ∨ w ∈ rg_DC) (a b : Nat) (t : String) : rg_ThD (a, k, ik, b, ic, t) := ⟨h1, h2, h3, h4⟩
theorem thC_4 (a b : Nat) (t : String) : rg_ThD (a, 4, 98, b, 102, t) := thD_mk (k := 4) (ik := 98) (ic := 102) (by decide +kernel) (rg_in rfl (by decide +kernel)) (rg_in rfl (by decide +kernel)) (thC_of thD_w) a b t
section
variable {p : Program} {l : Launch} {e : Env} {R : Room} {s : State} {m : MethodId} {args : Array Value} {below : List Frame} {meth : Method} {c : Code} {cc : ByteArray} {E : rg_E} {nL : Nat}
theorem rg_thr4 {nn : Nat} {sa : Nat → Nat} {K : Option Value → rg_W → Prop} (hn : 6 ≤ nn) (hx : p.tables.exec = Jvm.exec) (hb : c.code = cc) (hl : l.stackTraces = false) (hml : c.maxLocals = nL) (hlocks : meth.locks = false) (hout : ∀ x ∈ c.exceptionTable.toList, False)
    {Ts : List Cond} (hts : ∀ w ∈ Ts, w.before args s = true) (hTS : ∀ w ∈ rg_TS, w ∈ Ts) (hown : s.vm.findClass "ReadGraph" = some m.cls) (hSX : rg_SX sa (rg_A E s.heap.size) s) {q : rg_Th} (hq : rg_ThOk cc q) (hw : rg_ThD q) (L : List Value) (w : rg_W) (hK : K (some (.float (UInt32.ofNat q.2.1))) w) :
    rg_M p l e (rg_rmx nn) s m args below meth c (vx_MQ below (rg_Qc E (rg_A E s.heap.size) K) (rg_XC E (rg_A E s.heap.size) K) args s 1 6 (rg_A E s.heap.size)) E (rg_A E s.heap.size) nL (fun _ => (0, 0)) q.1 L [] w 0 := by
  intro H locs ls hP hS hL
  obtain ⟨d0, d3, d4, d6, d9, hs, k0, k5⟩ := hq
  obtain ⟨w1, w2, w3, w4⟩ := hw
  have hat : ∀ w ∈ rg_ThV q, w.before args s = true := fun w hw => by
    rcases w4 w hw with h | h
    · exact hts _ (hTS _ h)
    · exact va_Nw.use (rg_DC_tab (rg_DC_ok w h)) (hSX.2.2.2.1 w h)
  refine th_throw hx hb hl (own := "ReadGraph") (cls := exN q.2.1) (sup := "java/lang/RuntimeException") (names := ["java/lang/Exception"]) (A := rg_A E s.heap.size) hown w1 (by decide +kernel) (by decide +kernel) (hts _ (hTS _ w2)) (hts _ (hTS _ w3)) (hSX.1 _ hs) hat (fun w hw => ?_) hSX.2.1 hSX.2.2.1 hS (by rw [hml]; exact hL.1) d0 d3 d4 d6 d9 (fun x hx => (hout x hx).elim) ?_ ?_ (Nat.le_refl _) (Nat.le_refl _) hlocks (fun t hal hsz hkp => ?_) hS.2.2 (Nat.le_refl _) (Nat.le_refl _)
  · unfold vx_ot
    rcases List.mem_cons.mp hw with rfl | hw
    · exact Bool.or_eq_true_iff.mpr (Or.inr (rg_TS_ok _ w2))
    · rcases List.mem_cons.mp hw with rfl | hw
      · exact Bool.or_eq_true_iff.mpr (Or.inr (rg_TS_ok _ w3))
      · rcases w4 w hw with h | h
        · exact Bool.or_eq_true_iff.mpr (Or.inr (rg_TS_ok _ h))
        · exact Bool.or_eq_true_iff.mpr (Or.inl (rg_DC_tab (rg_DC_ok w h)))
  · show 1 + 4 < nn
    omega
  · show 0 + (13 * (1 + 2) + 43) ≤ 40 * nn
    omega
  · refine ⟨q.2.1, w, rfl, k0, k5, hK, hP.kept (fun k q hk => hkp _ (vx_lt hP hk)), Nat.le_trans hS.1 hsz, fun q h1 h2 => ?_⟩
    rw [hkp q (Nat.lt_of_lt_of_le h1 hS.1)]
    exact hS.2.1 q h1 h2
end
set_option maxHeartbeats 1000000 in
theorem rg_goodY_of {l : Launch} {y : MethodName} {cc : ByteArray} {maxL : Nat} {ret : Option FieldType} {lv : Nat} {T : rg_T} {P : rg_P} {thr : List rg_Th} (hl : l.stackTraces = false) (h6 : 6 ≤ lv) (hy : plainName y.cls = true) (hyG : y.cls = "ReadGraph") (hP : rg_POk l y.cls lv P) (hd0 : ∀ q ∈ P.2.1, q.2.2.1 = 0) (hth : ∀ q ∈ thr, rg_ThOk cc q ∧ (rg_ThC q ∨ rg_ThD q))
    (body : ∀ (as : List Value) (w : rg_W) (K : Option Value → rg_W → Prop) (Z : rg_Go), T as w K → (∀ (cut : Nat → Bool) (n : Nat) (pc : Nat) (L st : List Value) (w : rg_W), rg_run P none cc cut Z (rg_rt ret K) true n pc L st w 0 → Z pc L st w 0) → (∀ q ∈ thr, ∀ (L : List Value) (w : rg_W), K (some (.float (UInt32.ofNat q.2.1))) w → Z q.1 L [] w 0) → rg_sz as ≤ maxL ∧ Z 0 (rg_loc maxL as) [] w 0) :
    rg_GoodX l y cc maxL ret lv T := by
  intro nn sa E sz as w K hT
  refine vx_ofW (cc := cc) (maxL := maxL) (ret := ret) hy rfl ?_
  intro p e s m args below meth c s₁ B hml hout hv
  obtain ⟨⟨rfl, rfl, hPw, hS, hD⟩, hSX⟩ := hv
  have hx := B.exec
  have hb := B.bytes
  have hr := B.returns
  have hts := atoms_spec (ws := rg_wsOf y cc maxL ret) B.pre
  have hTS : ∀ w ∈ rg_TS, w ∈ rg_wsOf y cc maxL ret := fun w hw => List.mem_cons_of_mem _ hw
  have hown : s.vm.findClass y.cls = some m.cls := findClass_of_methodNamed B.named
  have hlocks := B.notSynchronized
  obtain ⟨hF, hC, hI, hJ, hN⟩ := hP
  have hRf : (rg_rmx (nn + lv)).frames = nn + lv := rfl
  have hRl : 40 * (nn + lv) ≤ (rg_rmx (nn + lv)).locals := Nat.le_refl _
  have hcb : ∀ b : Nat, ((fun _ => (0, 0) : Nat → Nat × Nat) b).1 ≤ (rg_rmx (nn + lv)).cells ∧ ((fun _ => (0, 0) : Nat → Nat × Nat) b).2 ≤ (rg_rmx (nn + lv)).slots := fun _ => ⟨Nat.zero_le _, Nat.zero_le _⟩
  have hclose : ∀ (cut : Nat → Bool) (n : Nat) (pc : Nat) (L st : List Value) (w : rg_W), rg_run P none cc cut (rg_M p l e (rg_rmx (nn + lv)) s m (as.map (rg_v E.1)).toArray below meth c (vx_MQ below (rg_Qc E (rg_A E s.heap.size) K) (rg_XC E (rg_A E s.heap.size) K) (as.map (rg_v E.1)).toArray s 1 6 (rg_A E s.heap.size)) E (rg_A E s.heap.size) maxL (fun _ => (0, 0))) (rg_rt ret K) true n pc L st w 0 → rg_M p l e (rg_rmx (nn + lv)) s m (as.map (rg_v E.1)).toArray below meth c (vx_MQ below (rg_Qc E (rg_A E s.heap.size) K) (rg_XC E (rg_A E s.heap.size) K) (as.map (rg_v E.1)).toArray s 1 6 (rg_A E s.heap.size)) E (rg_A E s.heap.size) maxL (fun _ => (0, 0)) pc L st w 0 := by
    intro cut n pc L st w h
    refine rg_close (fun go hgo => ?_) cut n true pc L st w 0 h
    intro i len pc L st w b
    refine rg_sound (rt := rg_rt ret K) hx hb hS.1 (fun w => rg_D_va hD w) (rg_get hx hb hS hts hTS hown hF) (rg_put hx hb hS (fun w => rg_D_va hD w) hts hTS hown hF) ?_ ?_ ?_ ?_ ?_ ?_ ?_ ?_ (fun N xs z => by cases z) hgo
    · intro k v pc L st w b hk hd h H locs ls hP hSS hL
      exact lv_ldc hx hb hown (hts _ (hTS _ (hI _ (rg_lk_mem hk)))) hd (h H locs ls hP hSS hL)
    · intro k v pc L st w b hk hd h H locs ls hP hSS hL
      exact lv_ldcw hx hb hown (hts _ (hTS _ (hI _ (rg_lk_mem hk)))) hd (h H locs ls hP hSS hL)
    · intro k v pc L st w b hk hd h H locs ls hP hSS hL
      exact lv_ldc2 hx hb hown (hts _ (hTS _ (hJ _ (rg_lk_mem hk)))) hd (h H locs ls hP hSS hL)
    · intro k n d T hk pc L as st w b K' hd hn hw _ hT hnx
      obtain rfl : d = 0 := hd0 _ (rg_lk_mem hk)
      exact rg_callS2 hRf hRl hcb hx hb hml hS hD hts hTS hown (fun q h _ => hC q h) k n T hk pc L as st w b K' hd hn hw hT hnx
    · intro k n d T hk pc L as st w b K' hd hn hw _ hT hnx
      obtain rfl : d = 0 := hd0 _ (rg_lk_mem hk)
      exact rg_callV2 hRf hRl hcb hx hb hml hS hD hts hTS hown (fun q h _ => hC q h) k n T hk pc L as st w b K' hd hn hw hT hnx
    · intro k x pc L st w b hk
      rw [hN] at hk
      cases hk
    · intro x pc L w b hd h H locs ls hP hSS hL
      obtain ⟨⟨ty, h1, h2⟩, h3⟩ := h
      refine vx_ret (W.widen (Nat.zero_le _) (Nat.zero_le _) (W.zret hx hb (hr.trans h1) h2 (fun t ht _ => ⟨⟨some (.int x), w, rfl, trivial, h3, by rw [ht]; exact hP⟩, hSS.F ht⟩) hSS.2.2 hd))
    · intro pc L w b hd h H locs ls hP hSS hL
      obtain ⟨h1, h3⟩ := h
      refine vx_ret (W.widen (Nat.zero_le _) (Nat.zero_le _) (W.vret hx hb (hr.trans h1) (fun t ht _ => ⟨⟨none, w, rfl, trivial, h3, by rw [ht]; exact hP⟩, hSS.F ht⟩) hSS.2.2 hd))
  have hthr : ∀ q ∈ thr, ∀ (L : List Value) (w : rg_W), K (some (.float (UInt32.ofNat q.2.1))) w → rg_M p l e (rg_rmx (nn + lv)) s m (as.map (rg_v E.1)).toArray below meth c (vx_MQ below (rg_Qc E (rg_A E s.heap.size) K) (rg_XC E (rg_A E s.heap.size) K) (as.map (rg_v E.1)).toArray s 1 6 (rg_A E s.heap.size)) E (rg_A E s.heap.size) maxL (fun _ => (0, 0)) q.1 L [] w 0 := by
    intro q hq L w hK
    rcases (hth q hq).2 with h | h
    · exact rg_thr (nn := nn + lv) (nL := maxL) (E := E) (below := below) (e := e) (K := K) (by omega) hx hb hl hml hlocks hout hts hTS (by rw [← hyG]; exact hown) hSX (hth q hq).1 h L w hK
    · exact rg_thr4 (nn := nn + lv) (nL := maxL) (E := E) (below := below) (e := e) (K := K) (by omega) hx hb hl hml hlocks hout hts hTS (by rw [← hyG]; exact hown) hSX (hth q hq).1 h L w hK
  obtain ⟨hsz, hbody⟩ := body as w K _ hT hclose hthr
  have hl := lv_entry (as.map (rg_v E.1)) (n := maxL) (by rw [rg_sz_sl]; exact hsz)
  rw [lg_entry_eq]
  refine hbody s.heap [] _ hPw va_S.rf ⟨hl.1, hl.2.1, rg_loc_len as maxL hsz, fun i v h1 h2 => ?_⟩
  have := hl.2.2 _ (rg_loc_mem E.1 as maxL 0 i v h1 h2)
  rw [Nat.zero_add] at this
  exact this
