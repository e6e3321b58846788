set_option maxHeartbeats 4000000 in
set_option maxRecDepth 100000 in
theorem whole_start {p : Program} {e : Env} {s : State} {m : MethodId} {below : List Frame} {meth : Method} {c : Code} (l : Launch) (hst : l.stackTraces = false) {b L : Nat} {xs : Nat → Int32} (hL : L ≤ 2048) (C0 : lw_At p s m meth c b L xs) : W p l e room_1 s m #[Value.ref b] below meth c s.heap [] 0 0 (lw_Z below #[Value.ref b] s) (entryFrame m ([Value.ref b] : List Value).toArray 7) := by
  have C1 := C0
  obtain ⟨hx, hb, hr, hml, hown, hts, hX, hbl, hlocks, hgv⟩ := C1
  have hb : c.code = c_L_law := hb
  have hown : s.vm.findClass "ReadGraphLaw" = some m.cls := hown
  have hTS : ∀ w ∈ rg_TS, w ∈ lw_tbl := fun w hw => (List.mem_filter.mp hw).1
  obtain ⟨ids, D, hSE⟩ := lw_E hts
  have hS0 := hSE (fun _ => 0)
  have hA : ∀ q : Nat, s.heap.size ≤ q → (fun q => s.heap.size ≤ q) q := fun q h => h
  have hS : va_S (fun q => s.heap.size ≤ q) s.heap s.heap [] := va_S.rf
  have hP : va_P D rg_cl [] s.heap := fun k q h => absurd h (by simp)
  have hD : va_D (fun q => s.heap.size ≤ q) [] := ⟨fun i j p q h => absurd h (by simp), fun k q h => absurd h (by simp)⟩
  have hl := lv_entry ([Value.ref b]) (n := 7) (Nat.le_of_ble_eq_true rfl)
  rw [lg_entry_eq]
  generalize (lg_sl ([Value.ref b]) ++ List.replicate (7 - (lg_sl ([Value.ref b])).length) Slot.unset).toArray = ls at hl ⊢
  have hl : lv_has ls 7 [(0, .ref b)] := hl
  refine va_new (ci := 0) (fs := [.null, .null, .null]) (C := Rn_G) (T := Tn_G) (N := 3) hx hb hts (fun w hw => hTS w (us_G w hw)) ty_G ty_G_ok hown (hts (Cond.classLink "ReadGraphLaw" 8 "ReadGraph") (hTS _ (rg_in rfl (by decide +kernel)))) (hts (Cond.instantiable "ReadGraph" 3) (hTS _ (rg_in rfl (by decide +kernel)))) (hts (Cond.initialized "ReadGraph") (hTS _ (rg_in rfl (by decide +kernel)))) hS0.1 hP hD hS hA rfl (by decide +kernel) (Nat.le_of_ble_eq_true rfl) (Nat.le_of_ble_eq_true rfl) d_L_law_0 (fun g H hP hD hS => ?_)
  refine lv_dup hx hb d_L_law_3 rfl ?_
  refine rg_iniC hx hb hml hS0 hts hTS hown hA (I_G l ((fun _ => 0), ids, D)) rfl (rg_in rfl (by decide +kernel)) (rg_in rfl (by decide +kernel)) (n := 0) ⟨by decide, by decide, by decide +kernel⟩ (rg_in rfl (by decide +kernel)) (index := 57) (Or.inl (rg_in rfl (by decide +kernel))) ⟨Nat.le_of_ble_eq_true rfl, Nat.le_of_ble_eq_true rfl⟩ (wsG := []) (rest := [.ref g]) hl.1 rfl hP hD hS (Nat.le_of_ble_eq_true rfl) d_L_law_4 ⟨Nat.le_of_ble_eq_true rfl, Nat.le_of_ble_eq_true rfl⟩ rfl (fun wsG H locs hBG hP hD hS => ?_)
  have hP : va_P D rg_cl wsG H := hP
  have hD : va_D (fun q => s.heap.size ≤ q) wsG := hD
  refine lv_astore_n (x := g) hx hb d_L_law_7 rfl hl (by decide) rfl (fun ls hl => ?_)
  have hl : lv_has ls 7 [(1, .ref g), (0, .ref b)] := hl
  refine va_new (ci := 4) (fs := [.int 0, .int 0, .null, .null, .null, .int 0, .null, .null, .null, .int 0, .null, .null, .null, .null, .null, .null, .null, .int 0, .null, .null]) (C := Rn_M) (T := Tn_M) (N := 20) hx hb hts (fun w hw => hTS w (us_M w hw)) ty_M ty_M_ok hown (hts (Cond.classLink "ReadGraphLaw" 58 "ReadGraphModel") (hTS _ (rg_in rfl (by decide +kernel)))) (hts (Cond.instantiable "ReadGraphModel" 20) (hTS _ (rg_in rfl (by decide +kernel)))) (hts (Cond.initialized "ReadGraphModel") (hTS _ (rg_in rfl (by decide +kernel)))) hS0.1 hP hD hS hA rfl (by decide +kernel) (Nat.le_of_ble_eq_true rfl) (Nat.le_of_ble_eq_true rfl) d_L_law_8 (fun m9 H hP hD hS => ?_)
  refine lv_dup hx hb d_L_law_11 rfl ?_
  refine rg_iniC hx hb hml hS0 hts hTS hown hA (I_M l ((fun _ => 0), ids, D)) rfl (rg_in rfl (by decide +kernel)) (rg_in rfl (by decide +kernel)) (n := 0) ⟨by decide, by decide, by decide +kernel⟩ (rg_in rfl (by decide +kernel)) (index := 60) (Or.inl (rg_in rfl (by decide +kernel))) ⟨Nat.le_of_ble_eq_true rfl, Nat.le_of_ble_eq_true rfl⟩ (wsG := wsG) (rest := [.ref m9]) hl.1 rfl hP hD hS (Nat.le_of_ble_eq_true rfl) d_L_law_12 ⟨Nat.le_of_ble_eq_true rfl, Nat.le_of_ble_eq_true rfl⟩ rfl (fun wsM H locs hBM hP hD hS => ?_)
  refine lv_astore_n (x := m9) hx hb d_L_law_15 rfl hl (by decide) rfl (fun ls hl => ?_)
  have hl : lv_has ls 7 [(2, .ref m9), (1, .ref g), (0, .ref b)] := hl
  refine lv_iconst hx hb d_L_law_16 rg_ki_1 ?_
  refine rg_newL hx hb hS0.1 (hts (Cond.arrayClass .long) (hTS _ (rg_in rfl (by decide +kernel)))) hP hD hS hA (by show 34 + 1 ≤ 1077; omega) (by show 11918 + 1 ≤ 20219; omega) d_L_law_17 (fun o9 H hP hD hS => ?_)
  refine lv_astore_n (x := o9) hx hb d_L_law_19 rfl hl (by decide) rfl (fun ls hl => ?_)
  have hl : lv_has ls 7 [(3, .ref o9), (2, .ref m9), (1, .ref g), (0, .ref b)] := hl
  refine lv_iconst hx hb d_L_law_20 rg_ki_0 ?_
  refine lv_istore hx hb d_L_law_21 hl (by decide) rfl (fun ls hl => ?_)
  have hl : lv_has ls 7 [(4, .int (nI 0)), (3, .ref o9), (2, .ref m9), (1, .ref g), (0, .ref b)] := hl
  obtain ⟨r, e9, w9, wsR, wsE, wsW, ⟨qr0, qr1, rfl⟩, ⟨qe0, qe1, qe2, qe3, qe4, qe5, qe6, qe7, rfl⟩, ⟨qw0, qw1, qw2, qw3, rfl⟩, rfl⟩ := hBG
  obtain ⟨qm0, qm1, qm2, qm3, qm4, qm5, qm6, qm7, qm8, qm9, qm10, qm11, qm12, qm13, qm14, rfl⟩ := hBM
  have hP : va_P D rg_cl (rg_ws (lw_ad b [g, r, qr0, qr1, e9, qe0, qe1, qe2, qe3, qe4, qe5, qe6, qe7, w9, qw0, qw1, qw2, qw3, m9, qm0, qm1, qm2, qm3, qm4, qm5, qm6, qm7, qm8, qm9, qm10, qm11, qm12, qm13, qm14, o9], ids, D) lw_w0) H := by
    rw [lw_ws0]
    exact hP
  have hD : va_D (fun q => s.heap.size ≤ q) (rg_ws (lw_ad b [g, r, qr0, qr1, e9, qe0, qe1, qe2, qe3, qe4, qe5, qe6, qe7, w9, qw0, qw1, qw2, qw3, m9, qm0, qm1, qm2, qm3, qm4, qm5, qm6, qm7, qm8, qm9, qm10, qm11, qm12, qm13, qm14, o9], ids, D) lw_w0) := by
    rw [lw_ws0]
    exact hD
  have h99 : (lw_ad b [g, r, qr0, qr1, e9, qe0, qe1, qe2, qe3, qe4, qe5, qe6, qe7, w9, qw0, qw1, qw2, qw3, m9, qm0, qm1, qm2, qm3, qm4, qm5, qm6, qm7, qm8, qm9, qm10, qm11, qm12, qm13, qm14, o9]) 99 = b := rfl
  have hL7 : rg_L (lw_ad b [g, r, qr0, qr1, e9, qe0, qe1, qe2, qe3, qe4, qe5, qe6, qe7, w9, qw0, qw1, qw2, qw3, m9, qm0, qm1, qm2, qm3, qm4, qm5, qm6, qm7, qm8, qm9, qm10, qm11, qm12, qm13, qm14, o9]) ls 7 [.ref 99, .ref 0, .ref 18, .ref 34, .int (nI (4 * 0)), .null, .null] := by
    refine ⟨hl.1, hl.2.1, rfl, fun i v hi hv => ?_⟩
    match i, hi with
    | 0, h => cases h; exact lv_at hl 4 rfl
    | 1, h => cases h; exact lv_at hl 3 rfl
    | 2, h => cases h; exact lv_at hl 2 rfl
    | 3, h => cases h; exact lv_at hl 1 rfl
    | 4, h => cases h; exact lv_at hl 0 rfl
    | 5, h => cases h; exact absurd rfl hv
    | 6, h => cases h; exact absurd rfl hv
    | _ + 7, h => cases h
  generalize lw_ad b [g, r, qr0, qr1, e9, qe0, qe1, qe2, qe3, qe4, qe5, qe6, qe7, w9, qw0, qw1, qw2, qw3, m9, qm0, qm1, qm2, qm3, qm4, qm5, qm6, qm7, qm8, qm9, qm10, qm11, qm12, qm13, qm14, o9] = ad at hP hD h99 hL7
  have hat : ∀ k, k < rg_lay.length → ∃ x, (rg_ws (ad, ids, D) lw_w0)[k]? = some (ad k, x) := fun k hk => by
    rw [rg_ws_at, List.getElem?_eq_getElem hk]
    exact ⟨_, rfl⟩
  have hDE : rg_D (ad, ids, D) := fun i j hi hj e => by
    obtain ⟨x, hx⟩ := hat i hi
    obtain ⟨y, hy⟩ := hat j hj
    exact hD.1 i j _ _ hx hy e
  have hge : ∀ q, rg_A (ad, ids, D) s.heap.size q → s.heap.size ≤ q := fun q h => by
    rcases h with ⟨k, hk, rfl⟩ | h
    · obtain ⟨x, hx⟩ := hat k hk
      exact hD.2 k _ hx
    · exact h
  obtain ⟨sa, hSX⟩ := lw_SX hts hgv hge
  have hS9 : va_S (rg_A (ad, ids, D) s.heap.size) s.heap H _ := ⟨hS.1, fun q h1 h2 => hS.2.1 q h1 (fun z => Nat.lt_irrefl _ (Nat.lt_of_lt_of_le h1 z)), fun q hq => Or.inr (hS.2.2 q hq)⟩
  exact W.widen (k := (lw_cb 0).1) (n := (lw_cb 0).2) (by show 35 ≤ 35 + min 0 512; omega) (by show 11919 ≤ 11919 + 6 * min 0 512; omega) (lw_body l hst hL C0 (E := (ad, ids, D)) h99 (hSE ad) hDE hge hSX ⟨_, _, _, _, _, _, Inv_new (w := lw_w0) (fun _ _ => rfl)⟩ H _ ls hP hS9 hL7)
