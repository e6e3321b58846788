/-! the law's body on the machine: its loop -/
def lw_cb (b : Nat) : Nat × Nat := (35 + min b 512, 11919 + 6 * min b 512)
set_option maxHeartbeats 4000000 in
theorem lw_body {p : Program} {e : Env} {s : State} {m : MethodId} {below : List Frame} {meth : Method} {c : Code} (l : Launch) (hst : l.stackTraces = false) {b L : Nat} {xs : Nat → Int32} (hL : L ≤ 2048) (C0 : lw_At p s m meth c b L xs)
    {E : rg_E} (h99 : E.1 99 = b) (hS : rg_S E s) (hD : rg_D E) (hge : ∀ q, rg_A E s.heap.size q → s.heap.size ≤ q) {sa : Nat → Nat} (hSX : rg_SX sa (rg_A E s.heap.size) s) {w : rg_W} (hw : InvE w) :
    rg_M p l e room_1 s m #[Value.ref b] below meth c (lw_Z below #[Value.ref b] s) E (rg_A E s.heap.size) 7 lw_cb 23 [.ref 99, .ref 0, .ref 18, .ref 34, .int (nI (4 * 0)), .null, .null] [] w 0 := by
  obtain ⟨hx, hb, hr, hml, hown, hts, hX, hbl, hlocks, hgv⟩ := C0
  have hTS : ∀ w ∈ rg_TS, w ∈ lw_tbl := fun w hw => (List.mem_filter.mp hw).1
  have hcb : ∀ b, b + 1 ≤ 512 → ((lw_cb b).1 + 1 ≤ room_1.cells ∧ (lw_cb b).2 + 6 ≤ room_1.slots) ∧ (lw_cb b).1 + 1 ≤ (lw_cb (b + 1)).1 ∧ (lw_cb b).2 + 6 ≤ (lw_cb (b + 1)).2 := fun b hb => by
    unfold lw_cb
    show ((35 + min b 512) + 1 ≤ 1077 ∧ (11919 + 6 * min b 512) + 6 ≤ 20219) ∧ (35 + min b 512) + 1 ≤ 35 + min (b + 1) 512 ∧ (11919 + 6 * min b 512) + 6 ≤ 11919 + 6 * min (b + 1) 512
    omega
  have hcb0 : ∀ b, (lw_cb b).1 ≤ room_1.cells ∧ (lw_cb b).2 ≤ room_1.slots := fun b => by
    unfold lw_cb
    show 35 + min b 512 ≤ 1077 ∧ 11919 + 6 * min b 512 ≤ 20219
    omega
  refine lw_loop (rt := fun r _ _ => r = some (.int 1)) (N := L) (xs := xs) ?_ hL (fun w b => rfl) L 0 (by omega) (by omega) _ _ w 0 hw (Nat.le_refl _)
  intro cut n' pc L' st w b h
  refine rg_close (P := P_L_law) (X := some (L, xs)) (rt := fun r _ _ => r = some (.int 1)) (cc := c_L_law) (fun go hgo => ?_) cut n' true pc L' st w b h
  intro i len pc L' st w b
  refine rg_sound (rt := fun r _ _ => r = some (.int 1)) hx hb hS.1 (fun w => rg_D_va hD w) ?_ ?_ ?_ ?_ ?_ ?_ ?_ ?_ ?_ ?_ ?_ hgo
  · intro k q o v pc L r w b hk
    have hk : (none : Option (Nat × Nat)) = some q := hk
    cases hk
  · intro k q o v pc L r w b hk
    have hk : (none : Option (Nat × Nat)) = some q := hk
    cases hk
  · intro k v pc L st w b hk
    have hk : (none : Option Int32) = some v := hk
    cases hk
  · intro k v pc L st w b hk
    have hk : (none : Option Int32) = some v := hk
    cases hk
  · intro k v pc L st w b hk hd h H locs ls hP hSS hL
    have hk := List.mem_singleton.mp (rg_lk_mem hk)
    cases hk
    exact lv_ldc2 hx hb hown (hts _ (hTS (Cond.constantLong "ReadGraphLaw" 102 4294967295) (rg_in rfl (by decide +kernel)))) hd (h H locs ls hP hSS hL)
  · intro k n d T hk pc L as st w b K hd hn hw8 hbm hT hnx
    rcases lw_calls l hst _ (rg_lk_mem hk) with ⟨k', n0, T', e1, hC⟩ | ⟨k', n0, T', e1, hC⟩
    · have e0 := congrArg Prod.fst e1
      dsimp only at e0
      obtain rfl : k = k' := by omega
      have e2 := congrArg Prod.snd e1
      cases e2
      have hb1 : b + 1 ≤ 512 := by
        rcases hbm with z | z
        · cases z
        · exact z
      obtain ⟨K0, hT0, hup⟩ := hT
      exact rg_callW (nn := 0) (lv := 8) (Nat.le_of_ble_eq_true rfl) (Nat.le_of_ble_eq_true rfl) hcb hx hb hml hS hD hSX hts hTS hown hC _ L as st w b K0 hd hn hw8 hb1 hT0 (fun r w' h => hnx r w' (hup r w' h))
    · have e0 := congrArg Prod.fst e1
      dsimp only at e0
      omega
  · intro k n d T hk pc L as st w b K hd hn hw8 hbm hT hnx
    rcases lw_calls l hst _ (rg_lk_mem hk) with ⟨k', n0, T', e1, hC⟩ | ⟨k', n0, T', e1, hC⟩
    · have e0 := congrArg Prod.fst e1
      dsimp only at e0
      omega
    · have e0 := congrArg Prod.fst e1
      dsimp only at e0
      obtain rfl : k = k' := by omega
      have e2 := congrArg Prod.snd e1
      cases e2
      obtain ⟨K0, hT0, hup⟩ := hT
      exact rg_callV3 (nn := 0) (lv := 8) (P := ([], [(2 * k + 1, n, 0, T')], [], [], [], [], 0)) (Nat.le_of_ble_eq_true rfl) (Nat.le_of_ble_eq_true rfl) hcb0 hx hb hml hS hD hts hTS hown (fun q hq _ => by rw [List.mem_singleton.mp hq]; exact hC) k n T' (if_pos rfl) _ L as st w b K0 hd hn hw8 hT0 (fun r w' h => hnx r w' (hup r w' h))
  · intro k x pc L st w b hk
    have hk : (none : Option Nat) = some x := hk
    cases hk
  · intro x pc L w b hd h H locs ls hP hSS hL
    have h : some (Value.int x) = some (.int 1) := h
    cases h
    exact va_forget (fun q hq => hge _ (hSS.2.2 q hq)) (W.widen (hcb0 b).1 (hcb0 b).2 (lw_ret hx hb hr hlocks hd))
  · intro pc L w b hd h
    have h : (none : Option Value) = some (.int 1) := h
    cases h
  · intro N0 xs0 z
    cases z
    rw [h99]
    exact ⟨hX, hbl, fun z => Nat.lt_irrefl _ (Nat.lt_of_lt_of_le hbl (hge _ z))⟩
/-- the classes and the arrays' classes -/
theorem lw_E {s : State} {args : Array Value} (hts : ∀ w ∈ lw_tbl, w.before args s = true) : ∃ (ids : ClassId × ClassId × ClassId) (D : va_G), ∀ ad : Nat → Nat, rg_S (ad, ids, D) s := by
  have hTS : ∀ w ∈ rg_TS, w ∈ lw_tbl := fun w hw => (List.mem_filter.mp hw).1
  obtain ⟨d0, j0, k0⟩ := u_known (C := Rn_G) (T := Tn_G) (N := 3) (n := 3) hts (fun w hw => hTS w (us_G w hw)) (hts (Cond.instantiable "ReadGraph" 3) (hTS _ (rg_in rfl (by decide +kernel))))
  obtain ⟨d1, j1, k1⟩ := u_known (C := Rn_R) (T := Tn_R) (N := 3) (n := 3) hts (fun w hw => hTS w (us_R w hw)) (hts (Cond.instantiable "ReadGraph$Reads" 3) (hTS _ (rg_in rfl (by decide +kernel))))
  obtain ⟨d2, j2, k2⟩ := u_known (C := Rn_E) (T := Tn_E) (N := 11) (n := 11) hts (fun w hw => hTS w (us_E w hw)) (hts (Cond.instantiable "ReadGraph$Edges" 11) (hTS _ (rg_in rfl (by decide +kernel))))
  obtain ⟨d3, j3, k3⟩ := u_known (C := Rn_W) (T := Tn_W) (N := 7) (n := 7) hts (fun w hw => hTS w (us_W w hw)) (hts (Cond.instantiable "ReadGraph$Walks" 7) (hTS _ (rg_in rfl (by decide +kernel))))
  obtain ⟨d4, j4, k4⟩ := u_known (C := Rn_M) (T := Tn_M) (N := 20) (n := 20) hts (fun w hw => hTS w (us_M w hw)) (hts (Cond.instantiable "ReadGraphModel" 20) (hTS _ (rg_in rfl (by decide +kernel))))
  obtain ⟨cI, kI, mI, fI, gI, hI⟩ := Cond.arrayClass_spec (hts (Cond.arrayClass .int) (hTS _ (rg_in rfl (by decide +kernel))))
  obtain ⟨cZ, kZ, mZ, fZ, gZ, hZ⟩ := Cond.arrayClass_spec (hts (Cond.arrayClass .boolean) (hTS _ (rg_in rfl (by decide +kernel))))
  obtain ⟨cJ, kJ, mJ, fJ, gJ, hJ⟩ := Cond.arrayClass_spec (hts (Cond.arrayClass .long) (hTS _ (rg_in rfl (by decide +kernel))))
  refine ⟨(cI, cZ, cJ), (fun c => match c with | 0 => d0 | 1 => d1 | 2 => d2 | 3 => d3 | _ => d4, fun c => match c with | 0 => j0 | 1 => j1 | 2 => j2 | 3 => j3 | _ => j4), fun ad => ⟨⟨fun c q hq => ?_, fun k q hq => ?_⟩, fun x hx => va_Nw.of (rg_N_tab (rg_NW_ok x hx)) (hts x (List.mem_append_right _ (List.mem_filter.mp hx).1))⟩⟩
  · match c, hq with
    | 0, h => cases h; exact k0
    | 1, h => cases h; exact k1
    | 2, h => cases h; exact k2
    | 3, h => cases h; exact k3
    | 4, h => cases h; exact k4
    | _ + 5, h => cases h
  · match k, hq with
    | 0, h => cases h; exact ⟨fun n z => ⟨fun k h => (by cases h), kI, gI, mI, hI⟩, fI⟩
    | 1, h => cases h; exact ⟨fun n z => ⟨fun k h => (by cases h), kZ, gZ, mZ, hZ⟩, fZ⟩
    | 2, h => cases h; exact ⟨fun n z => ⟨fun k h => (by cases h), kJ, gJ, mJ, hJ⟩, fJ⟩
    | _ + 3, h => cases h
/-- what a throw needs, at the entry -/
theorem lw_SX {s : State} {args : Array Value} (hts : ∀ w ∈ lw_tbl, w.before args s = true) (hgv : (Jvm.Cond.and given_1 narrow_1).before args s = true) {A : Nat → Prop} (hA : ∀ q, A q → s.heap.size ≤ q) : ∃ sa : Nat → Nat, rg_SX sa A s := by
  have hq := flat_of_before _ hgv
  have hTS : ∀ w ∈ rg_TS, w ∈ lw_tbl := fun w hw => (List.mem_filter.mp hw).1
  have hnA : ∀ a : Nat, a < s.heap.size → ¬ A a := fun a h z => Nat.lt_irrefl _ (Nat.lt_of_lt_of_le h (hA a z))
  obtain ⟨d0, j0, k0⟩ := u_known (C := Rn_G) (T := Tn_G) (N := 3) (n := 3) hts (fun w hw => hTS w (us_G w hw)) (hts (Cond.instantiable "ReadGraph" 3) (hTS _ (rg_in rfl (by decide +kernel))))
  have hst : ∀ q ∈ rg_strs, Cond.stringRef "ReadGraph" q.1 q.2 ∈ lw_tbl := fun q h => List.mem_append_right _ ((by decide +kernel : ∀ q ∈ rg_strs, Cond.stringRef "ReadGraph" q.1 q.2 ∈ tables_1) q h)
  have hsa : ∀ k : Nat, ∃ a : Nat, ∀ tx, (k, tx) ∈ rg_strs → vk_R "ReadGraph" k tx a s := by
    intro k
    by_cases h : ∃ tx, (k, tx) ∈ rg_strs
    · obtain ⟨tx, h⟩ := h
      obtain ⟨_, _, _, a, -, -, -, -, -, hev⟩ := Cond.stringRef_spec k0.2.1 (hts _ (hst _ h))
      exact ⟨a, fun tx' h' => vk_R.of (hts _ (hst _ h')) hev⟩
    · exact ⟨0, fun tx h' => absurd ⟨tx, h'⟩ h⟩
  refine ⟨fun k => Classical.choose (hsa k), fun q hq => Classical.choose_spec (hsa q.1) q.2 hq, vx_Zqof (hts _ (List.mem_append_right _ (by decide +kernel))) (hts _ (List.mem_append_right _ (by decide +kernel))) (hq _ (by decide +kernel)) hnA, vx_Zqof (hts _ (List.mem_append_right _ (by decide +kernel))) (hts _ (List.mem_append_right _ (by decide +kernel))) (hq _ (by decide +kernel)) hnA, fun x hx => va_Nw.of (rg_DC_tab (rg_DC_ok x hx)) (hts x (List.mem_append_right _ (List.mem_filter.mp hx).1)), fun a b ha hb a0 b0 hab => va_Nc.of (hq _ ?_)⟩
  have ha' : a = 1 ∨ a = 2 ∨ a = 3 ∨ a = 4 := by omega
  have hb' : b = 1 ∨ b = 2 ∨ b = 3 ∨ b = 4 := by omega
  rcases ha' with rfl | rfl | rfl | rfl <;> rcases hb' with rfl | rfl | rfl | rfl <;> first | exact absurd rfl hab | decide +kernel
