/-! from the law's entry -/
def lw_w0 : rg_W := (fun _ _ => 0, fun _ _ => 0)
def lw_ad (b : Nat) (ads : List Nat) : Nat → Nat := fun k => if k = 99 then b else ads.getD k 0
section
variable {p : Program} {l : Launch} {e : Env} {R : Room} {s : State} {m : MethodId} {args : Array Value} {below : List Frame} {meth : Method} {c : Code} {Q : State → Prop} {cc : ByteArray} {A : Nat → Prop} {E : rg_E}
theorem rg_newL (hx : p.tables.exec = Jvm.exec) (hb : c.code = cc) (hK : va_K E.2.2 rg_cl (rg_tys E) s) (harr : (Cond.arrayClass .long).before args s = true) {ws : va_W} {H : Heap} {locs : List Loc} {ls : Array Slot} {rest : List Value} {cells slots pc : Nat} (hP : va_P E.2.2 rg_cl ws H) (hD : va_D A ws) (hS : va_S A s.heap H locs) (hA : ∀ q, s.heap.size ≤ q → A q) (hcells : cells + 1 ≤ R.cells) (hslots : slots + 1 ≤ R.slots) (hd : decode cc pc = .ok (.newarray .long, 2))
    (kk : ∀ (q : Nat) (H1 : Heap), va_P E.2.2 rg_cl (ws ++ [(q, rg_al E.2.1.2.2 1)]) H1 → va_D A (ws ++ [(q, rg_al E.2.1.2.2 1)]) → va_S A s.heap H1 locs → W p l e R s m args below meth c H1 locs (cells + 1) (slots + 1) Q (F0 m (pc + 2) ls (.ref q :: rest))) : W p l e R s m args below meth c H locs cells slots Q (F0 m pc ls (.int (nI 1) :: rest)) := by
  refine va_newa (atype := .long) (ty := .long) (a0 := (1, .inr (.inl (fun _ => 0)))) (N' := 1) hx hb harr rfl hK hP hD hS hA (fun _ => rfl) (by decide +kernel) (by decide +kernel) (by decide +kernel) hcells hslots hd (fun q cA1 H1 hK1 hP1 hD1 hS1 => ?_)
  have e1 : s.vm.findClass ("[" ++ FieldType.long.toString) = some cA1 := (hK1.2 3 (cA1, .long) rfl).2
  have e2 : s.vm.findClass ("[" ++ FieldType.long.toString) = some E.2.1.2.2 := (hK.2 2 (E.2.1.2.2, .long) rfl).2
  have e3 : cA1 = E.2.1.2.2 := Option.some.inj (e1.symm.trans e2)
  rw [e3] at hP1 hD1
  exact kk q H1 hP1 hD1 hS1
end
set_option maxHeartbeats 4000000 in
set_option maxRecDepth 100000 in
theorem lw_ws0 (b : Nat) (ids : ClassId × ClassId × ClassId) (D : va_G) (g r qr0 qr1 e9 qe0 qe1 qe2 qe3 qe4 qe5 qe6 qe7 w9 qw0 qw1 qw2 qw3 m9 qm0 qm1 qm2 qm3 qm4 qm5 qm6 qm7 qm8 qm9 qm10 qm11 qm12 qm13 qm14 o9 : Nat) : rg_ws (lw_ad b [g, r, qr0, qr1, e9, qe0, qe1, qe2, qe3, qe4, qe5, qe6, qe7, w9, qw0, qw1, qw2, qw3, m9, qm0, qm1, qm2, qm3, qm4, qm5, qm6, qm7, qm8, qm9, qm10, qm11, qm12, qm13, qm14, o9], ids, D) lw_w0 = ((g, .inr (0, [.ref r, .ref e9, .ref w9])) :: (([(r, .inr (1, [.ref qr0, .ref qr1, .int 0])), (qr0, rg_ai ids.1 9), (qr1, rg_ai ids.1 9)] ++ [(e9, .inr (2, [.ref qe0, .ref qe1, .ref qe2, .ref qe3, .ref qe4, .ref qe5, .ref qe6, .ref qe7, .int 0, .int 0, .int 0])), (qe0, rg_ai ids.1 81), (qe1, rg_ai ids.1 72), (qe2, rg_ai ids.1 72), (qe3, rg_ai ids.1 72), (qe4, rg_ai ids.1 10), (qe5, rg_ai ids.1 9), (qe6, rg_ai ids.1 9), (qe7, rg_ai ids.1 9)]) ++ [(w9, .inr (3, [.ref e9, .ref qw0, .ref qw1, .int 0, .ref qw2, .ref qw3, .int 0])), (qw0, rg_ai ids.1 2000), (qw1, rg_ai ids.1 50), (qw2, rg_ai ids.1 40), (qw3, rg_ai ids.1 40)]) ++ [(m9, .inr (4, [.int 0, .int 0, .ref qm0, .ref qm1, .ref qm2, .int 0, .ref qm3, .ref qm4, .ref qm5, .int 0, .ref qm6, .ref qm7, .ref qm8, .ref qm9, .ref qm10, .ref qm11, .ref qm12, .int 0, .ref qm13, .ref qm14])), (qm0, rg_ai ids.1 9), (qm1, rg_ai ids.1 108), (qm2, rg_ai ids.2.1 9), (qm3, rg_ai ids.1 81), (qm4, rg_ai ids.1 81), (qm5, rg_ai ids.1 81), (qm6, rg_ai ids.1 81), (qm7, rg_ai ids.1 81), (qm8, rg_ai ids.1 81), (qm9, rg_ai ids.2.1 81), (qm10, rg_ai ids.1 6561), (qm11, rg_ai ids.1 44), (qm12, rg_ai ids.1 44), (qm13, rg_ai ids.1 50), (qm14, rg_ai ids.1 2000)]) ++ [(o9, rg_al ids.2.2 1)] := by
  apply List.ext_getElem?
  intro k
  rw [rg_ws_at]
  match k with
  | 0 => rfl
  | 1 => rfl
  | 2 => rfl
  | 3 => rfl
  | 4 => rfl
  | 5 => rfl
  | 6 => rfl
  | 7 => rfl
  | 8 => rfl
  | 9 => rfl
  | 10 => rfl
  | 11 => rfl
  | 12 => rfl
  | 13 => rfl
  | 14 => rfl
  | 15 => rfl
  | 16 => rfl
  | 17 => rfl
  | 18 => rfl
  | 19 => rfl
  | 20 => rfl
  | 21 => rfl
  | 22 => rfl
  | 23 => rfl
  | 24 => rfl
  | 25 => rfl
  | 26 => rfl
  | 27 => rfl
  | 28 => rfl
  | 29 => rfl
  | 30 => rfl
  | 31 => rfl
  | 32 => rfl
  | 33 => rfl
  | 34 => rfl
  | k + 35 => rfl
