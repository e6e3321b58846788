/-! calls of methods that throw, in a walk; the wrappers of the law -/
section
variable {P : rg_P} {X : rg_X} {cc : ByteArray} {cut : Nat → Bool} {Z : rg_Go} {rt : rg_Rt}
theorem rg_e_cx1 {f : Bool} {pc : Nat} {k : Nat} (h : decode cc pc = .ok (.invokevirtual k, 3)) (hc : (!f && cut pc) = false) (T : rg_T) (hf : rg_lk P.2.1 (2 * k + 1) = some (1, 1, T)) (n : Nat) (L r : List Value) (a0 : Value) (w : rg_W) (b : Nat) : rg_run P X cc cut Z rt f (n + 1) pc L (a0 :: r) w b = (b + 1 ≤ P.2.2.2.2.2.2 ∧ rg_wd r ≤ 8 ∧ T [a0] w (rg_nx P.2.2.2.2.2.1 pc L r (b + 1) (rg_run P X cc cut Z rt false n))) := by
  rw [rg_run_s h (by first | exact Or.inr rfl | exact Or.inl rfl) hc]
  show rg_inv P (rg_lk P.2.1 (2 * k + 1)) pc L _ w b _ = _
  rw [hf]
  show ((1 = 0 ∨ b + 1 ≤ P.2.2.2.2.2.2) ∧ (rg_wd r ≤ 8 ∧ T [a0] w (rg_nx P.2.2.2.2.2.1 pc L r (b + 1) (rg_run P X cc cut Z rt false n)))) = _
  rw [show (1 = 0) = False from eq_false (by decide), false_or]
theorem rg_e_cx2 {f : Bool} {pc : Nat} {k : Nat} (h : decode cc pc = .ok (.invokevirtual k, 3)) (hc : (!f && cut pc) = false) (T : rg_T) (hf : rg_lk P.2.1 (2 * k + 1) = some (2, 1, T)) (n : Nat) (L r : List Value) (a0 : Value) (a1 : Value) (w : rg_W) (b : Nat) : rg_run P X cc cut Z rt f (n + 1) pc L (a1 :: a0 :: r) w b = (b + 1 ≤ P.2.2.2.2.2.2 ∧ rg_wd r ≤ 8 ∧ T [a0, a1] w (rg_nx P.2.2.2.2.2.1 pc L r (b + 1) (rg_run P X cc cut Z rt false n))) := by
  rw [rg_run_s h (by first | exact Or.inr rfl | exact Or.inl rfl) hc]
  show rg_inv P (rg_lk P.2.1 (2 * k + 1)) pc L _ w b _ = _
  rw [hf]
  show ((1 = 0 ∨ b + 1 ≤ P.2.2.2.2.2.2) ∧ (rg_wd r ≤ 8 ∧ T [a0, a1] w (rg_nx P.2.2.2.2.2.1 pc L r (b + 1) (rg_run P X cc cut Z rt false n)))) = _
  rw [show (1 = 0) = False from eq_false (by decide), false_or]
theorem rg_e_cx3 {f : Bool} {pc : Nat} {k : Nat} (h : decode cc pc = .ok (.invokevirtual k, 3)) (hc : (!f && cut pc) = false) (T : rg_T) (hf : rg_lk P.2.1 (2 * k + 1) = some (3, 1, T)) (n : Nat) (L r : List Value) (a0 : Value) (a1 : Value) (a2 : Value) (w : rg_W) (b : Nat) : rg_run P X cc cut Z rt f (n + 1) pc L (a2 :: a1 :: a0 :: r) w b = (b + 1 ≤ P.2.2.2.2.2.2 ∧ rg_wd r ≤ 8 ∧ T [a0, a1, a2] w (rg_nx P.2.2.2.2.2.1 pc L r (b + 1) (rg_run P X cc cut Z rt false n))) := by
  rw [rg_run_s h (by first | exact Or.inr rfl | exact Or.inl rfl) hc]
  show rg_inv P (rg_lk P.2.1 (2 * k + 1)) pc L _ w b _ = _
  rw [hf]
  show ((1 = 0 ∨ b + 1 ≤ P.2.2.2.2.2.2) ∧ (rg_wd r ≤ 8 ∧ T [a0, a1, a2] w (rg_nx P.2.2.2.2.2.1 pc L r (b + 1) (rg_run P X cc cut Z rt false n)))) = _
  rw [show (1 = 0) = False from eq_false (by decide), false_or]
theorem rg_e_cx4 {f : Bool} {pc : Nat} {k : Nat} (h : decode cc pc = .ok (.invokevirtual k, 3)) (hc : (!f && cut pc) = false) (T : rg_T) (hf : rg_lk P.2.1 (2 * k + 1) = some (4, 1, T)) (n : Nat) (L r : List Value) (a0 : Value) (a1 : Value) (a2 : Value) (a3 : Value) (w : rg_W) (b : Nat) : rg_run P X cc cut Z rt f (n + 1) pc L (a3 :: a2 :: a1 :: a0 :: r) w b = (b + 1 ≤ P.2.2.2.2.2.2 ∧ rg_wd r ≤ 8 ∧ T [a0, a1, a2, a3] w (rg_nx P.2.2.2.2.2.1 pc L r (b + 1) (rg_run P X cc cut Z rt false n))) := by
  rw [rg_run_s h (by first | exact Or.inr rfl | exact Or.inl rfl) hc]
  show rg_inv P (rg_lk P.2.1 (2 * k + 1)) pc L _ w b _ = _
  rw [hf]
  show ((1 = 0 ∨ b + 1 ≤ P.2.2.2.2.2.2) ∧ (rg_wd r ≤ 8 ∧ T [a0, a1, a2, a3] w (rg_nx P.2.2.2.2.2.1 pc L r (b + 1) (rg_run P X cc cut Z rt false n)))) = _
  rw [show (1 = 0) = False from eq_false (by decide), false_or]
end
/-- what a wrapper answers: the code, and the answer in out[0] -/
def rg_wr (cs : List (Nat × Nat)) (g : Int32 → Int64) (K : Option Value → rg_W → Prop) : Option Value → rg_W → Prop := fun r w => match r with
  | some (.int v) => K (some (.int (nI 0))) (rg_upL w 34 0 (g v))
  | some (.float k) => rg_some (rg_lk cs k.toNat) (fun c => K (some (.int (nI c))) w)
  | _ => False
theorem rg_in34 : vp_in (nI 0) 1 := vp_in_nI (by omega) (by omega)
theorem rg_c34 : (nI 0).toNatClampNeg = 0 := nI_clamp (by omega)
theorem rg_fit_c (n : Nat) : rg_fit (some .int) (some (.int (nI n))) = True := rg_fit_ie _
