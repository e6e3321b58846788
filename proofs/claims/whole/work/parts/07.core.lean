/-! values of a walk: .ref k is cell k of the world, .retAddr a a plain address, .null an unknown variable; a result .float k: exception k was thrown -/
def rg_v (ad : Nat → Nat) : Value → Value
  | .int x => .int x
  | .long x => .long x
  | .float x => .float x
  | .double x => .double x
  | .null => .null
  | .ref k => .ref (ad k)
  | .retAddr a => .ref a
theorem rg_v_cat (ad : Nat → Nat) (v : Value) : (rg_v ad v).category = v.category := by cases v <;> rfl
/-- ints and longs of the cells, by cell and place -/
abbrev rg_W : Type := (Nat → Nat → Int32) × (Nat → Nat → Int64)
def rg_up (w : rg_W) (k j : Nat) (x : Int32) : rg_W := (fun a => if a = k then upd (w.1 a) j x else w.1 a, w.2)
def rg_upL (w : rg_W) (k j : Nat) (x : Int64) : rg_W := (w.1, fun a => if a = k then vp_updL (w.2 a) j x else w.2 a)
theorem rg_up_s (w : rg_W) (k j : Nat) (x : Int32) : (rg_up w k j x).1 k = upd (w.1 k) j x := if_pos rfl
theorem rg_up_n {w : rg_W} {k j a : Nat} {x : Int32} (h : a ≠ k) : (rg_up w k j x).1 a = w.1 a := if_neg h
theorem rg_up_2 (w : rg_W) (k j : Nat) (x : Int32) : (rg_up w k j x).2 = w.2 := rfl
theorem rg_upL_s (w : rg_W) (k j : Nat) (x : Int64) : (rg_upL w k j x).2 k = vp_updL (w.2 k) j x := if_pos rfl
theorem rg_upL_n {w : rg_W} {k j a : Nat} {x : Int64} (h : a ≠ k) : (rg_upL w k j x).2 a = w.2 a := if_neg h
theorem rg_upL_1 (w : rg_W) (k j : Nat) (x : Int64) : (rg_upL w k j x).1 = w.1 := rfl
def rg_lk {α : Type} : List (Nat × α) → Nat → Option α
  | [], _ => none
  | (i, a) :: r, j => if i = j then some a else rg_lk r j
theorem rg_lk_mem {α : Type} {l : List (Nat × α)} {j : Nat} {a : α} (h : rg_lk l j = some a) : (j, a) ∈ l := by
  induction l with
  | nil => cases h
  | cons q r ih =>
    obtain ⟨i, x⟩ := q
    simp only [rg_lk] at h
    split at h
    · rename_i e
      cases h
      subst e
      exact List.mem_cons_self
    · exact List.mem_cons_of_mem _ (ih h)
abbrev rg_Go : Type := Nat → List Value → List Value → rg_W → Nat → Prop
abbrev rg_Rt : Type := Option Value → rg_W → Nat → Prop
/-- a method's contract: what must hold before it so that each end of it is in K -/
abbrev rg_T : Type := List Value → rg_W → (Option Value → rg_W → Prop) → Prop

def rg_i1 (st : List Value) (f : Int32 → List Value → Prop) : Prop := match st with
  | .int x :: r => f x r
  | _ => False
theorem rg_i1_inv {st : List Value} {f : Int32 → List Value → Prop} (h : rg_i1 st f) : ∃ (x : Int32) (r : List Value), st = .int x :: r ∧ f x r := by
  unfold rg_i1 at h
  split at h
  · exact ⟨_, _, rfl, h⟩
  · exact h.elim
def rg_i2 (st : List Value) (f : Int32 → Int32 → List Value → Prop) : Prop := match st with
  | .int y :: .int x :: r => f x y r
  | _ => False
theorem rg_i2_inv {st : List Value} {f : Int32 → Int32 → List Value → Prop} (h : rg_i2 st f) : ∃ (x : Int32) (y : Int32) (r : List Value), st = .int y :: .int x :: r ∧ f x y r := by
  unfold rg_i2 at h
  split at h
  · exact ⟨_, _, _, rfl, h⟩
  · exact h.elim
def rg_l1 (st : List Value) (f : Int64 → List Value → Prop) : Prop := match st with
  | .long x :: r => f x r
  | _ => False
theorem rg_l1_inv {st : List Value} {f : Int64 → List Value → Prop} (h : rg_l1 st f) : ∃ (x : Int64) (r : List Value), st = .long x :: r ∧ f x r := by
  unfold rg_l1 at h
  split at h
  · exact ⟨_, _, rfl, h⟩
  · exact h.elim
def rg_l2 (st : List Value) (f : Int64 → Int64 → List Value → Prop) : Prop := match st with
  | .long y :: .long x :: r => f x y r
  | _ => False
theorem rg_l2_inv {st : List Value} {f : Int64 → Int64 → List Value → Prop} (h : rg_l2 st f) : ∃ (x : Int64) (y : Int64) (r : List Value), st = .long y :: .long x :: r ∧ f x y r := by
  unfold rg_l2 at h
  split at h
  · exact ⟨_, _, _, rfl, h⟩
  · exact h.elim
def rg_il (st : List Value) (f : Int64 → Int32 → List Value → Prop) : Prop := match st with
  | .int y :: .long x :: r => f x y r
  | _ => False
theorem rg_il_inv {st : List Value} {f : Int64 → Int32 → List Value → Prop} (h : rg_il st f) : ∃ (x : Int64) (y : Int32) (r : List Value), st = .int y :: .long x :: r ∧ f x y r := by
  unfold rg_il at h
  split at h
  · exact ⟨_, _, _, rfl, h⟩
  · exact h.elim
def rg_r1 (st : List Value) (f : Nat → List Value → Prop) : Prop := match st with
  | .ref k :: r => f k r
  | _ => False
theorem rg_r1_inv {st : List Value} {f : Nat → List Value → Prop} (h : rg_r1 st f) : ∃ (k : Nat) (r : List Value), st = .ref k :: r ∧ f k r := by
  unfold rg_r1 at h
  split at h
  · exact ⟨_, _, rfl, h⟩
  · exact h.elim
def rg_ri (st : List Value) (f : Nat → Int32 → List Value → Prop) : Prop := match st with
  | .int i :: .ref k :: r => f k i r
  | _ => False
theorem rg_ri_inv {st : List Value} {f : Nat → Int32 → List Value → Prop} (h : rg_ri st f) : ∃ (k : Nat) (i : Int32) (r : List Value), st = .int i :: .ref k :: r ∧ f k i r := by
  unfold rg_ri at h
  split at h
  · exact ⟨_, _, _, rfl, h⟩
  · exact h.elim
def rg_rii (st : List Value) (f : Nat → Int32 → Int32 → List Value → Prop) : Prop := match st with
  | .int x :: .int i :: .ref k :: r => f k i x r
  | _ => False
theorem rg_rii_inv {st : List Value} {f : Nat → Int32 → Int32 → List Value → Prop} (h : rg_rii st f) : ∃ (k : Nat) (i : Int32) (x : Int32) (r : List Value), st = .int x :: .int i :: .ref k :: r ∧ f k i x r := by
  unfold rg_rii at h
  split at h
  · exact ⟨_, _, _, _, rfl, h⟩
  · exact h.elim
def rg_ril (st : List Value) (f : Nat → Int32 → Int64 → List Value → Prop) : Prop := match st with
  | .long x :: .int i :: .ref k :: r => f k i x r
  | _ => False
theorem rg_ril_inv {st : List Value} {f : Nat → Int32 → Int64 → List Value → Prop} (h : rg_ril st f) : ∃ (k : Nat) (i : Int32) (x : Int64) (r : List Value), st = .long x :: .int i :: .ref k :: r ∧ f k i x r := by
  unfold rg_ril at h
  split at h
  · exact ⟨_, _, _, _, rfl, h⟩
  · exact h.elim
def rg_ir (st : List Value) (f : Nat → Int32 → List Value → Prop) : Prop := match st with
  | .int x :: .ref k :: r => f k x r
  | _ => False
theorem rg_ir_inv {st : List Value} {f : Nat → Int32 → List Value → Prop} (h : rg_ir st f) : ∃ (k : Nat) (x : Int32) (r : List Value), st = .int x :: .ref k :: r ∧ f k x r := by
  unfold rg_ir at h
  split at h
  · exact ⟨_, _, _, rfl, h⟩
  · exact h.elim
def rg_a1 (st : List Value) (f : Value → List Value → Prop) : Prop := match st with
  | v :: r => f v r
  | _ => False
theorem rg_a1_inv {st : List Value} {f : Value → List Value → Prop} (h : rg_a1 st f) : ∃ (v : Value) (r : List Value), st = v :: r ∧ f v r := by
  unfold rg_a1 at h
  split at h
  · exact ⟨_, _, rfl, h⟩
  · exact h.elim
def rg_a2 (st : List Value) (f : Value → Value → List Value → Prop) : Prop := match st with
  | v :: u :: r => f u v r
  | _ => False
theorem rg_a2_inv {st : List Value} {f : Value → Value → List Value → Prop} (h : rg_a2 st f) : ∃ (u : Value) (v : Value) (r : List Value), st = v :: u :: r ∧ f u v r := by
  unfold rg_a2 at h
  split at h
  · exact ⟨_, _, _, rfl, h⟩
  · exact h.elim
def rg_ty : Value → Nat
  | .int _ => 0
  | .long _ => 1
  | .ref _ => 2
  | .retAddr _ => 2
  | _ => 3
def rg_ld : List Value → Nat → Nat → (Value → Prop) → Prop
  | [], _, _, _ => False
  | v :: _, 0, t, f => rg_ty v = t ∧ f v
  | _ :: L, k + 1, t, f => rg_ld L k t f
theorem rg_ld_inv {L : List Value} {k t : Nat} {f : Value → Prop} (h : rg_ld L k t f) : ∃ v, L[k]? = some v ∧ rg_ty v = t ∧ f v := by
  induction L generalizing k with
  | nil => exact h.elim
  | cons a L ih =>
    cases k with
    | zero => exact ⟨a, rfl, h.1, h.2⟩
    | succ k =>
      obtain ⟨v, h1, h2⟩ := ih (k := k) h
      exact ⟨v, by simpa using h1, h2⟩
def rg_clr (v : Value) : Value := if v.category = 2 then .null else v
def rg_st : List Value → Nat → Value → (List Value → Prop) → Prop
  | [], _, _, _ => False
  | _ :: L, 0, v, f => f (v :: L)
  | a :: L, k + 1, v, f => rg_st L k v (fun L' => f ((if k = 0 then rg_clr a else a) :: L'))
theorem rg_st_inv {L : List Value} {k : Nat} {v : Value} {f : List Value → Prop} (h : rg_st L k v f) :
    ∃ L', f L' ∧ k < L.length ∧ L'.length = L.length ∧ ∀ (j : Nat) (u : Value), L'[j]? = some u → u ≠ .null → (j = k ∧ u = v) ∨ (j ≠ k ∧ L[j]? = some u ∧ (j + 1 = k → u.category ≠ 2)) := by
  induction L generalizing k f with
  | nil => exact h.elim
  | cons a L ih =>
    cases k with
    | zero =>
      refine ⟨v :: L, h, by simp, by simp, fun j u hj hu => ?_⟩
      cases j with
      | zero =>
        left
        simp at hj
        exact ⟨rfl, hj.symm⟩
      | succ j =>
        right
        refine ⟨by omega, by simpa using hj, fun q => by omega⟩
    | succ k =>
      obtain ⟨L', h1, h2, h4, h3⟩ := ih (k := k) h
      refine ⟨_, h1, by simp; omega, by simp [h4], fun j u hj hu => ?_⟩
      cases j with
      | zero =>
        right
        simp only [List.getElem?_cons_zero, Option.some.injEq] at hj
        by_cases hk : k = 0
        · rw [if_pos hk] at hj
          unfold rg_clr at hj
          by_cases hc : a.category = 2
          · rw [if_pos hc] at hj
            exact absurd hj.symm hu
          · rw [if_neg hc] at hj
            subst hj
            exact ⟨by omega, rfl, fun _ => hc⟩
        · rw [if_neg hk] at hj
          subst hj
          exact ⟨by omega, rfl, fun q => absurd q (by omega)⟩
      | succ j =>
        simp only [List.getElem?_cons_succ] at hj
        rcases h3 j u hj hu with ⟨q1, q2⟩ | ⟨q1, q2, q3⟩
        · exact Or.inl ⟨by omega, q2⟩
        · exact Or.inr ⟨by omega, by simpa using q2, fun q => q3 (by omega)⟩
def rg_pop : Nat → List Value → List Value → (List Value → List Value → Prop) → Prop
  | 0, as, st, f => f as st
  | _ + 1, _, [], _ => False
  | n + 1, as, v :: st, f => rg_pop n (v :: as) st f
theorem rg_pop_inv {n : Nat} {as st : List Value} {f : List Value → List Value → Prop} (h : rg_pop n as st f) : ∃ bs st', bs.length = n ∧ st = bs.reverse ++ st' ∧ f (bs ++ as) st' := by
  induction n generalizing as st with
  | zero => exact ⟨[], st, rfl, rfl, h⟩
  | succ n ih =>
    cases st with
    | nil => exact h.elim
    | cons v st =>
      obtain ⟨bs, st', h1, h2, h3⟩ := ih (as := v :: as) (st := st) h
      refine ⟨bs ++ [v], st', by simp [h1], by simp [h2], by simpa using h3⟩
def rg_wd : List Value → Nat
  | [] => 0
  | v :: st => v.category + rg_wd st
theorem rg_wd_eq (ad : Nat → Nat) (st : List Value) : ((st.map (rg_v ad)).map fun v => v.category).sum = rg_wd st := by
  induction st with
  | nil => rfl
  | cons v st ih =>
    simp only [List.map_cons, List.sum_cons, rg_wd, rg_v_cat]
    rw [ih]
def rg_psh (r : Option Value) (st : List Value) : List Value := match r with
  | some v => v :: st
  | none => st
def rg_cz (c : ClassFile.Cond) (x : Int32) : Prop := match c with
  | .eq => x = 0
  | .ne => ¬ x = 0
  | .lt => x < 0
  | .ge => 0 ≤ x
  | .gt => 0 < x
  | .le => x ≤ 0
def rg_cc (c : ClassFile.Cond) (x y : Int32) : Prop := match c with
  | .eq => x = y
  | .ne => ¬ x = y
  | .lt => x < y
  | .ge => y ≤ x
  | .gt => y < x
  | .le => x ≤ y
/-- a method's tables: fields (pool index: kind, place), calls (pool index: values taken, steps of room, contract), ints, longs, exceptions (pool index of its name at 'new': its number), handlers (exception: pc), most steps of room -/
abbrev rg_P : Type := List (Nat × Nat × Nat) × List (Nat × Nat × Nat × rg_T) × List (Nat × Int32) × List (Nat × Int64) × List (Nat × Nat) × List (Nat × Nat) × Nat
/-- behind a call -/
def rg_nx (hd : List (Nat × Nat)) (pc : Nat) (L st : List Value) (b : Nat) (go : rg_Go) (r : Option Value) (w : rg_W) : Prop := match r with
  | some (.float k) => match rg_lk hd k.toNat with
    | some h => ∀ a : Nat, go h L [.retAddr a] w b
    | none => False
  | r => go (pc + 3) L (rg_psh r st) w b
def rg_inv (P : rg_P) (o : Option (Nat × Nat × rg_T)) (pc : Nat) (L st : List Value) (w : rg_W) (b : Nat) (go : rg_Go) : Prop := match o with
  | none => False
  | some (n, d, T) => (d = 0 ∨ b + d ≤ P.2.2.2.2.2.2) ∧ rg_pop n [] st (fun as st' => rg_wd st' ≤ 8 ∧ T as w (rg_nx P.2.2.2.2.2.1 pc L st' (b + d) go))

/-- what cell o's field k is, o being of kind ci -/
def rg_gf (o ci k : Nat) (w : rg_W) : Option Value := match rg_lay[o]? with
  | some (.inr (c, fs)) => if c = ci then (match fs[k]? with
    | some none => some (.int (w.1 o k))
    | some (some q) => some (.ref q)
    | none => none) else none
  | _ => none
def rg_pf (o ci k : Nat) : Bool := match rg_lay[o]? with
  | some (.inr (c, fs)) => c == ci && fs[k]? == some none
  | _ => false
def rg_ar (o : Nat) : Option (Nat × Nat) := match rg_lay[o]? with
  | some (.inl q) => some q
  | _ => none
abbrev rg_X : Type := Option (Nat × (Nat → Int32))
/-- the script is cell 99 -/
def rg_ial (X : rg_X) (a : Option (Nat × Nat)) (k : Nat) (i : Int32) (w : rg_W) (f : Int32 → Prop) : Prop := match a with
  | some (0, n) => vp_in i n ∧ f (w.1 k i.toNatClampNeg)
  | some (_ + 1, _) => False
  | none => match X with
    | some (n, xs) => k = 99 ∧ vp_in i n ∧ f (xs i.toNatClampNeg)
    | none => False
def rg_zal (a : Option (Nat × Nat)) (k : Nat) (i : Int32) (w : rg_W) (f : Int32 → Prop) : Prop := match a with
  | some (1, n) => vp_in i n ∧ f (w.1 k i.toNatClampNeg)
  | _ => False
def rg_lal (a : Option (Nat × Nat)) (k : Nat) (i : Int32) (w : rg_W) (f : Int64 → Prop) : Prop := match a with
  | some (2, n) => vp_in i n ∧ f (w.2 k i.toNatClampNeg)
  | _ => False
def rg_ias (a : Option (Nat × Nat)) (k : Nat) (i x : Int32) (w : rg_W) (f : rg_W → Prop) : Prop := match a with
  | some (0, n) => vp_in i n ∧ f (rg_up w k i.toNatClampNeg x)
  | _ => False
def rg_zas (a : Option (Nat × Nat)) (k : Nat) (i x : Int32) (w : rg_W) (f : rg_W → Prop) : Prop := match a with
  | some (1, n) => vp_in i n ∧ f (rg_up w k i.toNatClampNeg (vp_nar .boolean x))
  | _ => False
def rg_las (a : Option (Nat × Nat)) (k : Nat) (i : Int32) (x : Int64) (w : rg_W) (f : rg_W → Prop) : Prop := match a with
  | some (2, n) => vp_in i n ∧ f (rg_upL w k i.toNatClampNeg x)
  | _ => False
def rg_some {α : Type} (o : Option α) (f : α → Prop) : Prop := match o with
  | some a => f a
  | none => False
theorem rg_some_inv {α : Type} {o : Option α} {f : α → Prop} (h : rg_some o f) : ∃ a, o = some a ∧ f a := by
  cases o with
  | none => exact h.elim
  | some a => exact ⟨a, rfl, h⟩
def rg_tg (pc : Nat) (off : Int) : Nat := ((pc : Int) + off).toNat

def rg_sem (P : rg_P) (X : rg_X) (i : Instr) (pc : Nat) (L st : List Value) (w : rg_W) (b : Nat) (go : rg_Go) (rt : rg_Rt) : Prop := match i with
  | .iconst n => go (pc + 1) L (.int (Int32.ofInt n) :: st) w b
  | .bipush n => go (pc + 2) L (.int (Int8.ofInt n).toInt32 :: st) w b
  | .sipush n => go (pc + 3) L (.int (Int16.ofInt n).toInt32 :: st) w b
  | .lconst n => go (pc + 1) L (.long (Int64.ofNat n.val) :: st) w b
  | .ldc k => rg_some (rg_lk P.2.2.1 k) (fun v => go (pc + 2) L (.int v :: st) w b)
  | .ldc_w k => rg_some (rg_lk P.2.2.1 k) (fun v => go (pc + 3) L (.int v :: st) w b)
  | .ldc2_w k => rg_some (rg_lk P.2.2.2.1 k) (fun v => go (pc + 3) L (.long v :: st) w b)
  | .iload_n k => rg_ld L k.val 0 (fun v => go (pc + 1) L (v :: st) w b)
  | .iload k => rg_ld L k 0 (fun v => go (pc + 2) L (v :: st) w b)
  | .lload_n k => rg_ld L k.val 1 (fun v => go (pc + 1) L (v :: st) w b)
  | .lload k => rg_ld L k 1 (fun v => go (pc + 2) L (v :: st) w b)
  | .aload_n k => rg_ld L k.val 2 (fun v => go (pc + 1) L (v :: st) w b)
  | .aload k => rg_ld L k 2 (fun v => go (pc + 2) L (v :: st) w b)
  | .istore_n k => rg_i1 st (fun x r => rg_st L k.val (.int x) (fun L' => go (pc + 1) L' r w b))
  | .istore k => rg_i1 st (fun x r => rg_st L k (.int x) (fun L' => go (pc + 2) L' r w b))
  | .astore_n k => rg_a1 st (fun v r => rg_ty v = 2 ∧ rg_st L k.val v (fun L' => go (pc + 1) L' r w b))
  | .astore k => rg_a1 st (fun v r => rg_ty v = 2 ∧ rg_st L k v (fun L' => go (pc + 2) L' r w b))
  | .iinc k n => rg_ld L k 0 (fun v => rg_i1 [v] (fun x _ => rg_st L k (.int (x + Int32.ofInt n)) (fun L' => go (pc + 3) L' st w b)))
  | .iadd => rg_i2 st (fun x y r => go (pc + 1) L (.int (x + y) :: r) w b)
  | .isub => rg_i2 st (fun x y r => go (pc + 1) L (.int (x - y) :: r) w b)
  | .imul => rg_i2 st (fun x y r => go (pc + 1) L (.int (x * y) :: r) w b)
  | .iand => rg_i2 st (fun x y r => go (pc + 1) L (.int (x &&& y) :: r) w b)
  | .ior => rg_i2 st (fun x y r => go (pc + 1) L (.int (x ||| y) :: r) w b)
  | .ixor => rg_i2 st (fun x y r => go (pc + 1) L (.int (x ^^^ y) :: r) w b)
  | .ishl => rg_i2 st (fun x y r => go (pc + 1) L (.int (x <<< (y &&& 31)) :: r) w b)
  | .ishr => rg_i2 st (fun x y r => go (pc + 1) L (.int (x >>> (y &&& 31)) :: r) w b)
  | .iushr => rg_i2 st (fun x y r => go (pc + 1) L (.int (x.toUInt32 >>> (y.toUInt32 &&& Int32.toUInt32 31)).toInt32 :: r) w b)
  | .ladd => rg_l2 st (fun x y r => go (pc + 1) L (.long (x + y) :: r) w b)
  | .land => rg_l2 st (fun x y r => go (pc + 1) L (.long (x &&& y) :: r) w b)
  | .lor => rg_l2 st (fun x y r => go (pc + 1) L (.long (x ||| y) :: r) w b)
  | .lushr => rg_il st (fun x y r => go (pc + 1) L (.long (x.toUInt64 >>> (y.toInt64.toUInt64 &&& Int64.toUInt64 63)).toInt64 :: r) w b)
  | .lshr => rg_il st (fun x y r => go (pc + 1) L (.long (x >>> (y.toInt64 &&& 63)) :: r) w b)
  | .lshl => rg_il st (fun x y r => go (pc + 1) L (.long (x <<< (y.toInt64 &&& 63)) :: r) w b)
  | .lcmp => rg_l2 st (fun x y r => go (pc + 1) L (.int (lg_cmp x y) :: r) w b)
  | .i2l => rg_i1 st (fun x r => go (pc + 1) L (.long x.toInt64 :: r) w b)
  | .l2i => rg_l1 st (fun x r => go (pc + 1) L (.int x.toInt32 :: r) w b)
  | .dup => rg_a1 st (fun v r => v.category = 1 ∧ go (pc + 1) L (v :: v :: r) w b)
  | .pop => rg_a1 st (fun v r => v.category = 1 ∧ go (pc + 1) L r w b)
  | .dup_x1 => rg_a2 st (fun u v r => (v.category = 1 ∧ u.category = 1) ∧ go (pc + 1) L (v :: u :: v :: r) w b)
  | .dup2 => rg_a2 st (fun u v r => (v.category = 1 ∧ u.category = 1) ∧ go (pc + 1) L (v :: u :: v :: u :: r) w b)
  | .ifCond c off => rg_i1 st (fun x r => 0 ≤ (pc : Int) + off ∧ (rg_cz c x → go (rg_tg pc off) L r w b) ∧ (¬ rg_cz c x → go (pc + 3) L r w b))
  | .if_icmp c off => rg_i2 st (fun x y r => 0 ≤ (pc : Int) + off ∧ (rg_cc c x y → go (rg_tg pc off) L r w b) ∧ (¬ rg_cc c x y → go (pc + 3) L r w b))
  | .goto off => 0 ≤ (pc : Int) + off ∧ go (rg_tg pc off) L st w b
  | .tableswitch d lo hi offs => rg_i1 st (fun x r => ((x.toInt < lo ∨ hi < x.toInt) → 0 ≤ (pc : Int) + d ∧ go (rg_tg pc d) L r w b) ∧ (¬ x.toInt < lo → ¬ hi < x.toInt → rg_some (offs[(x.toInt - lo).toNat]?) (fun o => 0 ≤ (pc : Int) + o ∧ go (rg_tg pc o) L r w b)))
  | .getfield k => rg_r1 st (fun o r => rg_some (rg_lk P.1 k) (fun q => rg_some (rg_gf o q.1 q.2 w) (fun v => go (pc + 3) L (v :: r) w b)))
  | .putfield k => rg_ir st (fun o x r => rg_some (rg_lk P.1 k) (fun q => rg_pf o q.1 q.2 = true ∧ go (pc + 3) L r (rg_up w o q.2 x) b))
  | .iaload => rg_ri st (fun k i r => rg_ial X (rg_ar k) k i w (fun x => go (pc + 1) L (.int x :: r) w b))
  | .baload => rg_ri st (fun k i r => rg_zal (rg_ar k) k i w (fun x => go (pc + 1) L (.int x :: r) w b))
  | .laload => rg_ri st (fun k i r => rg_lal (rg_ar k) k i w (fun x => go (pc + 1) L (.long x :: r) w b))
  | .iastore => rg_rii st (fun k i x r => rg_ias (rg_ar k) k i x w (fun w' => go (pc + 1) L r w' b))
  | .bastore => rg_rii st (fun k i x r => rg_zas (rg_ar k) k i x w (fun w' => go (pc + 1) L r w' b))
  | .lastore => rg_ril st (fun k i x r => rg_las (rg_ar k) k i x w (fun w' => go (pc + 1) L r w' b))
  | .arraylength => rg_r1 st (fun k r => k = 99 ∧ rg_some X (fun q => go (pc + 1) L (.int (Int32.ofNat q.1) :: r) w b))
  | .invokestatic k => rg_inv P (rg_lk P.2.1 (2 * k)) pc L st w b go
  | .invokevirtual k => rg_inv P (rg_lk P.2.1 (2 * k + 1)) pc L st w b go
  | .new k => rg_some (rg_lk P.2.2.2.2.1 k) (fun x => rt (some (.float (UInt32.ofNat x))) w b)
  | .ireturn => rg_i1 st (fun x r => r = [] ∧ rt (some (.int x)) w b)
  | .return_ => st = [] ∧ rt none w b
  | _ => False
def rg_len (i : Instr) : Nat := match i with
  | .iconst _ => 1
  | .bipush _ => 2
  | .sipush _ => 3
  | .lconst _ => 1
  | .ldc _ => 2
  | .ldc_w _ => 3
  | .ldc2_w _ => 3
  | .iload_n _ => 1
  | .iload _ => 2
  | .lload_n _ => 1
  | .lload _ => 2
  | .aload_n _ => 1
  | .aload _ => 2
  | .istore_n _ => 1
  | .istore _ => 2
  | .astore_n _ => 1
  | .astore _ => 2
  | .iinc _ _ => 3
  | .iadd  => 1
  | .isub  => 1
  | .imul  => 1
  | .iand  => 1
  | .ior  => 1
  | .ixor  => 1
  | .ishl  => 1
  | .ishr  => 1
  | .iushr  => 1
  | .ladd  => 1
  | .land  => 1
  | .lor  => 1
  | .lushr  => 1
  | .lshr  => 1
  | .lshl  => 1
  | .lcmp  => 1
  | .i2l  => 1
  | .l2i  => 1
  | .dup  => 1
  | .pop  => 1
  | .dup_x1  => 1
  | .dup2  => 1
  | .ifCond _ _ => 3
  | .if_icmp _ _ => 3
  | .goto _ => 3
  | .tableswitch _ _ _ _ => 0
  | .getfield _ => 3
  | .putfield _ => 3
  | .iaload  => 1
  | .baload  => 1
  | .laload  => 1
  | .iastore  => 1
  | .bastore  => 1
  | .lastore  => 1
  | .arraylength  => 1
  | .invokestatic _ => 3
  | .invokevirtual _ => 3
  | .new _ => 3
  | .ireturn  => 1
  | .return_  => 1
  | _ => 0
def rg_one (P : rg_P) (X : rg_X) (cc : ByteArray) (go : rg_Go) (rt : rg_Rt) (pc : Nat) (L st : List Value) (w : rg_W) (b : Nat) : Prop := match decode cc pc with
  | .ok (i, len) => (rg_len i = 0 ∨ rg_len i = len) ∧ rg_sem P X i pc L st w b go rt
  | .error _ => False
/-- a walk of at most n instructions that stops where 'cut' says (not at its first one, where f is true) -/
def rg_run (P : rg_P) (X : rg_X) (cc : ByteArray) (cut : Nat → Bool) (Z : rg_Go) (rt : rg_Rt) : Bool → Nat → rg_Go
  | _, 0 => Z
  | f, n + 1 => fun pc L st w b => if (!f && cut pc) = true then Z pc L st w b else rg_one P X cc (rg_run P X cc cut Z rt false n) rt pc L st w b
section
variable {P : rg_P} {X : rg_X} {cc : ByteArray} {cut : Nat → Bool} {Z : rg_Go} {rt : rg_Rt}
theorem rg_run_s {f : Bool} {n pc : Nat} {L st : List Value} {w : rg_W} {b : Nat} {i : Instr} {len : Nat} (h : decode cc pc = .ok (i, len)) (hl : rg_len i = 0 ∨ rg_len i = len) (hc : (!f && cut pc) = false) :
    rg_run P X cc cut Z rt f (n + 1) pc L st w b = rg_sem P X i pc L st w b (rg_run P X cc cut Z rt false n) rt := by
  show (if (!f && cut pc) = true then Z pc L st w b else rg_one P X cc (rg_run P X cc cut Z rt false n) rt pc L st w b) = _
  rw [hc, if_neg (by decide)]
  unfold rg_one
  rw [h]
  exact propext ⟨fun q => q.2, fun q => ⟨hl, q⟩⟩
theorem rg_e_cut (pc : Nat) (hc : cut pc = true) (n : Nat) (L st : List Value) (w : rg_W) (b : Nat) : rg_run P X cc cut Z rt false n pc L st w b = Z pc L st w b := by
  cases n with
  | zero => rfl
  | succ n =>
    show (if (!false && cut pc) = true then Z pc L st w b else _) = _
    rw [hc]
    rfl
theorem rg_tg_eq {pc q : Nat} {off : Int} (h : (pc : Int) + off = (q : Int)) : rg_tg pc off = q ∧ 0 ≤ (pc : Int) + off := by
  unfold rg_tg
  omega

theorem rg_e_iconst {f : Bool} {pc : Nat} {k : Int} (h : decode cc pc = .ok (.iconst k, 1)) (hc : (!f && cut pc) = false) (q : Nat) (hq : pc + 1 = q) (v : Int32) (hv : Int32.ofInt k = v) (n : Nat) (L st : List Value) (w : rg_W) (b : Nat) : rg_run P X cc cut Z rt f (n + 1) pc L st w b = (rg_run P X cc cut Z rt false n q L (.int v :: st) w b) := by
  subst hq
  rw [rg_run_s h (by first | exact Or.inr rfl | exact Or.inl rfl) hc]
  rw [← hv]
  rfl
theorem rg_e_bipush {f : Bool} {pc : Nat} {k : Int} (h : decode cc pc = .ok (.bipush k, 2)) (hc : (!f && cut pc) = false) (q : Nat) (hq : pc + 2 = q) (v : Int32) (hv : (Int8.ofInt k).toInt32 = v) (n : Nat) (L st : List Value) (w : rg_W) (b : Nat) : rg_run P X cc cut Z rt f (n + 1) pc L st w b = (rg_run P X cc cut Z rt false n q L (.int v :: st) w b) := by
  subst hq
  rw [rg_run_s h (by first | exact Or.inr rfl | exact Or.inl rfl) hc]
  rw [← hv]
  rfl
theorem rg_e_sipush {f : Bool} {pc : Nat} {k : Int} (h : decode cc pc = .ok (.sipush k, 3)) (hc : (!f && cut pc) = false) (q : Nat) (hq : pc + 3 = q) (v : Int32) (hv : (Int16.ofInt k).toInt32 = v) (n : Nat) (L st : List Value) (w : rg_W) (b : Nat) : rg_run P X cc cut Z rt f (n + 1) pc L st w b = (rg_run P X cc cut Z rt false n q L (.int v :: st) w b) := by
  subst hq
  rw [rg_run_s h (by first | exact Or.inr rfl | exact Or.inl rfl) hc]
  rw [← hv]
  rfl
theorem rg_e_lconst {f : Bool} {pc : Nat} {k : Fin 2} (h : decode cc pc = .ok (.lconst k, 1)) (hc : (!f && cut pc) = false) (q : Nat) (hq : pc + 1 = q) (v : Int64) (hv : Int64.ofNat k.val = v) (n : Nat) (L st : List Value) (w : rg_W) (b : Nat) : rg_run P X cc cut Z rt f (n + 1) pc L st w b = (rg_run P X cc cut Z rt false n q L (.long v :: st) w b) := by
  subst hq
  rw [rg_run_s h (by first | exact Or.inr rfl | exact Or.inl rfl) hc]
  rw [← hv]
  rfl
theorem rg_e_ldc {f : Bool} {pc : Nat} {k : Nat} (h : decode cc pc = .ok (.ldc k, 2)) (hc : (!f && cut pc) = false) (q : Nat) (hq : pc + 2 = q) (v : Int32) (hv : rg_lk P.2.2.1 k = some v) (n : Nat) (L st : List Value) (w : rg_W) (b : Nat) : rg_run P X cc cut Z rt f (n + 1) pc L st w b = (rg_run P X cc cut Z rt false n q L (.int v :: st) w b) := by
  subst hq
  rw [rg_run_s h (by first | exact Or.inr rfl | exact Or.inl rfl) hc]
  show rg_some (rg_lk P.2.2.1 k) _ = _
  rw [hv]
  rfl
theorem rg_e_ldcw {f : Bool} {pc : Nat} {k : Nat} (h : decode cc pc = .ok (.ldc_w k, 3)) (hc : (!f && cut pc) = false) (q : Nat) (hq : pc + 3 = q) (v : Int32) (hv : rg_lk P.2.2.1 k = some v) (n : Nat) (L st : List Value) (w : rg_W) (b : Nat) : rg_run P X cc cut Z rt f (n + 1) pc L st w b = (rg_run P X cc cut Z rt false n q L (.int v :: st) w b) := by
  subst hq
  rw [rg_run_s h (by first | exact Or.inr rfl | exact Or.inl rfl) hc]
  show rg_some (rg_lk P.2.2.1 k) _ = _
  rw [hv]
  rfl
theorem rg_e_ldc2 {f : Bool} {pc : Nat} {k : Nat} (h : decode cc pc = .ok (.ldc2_w k, 3)) (hc : (!f && cut pc) = false) (q : Nat) (hq : pc + 3 = q) (v : Int64) (hv : rg_lk P.2.2.2.1 k = some v) (n : Nat) (L st : List Value) (w : rg_W) (b : Nat) : rg_run P X cc cut Z rt f (n + 1) pc L st w b = (rg_run P X cc cut Z rt false n q L (.long v :: st) w b) := by
  subst hq
  rw [rg_run_s h (by first | exact Or.inr rfl | exact Or.inl rfl) hc]
  show rg_some (rg_lk P.2.2.2.1 k) _ = _
  rw [hv]
  rfl
theorem rg_e_iload_0 {f : Bool} {pc : Nat} (h : decode cc pc = .ok (.iload_n 0, 1)) (hc : (!f && cut pc) = false) (q : Nat) (hq : pc + 1 = q) (n : Nat) (x : Int32) (L st : List Value) (w : rg_W) (b : Nat) : rg_run P X cc cut Z rt f (n + 1) pc (.int x :: L) st w b = (rg_run P X cc cut Z rt false n q (.int x :: L) (.int x :: st) w b) := by
  subst hq
  rw [rg_run_s h (by first | exact Or.inr rfl | exact Or.inl rfl) hc]
  exact propext ⟨fun z => z.2, fun z => ⟨rfl, z⟩⟩
theorem rg_e_lload_0 {f : Bool} {pc : Nat} (h : decode cc pc = .ok (.lload_n 0, 1)) (hc : (!f && cut pc) = false) (q : Nat) (hq : pc + 1 = q) (n : Nat) (x : Int64) (L st : List Value) (w : rg_W) (b : Nat) : rg_run P X cc cut Z rt f (n + 1) pc (.long x :: L) st w b = (rg_run P X cc cut Z rt false n q (.long x :: L) (.long x :: st) w b) := by
  subst hq
  rw [rg_run_s h (by first | exact Or.inr rfl | exact Or.inl rfl) hc]
  exact propext ⟨fun z => z.2, fun z => ⟨rfl, z⟩⟩
theorem rg_e_aload_0 {f : Bool} {pc : Nat} (h : decode cc pc = .ok (.aload_n 0, 1)) (hc : (!f && cut pc) = false) (q : Nat) (hq : pc + 1 = q) (n : Nat) (x : Nat) (L st : List Value) (w : rg_W) (b : Nat) : rg_run P X cc cut Z rt f (n + 1) pc (.ref x :: L) st w b = (rg_run P X cc cut Z rt false n q (.ref x :: L) (.ref x :: st) w b) := by
  subst hq
  rw [rg_run_s h (by first | exact Or.inr rfl | exact Or.inl rfl) hc]
  exact propext ⟨fun z => z.2, fun z => ⟨rfl, z⟩⟩
theorem rg_e_istore_0 {f : Bool} {pc : Nat} (h : decode cc pc = .ok (.istore_n 0, 1)) (hc : (!f && cut pc) = false) (q : Nat) (hq : pc + 1 = q) (n : Nat) (a0 : Value) (x : Int32) (L r : List Value) (w : rg_W) (b : Nat) : rg_run P X cc cut Z rt f (n + 1) pc (a0 :: L) (.int x :: r) w b = (rg_run P X cc cut Z rt false n q (.int x :: L) r w b) := by
  subst hq
  rw [rg_run_s h (by first | exact Or.inr rfl | exact Or.inl rfl) hc]
  rfl
theorem rg_e_astore_0 {f : Bool} {pc : Nat} (h : decode cc pc = .ok (.astore_n 0, 1)) (hc : (!f && cut pc) = false) (q : Nat) (hq : pc + 1 = q) (n : Nat) (a0 : Value) (x : Nat) (L r : List Value) (w : rg_W) (b : Nat) : rg_run P X cc cut Z rt f (n + 1) pc (a0 :: L) (.ref x :: r) w b = (rg_run P X cc cut Z rt false n q (.ref x :: L) r w b) := by
  subst hq
  rw [rg_run_s h (by first | exact Or.inr rfl | exact Or.inl rfl) hc]
  exact propext ⟨fun z => z.2, fun z => ⟨rfl, z⟩⟩
theorem rg_e_xstore_0 {f : Bool} {pc : Nat} (h : decode cc pc = .ok (.astore_n 0, 1)) (hc : (!f && cut pc) = false) (q : Nat) (hq : pc + 1 = q) (n : Nat) (a0 : Value) (x : Nat) (L r : List Value) (w : rg_W) (b : Nat) : rg_run P X cc cut Z rt f (n + 1) pc (a0 :: L) (.retAddr x :: r) w b = (rg_run P X cc cut Z rt false n q (.retAddr x :: L) r w b) := by
  subst hq
  rw [rg_run_s h (by first | exact Or.inr rfl | exact Or.inl rfl) hc]
  exact propext ⟨fun z => z.2, fun z => ⟨rfl, z⟩⟩
theorem rg_e_iinc_0 {f : Bool} {pc : Nat} {m : Int} (h : decode cc pc = .ok (.iinc 0 m, 3)) (hc : (!f && cut pc) = false) (q : Nat) (hq : pc + 3 = q) (v : Int32) (hv : Int32.ofInt m = v) (n : Nat) (x : Int32) (L st : List Value) (w : rg_W) (b : Nat) : rg_run P X cc cut Z rt f (n + 1) pc (.int x :: L) st w b = (rg_run P X cc cut Z rt false n q (.int (x + v) :: L) st w b) := by
  subst hq
  rw [rg_run_s h (by first | exact Or.inr rfl | exact Or.inl rfl) hc]
  rw [← hv]
  exact propext ⟨fun z => z.2, fun z => ⟨rfl, z⟩⟩
theorem rg_e_iload_1 {f : Bool} {pc : Nat} (h : decode cc pc = .ok (.iload_n 1, 1)) (hc : (!f && cut pc) = false) (q : Nat) (hq : pc + 1 = q) (n : Nat) (a0 : Value) (x : Int32) (L st : List Value) (w : rg_W) (b : Nat) : rg_run P X cc cut Z rt f (n + 1) pc (a0 :: .int x :: L) st w b = (rg_run P X cc cut Z rt false n q (a0 :: .int x :: L) (.int x :: st) w b) := by
  subst hq
  rw [rg_run_s h (by first | exact Or.inr rfl | exact Or.inl rfl) hc]
  exact propext ⟨fun z => z.2, fun z => ⟨rfl, z⟩⟩
theorem rg_e_lload_1 {f : Bool} {pc : Nat} (h : decode cc pc = .ok (.lload_n 1, 1)) (hc : (!f && cut pc) = false) (q : Nat) (hq : pc + 1 = q) (n : Nat) (a0 : Value) (x : Int64) (L st : List Value) (w : rg_W) (b : Nat) : rg_run P X cc cut Z rt f (n + 1) pc (a0 :: .long x :: L) st w b = (rg_run P X cc cut Z rt false n q (a0 :: .long x :: L) (.long x :: st) w b) := by
  subst hq
  rw [rg_run_s h (by first | exact Or.inr rfl | exact Or.inl rfl) hc]
  exact propext ⟨fun z => z.2, fun z => ⟨rfl, z⟩⟩
theorem rg_e_aload_1 {f : Bool} {pc : Nat} (h : decode cc pc = .ok (.aload_n 1, 1)) (hc : (!f && cut pc) = false) (q : Nat) (hq : pc + 1 = q) (n : Nat) (a0 : Value) (x : Nat) (L st : List Value) (w : rg_W) (b : Nat) : rg_run P X cc cut Z rt f (n + 1) pc (a0 :: .ref x :: L) st w b = (rg_run P X cc cut Z rt false n q (a0 :: .ref x :: L) (.ref x :: st) w b) := by
  subst hq
  rw [rg_run_s h (by first | exact Or.inr rfl | exact Or.inl rfl) hc]
  exact propext ⟨fun z => z.2, fun z => ⟨rfl, z⟩⟩
theorem rg_e_istore_1 {f : Bool} {pc : Nat} (h : decode cc pc = .ok (.istore_n 1, 1)) (hc : (!f && cut pc) = false) (q : Nat) (hq : pc + 1 = q) (n : Nat) (a0 : Value) (a1 : Value) (x : Int32) (L r : List Value) (w : rg_W) (b : Nat) : rg_run P X cc cut Z rt f (n + 1) pc (a0 :: a1 :: L) (.int x :: r) w b = (rg_run P X cc cut Z rt false n q (rg_clr a0 :: .int x :: L) r w b) := by
  subst hq
  rw [rg_run_s h (by first | exact Or.inr rfl | exact Or.inl rfl) hc]
  rfl
theorem rg_e_astore_1 {f : Bool} {pc : Nat} (h : decode cc pc = .ok (.astore_n 1, 1)) (hc : (!f && cut pc) = false) (q : Nat) (hq : pc + 1 = q) (n : Nat) (a0 : Value) (a1 : Value) (x : Nat) (L r : List Value) (w : rg_W) (b : Nat) : rg_run P X cc cut Z rt f (n + 1) pc (a0 :: a1 :: L) (.ref x :: r) w b = (rg_run P X cc cut Z rt false n q (rg_clr a0 :: .ref x :: L) r w b) := by
  subst hq
  rw [rg_run_s h (by first | exact Or.inr rfl | exact Or.inl rfl) hc]
  exact propext ⟨fun z => z.2, fun z => ⟨rfl, z⟩⟩
theorem rg_e_xstore_1 {f : Bool} {pc : Nat} (h : decode cc pc = .ok (.astore_n 1, 1)) (hc : (!f && cut pc) = false) (q : Nat) (hq : pc + 1 = q) (n : Nat) (a0 : Value) (a1 : Value) (x : Nat) (L r : List Value) (w : rg_W) (b : Nat) : rg_run P X cc cut Z rt f (n + 1) pc (a0 :: a1 :: L) (.retAddr x :: r) w b = (rg_run P X cc cut Z rt false n q (rg_clr a0 :: .retAddr x :: L) r w b) := by
  subst hq
  rw [rg_run_s h (by first | exact Or.inr rfl | exact Or.inl rfl) hc]
  exact propext ⟨fun z => z.2, fun z => ⟨rfl, z⟩⟩
theorem rg_e_iinc_1 {f : Bool} {pc : Nat} {m : Int} (h : decode cc pc = .ok (.iinc 1 m, 3)) (hc : (!f && cut pc) = false) (q : Nat) (hq : pc + 3 = q) (v : Int32) (hv : Int32.ofInt m = v) (n : Nat) (a0 : Value) (x : Int32) (L st : List Value) (w : rg_W) (b : Nat) : rg_run P X cc cut Z rt f (n + 1) pc (a0 :: .int x :: L) st w b = (rg_run P X cc cut Z rt false n q (rg_clr a0 :: .int (x + v) :: L) st w b) := by
  subst hq
  rw [rg_run_s h (by first | exact Or.inr rfl | exact Or.inl rfl) hc]
  rw [← hv]
  exact propext ⟨fun z => z.2, fun z => ⟨rfl, z⟩⟩
theorem rg_e_iload_2 {f : Bool} {pc : Nat} (h : decode cc pc = .ok (.iload_n 2, 1)) (hc : (!f && cut pc) = false) (q : Nat) (hq : pc + 1 = q) (n : Nat) (a0 : Value) (a1 : Value) (x : Int32) (L st : List Value) (w : rg_W) (b : Nat) : rg_run P X cc cut Z rt f (n + 1) pc (a0 :: a1 :: .int x :: L) st w b = (rg_run P X cc cut Z rt false n q (a0 :: a1 :: .int x :: L) (.int x :: st) w b) := by
  subst hq
  rw [rg_run_s h (by first | exact Or.inr rfl | exact Or.inl rfl) hc]
  exact propext ⟨fun z => z.2, fun z => ⟨rfl, z⟩⟩
theorem rg_e_lload_2 {f : Bool} {pc : Nat} (h : decode cc pc = .ok (.lload_n 2, 1)) (hc : (!f && cut pc) = false) (q : Nat) (hq : pc + 1 = q) (n : Nat) (a0 : Value) (a1 : Value) (x : Int64) (L st : List Value) (w : rg_W) (b : Nat) : rg_run P X cc cut Z rt f (n + 1) pc (a0 :: a1 :: .long x :: L) st w b = (rg_run P X cc cut Z rt false n q (a0 :: a1 :: .long x :: L) (.long x :: st) w b) := by
  subst hq
  rw [rg_run_s h (by first | exact Or.inr rfl | exact Or.inl rfl) hc]
  exact propext ⟨fun z => z.2, fun z => ⟨rfl, z⟩⟩
theorem rg_e_aload_2 {f : Bool} {pc : Nat} (h : decode cc pc = .ok (.aload_n 2, 1)) (hc : (!f && cut pc) = false) (q : Nat) (hq : pc + 1 = q) (n : Nat) (a0 : Value) (a1 : Value) (x : Nat) (L st : List Value) (w : rg_W) (b : Nat) : rg_run P X cc cut Z rt f (n + 1) pc (a0 :: a1 :: .ref x :: L) st w b = (rg_run P X cc cut Z rt false n q (a0 :: a1 :: .ref x :: L) (.ref x :: st) w b) := by
  subst hq
  rw [rg_run_s h (by first | exact Or.inr rfl | exact Or.inl rfl) hc]
  exact propext ⟨fun z => z.2, fun z => ⟨rfl, z⟩⟩
theorem rg_e_istore_2 {f : Bool} {pc : Nat} (h : decode cc pc = .ok (.istore_n 2, 1)) (hc : (!f && cut pc) = false) (q : Nat) (hq : pc + 1 = q) (n : Nat) (a0 : Value) (a1 : Value) (a2 : Value) (x : Int32) (L r : List Value) (w : rg_W) (b : Nat) : rg_run P X cc cut Z rt f (n + 1) pc (a0 :: a1 :: a2 :: L) (.int x :: r) w b = (rg_run P X cc cut Z rt false n q (a0 :: rg_clr a1 :: .int x :: L) r w b) := by
  subst hq
  rw [rg_run_s h (by first | exact Or.inr rfl | exact Or.inl rfl) hc]
  rfl
theorem rg_e_astore_2 {f : Bool} {pc : Nat} (h : decode cc pc = .ok (.astore_n 2, 1)) (hc : (!f && cut pc) = false) (q : Nat) (hq : pc + 1 = q) (n : Nat) (a0 : Value) (a1 : Value) (a2 : Value) (x : Nat) (L r : List Value) (w : rg_W) (b : Nat) : rg_run P X cc cut Z rt f (n + 1) pc (a0 :: a1 :: a2 :: L) (.ref x :: r) w b = (rg_run P X cc cut Z rt false n q (a0 :: rg_clr a1 :: .ref x :: L) r w b) := by
  subst hq
  rw [rg_run_s h (by first | exact Or.inr rfl | exact Or.inl rfl) hc]
  exact propext ⟨fun z => z.2, fun z => ⟨rfl, z⟩⟩
theorem rg_e_xstore_2 {f : Bool} {pc : Nat} (h : decode cc pc = .ok (.astore_n 2, 1)) (hc : (!f && cut pc) = false) (q : Nat) (hq : pc + 1 = q) (n : Nat) (a0 : Value) (a1 : Value) (a2 : Value) (x : Nat) (L r : List Value) (w : rg_W) (b : Nat) : rg_run P X cc cut Z rt f (n + 1) pc (a0 :: a1 :: a2 :: L) (.retAddr x :: r) w b = (rg_run P X cc cut Z rt false n q (a0 :: rg_clr a1 :: .retAddr x :: L) r w b) := by
  subst hq
  rw [rg_run_s h (by first | exact Or.inr rfl | exact Or.inl rfl) hc]
  exact propext ⟨fun z => z.2, fun z => ⟨rfl, z⟩⟩
theorem rg_e_iinc_2 {f : Bool} {pc : Nat} {m : Int} (h : decode cc pc = .ok (.iinc 2 m, 3)) (hc : (!f && cut pc) = false) (q : Nat) (hq : pc + 3 = q) (v : Int32) (hv : Int32.ofInt m = v) (n : Nat) (a0 : Value) (a1 : Value) (x : Int32) (L st : List Value) (w : rg_W) (b : Nat) : rg_run P X cc cut Z rt f (n + 1) pc (a0 :: a1 :: .int x :: L) st w b = (rg_run P X cc cut Z rt false n q (a0 :: rg_clr a1 :: .int (x + v) :: L) st w b) := by
  subst hq
  rw [rg_run_s h (by first | exact Or.inr rfl | exact Or.inl rfl) hc]
  rw [← hv]
  exact propext ⟨fun z => z.2, fun z => ⟨rfl, z⟩⟩
theorem rg_e_iload_3 {f : Bool} {pc : Nat} (h : decode cc pc = .ok (.iload_n 3, 1)) (hc : (!f && cut pc) = false) (q : Nat) (hq : pc + 1 = q) (n : Nat) (a0 : Value) (a1 : Value) (a2 : Value) (x : Int32) (L st : List Value) (w : rg_W) (b : Nat) : rg_run P X cc cut Z rt f (n + 1) pc (a0 :: a1 :: a2 :: .int x :: L) st w b = (rg_run P X cc cut Z rt false n q (a0 :: a1 :: a2 :: .int x :: L) (.int x :: st) w b) := by
  subst hq
  rw [rg_run_s h (by first | exact Or.inr rfl | exact Or.inl rfl) hc]
  exact propext ⟨fun z => z.2, fun z => ⟨rfl, z⟩⟩
theorem rg_e_lload_3 {f : Bool} {pc : Nat} (h : decode cc pc = .ok (.lload_n 3, 1)) (hc : (!f && cut pc) = false) (q : Nat) (hq : pc + 1 = q) (n : Nat) (a0 : Value) (a1 : Value) (a2 : Value) (x : Int64) (L st : List Value) (w : rg_W) (b : Nat) : rg_run P X cc cut Z rt f (n + 1) pc (a0 :: a1 :: a2 :: .long x :: L) st w b = (rg_run P X cc cut Z rt false n q (a0 :: a1 :: a2 :: .long x :: L) (.long x :: st) w b) := by
  subst hq
  rw [rg_run_s h (by first | exact Or.inr rfl | exact Or.inl rfl) hc]
  exact propext ⟨fun z => z.2, fun z => ⟨rfl, z⟩⟩
theorem rg_e_aload_3 {f : Bool} {pc : Nat} (h : decode cc pc = .ok (.aload_n 3, 1)) (hc : (!f && cut pc) = false) (q : Nat) (hq : pc + 1 = q) (n : Nat) (a0 : Value) (a1 : Value) (a2 : Value) (x : Nat) (L st : List Value) (w : rg_W) (b : Nat) : rg_run P X cc cut Z rt f (n + 1) pc (a0 :: a1 :: a2 :: .ref x :: L) st w b = (rg_run P X cc cut Z rt false n q (a0 :: a1 :: a2 :: .ref x :: L) (.ref x :: st) w b) := by
  subst hq
  rw [rg_run_s h (by first | exact Or.inr rfl | exact Or.inl rfl) hc]
  exact propext ⟨fun z => z.2, fun z => ⟨rfl, z⟩⟩
theorem rg_e_istore_3 {f : Bool} {pc : Nat} (h : decode cc pc = .ok (.istore_n 3, 1)) (hc : (!f && cut pc) = false) (q : Nat) (hq : pc + 1 = q) (n : Nat) (a0 : Value) (a1 : Value) (a2 : Value) (a3 : Value) (x : Int32) (L r : List Value) (w : rg_W) (b : Nat) : rg_run P X cc cut Z rt f (n + 1) pc (a0 :: a1 :: a2 :: a3 :: L) (.int x :: r) w b = (rg_run P X cc cut Z rt false n q (a0 :: a1 :: rg_clr a2 :: .int x :: L) r w b) := by
  subst hq
  rw [rg_run_s h (by first | exact Or.inr rfl | exact Or.inl rfl) hc]
  rfl
theorem rg_e_astore_3 {f : Bool} {pc : Nat} (h : decode cc pc = .ok (.astore_n 3, 1)) (hc : (!f && cut pc) = false) (q : Nat) (hq : pc + 1 = q) (n : Nat) (a0 : Value) (a1 : Value) (a2 : Value) (a3 : Value) (x : Nat) (L r : List Value) (w : rg_W) (b : Nat) : rg_run P X cc cut Z rt f (n + 1) pc (a0 :: a1 :: a2 :: a3 :: L) (.ref x :: r) w b = (rg_run P X cc cut Z rt false n q (a0 :: a1 :: rg_clr a2 :: .ref x :: L) r w b) := by
  subst hq
  rw [rg_run_s h (by first | exact Or.inr rfl | exact Or.inl rfl) hc]
  exact propext ⟨fun z => z.2, fun z => ⟨rfl, z⟩⟩
theorem rg_e_xstore_3 {f : Bool} {pc : Nat} (h : decode cc pc = .ok (.astore_n 3, 1)) (hc : (!f && cut pc) = false) (q : Nat) (hq : pc + 1 = q) (n : Nat) (a0 : Value) (a1 : Value) (a2 : Value) (a3 : Value) (x : Nat) (L r : List Value) (w : rg_W) (b : Nat) : rg_run P X cc cut Z rt f (n + 1) pc (a0 :: a1 :: a2 :: a3 :: L) (.retAddr x :: r) w b = (rg_run P X cc cut Z rt false n q (a0 :: a1 :: rg_clr a2 :: .retAddr x :: L) r w b) := by
  subst hq
  rw [rg_run_s h (by first | exact Or.inr rfl | exact Or.inl rfl) hc]
  exact propext ⟨fun z => z.2, fun z => ⟨rfl, z⟩⟩
theorem rg_e_iinc_3 {f : Bool} {pc : Nat} {m : Int} (h : decode cc pc = .ok (.iinc 3 m, 3)) (hc : (!f && cut pc) = false) (q : Nat) (hq : pc + 3 = q) (v : Int32) (hv : Int32.ofInt m = v) (n : Nat) (a0 : Value) (a1 : Value) (a2 : Value) (x : Int32) (L st : List Value) (w : rg_W) (b : Nat) : rg_run P X cc cut Z rt f (n + 1) pc (a0 :: a1 :: a2 :: .int x :: L) st w b = (rg_run P X cc cut Z rt false n q (a0 :: a1 :: rg_clr a2 :: .int (x + v) :: L) st w b) := by
  subst hq
  rw [rg_run_s h (by first | exact Or.inr rfl | exact Or.inl rfl) hc]
  rw [← hv]
  exact propext ⟨fun z => z.2, fun z => ⟨rfl, z⟩⟩
theorem rg_e_iload_4 {f : Bool} {pc : Nat} (h : decode cc pc = .ok (.iload 4, 2)) (hc : (!f && cut pc) = false) (q : Nat) (hq : pc + 2 = q) (n : Nat) (a0 : Value) (a1 : Value) (a2 : Value) (a3 : Value) (x : Int32) (L st : List Value) (w : rg_W) (b : Nat) : rg_run P X cc cut Z rt f (n + 1) pc (a0 :: a1 :: a2 :: a3 :: .int x :: L) st w b = (rg_run P X cc cut Z rt false n q (a0 :: a1 :: a2 :: a3 :: .int x :: L) (.int x :: st) w b) := by
  subst hq
  rw [rg_run_s h (by first | exact Or.inr rfl | exact Or.inl rfl) hc]
  exact propext ⟨fun z => z.2, fun z => ⟨rfl, z⟩⟩
theorem rg_e_aload_4 {f : Bool} {pc : Nat} (h : decode cc pc = .ok (.aload 4, 2)) (hc : (!f && cut pc) = false) (q : Nat) (hq : pc + 2 = q) (n : Nat) (a0 : Value) (a1 : Value) (a2 : Value) (a3 : Value) (x : Nat) (L st : List Value) (w : rg_W) (b : Nat) : rg_run P X cc cut Z rt f (n + 1) pc (a0 :: a1 :: a2 :: a3 :: .ref x :: L) st w b = (rg_run P X cc cut Z rt false n q (a0 :: a1 :: a2 :: a3 :: .ref x :: L) (.ref x :: st) w b) := by
  subst hq
  rw [rg_run_s h (by first | exact Or.inr rfl | exact Or.inl rfl) hc]
  exact propext ⟨fun z => z.2, fun z => ⟨rfl, z⟩⟩
theorem rg_e_istore_4 {f : Bool} {pc : Nat} (h : decode cc pc = .ok (.istore 4, 2)) (hc : (!f && cut pc) = false) (q : Nat) (hq : pc + 2 = q) (n : Nat) (a0 : Value) (a1 : Value) (a2 : Value) (a3 : Value) (a4 : Value) (x : Int32) (L r : List Value) (w : rg_W) (b : Nat) : rg_run P X cc cut Z rt f (n + 1) pc (a0 :: a1 :: a2 :: a3 :: a4 :: L) (.int x :: r) w b = (rg_run P X cc cut Z rt false n q (a0 :: a1 :: a2 :: rg_clr a3 :: .int x :: L) r w b) := by
  subst hq
  rw [rg_run_s h (by first | exact Or.inr rfl | exact Or.inl rfl) hc]
  rfl
theorem rg_e_astore_4 {f : Bool} {pc : Nat} (h : decode cc pc = .ok (.astore 4, 2)) (hc : (!f && cut pc) = false) (q : Nat) (hq : pc + 2 = q) (n : Nat) (a0 : Value) (a1 : Value) (a2 : Value) (a3 : Value) (a4 : Value) (x : Nat) (L r : List Value) (w : rg_W) (b : Nat) : rg_run P X cc cut Z rt f (n + 1) pc (a0 :: a1 :: a2 :: a3 :: a4 :: L) (.ref x :: r) w b = (rg_run P X cc cut Z rt false n q (a0 :: a1 :: a2 :: rg_clr a3 :: .ref x :: L) r w b) := by
  subst hq
  rw [rg_run_s h (by first | exact Or.inr rfl | exact Or.inl rfl) hc]
  exact propext ⟨fun z => z.2, fun z => ⟨rfl, z⟩⟩
theorem rg_e_xstore_4 {f : Bool} {pc : Nat} (h : decode cc pc = .ok (.astore 4, 2)) (hc : (!f && cut pc) = false) (q : Nat) (hq : pc + 2 = q) (n : Nat) (a0 : Value) (a1 : Value) (a2 : Value) (a3 : Value) (a4 : Value) (x : Nat) (L r : List Value) (w : rg_W) (b : Nat) : rg_run P X cc cut Z rt f (n + 1) pc (a0 :: a1 :: a2 :: a3 :: a4 :: L) (.retAddr x :: r) w b = (rg_run P X cc cut Z rt false n q (a0 :: a1 :: a2 :: rg_clr a3 :: .retAddr x :: L) r w b) := by
  subst hq
  rw [rg_run_s h (by first | exact Or.inr rfl | exact Or.inl rfl) hc]
  exact propext ⟨fun z => z.2, fun z => ⟨rfl, z⟩⟩
theorem rg_e_iinc_4 {f : Bool} {pc : Nat} {m : Int} (h : decode cc pc = .ok (.iinc 4 m, 3)) (hc : (!f && cut pc) = false) (q : Nat) (hq : pc + 3 = q) (v : Int32) (hv : Int32.ofInt m = v) (n : Nat) (a0 : Value) (a1 : Value) (a2 : Value) (a3 : Value) (x : Int32) (L st : List Value) (w : rg_W) (b : Nat) : rg_run P X cc cut Z rt f (n + 1) pc (a0 :: a1 :: a2 :: a3 :: .int x :: L) st w b = (rg_run P X cc cut Z rt false n q (a0 :: a1 :: a2 :: rg_clr a3 :: .int (x + v) :: L) st w b) := by
  subst hq
  rw [rg_run_s h (by first | exact Or.inr rfl | exact Or.inl rfl) hc]
  rw [← hv]
  exact propext ⟨fun z => z.2, fun z => ⟨rfl, z⟩⟩
theorem rg_e_iload_5 {f : Bool} {pc : Nat} (h : decode cc pc = .ok (.iload 5, 2)) (hc : (!f && cut pc) = false) (q : Nat) (hq : pc + 2 = q) (n : Nat) (a0 : Value) (a1 : Value) (a2 : Value) (a3 : Value) (a4 : Value) (x : Int32) (L st : List Value) (w : rg_W) (b : Nat) : rg_run P X cc cut Z rt f (n + 1) pc (a0 :: a1 :: a2 :: a3 :: a4 :: .int x :: L) st w b = (rg_run P X cc cut Z rt false n q (a0 :: a1 :: a2 :: a3 :: a4 :: .int x :: L) (.int x :: st) w b) := by
  subst hq
  rw [rg_run_s h (by first | exact Or.inr rfl | exact Or.inl rfl) hc]
  exact propext ⟨fun z => z.2, fun z => ⟨rfl, z⟩⟩
theorem rg_e_aload_5 {f : Bool} {pc : Nat} (h : decode cc pc = .ok (.aload 5, 2)) (hc : (!f && cut pc) = false) (q : Nat) (hq : pc + 2 = q) (n : Nat) (a0 : Value) (a1 : Value) (a2 : Value) (a3 : Value) (a4 : Value) (x : Nat) (L st : List Value) (w : rg_W) (b : Nat) : rg_run P X cc cut Z rt f (n + 1) pc (a0 :: a1 :: a2 :: a3 :: a4 :: .ref x :: L) st w b = (rg_run P X cc cut Z rt false n q (a0 :: a1 :: a2 :: a3 :: a4 :: .ref x :: L) (.ref x :: st) w b) := by
  subst hq
  rw [rg_run_s h (by first | exact Or.inr rfl | exact Or.inl rfl) hc]
  exact propext ⟨fun z => z.2, fun z => ⟨rfl, z⟩⟩
theorem rg_e_istore_5 {f : Bool} {pc : Nat} (h : decode cc pc = .ok (.istore 5, 2)) (hc : (!f && cut pc) = false) (q : Nat) (hq : pc + 2 = q) (n : Nat) (a0 : Value) (a1 : Value) (a2 : Value) (a3 : Value) (a4 : Value) (a5 : Value) (x : Int32) (L r : List Value) (w : rg_W) (b : Nat) : rg_run P X cc cut Z rt f (n + 1) pc (a0 :: a1 :: a2 :: a3 :: a4 :: a5 :: L) (.int x :: r) w b = (rg_run P X cc cut Z rt false n q (a0 :: a1 :: a2 :: a3 :: rg_clr a4 :: .int x :: L) r w b) := by
  subst hq
  rw [rg_run_s h (by first | exact Or.inr rfl | exact Or.inl rfl) hc]
  rfl
theorem rg_e_astore_5 {f : Bool} {pc : Nat} (h : decode cc pc = .ok (.astore 5, 2)) (hc : (!f && cut pc) = false) (q : Nat) (hq : pc + 2 = q) (n : Nat) (a0 : Value) (a1 : Value) (a2 : Value) (a3 : Value) (a4 : Value) (a5 : Value) (x : Nat) (L r : List Value) (w : rg_W) (b : Nat) : rg_run P X cc cut Z rt f (n + 1) pc (a0 :: a1 :: a2 :: a3 :: a4 :: a5 :: L) (.ref x :: r) w b = (rg_run P X cc cut Z rt false n q (a0 :: a1 :: a2 :: a3 :: rg_clr a4 :: .ref x :: L) r w b) := by
  subst hq
  rw [rg_run_s h (by first | exact Or.inr rfl | exact Or.inl rfl) hc]
  exact propext ⟨fun z => z.2, fun z => ⟨rfl, z⟩⟩
theorem rg_e_xstore_5 {f : Bool} {pc : Nat} (h : decode cc pc = .ok (.astore 5, 2)) (hc : (!f && cut pc) = false) (q : Nat) (hq : pc + 2 = q) (n : Nat) (a0 : Value) (a1 : Value) (a2 : Value) (a3 : Value) (a4 : Value) (a5 : Value) (x : Nat) (L r : List Value) (w : rg_W) (b : Nat) : rg_run P X cc cut Z rt f (n + 1) pc (a0 :: a1 :: a2 :: a3 :: a4 :: a5 :: L) (.retAddr x :: r) w b = (rg_run P X cc cut Z rt false n q (a0 :: a1 :: a2 :: a3 :: rg_clr a4 :: .retAddr x :: L) r w b) := by
  subst hq
  rw [rg_run_s h (by first | exact Or.inr rfl | exact Or.inl rfl) hc]
  exact propext ⟨fun z => z.2, fun z => ⟨rfl, z⟩⟩
theorem rg_e_iinc_5 {f : Bool} {pc : Nat} {m : Int} (h : decode cc pc = .ok (.iinc 5 m, 3)) (hc : (!f && cut pc) = false) (q : Nat) (hq : pc + 3 = q) (v : Int32) (hv : Int32.ofInt m = v) (n : Nat) (a0 : Value) (a1 : Value) (a2 : Value) (a3 : Value) (a4 : Value) (x : Int32) (L st : List Value) (w : rg_W) (b : Nat) : rg_run P X cc cut Z rt f (n + 1) pc (a0 :: a1 :: a2 :: a3 :: a4 :: .int x :: L) st w b = (rg_run P X cc cut Z rt false n q (a0 :: a1 :: a2 :: a3 :: rg_clr a4 :: .int (x + v) :: L) st w b) := by
  subst hq
  rw [rg_run_s h (by first | exact Or.inr rfl | exact Or.inl rfl) hc]
  rw [← hv]
  exact propext ⟨fun z => z.2, fun z => ⟨rfl, z⟩⟩
theorem rg_e_iload_6 {f : Bool} {pc : Nat} (h : decode cc pc = .ok (.iload 6, 2)) (hc : (!f && cut pc) = false) (q : Nat) (hq : pc + 2 = q) (n : Nat) (a0 : Value) (a1 : Value) (a2 : Value) (a3 : Value) (a4 : Value) (a5 : Value) (x : Int32) (L st : List Value) (w : rg_W) (b : Nat) : rg_run P X cc cut Z rt f (n + 1) pc (a0 :: a1 :: a2 :: a3 :: a4 :: a5 :: .int x :: L) st w b = (rg_run P X cc cut Z rt false n q (a0 :: a1 :: a2 :: a3 :: a4 :: a5 :: .int x :: L) (.int x :: st) w b) := by
  subst hq
  rw [rg_run_s h (by first | exact Or.inr rfl | exact Or.inl rfl) hc]
  exact propext ⟨fun z => z.2, fun z => ⟨rfl, z⟩⟩
theorem rg_e_aload_6 {f : Bool} {pc : Nat} (h : decode cc pc = .ok (.aload 6, 2)) (hc : (!f && cut pc) = false) (q : Nat) (hq : pc + 2 = q) (n : Nat) (a0 : Value) (a1 : Value) (a2 : Value) (a3 : Value) (a4 : Value) (a5 : Value) (x : Nat) (L st : List Value) (w : rg_W) (b : Nat) : rg_run P X cc cut Z rt f (n + 1) pc (a0 :: a1 :: a2 :: a3 :: a4 :: a5 :: .ref x :: L) st w b = (rg_run P X cc cut Z rt false n q (a0 :: a1 :: a2 :: a3 :: a4 :: a5 :: .ref x :: L) (.ref x :: st) w b) := by
  subst hq
  rw [rg_run_s h (by first | exact Or.inr rfl | exact Or.inl rfl) hc]
  exact propext ⟨fun z => z.2, fun z => ⟨rfl, z⟩⟩
theorem rg_e_istore_6 {f : Bool} {pc : Nat} (h : decode cc pc = .ok (.istore 6, 2)) (hc : (!f && cut pc) = false) (q : Nat) (hq : pc + 2 = q) (n : Nat) (a0 : Value) (a1 : Value) (a2 : Value) (a3 : Value) (a4 : Value) (a5 : Value) (a6 : Value) (x : Int32) (L r : List Value) (w : rg_W) (b : Nat) : rg_run P X cc cut Z rt f (n + 1) pc (a0 :: a1 :: a2 :: a3 :: a4 :: a5 :: a6 :: L) (.int x :: r) w b = (rg_run P X cc cut Z rt false n q (a0 :: a1 :: a2 :: a3 :: a4 :: rg_clr a5 :: .int x :: L) r w b) := by
  subst hq
  rw [rg_run_s h (by first | exact Or.inr rfl | exact Or.inl rfl) hc]
  rfl
theorem rg_e_astore_6 {f : Bool} {pc : Nat} (h : decode cc pc = .ok (.astore 6, 2)) (hc : (!f && cut pc) = false) (q : Nat) (hq : pc + 2 = q) (n : Nat) (a0 : Value) (a1 : Value) (a2 : Value) (a3 : Value) (a4 : Value) (a5 : Value) (a6 : Value) (x : Nat) (L r : List Value) (w : rg_W) (b : Nat) : rg_run P X cc cut Z rt f (n + 1) pc (a0 :: a1 :: a2 :: a3 :: a4 :: a5 :: a6 :: L) (.ref x :: r) w b = (rg_run P X cc cut Z rt false n q (a0 :: a1 :: a2 :: a3 :: a4 :: rg_clr a5 :: .ref x :: L) r w b) := by
  subst hq
  rw [rg_run_s h (by first | exact Or.inr rfl | exact Or.inl rfl) hc]
  exact propext ⟨fun z => z.2, fun z => ⟨rfl, z⟩⟩
theorem rg_e_xstore_6 {f : Bool} {pc : Nat} (h : decode cc pc = .ok (.astore 6, 2)) (hc : (!f && cut pc) = false) (q : Nat) (hq : pc + 2 = q) (n : Nat) (a0 : Value) (a1 : Value) (a2 : Value) (a3 : Value) (a4 : Value) (a5 : Value) (a6 : Value) (x : Nat) (L r : List Value) (w : rg_W) (b : Nat) : rg_run P X cc cut Z rt f (n + 1) pc (a0 :: a1 :: a2 :: a3 :: a4 :: a5 :: a6 :: L) (.retAddr x :: r) w b = (rg_run P X cc cut Z rt false n q (a0 :: a1 :: a2 :: a3 :: a4 :: rg_clr a5 :: .retAddr x :: L) r w b) := by
  subst hq
  rw [rg_run_s h (by first | exact Or.inr rfl | exact Or.inl rfl) hc]
  exact propext ⟨fun z => z.2, fun z => ⟨rfl, z⟩⟩
theorem rg_e_iinc_6 {f : Bool} {pc : Nat} {m : Int} (h : decode cc pc = .ok (.iinc 6 m, 3)) (hc : (!f && cut pc) = false) (q : Nat) (hq : pc + 3 = q) (v : Int32) (hv : Int32.ofInt m = v) (n : Nat) (a0 : Value) (a1 : Value) (a2 : Value) (a3 : Value) (a4 : Value) (a5 : Value) (x : Int32) (L st : List Value) (w : rg_W) (b : Nat) : rg_run P X cc cut Z rt f (n + 1) pc (a0 :: a1 :: a2 :: a3 :: a4 :: a5 :: .int x :: L) st w b = (rg_run P X cc cut Z rt false n q (a0 :: a1 :: a2 :: a3 :: a4 :: rg_clr a5 :: .int (x + v) :: L) st w b) := by
  subst hq
  rw [rg_run_s h (by first | exact Or.inr rfl | exact Or.inl rfl) hc]
  rw [← hv]
  exact propext ⟨fun z => z.2, fun z => ⟨rfl, z⟩⟩
theorem rg_e_iload_7 {f : Bool} {pc : Nat} (h : decode cc pc = .ok (.iload 7, 2)) (hc : (!f && cut pc) = false) (q : Nat) (hq : pc + 2 = q) (n : Nat) (a0 : Value) (a1 : Value) (a2 : Value) (a3 : Value) (a4 : Value) (a5 : Value) (a6 : Value) (x : Int32) (L st : List Value) (w : rg_W) (b : Nat) : rg_run P X cc cut Z rt f (n + 1) pc (a0 :: a1 :: a2 :: a3 :: a4 :: a5 :: a6 :: .int x :: L) st w b = (rg_run P X cc cut Z rt false n q (a0 :: a1 :: a2 :: a3 :: a4 :: a5 :: a6 :: .int x :: L) (.int x :: st) w b) := by
  subst hq
  rw [rg_run_s h (by first | exact Or.inr rfl | exact Or.inl rfl) hc]
  exact propext ⟨fun z => z.2, fun z => ⟨rfl, z⟩⟩
theorem rg_e_aload_7 {f : Bool} {pc : Nat} (h : decode cc pc = .ok (.aload 7, 2)) (hc : (!f && cut pc) = false) (q : Nat) (hq : pc + 2 = q) (n : Nat) (a0 : Value) (a1 : Value) (a2 : Value) (a3 : Value) (a4 : Value) (a5 : Value) (a6 : Value) (x : Nat) (L st : List Value) (w : rg_W) (b : Nat) : rg_run P X cc cut Z rt f (n + 1) pc (a0 :: a1 :: a2 :: a3 :: a4 :: a5 :: a6 :: .ref x :: L) st w b = (rg_run P X cc cut Z rt false n q (a0 :: a1 :: a2 :: a3 :: a4 :: a5 :: a6 :: .ref x :: L) (.ref x :: st) w b) := by
  subst hq
  rw [rg_run_s h (by first | exact Or.inr rfl | exact Or.inl rfl) hc]
  exact propext ⟨fun z => z.2, fun z => ⟨rfl, z⟩⟩
theorem rg_e_istore_7 {f : Bool} {pc : Nat} (h : decode cc pc = .ok (.istore 7, 2)) (hc : (!f && cut pc) = false) (q : Nat) (hq : pc + 2 = q) (n : Nat) (a0 : Value) (a1 : Value) (a2 : Value) (a3 : Value) (a4 : Value) (a5 : Value) (a6 : Value) (a7 : Value) (x : Int32) (L r : List Value) (w : rg_W) (b : Nat) : rg_run P X cc cut Z rt f (n + 1) pc (a0 :: a1 :: a2 :: a3 :: a4 :: a5 :: a6 :: a7 :: L) (.int x :: r) w b = (rg_run P X cc cut Z rt false n q (a0 :: a1 :: a2 :: a3 :: a4 :: a5 :: rg_clr a6 :: .int x :: L) r w b) := by
  subst hq
  rw [rg_run_s h (by first | exact Or.inr rfl | exact Or.inl rfl) hc]
  rfl
theorem rg_e_astore_7 {f : Bool} {pc : Nat} (h : decode cc pc = .ok (.astore 7, 2)) (hc : (!f && cut pc) = false) (q : Nat) (hq : pc + 2 = q) (n : Nat) (a0 : Value) (a1 : Value) (a2 : Value) (a3 : Value) (a4 : Value) (a5 : Value) (a6 : Value) (a7 : Value) (x : Nat) (L r : List Value) (w : rg_W) (b : Nat) : rg_run P X cc cut Z rt f (n + 1) pc (a0 :: a1 :: a2 :: a3 :: a4 :: a5 :: a6 :: a7 :: L) (.ref x :: r) w b = (rg_run P X cc cut Z rt false n q (a0 :: a1 :: a2 :: a3 :: a4 :: a5 :: rg_clr a6 :: .ref x :: L) r w b) := by
  subst hq
  rw [rg_run_s h (by first | exact Or.inr rfl | exact Or.inl rfl) hc]
  exact propext ⟨fun z => z.2, fun z => ⟨rfl, z⟩⟩
theorem rg_e_xstore_7 {f : Bool} {pc : Nat} (h : decode cc pc = .ok (.astore 7, 2)) (hc : (!f && cut pc) = false) (q : Nat) (hq : pc + 2 = q) (n : Nat) (a0 : Value) (a1 : Value) (a2 : Value) (a3 : Value) (a4 : Value) (a5 : Value) (a6 : Value) (a7 : Value) (x : Nat) (L r : List Value) (w : rg_W) (b : Nat) : rg_run P X cc cut Z rt f (n + 1) pc (a0 :: a1 :: a2 :: a3 :: a4 :: a5 :: a6 :: a7 :: L) (.retAddr x :: r) w b = (rg_run P X cc cut Z rt false n q (a0 :: a1 :: a2 :: a3 :: a4 :: a5 :: rg_clr a6 :: .retAddr x :: L) r w b) := by
  subst hq
  rw [rg_run_s h (by first | exact Or.inr rfl | exact Or.inl rfl) hc]
  exact propext ⟨fun z => z.2, fun z => ⟨rfl, z⟩⟩
theorem rg_e_iinc_7 {f : Bool} {pc : Nat} {m : Int} (h : decode cc pc = .ok (.iinc 7 m, 3)) (hc : (!f && cut pc) = false) (q : Nat) (hq : pc + 3 = q) (v : Int32) (hv : Int32.ofInt m = v) (n : Nat) (a0 : Value) (a1 : Value) (a2 : Value) (a3 : Value) (a4 : Value) (a5 : Value) (a6 : Value) (x : Int32) (L st : List Value) (w : rg_W) (b : Nat) : rg_run P X cc cut Z rt f (n + 1) pc (a0 :: a1 :: a2 :: a3 :: a4 :: a5 :: a6 :: .int x :: L) st w b = (rg_run P X cc cut Z rt false n q (a0 :: a1 :: a2 :: a3 :: a4 :: a5 :: rg_clr a6 :: .int (x + v) :: L) st w b) := by
  subst hq
  rw [rg_run_s h (by first | exact Or.inr rfl | exact Or.inl rfl) hc]
  rw [← hv]
  exact propext ⟨fun z => z.2, fun z => ⟨rfl, z⟩⟩
theorem rg_e_iload_8 {f : Bool} {pc : Nat} (h : decode cc pc = .ok (.iload 8, 2)) (hc : (!f && cut pc) = false) (q : Nat) (hq : pc + 2 = q) (n : Nat) (a0 : Value) (a1 : Value) (a2 : Value) (a3 : Value) (a4 : Value) (a5 : Value) (a6 : Value) (a7 : Value) (x : Int32) (L st : List Value) (w : rg_W) (b : Nat) : rg_run P X cc cut Z rt f (n + 1) pc (a0 :: a1 :: a2 :: a3 :: a4 :: a5 :: a6 :: a7 :: .int x :: L) st w b = (rg_run P X cc cut Z rt false n q (a0 :: a1 :: a2 :: a3 :: a4 :: a5 :: a6 :: a7 :: .int x :: L) (.int x :: st) w b) := by
  subst hq
  rw [rg_run_s h (by first | exact Or.inr rfl | exact Or.inl rfl) hc]
  exact propext ⟨fun z => z.2, fun z => ⟨rfl, z⟩⟩
theorem rg_e_aload_8 {f : Bool} {pc : Nat} (h : decode cc pc = .ok (.aload 8, 2)) (hc : (!f && cut pc) = false) (q : Nat) (hq : pc + 2 = q) (n : Nat) (a0 : Value) (a1 : Value) (a2 : Value) (a3 : Value) (a4 : Value) (a5 : Value) (a6 : Value) (a7 : Value) (x : Nat) (L st : List Value) (w : rg_W) (b : Nat) : rg_run P X cc cut Z rt f (n + 1) pc (a0 :: a1 :: a2 :: a3 :: a4 :: a5 :: a6 :: a7 :: .ref x :: L) st w b = (rg_run P X cc cut Z rt false n q (a0 :: a1 :: a2 :: a3 :: a4 :: a5 :: a6 :: a7 :: .ref x :: L) (.ref x :: st) w b) := by
  subst hq
  rw [rg_run_s h (by first | exact Or.inr rfl | exact Or.inl rfl) hc]
  exact propext ⟨fun z => z.2, fun z => ⟨rfl, z⟩⟩
theorem rg_e_istore_8 {f : Bool} {pc : Nat} (h : decode cc pc = .ok (.istore 8, 2)) (hc : (!f && cut pc) = false) (q : Nat) (hq : pc + 2 = q) (n : Nat) (a0 : Value) (a1 : Value) (a2 : Value) (a3 : Value) (a4 : Value) (a5 : Value) (a6 : Value) (a7 : Value) (a8 : Value) (x : Int32) (L r : List Value) (w : rg_W) (b : Nat) : rg_run P X cc cut Z rt f (n + 1) pc (a0 :: a1 :: a2 :: a3 :: a4 :: a5 :: a6 :: a7 :: a8 :: L) (.int x :: r) w b = (rg_run P X cc cut Z rt false n q (a0 :: a1 :: a2 :: a3 :: a4 :: a5 :: a6 :: rg_clr a7 :: .int x :: L) r w b) := by
  subst hq
  rw [rg_run_s h (by first | exact Or.inr rfl | exact Or.inl rfl) hc]
  rfl
theorem rg_e_astore_8 {f : Bool} {pc : Nat} (h : decode cc pc = .ok (.astore 8, 2)) (hc : (!f && cut pc) = false) (q : Nat) (hq : pc + 2 = q) (n : Nat) (a0 : Value) (a1 : Value) (a2 : Value) (a3 : Value) (a4 : Value) (a5 : Value) (a6 : Value) (a7 : Value) (a8 : Value) (x : Nat) (L r : List Value) (w : rg_W) (b : Nat) : rg_run P X cc cut Z rt f (n + 1) pc (a0 :: a1 :: a2 :: a3 :: a4 :: a5 :: a6 :: a7 :: a8 :: L) (.ref x :: r) w b = (rg_run P X cc cut Z rt false n q (a0 :: a1 :: a2 :: a3 :: a4 :: a5 :: a6 :: rg_clr a7 :: .ref x :: L) r w b) := by
  subst hq
  rw [rg_run_s h (by first | exact Or.inr rfl | exact Or.inl rfl) hc]
  exact propext ⟨fun z => z.2, fun z => ⟨rfl, z⟩⟩
theorem rg_e_xstore_8 {f : Bool} {pc : Nat} (h : decode cc pc = .ok (.astore 8, 2)) (hc : (!f && cut pc) = false) (q : Nat) (hq : pc + 2 = q) (n : Nat) (a0 : Value) (a1 : Value) (a2 : Value) (a3 : Value) (a4 : Value) (a5 : Value) (a6 : Value) (a7 : Value) (a8 : Value) (x : Nat) (L r : List Value) (w : rg_W) (b : Nat) : rg_run P X cc cut Z rt f (n + 1) pc (a0 :: a1 :: a2 :: a3 :: a4 :: a5 :: a6 :: a7 :: a8 :: L) (.retAddr x :: r) w b = (rg_run P X cc cut Z rt false n q (a0 :: a1 :: a2 :: a3 :: a4 :: a5 :: a6 :: rg_clr a7 :: .retAddr x :: L) r w b) := by
  subst hq
  rw [rg_run_s h (by first | exact Or.inr rfl | exact Or.inl rfl) hc]
  exact propext ⟨fun z => z.2, fun z => ⟨rfl, z⟩⟩
theorem rg_e_iinc_8 {f : Bool} {pc : Nat} {m : Int} (h : decode cc pc = .ok (.iinc 8 m, 3)) (hc : (!f && cut pc) = false) (q : Nat) (hq : pc + 3 = q) (v : Int32) (hv : Int32.ofInt m = v) (n : Nat) (a0 : Value) (a1 : Value) (a2 : Value) (a3 : Value) (a4 : Value) (a5 : Value) (a6 : Value) (a7 : Value) (x : Int32) (L st : List Value) (w : rg_W) (b : Nat) : rg_run P X cc cut Z rt f (n + 1) pc (a0 :: a1 :: a2 :: a3 :: a4 :: a5 :: a6 :: a7 :: .int x :: L) st w b = (rg_run P X cc cut Z rt false n q (a0 :: a1 :: a2 :: a3 :: a4 :: a5 :: a6 :: rg_clr a7 :: .int (x + v) :: L) st w b) := by
  subst hq
  rw [rg_run_s h (by first | exact Or.inr rfl | exact Or.inl rfl) hc]
  rw [← hv]
  exact propext ⟨fun z => z.2, fun z => ⟨rfl, z⟩⟩
theorem rg_e_iadd {f : Bool} {pc : Nat} (h : decode cc pc = .ok (.iadd, 1)) (hc : (!f && cut pc) = false) (q : Nat) (hq : pc + 1 = q) (n : Nat) (L r : List Value) (x y : Int32) (w : rg_W) (b : Nat) : rg_run P X cc cut Z rt f (n + 1) pc L (.int y :: .int x :: r) w b = (rg_run P X cc cut Z rt false n q L (.int (x + y) :: r) w b) := by
  subst hq
  rw [rg_run_s h (by first | exact Or.inr rfl | exact Or.inl rfl) hc]
  rfl
theorem rg_e_isub {f : Bool} {pc : Nat} (h : decode cc pc = .ok (.isub, 1)) (hc : (!f && cut pc) = false) (q : Nat) (hq : pc + 1 = q) (n : Nat) (L r : List Value) (x y : Int32) (w : rg_W) (b : Nat) : rg_run P X cc cut Z rt f (n + 1) pc L (.int y :: .int x :: r) w b = (rg_run P X cc cut Z rt false n q L (.int (x - y) :: r) w b) := by
  subst hq
  rw [rg_run_s h (by first | exact Or.inr rfl | exact Or.inl rfl) hc]
  rfl
theorem rg_e_imul {f : Bool} {pc : Nat} (h : decode cc pc = .ok (.imul, 1)) (hc : (!f && cut pc) = false) (q : Nat) (hq : pc + 1 = q) (n : Nat) (L r : List Value) (x y : Int32) (w : rg_W) (b : Nat) : rg_run P X cc cut Z rt f (n + 1) pc L (.int y :: .int x :: r) w b = (rg_run P X cc cut Z rt false n q L (.int (x * y) :: r) w b) := by
  subst hq
  rw [rg_run_s h (by first | exact Or.inr rfl | exact Or.inl rfl) hc]
  rfl
theorem rg_e_iand {f : Bool} {pc : Nat} (h : decode cc pc = .ok (.iand, 1)) (hc : (!f && cut pc) = false) (q : Nat) (hq : pc + 1 = q) (n : Nat) (L r : List Value) (x y : Int32) (w : rg_W) (b : Nat) : rg_run P X cc cut Z rt f (n + 1) pc L (.int y :: .int x :: r) w b = (rg_run P X cc cut Z rt false n q L (.int (x &&& y) :: r) w b) := by
  subst hq
  rw [rg_run_s h (by first | exact Or.inr rfl | exact Or.inl rfl) hc]
  rfl
theorem rg_e_ior {f : Bool} {pc : Nat} (h : decode cc pc = .ok (.ior, 1)) (hc : (!f && cut pc) = false) (q : Nat) (hq : pc + 1 = q) (n : Nat) (L r : List Value) (x y : Int32) (w : rg_W) (b : Nat) : rg_run P X cc cut Z rt f (n + 1) pc L (.int y :: .int x :: r) w b = (rg_run P X cc cut Z rt false n q L (.int (x ||| y) :: r) w b) := by
  subst hq
  rw [rg_run_s h (by first | exact Or.inr rfl | exact Or.inl rfl) hc]
  rfl
theorem rg_e_ixor {f : Bool} {pc : Nat} (h : decode cc pc = .ok (.ixor, 1)) (hc : (!f && cut pc) = false) (q : Nat) (hq : pc + 1 = q) (n : Nat) (L r : List Value) (x y : Int32) (w : rg_W) (b : Nat) : rg_run P X cc cut Z rt f (n + 1) pc L (.int y :: .int x :: r) w b = (rg_run P X cc cut Z rt false n q L (.int (x ^^^ y) :: r) w b) := by
  subst hq
  rw [rg_run_s h (by first | exact Or.inr rfl | exact Or.inl rfl) hc]
  rfl
theorem rg_e_ishl {f : Bool} {pc : Nat} (h : decode cc pc = .ok (.ishl, 1)) (hc : (!f && cut pc) = false) (q : Nat) (hq : pc + 1 = q) (n : Nat) (L r : List Value) (x y : Int32) (w : rg_W) (b : Nat) : rg_run P X cc cut Z rt f (n + 1) pc L (.int y :: .int x :: r) w b = (rg_run P X cc cut Z rt false n q L (.int (x <<< (y &&& 31)) :: r) w b) := by
  subst hq
  rw [rg_run_s h (by first | exact Or.inr rfl | exact Or.inl rfl) hc]
  rfl
theorem rg_e_ishr {f : Bool} {pc : Nat} (h : decode cc pc = .ok (.ishr, 1)) (hc : (!f && cut pc) = false) (q : Nat) (hq : pc + 1 = q) (n : Nat) (L r : List Value) (x y : Int32) (w : rg_W) (b : Nat) : rg_run P X cc cut Z rt f (n + 1) pc L (.int y :: .int x :: r) w b = (rg_run P X cc cut Z rt false n q L (.int (x >>> (y &&& 31)) :: r) w b) := by
  subst hq
  rw [rg_run_s h (by first | exact Or.inr rfl | exact Or.inl rfl) hc]
  rfl
theorem rg_e_iushr {f : Bool} {pc : Nat} (h : decode cc pc = .ok (.iushr, 1)) (hc : (!f && cut pc) = false) (q : Nat) (hq : pc + 1 = q) (n : Nat) (L r : List Value) (x y : Int32) (w : rg_W) (b : Nat) : rg_run P X cc cut Z rt f (n + 1) pc L (.int y :: .int x :: r) w b = (rg_run P X cc cut Z rt false n q L (.int ((x.toUInt32 >>> (y.toUInt32 &&& Int32.toUInt32 31)).toInt32) :: r) w b) := by
  subst hq
  rw [rg_run_s h (by first | exact Or.inr rfl | exact Or.inl rfl) hc]
  rfl
theorem rg_e_ladd {f : Bool} {pc : Nat} (h : decode cc pc = .ok (.ladd, 1)) (hc : (!f && cut pc) = false) (q : Nat) (hq : pc + 1 = q) (n : Nat) (L r : List Value) (x y : Int64) (w : rg_W) (b : Nat) : rg_run P X cc cut Z rt f (n + 1) pc L (.long y :: .long x :: r) w b = (rg_run P X cc cut Z rt false n q L (.long (x + y) :: r) w b) := by
  subst hq
  rw [rg_run_s h (by first | exact Or.inr rfl | exact Or.inl rfl) hc]
  rfl
theorem rg_e_land {f : Bool} {pc : Nat} (h : decode cc pc = .ok (.land, 1)) (hc : (!f && cut pc) = false) (q : Nat) (hq : pc + 1 = q) (n : Nat) (L r : List Value) (x y : Int64) (w : rg_W) (b : Nat) : rg_run P X cc cut Z rt f (n + 1) pc L (.long y :: .long x :: r) w b = (rg_run P X cc cut Z rt false n q L (.long (x &&& y) :: r) w b) := by
  subst hq
  rw [rg_run_s h (by first | exact Or.inr rfl | exact Or.inl rfl) hc]
  rfl
theorem rg_e_lor {f : Bool} {pc : Nat} (h : decode cc pc = .ok (.lor, 1)) (hc : (!f && cut pc) = false) (q : Nat) (hq : pc + 1 = q) (n : Nat) (L r : List Value) (x y : Int64) (w : rg_W) (b : Nat) : rg_run P X cc cut Z rt f (n + 1) pc L (.long y :: .long x :: r) w b = (rg_run P X cc cut Z rt false n q L (.long (x ||| y) :: r) w b) := by
  subst hq
  rw [rg_run_s h (by first | exact Or.inr rfl | exact Or.inl rfl) hc]
  rfl
theorem rg_e_lushr {f : Bool} {pc : Nat} (h : decode cc pc = .ok (.lushr, 1)) (hc : (!f && cut pc) = false) (q : Nat) (hq : pc + 1 = q) (n : Nat) (L r : List Value) (x : Int64) (y : Int32) (w : rg_W) (b : Nat) : rg_run P X cc cut Z rt f (n + 1) pc L (.int y :: .long x :: r) w b = (rg_run P X cc cut Z rt false n q L (.long ((x.toUInt64 >>> (y.toInt64.toUInt64 &&& Int64.toUInt64 63)).toInt64) :: r) w b) := by
  subst hq
  rw [rg_run_s h (by first | exact Or.inr rfl | exact Or.inl rfl) hc]
  rfl
theorem rg_e_lshr {f : Bool} {pc : Nat} (h : decode cc pc = .ok (.lshr, 1)) (hc : (!f && cut pc) = false) (q : Nat) (hq : pc + 1 = q) (n : Nat) (L r : List Value) (x : Int64) (y : Int32) (w : rg_W) (b : Nat) : rg_run P X cc cut Z rt f (n + 1) pc L (.int y :: .long x :: r) w b = (rg_run P X cc cut Z rt false n q L (.long (x >>> (y.toInt64 &&& 63)) :: r) w b) := by
  subst hq
  rw [rg_run_s h (by first | exact Or.inr rfl | exact Or.inl rfl) hc]
  rfl
theorem rg_e_lshl {f : Bool} {pc : Nat} (h : decode cc pc = .ok (.lshl, 1)) (hc : (!f && cut pc) = false) (q : Nat) (hq : pc + 1 = q) (n : Nat) (L r : List Value) (x : Int64) (y : Int32) (w : rg_W) (b : Nat) : rg_run P X cc cut Z rt f (n + 1) pc L (.int y :: .long x :: r) w b = (rg_run P X cc cut Z rt false n q L (.long (x <<< (y.toInt64 &&& 63)) :: r) w b) := by
  subst hq
  rw [rg_run_s h (by first | exact Or.inr rfl | exact Or.inl rfl) hc]
  rfl
theorem rg_e_lcmp {f : Bool} {pc : Nat} (h : decode cc pc = .ok (.lcmp, 1)) (hc : (!f && cut pc) = false) (q : Nat) (hq : pc + 1 = q) (n : Nat) (L r : List Value) (x y : Int64) (w : rg_W) (b : Nat) : rg_run P X cc cut Z rt f (n + 1) pc L (.long y :: .long x :: r) w b = (rg_run P X cc cut Z rt false n q L (.int (lg_cmp x y) :: r) w b) := by
  subst hq
  rw [rg_run_s h (by first | exact Or.inr rfl | exact Or.inl rfl) hc]
  rfl
theorem rg_e_i2l {f : Bool} {pc : Nat} (h : decode cc pc = .ok (.i2l, 1)) (hc : (!f && cut pc) = false) (q : Nat) (hq : pc + 1 = q) (n : Nat) (L r : List Value) (x : Int32) (w : rg_W) (b : Nat) : rg_run P X cc cut Z rt f (n + 1) pc L (.int x :: r) w b = (rg_run P X cc cut Z rt false n q L (.long x.toInt64 :: r) w b) := by
  subst hq
  rw [rg_run_s h (by first | exact Or.inr rfl | exact Or.inl rfl) hc]
  rfl
theorem rg_e_l2i {f : Bool} {pc : Nat} (h : decode cc pc = .ok (.l2i, 1)) (hc : (!f && cut pc) = false) (q : Nat) (hq : pc + 1 = q) (n : Nat) (L r : List Value) (x : Int64) (w : rg_W) (b : Nat) : rg_run P X cc cut Z rt f (n + 1) pc L (.long x :: r) w b = (rg_run P X cc cut Z rt false n q L (.int x.toInt32 :: r) w b) := by
  subst hq
  rw [rg_run_s h (by first | exact Or.inr rfl | exact Or.inl rfl) hc]
  rfl
theorem rg_e_dupi {f : Bool} {pc : Nat} (h : decode cc pc = .ok (.dup, 1)) (hc : (!f && cut pc) = false) (q : Nat) (hq : pc + 1 = q) (n : Nat) (L r : List Value) (x : Int32) (w : rg_W) (b : Nat) : rg_run P X cc cut Z rt f (n + 1) pc L (.int x :: r) w b = (rg_run P X cc cut Z rt false n q L (.int x :: .int x :: r) w b) := by
  subst hq
  rw [rg_run_s h (by first | exact Or.inr rfl | exact Or.inl rfl) hc]
  exact propext ⟨fun z => z.2, fun z => ⟨rfl, z⟩⟩
theorem rg_e_popi {f : Bool} {pc : Nat} (h : decode cc pc = .ok (.pop, 1)) (hc : (!f && cut pc) = false) (q : Nat) (hq : pc + 1 = q) (n : Nat) (L r : List Value) (x : Int32) (w : rg_W) (b : Nat) : rg_run P X cc cut Z rt f (n + 1) pc L (.int x :: r) w b = (rg_run P X cc cut Z rt false n q L r w b) := by
  subst hq
  rw [rg_run_s h (by first | exact Or.inr rfl | exact Or.inl rfl) hc]
  exact propext ⟨fun z => z.2, fun z => ⟨rfl, z⟩⟩
theorem rg_e_dupr {f : Bool} {pc : Nat} (h : decode cc pc = .ok (.dup, 1)) (hc : (!f && cut pc) = false) (q : Nat) (hq : pc + 1 = q) (n : Nat) (L r : List Value) (x : Nat) (w : rg_W) (b : Nat) : rg_run P X cc cut Z rt f (n + 1) pc L (.ref x :: r) w b = (rg_run P X cc cut Z rt false n q L (.ref x :: .ref x :: r) w b) := by
  subst hq
  rw [rg_run_s h (by first | exact Or.inr rfl | exact Or.inl rfl) hc]
  exact propext ⟨fun z => z.2, fun z => ⟨rfl, z⟩⟩
theorem rg_e_popr {f : Bool} {pc : Nat} (h : decode cc pc = .ok (.pop, 1)) (hc : (!f && cut pc) = false) (q : Nat) (hq : pc + 1 = q) (n : Nat) (L r : List Value) (x : Nat) (w : rg_W) (b : Nat) : rg_run P X cc cut Z rt f (n + 1) pc L (.ref x :: r) w b = (rg_run P X cc cut Z rt false n q L r w b) := by
  subst hq
  rw [rg_run_s h (by first | exact Or.inr rfl | exact Or.inl rfl) hc]
  exact propext ⟨fun z => z.2, fun z => ⟨rfl, z⟩⟩
theorem rg_e_dup2ri {f : Bool} {pc : Nat} (h : decode cc pc = .ok (.dup2, 1)) (hc : (!f && cut pc) = false) (q : Nat) (hq : pc + 1 = q) (n : Nat) (L r : List Value) (k : Nat) (i : Int32) (w : rg_W) (b : Nat) : rg_run P X cc cut Z rt f (n + 1) pc L (.int i :: .ref k :: r) w b = (rg_run P X cc cut Z rt false n q L (.int i :: .ref k :: .int i :: .ref k :: r) w b) := by
  subst hq
  rw [rg_run_s h (by first | exact Or.inr rfl | exact Or.inl rfl) hc]
  exact propext ⟨fun z => z.2, fun z => ⟨⟨rfl, rfl⟩, z⟩⟩
theorem rg_e_dup_x1ri {f : Bool} {pc : Nat} (h : decode cc pc = .ok (.dup_x1, 1)) (hc : (!f && cut pc) = false) (q : Nat) (hq : pc + 1 = q) (n : Nat) (L r : List Value) (k : Nat) (i : Int32) (w : rg_W) (b : Nat) : rg_run P X cc cut Z rt f (n + 1) pc L (.int i :: .ref k :: r) w b = (rg_run P X cc cut Z rt false n q L (.int i :: .ref k :: .int i :: r) w b) := by
  subst hq
  rw [rg_run_s h (by first | exact Or.inr rfl | exact Or.inl rfl) hc]
  exact propext ⟨fun z => z.2, fun z => ⟨⟨rfl, rfl⟩, z⟩⟩
theorem rg_e_if_eq {f : Bool} {pc : Nat} {off : Int} (h : decode cc pc = .ok (.ifCond .eq off, 3)) (hc : (!f && cut pc) = false) (q : Nat) (hq : pc + 3 = q) (t : Nat) (ht : (pc : Int) + off = (t : Int)) (n : Nat) (L r : List Value) (x : Int32) (w : rg_W) (b : Nat) : rg_run P X cc cut Z rt f (n + 1) pc L (.int x :: r) w b = ((x = 0 → rg_run P X cc cut Z rt false n t L r w b) ∧ (¬ (x = 0) → rg_run P X cc cut Z rt false n q L r w b)) := by
  subst hq
  rw [rg_run_s h (by first | exact Or.inr rfl | exact Or.inl rfl) hc]
  obtain ⟨t1, t2⟩ := rg_tg_eq ht
  subst t1
  exact propext ⟨fun z => z.2, fun z => ⟨t2, z⟩⟩
theorem rg_e_icmp_eq {f : Bool} {pc : Nat} {off : Int} (h : decode cc pc = .ok (.if_icmp .eq off, 3)) (hc : (!f && cut pc) = false) (q : Nat) (hq : pc + 3 = q) (t : Nat) (ht : (pc : Int) + off = (t : Int)) (n : Nat) (L r : List Value) (x y : Int32) (w : rg_W) (b : Nat) : rg_run P X cc cut Z rt f (n + 1) pc L (.int y :: .int x :: r) w b = ((x = y → rg_run P X cc cut Z rt false n t L r w b) ∧ (¬ (x = y) → rg_run P X cc cut Z rt false n q L r w b)) := by
  subst hq
  rw [rg_run_s h (by first | exact Or.inr rfl | exact Or.inl rfl) hc]
  obtain ⟨t1, t2⟩ := rg_tg_eq ht
  subst t1
  exact propext ⟨fun z => z.2, fun z => ⟨t2, z⟩⟩
theorem rg_e_if_ne {f : Bool} {pc : Nat} {off : Int} (h : decode cc pc = .ok (.ifCond .ne off, 3)) (hc : (!f && cut pc) = false) (q : Nat) (hq : pc + 3 = q) (t : Nat) (ht : (pc : Int) + off = (t : Int)) (n : Nat) (L r : List Value) (x : Int32) (w : rg_W) (b : Nat) : rg_run P X cc cut Z rt f (n + 1) pc L (.int x :: r) w b = ((¬ x = 0 → rg_run P X cc cut Z rt false n t L r w b) ∧ (¬ (¬ x = 0) → rg_run P X cc cut Z rt false n q L r w b)) := by
  subst hq
  rw [rg_run_s h (by first | exact Or.inr rfl | exact Or.inl rfl) hc]
  obtain ⟨t1, t2⟩ := rg_tg_eq ht
  subst t1
  exact propext ⟨fun z => z.2, fun z => ⟨t2, z⟩⟩
theorem rg_e_icmp_ne {f : Bool} {pc : Nat} {off : Int} (h : decode cc pc = .ok (.if_icmp .ne off, 3)) (hc : (!f && cut pc) = false) (q : Nat) (hq : pc + 3 = q) (t : Nat) (ht : (pc : Int) + off = (t : Int)) (n : Nat) (L r : List Value) (x y : Int32) (w : rg_W) (b : Nat) : rg_run P X cc cut Z rt f (n + 1) pc L (.int y :: .int x :: r) w b = ((¬ x = y → rg_run P X cc cut Z rt false n t L r w b) ∧ (¬ (¬ x = y) → rg_run P X cc cut Z rt false n q L r w b)) := by
  subst hq
  rw [rg_run_s h (by first | exact Or.inr rfl | exact Or.inl rfl) hc]
  obtain ⟨t1, t2⟩ := rg_tg_eq ht
  subst t1
  exact propext ⟨fun z => z.2, fun z => ⟨t2, z⟩⟩
theorem rg_e_if_lt {f : Bool} {pc : Nat} {off : Int} (h : decode cc pc = .ok (.ifCond .lt off, 3)) (hc : (!f && cut pc) = false) (q : Nat) (hq : pc + 3 = q) (t : Nat) (ht : (pc : Int) + off = (t : Int)) (n : Nat) (L r : List Value) (x : Int32) (w : rg_W) (b : Nat) : rg_run P X cc cut Z rt f (n + 1) pc L (.int x :: r) w b = ((x < 0 → rg_run P X cc cut Z rt false n t L r w b) ∧ (¬ (x < 0) → rg_run P X cc cut Z rt false n q L r w b)) := by
  subst hq
  rw [rg_run_s h (by first | exact Or.inr rfl | exact Or.inl rfl) hc]
  obtain ⟨t1, t2⟩ := rg_tg_eq ht
  subst t1
  exact propext ⟨fun z => z.2, fun z => ⟨t2, z⟩⟩
theorem rg_e_icmp_lt {f : Bool} {pc : Nat} {off : Int} (h : decode cc pc = .ok (.if_icmp .lt off, 3)) (hc : (!f && cut pc) = false) (q : Nat) (hq : pc + 3 = q) (t : Nat) (ht : (pc : Int) + off = (t : Int)) (n : Nat) (L r : List Value) (x y : Int32) (w : rg_W) (b : Nat) : rg_run P X cc cut Z rt f (n + 1) pc L (.int y :: .int x :: r) w b = ((x < y → rg_run P X cc cut Z rt false n t L r w b) ∧ (¬ (x < y) → rg_run P X cc cut Z rt false n q L r w b)) := by
  subst hq
  rw [rg_run_s h (by first | exact Or.inr rfl | exact Or.inl rfl) hc]
  obtain ⟨t1, t2⟩ := rg_tg_eq ht
  subst t1
  exact propext ⟨fun z => z.2, fun z => ⟨t2, z⟩⟩
theorem rg_e_if_ge {f : Bool} {pc : Nat} {off : Int} (h : decode cc pc = .ok (.ifCond .ge off, 3)) (hc : (!f && cut pc) = false) (q : Nat) (hq : pc + 3 = q) (t : Nat) (ht : (pc : Int) + off = (t : Int)) (n : Nat) (L r : List Value) (x : Int32) (w : rg_W) (b : Nat) : rg_run P X cc cut Z rt f (n + 1) pc L (.int x :: r) w b = ((0 ≤ x → rg_run P X cc cut Z rt false n t L r w b) ∧ (¬ (0 ≤ x) → rg_run P X cc cut Z rt false n q L r w b)) := by
  subst hq
  rw [rg_run_s h (by first | exact Or.inr rfl | exact Or.inl rfl) hc]
  obtain ⟨t1, t2⟩ := rg_tg_eq ht
  subst t1
  exact propext ⟨fun z => z.2, fun z => ⟨t2, z⟩⟩
theorem rg_e_icmp_ge {f : Bool} {pc : Nat} {off : Int} (h : decode cc pc = .ok (.if_icmp .ge off, 3)) (hc : (!f && cut pc) = false) (q : Nat) (hq : pc + 3 = q) (t : Nat) (ht : (pc : Int) + off = (t : Int)) (n : Nat) (L r : List Value) (x y : Int32) (w : rg_W) (b : Nat) : rg_run P X cc cut Z rt f (n + 1) pc L (.int y :: .int x :: r) w b = ((y ≤ x → rg_run P X cc cut Z rt false n t L r w b) ∧ (¬ (y ≤ x) → rg_run P X cc cut Z rt false n q L r w b)) := by
  subst hq
  rw [rg_run_s h (by first | exact Or.inr rfl | exact Or.inl rfl) hc]
  obtain ⟨t1, t2⟩ := rg_tg_eq ht
  subst t1
  exact propext ⟨fun z => z.2, fun z => ⟨t2, z⟩⟩
theorem rg_e_if_gt {f : Bool} {pc : Nat} {off : Int} (h : decode cc pc = .ok (.ifCond .gt off, 3)) (hc : (!f && cut pc) = false) (q : Nat) (hq : pc + 3 = q) (t : Nat) (ht : (pc : Int) + off = (t : Int)) (n : Nat) (L r : List Value) (x : Int32) (w : rg_W) (b : Nat) : rg_run P X cc cut Z rt f (n + 1) pc L (.int x :: r) w b = ((0 < x → rg_run P X cc cut Z rt false n t L r w b) ∧ (¬ (0 < x) → rg_run P X cc cut Z rt false n q L r w b)) := by
  subst hq
  rw [rg_run_s h (by first | exact Or.inr rfl | exact Or.inl rfl) hc]
  obtain ⟨t1, t2⟩ := rg_tg_eq ht
  subst t1
  exact propext ⟨fun z => z.2, fun z => ⟨t2, z⟩⟩
theorem rg_e_icmp_gt {f : Bool} {pc : Nat} {off : Int} (h : decode cc pc = .ok (.if_icmp .gt off, 3)) (hc : (!f && cut pc) = false) (q : Nat) (hq : pc + 3 = q) (t : Nat) (ht : (pc : Int) + off = (t : Int)) (n : Nat) (L r : List Value) (x y : Int32) (w : rg_W) (b : Nat) : rg_run P X cc cut Z rt f (n + 1) pc L (.int y :: .int x :: r) w b = ((y < x → rg_run P X cc cut Z rt false n t L r w b) ∧ (¬ (y < x) → rg_run P X cc cut Z rt false n q L r w b)) := by
  subst hq
  rw [rg_run_s h (by first | exact Or.inr rfl | exact Or.inl rfl) hc]
  obtain ⟨t1, t2⟩ := rg_tg_eq ht
  subst t1
  exact propext ⟨fun z => z.2, fun z => ⟨t2, z⟩⟩
theorem rg_e_if_le {f : Bool} {pc : Nat} {off : Int} (h : decode cc pc = .ok (.ifCond .le off, 3)) (hc : (!f && cut pc) = false) (q : Nat) (hq : pc + 3 = q) (t : Nat) (ht : (pc : Int) + off = (t : Int)) (n : Nat) (L r : List Value) (x : Int32) (w : rg_W) (b : Nat) : rg_run P X cc cut Z rt f (n + 1) pc L (.int x :: r) w b = ((x ≤ 0 → rg_run P X cc cut Z rt false n t L r w b) ∧ (¬ (x ≤ 0) → rg_run P X cc cut Z rt false n q L r w b)) := by
  subst hq
  rw [rg_run_s h (by first | exact Or.inr rfl | exact Or.inl rfl) hc]
  obtain ⟨t1, t2⟩ := rg_tg_eq ht
  subst t1
  exact propext ⟨fun z => z.2, fun z => ⟨t2, z⟩⟩
theorem rg_e_icmp_le {f : Bool} {pc : Nat} {off : Int} (h : decode cc pc = .ok (.if_icmp .le off, 3)) (hc : (!f && cut pc) = false) (q : Nat) (hq : pc + 3 = q) (t : Nat) (ht : (pc : Int) + off = (t : Int)) (n : Nat) (L r : List Value) (x y : Int32) (w : rg_W) (b : Nat) : rg_run P X cc cut Z rt f (n + 1) pc L (.int y :: .int x :: r) w b = ((x ≤ y → rg_run P X cc cut Z rt false n t L r w b) ∧ (¬ (x ≤ y) → rg_run P X cc cut Z rt false n q L r w b)) := by
  subst hq
  rw [rg_run_s h (by first | exact Or.inr rfl | exact Or.inl rfl) hc]
  obtain ⟨t1, t2⟩ := rg_tg_eq ht
  subst t1
  exact propext ⟨fun z => z.2, fun z => ⟨t2, z⟩⟩
theorem rg_e_goto {f : Bool} {pc : Nat} {off : Int} (h : decode cc pc = .ok (.goto off, 3)) (hc : (!f && cut pc) = false) (t : Nat) (ht : (pc : Int) + off = (t : Int)) (n : Nat) (L st : List Value) (w : rg_W) (b : Nat) : rg_run P X cc cut Z rt f (n + 1) pc L st w b = (rg_run P X cc cut Z rt false n t L st w b) := by
  rw [rg_run_s h (by first | exact Or.inr rfl | exact Or.inl rfl) hc]
  obtain ⟨t1, t2⟩ := rg_tg_eq ht
  subst t1
  exact propext ⟨fun z => z.2, fun z => ⟨t2, z⟩⟩
theorem rg_e_tsw {f : Bool} {pc : Nat} {d lo hi : Int} {offs : Array Int} {len : Nat} (h : decode cc pc = .ok (.tableswitch d lo hi offs, len)) (hc : (!f && cut pc) = false) (t : Nat) (ht : (pc : Int) + d = (t : Int)) (n : Nat) (L r : List Value) (x : Int32) (w : rg_W) (b : Nat) : rg_run P X cc cut Z rt f (n + 1) pc L (.int x :: r) w b = (((x.toInt < lo ∨ hi < x.toInt) → rg_run P X cc cut Z rt false n t L r w b) ∧ (¬ x.toInt < lo → ¬ hi < x.toInt → rg_some (offs[(x.toInt - lo).toNat]?) (fun o => 0 ≤ (pc : Int) + o ∧ rg_run P X cc cut Z rt false n (rg_tg pc o) L r w b))) := by
  rw [rg_run_s h (by first | exact Or.inr rfl | exact Or.inl rfl) hc]
  obtain ⟨t1, t2⟩ := rg_tg_eq ht
  subst t1
  exact propext ⟨fun z => ⟨fun y => (z.1 y).2, z.2⟩, fun z => ⟨fun y => ⟨t2, z.1 y⟩, z.2⟩⟩
theorem rg_e_geti {f : Bool} {pc : Nat} {k : Nat} (h : decode cc pc = .ok (.getfield k, 3)) (hc : (!f && cut pc) = false) (q : Nat) (hq : pc + 3 = q) (o ci j : Nat) (hf : rg_lk P.1 k = some (ci, j)) (hg : ∀ w : rg_W, rg_gf o ci j w = some (.int (w.1 o j))) (n : Nat) (L r : List Value) (w : rg_W) (b : Nat) : rg_run P X cc cut Z rt f (n + 1) pc L (.ref o :: r) w b = (rg_run P X cc cut Z rt false n q L (.int (w.1 o j) :: r) w b) := by
  subst hq
  rw [rg_run_s h (by first | exact Or.inr rfl | exact Or.inl rfl) hc]
  show rg_some (rg_lk P.1 k) _ = _
  rw [hf]
  show rg_some (rg_gf o ci j w) _ = _
  rw [hg]
  rfl
theorem rg_e_getr {f : Bool} {pc : Nat} {k : Nat} (h : decode cc pc = .ok (.getfield k, 3)) (hc : (!f && cut pc) = false) (q : Nat) (hq : pc + 3 = q) (o ci j o2 : Nat) (hf : rg_lk P.1 k = some (ci, j)) (hg : ∀ w : rg_W, rg_gf o ci j w = some (.ref o2)) (n : Nat) (L r : List Value) (w : rg_W) (b : Nat) : rg_run P X cc cut Z rt f (n + 1) pc L (.ref o :: r) w b = (rg_run P X cc cut Z rt false n q L (.ref o2 :: r) w b) := by
  subst hq
  rw [rg_run_s h (by first | exact Or.inr rfl | exact Or.inl rfl) hc]
  show rg_some (rg_lk P.1 k) _ = _
  rw [hf]
  show rg_some (rg_gf o ci j w) _ = _
  rw [hg]
  rfl
theorem rg_e_put {f : Bool} {pc : Nat} {k : Nat} (h : decode cc pc = .ok (.putfield k, 3)) (hc : (!f && cut pc) = false) (q : Nat) (hq : pc + 3 = q) (o ci j : Nat) (hf : rg_lk P.1 k = some (ci, j)) (hg : rg_pf o ci j = true) (n : Nat) (L r : List Value) (x : Int32) (w : rg_W) (b : Nat) : rg_run P X cc cut Z rt f (n + 1) pc L (.int x :: .ref o :: r) w b = (rg_run P X cc cut Z rt false n q L r (rg_up w o j x) b) := by
  subst hq
  rw [rg_run_s h (by first | exact Or.inr rfl | exact Or.inl rfl) hc]
  show rg_some (rg_lk P.1 k) _ = _
  rw [hf]
  exact propext ⟨fun z => z.2, fun z => ⟨hg, z⟩⟩
theorem rg_e_iald {f : Bool} {pc : Nat} (h : decode cc pc = .ok (.iaload, 1)) (hc : (!f && cut pc) = false) (q : Nat) (hq : pc + 1 = q) (o N : Nat) (ha : rg_ar o = some (0, N)) (n : Nat) (L r : List Value) (i : Int32) (w : rg_W) (b : Nat) : rg_run P X cc cut Z rt f (n + 1) pc L (.int i :: .ref o :: r) w b = (vp_in i N ∧ rg_run P X cc cut Z rt false n q L (.int (w.1 o i.toNatClampNeg) :: r) w b) := by
  subst hq
  rw [rg_run_s h (by first | exact Or.inr rfl | exact Or.inl rfl) hc]
  show rg_ial X (rg_ar o) o i w (fun x => rg_run P X cc cut Z rt false n (pc + 1) L (.int x :: r) w b) = _
  rw [ha]
  rfl
theorem rg_e_zald {f : Bool} {pc : Nat} (h : decode cc pc = .ok (.baload, 1)) (hc : (!f && cut pc) = false) (q : Nat) (hq : pc + 1 = q) (o N : Nat) (ha : rg_ar o = some (1, N)) (n : Nat) (L r : List Value) (i : Int32) (w : rg_W) (b : Nat) : rg_run P X cc cut Z rt f (n + 1) pc L (.int i :: .ref o :: r) w b = (vp_in i N ∧ rg_run P X cc cut Z rt false n q L (.int (w.1 o i.toNatClampNeg) :: r) w b) := by
  subst hq
  rw [rg_run_s h (by first | exact Or.inr rfl | exact Or.inl rfl) hc]
  show rg_zal (rg_ar o) o i w (fun x => rg_run P X cc cut Z rt false n (pc + 1) L (.int x :: r) w b) = _
  rw [ha]
  rfl
theorem rg_e_lald {f : Bool} {pc : Nat} (h : decode cc pc = .ok (.laload, 1)) (hc : (!f && cut pc) = false) (q : Nat) (hq : pc + 1 = q) (o N : Nat) (ha : rg_ar o = some (2, N)) (n : Nat) (L r : List Value) (i : Int32) (w : rg_W) (b : Nat) : rg_run P X cc cut Z rt f (n + 1) pc L (.int i :: .ref o :: r) w b = (vp_in i N ∧ rg_run P X cc cut Z rt false n q L (.long (w.2 o i.toNatClampNeg) :: r) w b) := by
  subst hq
  rw [rg_run_s h (by first | exact Or.inr rfl | exact Or.inl rfl) hc]
  show rg_lal (rg_ar o) o i w (fun x => rg_run P X cc cut Z rt false n (pc + 1) L (.long x :: r) w b) = _
  rw [ha]
  rfl
theorem rg_e_sld {f : Bool} {pc : Nat} (h : decode cc pc = .ok (.iaload, 1)) (hc : (!f && cut pc) = false) (q : Nat) (hq : pc + 1 = q) (N : Nat) (xs : Nat → Int32) (hX : X = some (N, xs)) (n : Nat) (L r : List Value) (i : Int32) (w : rg_W) (b : Nat) : rg_run P X cc cut Z rt f (n + 1) pc L (.int i :: .ref 99 :: r) w b = (vp_in i N ∧ rg_run P X cc cut Z rt false n q L (.int (xs i.toNatClampNeg) :: r) w b) := by
  subst hq
  rw [rg_run_s h (by first | exact Or.inr rfl | exact Or.inl rfl) hc]
  show rg_ial X (rg_ar 99) 99 i w (fun x => rg_run P X cc cut Z rt false n (pc + 1) L (.int x :: r) w b) = _
  rw [hX]
  exact propext ⟨fun z => z.2, fun z => ⟨rfl, z⟩⟩
theorem rg_e_slen {f : Bool} {pc : Nat} (h : decode cc pc = .ok (.arraylength, 1)) (hc : (!f && cut pc) = false) (q : Nat) (hq : pc + 1 = q) (N : Nat) (xs : Nat → Int32) (hX : X = some (N, xs)) (n : Nat) (L r : List Value) (w : rg_W) (b : Nat) : rg_run P X cc cut Z rt f (n + 1) pc L (.ref 99 :: r) w b = (rg_run P X cc cut Z rt false n q L (.int (nI N) :: r) w b) := by
  subst hq
  rw [rg_run_s h (by first | exact Or.inr rfl | exact Or.inl rfl) hc]
  rw [hX]
  exact propext ⟨fun z => z.2, fun z => ⟨rfl, z⟩⟩
theorem rg_e_iast {f : Bool} {pc : Nat} (h : decode cc pc = .ok (.iastore, 1)) (hc : (!f && cut pc) = false) (q : Nat) (hq : pc + 1 = q) (o N : Nat) (ha : rg_ar o = some (0, N)) (n : Nat) (L r : List Value) (i : Int32) (x : Int32) (w : rg_W) (b : Nat) : rg_run P X cc cut Z rt f (n + 1) pc L (.int x :: .int i :: .ref o :: r) w b = (vp_in i N ∧ rg_run P X cc cut Z rt false n q L r (rg_up w o i.toNatClampNeg x) b) := by
  subst hq
  rw [rg_run_s h (by first | exact Or.inr rfl | exact Or.inl rfl) hc]
  show rg_ias (rg_ar o) o i x w (fun w' => rg_run P X cc cut Z rt false n (pc + 1) L r w' b) = _
  rw [ha]
  rfl
theorem rg_e_zast {f : Bool} {pc : Nat} (h : decode cc pc = .ok (.bastore, 1)) (hc : (!f && cut pc) = false) (q : Nat) (hq : pc + 1 = q) (o N : Nat) (ha : rg_ar o = some (1, N)) (n : Nat) (L r : List Value) (i : Int32) (x : Int32) (w : rg_W) (b : Nat) : rg_run P X cc cut Z rt f (n + 1) pc L (.int x :: .int i :: .ref o :: r) w b = (vp_in i N ∧ rg_run P X cc cut Z rt false n q L r (rg_up w o i.toNatClampNeg (vp_nar .boolean x)) b) := by
  subst hq
  rw [rg_run_s h (by first | exact Or.inr rfl | exact Or.inl rfl) hc]
  show rg_zas (rg_ar o) o i x w (fun w' => rg_run P X cc cut Z rt false n (pc + 1) L r w' b) = _
  rw [ha]
  rfl
theorem rg_e_last {f : Bool} {pc : Nat} (h : decode cc pc = .ok (.lastore, 1)) (hc : (!f && cut pc) = false) (q : Nat) (hq : pc + 1 = q) (o N : Nat) (ha : rg_ar o = some (2, N)) (n : Nat) (L r : List Value) (i : Int32) (x : Int64) (w : rg_W) (b : Nat) : rg_run P X cc cut Z rt f (n + 1) pc L (.long x :: .int i :: .ref o :: r) w b = (vp_in i N ∧ rg_run P X cc cut Z rt false n q L r (rg_upL w o i.toNatClampNeg x) b) := by
  subst hq
  rw [rg_run_s h (by first | exact Or.inr rfl | exact Or.inl rfl) hc]
  show rg_las (rg_ar o) o i x w (fun w' => rg_run P X cc cut Z rt false n (pc + 1) L r w' b) = _
  rw [ha]
  rfl
theorem rg_e_cs0 {f : Bool} {pc : Nat} {k : Nat} (h : decode cc pc = .ok (.invokestatic k, 3)) (hc : (!f && cut pc) = false) (T : rg_T) (hf : rg_lk P.2.1 (2 * k) = some (0, 0, T)) (n : Nat) (L r : List Value) (w : rg_W) (b : Nat) : rg_run P X cc cut Z rt f (n + 1) pc L (r) w b = (rg_wd r ≤ 8 ∧ T [] w (rg_nx P.2.2.2.2.2.1 pc L r b (rg_run P X cc cut Z rt false n))) := by
  rw [rg_run_s h (by first | exact Or.inr rfl | exact Or.inl rfl) hc]
  show rg_inv P (rg_lk P.2.1 (2 * k)) pc L _ w b _ = _
  rw [hf]
  exact propext ⟨fun z => z.2, fun z => ⟨Or.inl rfl, z⟩⟩
theorem rg_e_csx0 {f : Bool} {pc : Nat} {k : Nat} (h : decode cc pc = .ok (.invokestatic k, 3)) (hc : (!f && cut pc) = false) (T : rg_T) (hf : rg_lk P.2.1 (2 * k) = some (0, 1, T)) (n : Nat) (L r : List Value) (w : rg_W) (b : Nat) : rg_run P X cc cut Z rt f (n + 1) pc L (r) w b = (b + 1 ≤ P.2.2.2.2.2.2 ∧ rg_wd r ≤ 8 ∧ T [] w (rg_nx P.2.2.2.2.2.1 pc L r (b + 1) (rg_run P X cc cut Z rt false n))) := by
  rw [rg_run_s h (by first | exact Or.inr rfl | exact Or.inl rfl) hc]
  show rg_inv P (rg_lk P.2.1 (2 * k)) pc L _ w b _ = _
  rw [hf]
  exact propext ⟨fun z => ⟨z.1.resolve_left (by decide), z.2⟩, fun z => ⟨Or.inr z.1, z.2⟩⟩
theorem rg_e_cv0 {f : Bool} {pc : Nat} {k : Nat} (h : decode cc pc = .ok (.invokevirtual k, 3)) (hc : (!f && cut pc) = false) (T : rg_T) (hf : rg_lk P.2.1 (2 * k + 1) = some (0, 0, T)) (n : Nat) (L r : List Value) (w : rg_W) (b : Nat) : rg_run P X cc cut Z rt f (n + 1) pc L (r) w b = (rg_wd r ≤ 8 ∧ T [] w (rg_nx P.2.2.2.2.2.1 pc L r b (rg_run P X cc cut Z rt false n))) := by
  rw [rg_run_s h (by first | exact Or.inr rfl | exact Or.inl rfl) hc]
  show rg_inv P (rg_lk P.2.1 (2 * k + 1)) pc L _ w b _ = _
  rw [hf]
  exact propext ⟨fun z => z.2, fun z => ⟨Or.inl rfl, z⟩⟩
theorem rg_e_cvx0 {f : Bool} {pc : Nat} {k : Nat} (h : decode cc pc = .ok (.invokevirtual k, 3)) (hc : (!f && cut pc) = false) (T : rg_T) (hf : rg_lk P.2.1 (2 * k + 1) = some (0, 1, T)) (n : Nat) (L r : List Value) (w : rg_W) (b : Nat) : rg_run P X cc cut Z rt f (n + 1) pc L (r) w b = (b + 1 ≤ P.2.2.2.2.2.2 ∧ rg_wd r ≤ 8 ∧ T [] w (rg_nx P.2.2.2.2.2.1 pc L r (b + 1) (rg_run P X cc cut Z rt false n))) := by
  rw [rg_run_s h (by first | exact Or.inr rfl | exact Or.inl rfl) hc]
  show rg_inv P (rg_lk P.2.1 (2 * k + 1)) pc L _ w b _ = _
  rw [hf]
  exact propext ⟨fun z => ⟨z.1.resolve_left (by decide), z.2⟩, fun z => ⟨Or.inr z.1, z.2⟩⟩
theorem rg_e_cs1 {f : Bool} {pc : Nat} {k : Nat} (h : decode cc pc = .ok (.invokestatic k, 3)) (hc : (!f && cut pc) = false) (T : rg_T) (hf : rg_lk P.2.1 (2 * k) = some (1, 0, T)) (n : Nat) (L r : List Value) (a0 : Value) (w : rg_W) (b : Nat) : rg_run P X cc cut Z rt f (n + 1) pc L (a0 :: r) w b = (rg_wd r ≤ 8 ∧ T [a0] w (rg_nx P.2.2.2.2.2.1 pc L r b (rg_run P X cc cut Z rt false n))) := by
  rw [rg_run_s h (by first | exact Or.inr rfl | exact Or.inl rfl) hc]
  show rg_inv P (rg_lk P.2.1 (2 * k)) pc L _ w b _ = _
  rw [hf]
  exact propext ⟨fun z => z.2, fun z => ⟨Or.inl rfl, z⟩⟩
theorem rg_e_csx1 {f : Bool} {pc : Nat} {k : Nat} (h : decode cc pc = .ok (.invokestatic k, 3)) (hc : (!f && cut pc) = false) (T : rg_T) (hf : rg_lk P.2.1 (2 * k) = some (1, 1, T)) (n : Nat) (L r : List Value) (a0 : Value) (w : rg_W) (b : Nat) : rg_run P X cc cut Z rt f (n + 1) pc L (a0 :: r) w b = (b + 1 ≤ P.2.2.2.2.2.2 ∧ rg_wd r ≤ 8 ∧ T [a0] w (rg_nx P.2.2.2.2.2.1 pc L r (b + 1) (rg_run P X cc cut Z rt false n))) := by
  rw [rg_run_s h (by first | exact Or.inr rfl | exact Or.inl rfl) hc]
  show rg_inv P (rg_lk P.2.1 (2 * k)) pc L _ w b _ = _
  rw [hf]
  exact propext ⟨fun z => ⟨z.1.resolve_left (by decide), z.2⟩, fun z => ⟨Or.inr z.1, z.2⟩⟩
theorem rg_e_cv1 {f : Bool} {pc : Nat} {k : Nat} (h : decode cc pc = .ok (.invokevirtual k, 3)) (hc : (!f && cut pc) = false) (T : rg_T) (hf : rg_lk P.2.1 (2 * k + 1) = some (1, 0, T)) (n : Nat) (L r : List Value) (a0 : Value) (w : rg_W) (b : Nat) : rg_run P X cc cut Z rt f (n + 1) pc L (a0 :: r) w b = (rg_wd r ≤ 8 ∧ T [a0] w (rg_nx P.2.2.2.2.2.1 pc L r b (rg_run P X cc cut Z rt false n))) := by
  rw [rg_run_s h (by first | exact Or.inr rfl | exact Or.inl rfl) hc]
  show rg_inv P (rg_lk P.2.1 (2 * k + 1)) pc L _ w b _ = _
  rw [hf]
  exact propext ⟨fun z => z.2, fun z => ⟨Or.inl rfl, z⟩⟩
theorem rg_e_cvx1 {f : Bool} {pc : Nat} {k : Nat} (h : decode cc pc = .ok (.invokevirtual k, 3)) (hc : (!f && cut pc) = false) (T : rg_T) (hf : rg_lk P.2.1 (2 * k + 1) = some (1, 1, T)) (n : Nat) (L r : List Value) (a0 : Value) (w : rg_W) (b : Nat) : rg_run P X cc cut Z rt f (n + 1) pc L (a0 :: r) w b = (b + 1 ≤ P.2.2.2.2.2.2 ∧ rg_wd r ≤ 8 ∧ T [a0] w (rg_nx P.2.2.2.2.2.1 pc L r (b + 1) (rg_run P X cc cut Z rt false n))) := by
  rw [rg_run_s h (by first | exact Or.inr rfl | exact Or.inl rfl) hc]
  show rg_inv P (rg_lk P.2.1 (2 * k + 1)) pc L _ w b _ = _
  rw [hf]
  exact propext ⟨fun z => ⟨z.1.resolve_left (by decide), z.2⟩, fun z => ⟨Or.inr z.1, z.2⟩⟩
theorem rg_e_cs2 {f : Bool} {pc : Nat} {k : Nat} (h : decode cc pc = .ok (.invokestatic k, 3)) (hc : (!f && cut pc) = false) (T : rg_T) (hf : rg_lk P.2.1 (2 * k) = some (2, 0, T)) (n : Nat) (L r : List Value) (a0 : Value) (a1 : Value) (w : rg_W) (b : Nat) : rg_run P X cc cut Z rt f (n + 1) pc L (a1 :: a0 :: r) w b = (rg_wd r ≤ 8 ∧ T [a0, a1] w (rg_nx P.2.2.2.2.2.1 pc L r b (rg_run P X cc cut Z rt false n))) := by
  rw [rg_run_s h (by first | exact Or.inr rfl | exact Or.inl rfl) hc]
  show rg_inv P (rg_lk P.2.1 (2 * k)) pc L _ w b _ = _
  rw [hf]
  exact propext ⟨fun z => z.2, fun z => ⟨Or.inl rfl, z⟩⟩
theorem rg_e_csx2 {f : Bool} {pc : Nat} {k : Nat} (h : decode cc pc = .ok (.invokestatic k, 3)) (hc : (!f && cut pc) = false) (T : rg_T) (hf : rg_lk P.2.1 (2 * k) = some (2, 1, T)) (n : Nat) (L r : List Value) (a0 : Value) (a1 : Value) (w : rg_W) (b : Nat) : rg_run P X cc cut Z rt f (n + 1) pc L (a1 :: a0 :: r) w b = (b + 1 ≤ P.2.2.2.2.2.2 ∧ rg_wd r ≤ 8 ∧ T [a0, a1] w (rg_nx P.2.2.2.2.2.1 pc L r (b + 1) (rg_run P X cc cut Z rt false n))) := by
  rw [rg_run_s h (by first | exact Or.inr rfl | exact Or.inl rfl) hc]
  show rg_inv P (rg_lk P.2.1 (2 * k)) pc L _ w b _ = _
  rw [hf]
  exact propext ⟨fun z => ⟨z.1.resolve_left (by decide), z.2⟩, fun z => ⟨Or.inr z.1, z.2⟩⟩
theorem rg_e_cv2 {f : Bool} {pc : Nat} {k : Nat} (h : decode cc pc = .ok (.invokevirtual k, 3)) (hc : (!f && cut pc) = false) (T : rg_T) (hf : rg_lk P.2.1 (2 * k + 1) = some (2, 0, T)) (n : Nat) (L r : List Value) (a0 : Value) (a1 : Value) (w : rg_W) (b : Nat) : rg_run P X cc cut Z rt f (n + 1) pc L (a1 :: a0 :: r) w b = (rg_wd r ≤ 8 ∧ T [a0, a1] w (rg_nx P.2.2.2.2.2.1 pc L r b (rg_run P X cc cut Z rt false n))) := by
  rw [rg_run_s h (by first | exact Or.inr rfl | exact Or.inl rfl) hc]
  show rg_inv P (rg_lk P.2.1 (2 * k + 1)) pc L _ w b _ = _
  rw [hf]
  exact propext ⟨fun z => z.2, fun z => ⟨Or.inl rfl, z⟩⟩
theorem rg_e_cvx2 {f : Bool} {pc : Nat} {k : Nat} (h : decode cc pc = .ok (.invokevirtual k, 3)) (hc : (!f && cut pc) = false) (T : rg_T) (hf : rg_lk P.2.1 (2 * k + 1) = some (2, 1, T)) (n : Nat) (L r : List Value) (a0 : Value) (a1 : Value) (w : rg_W) (b : Nat) : rg_run P X cc cut Z rt f (n + 1) pc L (a1 :: a0 :: r) w b = (b + 1 ≤ P.2.2.2.2.2.2 ∧ rg_wd r ≤ 8 ∧ T [a0, a1] w (rg_nx P.2.2.2.2.2.1 pc L r (b + 1) (rg_run P X cc cut Z rt false n))) := by
  rw [rg_run_s h (by first | exact Or.inr rfl | exact Or.inl rfl) hc]
  show rg_inv P (rg_lk P.2.1 (2 * k + 1)) pc L _ w b _ = _
  rw [hf]
  exact propext ⟨fun z => ⟨z.1.resolve_left (by decide), z.2⟩, fun z => ⟨Or.inr z.1, z.2⟩⟩
theorem rg_e_cs3 {f : Bool} {pc : Nat} {k : Nat} (h : decode cc pc = .ok (.invokestatic k, 3)) (hc : (!f && cut pc) = false) (T : rg_T) (hf : rg_lk P.2.1 (2 * k) = some (3, 0, T)) (n : Nat) (L r : List Value) (a0 : Value) (a1 : Value) (a2 : Value) (w : rg_W) (b : Nat) : rg_run P X cc cut Z rt f (n + 1) pc L (a2 :: a1 :: a0 :: r) w b = (rg_wd r ≤ 8 ∧ T [a0, a1, a2] w (rg_nx P.2.2.2.2.2.1 pc L r b (rg_run P X cc cut Z rt false n))) := by
  rw [rg_run_s h (by first | exact Or.inr rfl | exact Or.inl rfl) hc]
  show rg_inv P (rg_lk P.2.1 (2 * k)) pc L _ w b _ = _
  rw [hf]
  exact propext ⟨fun z => z.2, fun z => ⟨Or.inl rfl, z⟩⟩
theorem rg_e_csx3 {f : Bool} {pc : Nat} {k : Nat} (h : decode cc pc = .ok (.invokestatic k, 3)) (hc : (!f && cut pc) = false) (T : rg_T) (hf : rg_lk P.2.1 (2 * k) = some (3, 1, T)) (n : Nat) (L r : List Value) (a0 : Value) (a1 : Value) (a2 : Value) (w : rg_W) (b : Nat) : rg_run P X cc cut Z rt f (n + 1) pc L (a2 :: a1 :: a0 :: r) w b = (b + 1 ≤ P.2.2.2.2.2.2 ∧ rg_wd r ≤ 8 ∧ T [a0, a1, a2] w (rg_nx P.2.2.2.2.2.1 pc L r (b + 1) (rg_run P X cc cut Z rt false n))) := by
  rw [rg_run_s h (by first | exact Or.inr rfl | exact Or.inl rfl) hc]
  show rg_inv P (rg_lk P.2.1 (2 * k)) pc L _ w b _ = _
  rw [hf]
  exact propext ⟨fun z => ⟨z.1.resolve_left (by decide), z.2⟩, fun z => ⟨Or.inr z.1, z.2⟩⟩
theorem rg_e_cv3 {f : Bool} {pc : Nat} {k : Nat} (h : decode cc pc = .ok (.invokevirtual k, 3)) (hc : (!f && cut pc) = false) (T : rg_T) (hf : rg_lk P.2.1 (2 * k + 1) = some (3, 0, T)) (n : Nat) (L r : List Value) (a0 : Value) (a1 : Value) (a2 : Value) (w : rg_W) (b : Nat) : rg_run P X cc cut Z rt f (n + 1) pc L (a2 :: a1 :: a0 :: r) w b = (rg_wd r ≤ 8 ∧ T [a0, a1, a2] w (rg_nx P.2.2.2.2.2.1 pc L r b (rg_run P X cc cut Z rt false n))) := by
  rw [rg_run_s h (by first | exact Or.inr rfl | exact Or.inl rfl) hc]
  show rg_inv P (rg_lk P.2.1 (2 * k + 1)) pc L _ w b _ = _
  rw [hf]
  exact propext ⟨fun z => z.2, fun z => ⟨Or.inl rfl, z⟩⟩
theorem rg_e_cvx3 {f : Bool} {pc : Nat} {k : Nat} (h : decode cc pc = .ok (.invokevirtual k, 3)) (hc : (!f && cut pc) = false) (T : rg_T) (hf : rg_lk P.2.1 (2 * k + 1) = some (3, 1, T)) (n : Nat) (L r : List Value) (a0 : Value) (a1 : Value) (a2 : Value) (w : rg_W) (b : Nat) : rg_run P X cc cut Z rt f (n + 1) pc L (a2 :: a1 :: a0 :: r) w b = (b + 1 ≤ P.2.2.2.2.2.2 ∧ rg_wd r ≤ 8 ∧ T [a0, a1, a2] w (rg_nx P.2.2.2.2.2.1 pc L r (b + 1) (rg_run P X cc cut Z rt false n))) := by
  rw [rg_run_s h (by first | exact Or.inr rfl | exact Or.inl rfl) hc]
  show rg_inv P (rg_lk P.2.1 (2 * k + 1)) pc L _ w b _ = _
  rw [hf]
  exact propext ⟨fun z => ⟨z.1.resolve_left (by decide), z.2⟩, fun z => ⟨Or.inr z.1, z.2⟩⟩
theorem rg_e_cs4 {f : Bool} {pc : Nat} {k : Nat} (h : decode cc pc = .ok (.invokestatic k, 3)) (hc : (!f && cut pc) = false) (T : rg_T) (hf : rg_lk P.2.1 (2 * k) = some (4, 0, T)) (n : Nat) (L r : List Value) (a0 : Value) (a1 : Value) (a2 : Value) (a3 : Value) (w : rg_W) (b : Nat) : rg_run P X cc cut Z rt f (n + 1) pc L (a3 :: a2 :: a1 :: a0 :: r) w b = (rg_wd r ≤ 8 ∧ T [a0, a1, a2, a3] w (rg_nx P.2.2.2.2.2.1 pc L r b (rg_run P X cc cut Z rt false n))) := by
  rw [rg_run_s h (by first | exact Or.inr rfl | exact Or.inl rfl) hc]
  show rg_inv P (rg_lk P.2.1 (2 * k)) pc L _ w b _ = _
  rw [hf]
  exact propext ⟨fun z => z.2, fun z => ⟨Or.inl rfl, z⟩⟩
theorem rg_e_csx4 {f : Bool} {pc : Nat} {k : Nat} (h : decode cc pc = .ok (.invokestatic k, 3)) (hc : (!f && cut pc) = false) (T : rg_T) (hf : rg_lk P.2.1 (2 * k) = some (4, 1, T)) (n : Nat) (L r : List Value) (a0 : Value) (a1 : Value) (a2 : Value) (a3 : Value) (w : rg_W) (b : Nat) : rg_run P X cc cut Z rt f (n + 1) pc L (a3 :: a2 :: a1 :: a0 :: r) w b = (b + 1 ≤ P.2.2.2.2.2.2 ∧ rg_wd r ≤ 8 ∧ T [a0, a1, a2, a3] w (rg_nx P.2.2.2.2.2.1 pc L r (b + 1) (rg_run P X cc cut Z rt false n))) := by
  rw [rg_run_s h (by first | exact Or.inr rfl | exact Or.inl rfl) hc]
  show rg_inv P (rg_lk P.2.1 (2 * k)) pc L _ w b _ = _
  rw [hf]
  exact propext ⟨fun z => ⟨z.1.resolve_left (by decide), z.2⟩, fun z => ⟨Or.inr z.1, z.2⟩⟩
theorem rg_e_cv4 {f : Bool} {pc : Nat} {k : Nat} (h : decode cc pc = .ok (.invokevirtual k, 3)) (hc : (!f && cut pc) = false) (T : rg_T) (hf : rg_lk P.2.1 (2 * k + 1) = some (4, 0, T)) (n : Nat) (L r : List Value) (a0 : Value) (a1 : Value) (a2 : Value) (a3 : Value) (w : rg_W) (b : Nat) : rg_run P X cc cut Z rt f (n + 1) pc L (a3 :: a2 :: a1 :: a0 :: r) w b = (rg_wd r ≤ 8 ∧ T [a0, a1, a2, a3] w (rg_nx P.2.2.2.2.2.1 pc L r b (rg_run P X cc cut Z rt false n))) := by
  rw [rg_run_s h (by first | exact Or.inr rfl | exact Or.inl rfl) hc]
  show rg_inv P (rg_lk P.2.1 (2 * k + 1)) pc L _ w b _ = _
  rw [hf]
  exact propext ⟨fun z => z.2, fun z => ⟨Or.inl rfl, z⟩⟩
theorem rg_e_cvx4 {f : Bool} {pc : Nat} {k : Nat} (h : decode cc pc = .ok (.invokevirtual k, 3)) (hc : (!f && cut pc) = false) (T : rg_T) (hf : rg_lk P.2.1 (2 * k + 1) = some (4, 1, T)) (n : Nat) (L r : List Value) (a0 : Value) (a1 : Value) (a2 : Value) (a3 : Value) (w : rg_W) (b : Nat) : rg_run P X cc cut Z rt f (n + 1) pc L (a3 :: a2 :: a1 :: a0 :: r) w b = (b + 1 ≤ P.2.2.2.2.2.2 ∧ rg_wd r ≤ 8 ∧ T [a0, a1, a2, a3] w (rg_nx P.2.2.2.2.2.1 pc L r (b + 1) (rg_run P X cc cut Z rt false n))) := by
  rw [rg_run_s h (by first | exact Or.inr rfl | exact Or.inl rfl) hc]
  show rg_inv P (rg_lk P.2.1 (2 * k + 1)) pc L _ w b _ = _
  rw [hf]
  exact propext ⟨fun z => ⟨z.1.resolve_left (by decide), z.2⟩, fun z => ⟨Or.inr z.1, z.2⟩⟩
theorem rg_e_cs5 {f : Bool} {pc : Nat} {k : Nat} (h : decode cc pc = .ok (.invokestatic k, 3)) (hc : (!f && cut pc) = false) (T : rg_T) (hf : rg_lk P.2.1 (2 * k) = some (5, 0, T)) (n : Nat) (L r : List Value) (a0 : Value) (a1 : Value) (a2 : Value) (a3 : Value) (a4 : Value) (w : rg_W) (b : Nat) : rg_run P X cc cut Z rt f (n + 1) pc L (a4 :: a3 :: a2 :: a1 :: a0 :: r) w b = (rg_wd r ≤ 8 ∧ T [a0, a1, a2, a3, a4] w (rg_nx P.2.2.2.2.2.1 pc L r b (rg_run P X cc cut Z rt false n))) := by
  rw [rg_run_s h (by first | exact Or.inr rfl | exact Or.inl rfl) hc]
  show rg_inv P (rg_lk P.2.1 (2 * k)) pc L _ w b _ = _
  rw [hf]
  exact propext ⟨fun z => z.2, fun z => ⟨Or.inl rfl, z⟩⟩
theorem rg_e_csx5 {f : Bool} {pc : Nat} {k : Nat} (h : decode cc pc = .ok (.invokestatic k, 3)) (hc : (!f && cut pc) = false) (T : rg_T) (hf : rg_lk P.2.1 (2 * k) = some (5, 1, T)) (n : Nat) (L r : List Value) (a0 : Value) (a1 : Value) (a2 : Value) (a3 : Value) (a4 : Value) (w : rg_W) (b : Nat) : rg_run P X cc cut Z rt f (n + 1) pc L (a4 :: a3 :: a2 :: a1 :: a0 :: r) w b = (b + 1 ≤ P.2.2.2.2.2.2 ∧ rg_wd r ≤ 8 ∧ T [a0, a1, a2, a3, a4] w (rg_nx P.2.2.2.2.2.1 pc L r (b + 1) (rg_run P X cc cut Z rt false n))) := by
  rw [rg_run_s h (by first | exact Or.inr rfl | exact Or.inl rfl) hc]
  show rg_inv P (rg_lk P.2.1 (2 * k)) pc L _ w b _ = _
  rw [hf]
  exact propext ⟨fun z => ⟨z.1.resolve_left (by decide), z.2⟩, fun z => ⟨Or.inr z.1, z.2⟩⟩
theorem rg_e_cv5 {f : Bool} {pc : Nat} {k : Nat} (h : decode cc pc = .ok (.invokevirtual k, 3)) (hc : (!f && cut pc) = false) (T : rg_T) (hf : rg_lk P.2.1 (2 * k + 1) = some (5, 0, T)) (n : Nat) (L r : List Value) (a0 : Value) (a1 : Value) (a2 : Value) (a3 : Value) (a4 : Value) (w : rg_W) (b : Nat) : rg_run P X cc cut Z rt f (n + 1) pc L (a4 :: a3 :: a2 :: a1 :: a0 :: r) w b = (rg_wd r ≤ 8 ∧ T [a0, a1, a2, a3, a4] w (rg_nx P.2.2.2.2.2.1 pc L r b (rg_run P X cc cut Z rt false n))) := by
  rw [rg_run_s h (by first | exact Or.inr rfl | exact Or.inl rfl) hc]
  show rg_inv P (rg_lk P.2.1 (2 * k + 1)) pc L _ w b _ = _
  rw [hf]
  exact propext ⟨fun z => z.2, fun z => ⟨Or.inl rfl, z⟩⟩
theorem rg_e_cvx5 {f : Bool} {pc : Nat} {k : Nat} (h : decode cc pc = .ok (.invokevirtual k, 3)) (hc : (!f && cut pc) = false) (T : rg_T) (hf : rg_lk P.2.1 (2 * k + 1) = some (5, 1, T)) (n : Nat) (L r : List Value) (a0 : Value) (a1 : Value) (a2 : Value) (a3 : Value) (a4 : Value) (w : rg_W) (b : Nat) : rg_run P X cc cut Z rt f (n + 1) pc L (a4 :: a3 :: a2 :: a1 :: a0 :: r) w b = (b + 1 ≤ P.2.2.2.2.2.2 ∧ rg_wd r ≤ 8 ∧ T [a0, a1, a2, a3, a4] w (rg_nx P.2.2.2.2.2.1 pc L r (b + 1) (rg_run P X cc cut Z rt false n))) := by
  rw [rg_run_s h (by first | exact Or.inr rfl | exact Or.inl rfl) hc]
  show rg_inv P (rg_lk P.2.1 (2 * k + 1)) pc L _ w b _ = _
  rw [hf]
  exact propext ⟨fun z => ⟨z.1.resolve_left (by decide), z.2⟩, fun z => ⟨Or.inr z.1, z.2⟩⟩
theorem rg_e_cs6 {f : Bool} {pc : Nat} {k : Nat} (h : decode cc pc = .ok (.invokestatic k, 3)) (hc : (!f && cut pc) = false) (T : rg_T) (hf : rg_lk P.2.1 (2 * k) = some (6, 0, T)) (n : Nat) (L r : List Value) (a0 : Value) (a1 : Value) (a2 : Value) (a3 : Value) (a4 : Value) (a5 : Value) (w : rg_W) (b : Nat) : rg_run P X cc cut Z rt f (n + 1) pc L (a5 :: a4 :: a3 :: a2 :: a1 :: a0 :: r) w b = (rg_wd r ≤ 8 ∧ T [a0, a1, a2, a3, a4, a5] w (rg_nx P.2.2.2.2.2.1 pc L r b (rg_run P X cc cut Z rt false n))) := by
  rw [rg_run_s h (by first | exact Or.inr rfl | exact Or.inl rfl) hc]
  show rg_inv P (rg_lk P.2.1 (2 * k)) pc L _ w b _ = _
  rw [hf]
  exact propext ⟨fun z => z.2, fun z => ⟨Or.inl rfl, z⟩⟩
theorem rg_e_csx6 {f : Bool} {pc : Nat} {k : Nat} (h : decode cc pc = .ok (.invokestatic k, 3)) (hc : (!f && cut pc) = false) (T : rg_T) (hf : rg_lk P.2.1 (2 * k) = some (6, 1, T)) (n : Nat) (L r : List Value) (a0 : Value) (a1 : Value) (a2 : Value) (a3 : Value) (a4 : Value) (a5 : Value) (w : rg_W) (b : Nat) : rg_run P X cc cut Z rt f (n + 1) pc L (a5 :: a4 :: a3 :: a2 :: a1 :: a0 :: r) w b = (b + 1 ≤ P.2.2.2.2.2.2 ∧ rg_wd r ≤ 8 ∧ T [a0, a1, a2, a3, a4, a5] w (rg_nx P.2.2.2.2.2.1 pc L r (b + 1) (rg_run P X cc cut Z rt false n))) := by
  rw [rg_run_s h (by first | exact Or.inr rfl | exact Or.inl rfl) hc]
  show rg_inv P (rg_lk P.2.1 (2 * k)) pc L _ w b _ = _
  rw [hf]
  exact propext ⟨fun z => ⟨z.1.resolve_left (by decide), z.2⟩, fun z => ⟨Or.inr z.1, z.2⟩⟩
theorem rg_e_cv6 {f : Bool} {pc : Nat} {k : Nat} (h : decode cc pc = .ok (.invokevirtual k, 3)) (hc : (!f && cut pc) = false) (T : rg_T) (hf : rg_lk P.2.1 (2 * k + 1) = some (6, 0, T)) (n : Nat) (L r : List Value) (a0 : Value) (a1 : Value) (a2 : Value) (a3 : Value) (a4 : Value) (a5 : Value) (w : rg_W) (b : Nat) : rg_run P X cc cut Z rt f (n + 1) pc L (a5 :: a4 :: a3 :: a2 :: a1 :: a0 :: r) w b = (rg_wd r ≤ 8 ∧ T [a0, a1, a2, a3, a4, a5] w (rg_nx P.2.2.2.2.2.1 pc L r b (rg_run P X cc cut Z rt false n))) := by
  rw [rg_run_s h (by first | exact Or.inr rfl | exact Or.inl rfl) hc]
  show rg_inv P (rg_lk P.2.1 (2 * k + 1)) pc L _ w b _ = _
  rw [hf]
  exact propext ⟨fun z => z.2, fun z => ⟨Or.inl rfl, z⟩⟩
theorem rg_e_cvx6 {f : Bool} {pc : Nat} {k : Nat} (h : decode cc pc = .ok (.invokevirtual k, 3)) (hc : (!f && cut pc) = false) (T : rg_T) (hf : rg_lk P.2.1 (2 * k + 1) = some (6, 1, T)) (n : Nat) (L r : List Value) (a0 : Value) (a1 : Value) (a2 : Value) (a3 : Value) (a4 : Value) (a5 : Value) (w : rg_W) (b : Nat) : rg_run P X cc cut Z rt f (n + 1) pc L (a5 :: a4 :: a3 :: a2 :: a1 :: a0 :: r) w b = (b + 1 ≤ P.2.2.2.2.2.2 ∧ rg_wd r ≤ 8 ∧ T [a0, a1, a2, a3, a4, a5] w (rg_nx P.2.2.2.2.2.1 pc L r (b + 1) (rg_run P X cc cut Z rt false n))) := by
  rw [rg_run_s h (by first | exact Or.inr rfl | exact Or.inl rfl) hc]
  show rg_inv P (rg_lk P.2.1 (2 * k + 1)) pc L _ w b _ = _
  rw [hf]
  exact propext ⟨fun z => ⟨z.1.resolve_left (by decide), z.2⟩, fun z => ⟨Or.inr z.1, z.2⟩⟩
theorem rg_e_new {f : Bool} {pc : Nat} {k : Nat} (h : decode cc pc = .ok (.new k, 3)) (hc : (!f && cut pc) = false) (x : Nat) (hf : rg_lk P.2.2.2.2.1 k = some x) (n : Nat) (L st : List Value) (w : rg_W) (b : Nat) : rg_run P X cc cut Z rt f (n + 1) pc L st w b = (rt (some (.float (UInt32.ofNat x))) w b) := by
  rw [rg_run_s h (by first | exact Or.inr rfl | exact Or.inl rfl) hc]
  show rg_some (rg_lk P.2.2.2.2.1 k) _ = _
  rw [hf]
  rfl
theorem rg_e_iret {f : Bool} {pc : Nat} (h : decode cc pc = .ok (.ireturn, 1)) (hc : (!f && cut pc) = false) (n : Nat) (L : List Value) (x : Int32) (w : rg_W) (b : Nat) : rg_run P X cc cut Z rt f (n + 1) pc L [.int x] w b = (rt (some (.int x)) w b) := by
  rw [rg_run_s h (by first | exact Or.inr rfl | exact Or.inl rfl) hc]
  exact propext ⟨fun z => z.2, fun z => ⟨rfl, z⟩⟩
theorem rg_e_vret {f : Bool} {pc : Nat} (h : decode cc pc = .ok (.return_, 1)) (hc : (!f && cut pc) = false) (n : Nat) (L : List Value) (w : rg_W) (b : Nat) : rg_run P X cc cut Z rt f (n + 1) pc L [] w b = (rt none w b) := by
  rw [rg_run_s h (by first | exact Or.inr rfl | exact Or.inl rfl) hc]
  exact propext ⟨fun z => z.2, fun z => ⟨rfl, z⟩⟩
end
theorem rg_nx_i (hd : List (Nat × Nat)) (pc : Nat) (L st : List Value) (b : Nat) (go : rg_Go) (x : Int32) (w : rg_W) : rg_nx hd pc L st b go (some (.int x)) w = go (pc + 3) L (.int x :: st) w b := rfl
theorem rg_nx_v (hd : List (Nat × Nat)) (pc : Nat) (L st : List Value) (b : Nat) (go : rg_Go) (w : rg_W) : rg_nx hd pc L st b go none w = go (pc + 3) L st w b := rfl
theorem rg_nx_x (hd : List (Nat × Nat)) (pc : Nat) (L st : List Value) (b : Nat) (go : rg_Go) (k : UInt32) (w : rg_W) : rg_nx hd pc L st b go (some (.float k)) w = rg_some (rg_lk hd k.toNat) (fun h => ∀ a : Nat, go h L [.retAddr a] w b) := by
  cases h : rg_lk hd k.toNat <;> simp [rg_nx, rg_some, h]
theorem rg_wd_n : rg_wd [] = 0 := rfl
theorem rg_wd_i (x : Int32) (st : List Value) : rg_wd (.int x :: st) = 1 + rg_wd st := rfl
theorem rg_wd_l (x : Int64) (st : List Value) : rg_wd (.long x :: st) = 2 + rg_wd st := rfl
theorem rg_wd_r (x : Nat) (st : List Value) : rg_wd (.ref x :: st) = 1 + rg_wd st := rfl
theorem rg_clr_i (x : Int32) : rg_clr (.int x) = .int x := rfl
theorem rg_clr_l (x : Int64) : rg_clr (.long x) = .null := rfl
theorem rg_clr_r (x : Nat) : rg_clr (.ref x) = .ref x := rfl
theorem rg_clr_a (x : Nat) : rg_clr (.retAddr x) = .retAddr x := rfl
theorem rg_clr_n : rg_clr .null = .null := rfl
def rg_cut (l : List Nat) (pc : Nat) : Bool := l.contains pc
