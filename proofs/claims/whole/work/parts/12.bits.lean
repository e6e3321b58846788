/-! bits (out of laws/BITS.to-paste), digits, packed letters -/
def bt (x : Int32) (i : Nat) : Bool := x.toBitVec.getLsbD i
theorem b_ext {x y : Int32} (h : ∀ i, i < 32 → bt x i = bt y i) : x = y := Int32.toBitVec_inj.mp (BitVec.eq_of_getLsbD_eq (fun i hi => h i hi))
theorem b_or (x y : Int32) (i : Nat) : bt (x ||| y) i = (bt x i || bt y i) := by unfold bt; rw [Int32.toBitVec_or, BitVec.getLsbD_or]
theorem b_and (x y : Int32) (i : Nat) : bt (x &&& y) i = (bt x i && bt y i) := by unfold bt; rw [Int32.toBitVec_and, BitVec.getLsbD_and]
theorem b_xor (x y : Int32) (i : Nat) : bt (x ^^^ y) i = (bt x i ^^ bt y i) := by unfold bt; rw [Int32.toBitVec_xor, BitVec.getLsbD_xor]
theorem b_big {x : Int32} {i : Nat} (h : 32 ≤ i) : bt x i = false := BitVec.getLsbD_of_ge _ _ h
theorem b_255 (i : Nat) : bt 255 i = decide (i < 8) := by
  rcases Nat.lt_or_ge i 32 with h | h
  · exact (by decide +kernel : ∀ i, i < 32 → bt 255 i = decide (i < 8)) i h
  · rw [b_big h, decide_eq_false (by omega)]
theorem b_65535 (i : Nat) : bt 65535 i = decide (i < 16) := by
  rcases Nat.lt_or_ge i 32 with h | h
  · exact (by decide +kernel : ∀ i, i < 32 → bt 65535 i = decide (i < 16)) i h
  · rw [b_big h, decide_eq_false (by omega)]
theorem b_m1 : ∀ i, i < 32 → bt (-1) i = true := by decide +kernel
theorem b_0 (i : Nat) : bt 0 i = false := BitVec.getLsbD_zero
theorem s_l : ∀ n, n < 32 → ((nI n &&& 31).toBitVec.smod 32).toNat = n := by decide +kernel
theorem s_u : ∀ n, n < 32 → (((nI n).toUInt32 &&& Int32.toUInt32 31).toBitVec % 32).toNat = n := by decide +kernel
theorem b_shl (n : Nat) (hn : n < 32) (x : Int32) {i : Nat} (hi : i < 32) : bt (x <<< (nI n &&& 31)) i = (decide (n ≤ i) && bt x (i - n)) := by
  unfold bt
  rw [Int32.toBitVec_shiftLeft]
  show (x.toBitVec <<< ((nI n &&& 31).toBitVec.smod 32).toNat).getLsbD i = _
  rw [s_l n hn, BitVec.getLsbD_shiftLeft]
  rcases Nat.lt_or_ge i n with h | h
  · simp [h, Nat.not_le.mpr h]
  · simp [hi, h, Nat.not_lt.mpr h]
theorem b_ushr (n : Nat) (hn : n < 32) (x : Int32) (i : Nat) : bt ((x.toUInt32 >>> ((nI n).toUInt32 &&& Int32.toUInt32 31)).toInt32) i = bt x (n + i) := by
  show (x.toUInt32 >>> ((nI n).toUInt32 &&& Int32.toUInt32 31)).toBitVec.getLsbD i = x.toUInt32.toBitVec.getLsbD (n + i)
  rw [UInt32.toBitVec_shiftRight]
  show (x.toUInt32.toBitVec >>> (((nI n).toUInt32 &&& Int32.toUInt32 31).toBitVec % 32).toNat).getLsbD i = _
  rw [s_u n hn, BitVec.getLsbD_ushiftRight]
theorem b_sshr (n : Nat) (hn : n < 32) (x : Int32) {i : Nat} (hi : i < 32) : bt (x >>> (nI n &&& 31)) i = if n + i < 32 then bt x (n + i) else bt x 31 := by
  unfold bt
  rw [Int32.toBitVec_shiftRight]
  show (x.toBitVec.sshiftRight ((nI n &&& 31).toBitVec.smod 32).toNat).getLsbD i = _
  rw [s_l n hn, BitVec.getLsbD_sshiftRight, BitVec.msb_eq_getLsbD_last]
  simp [hi]
/-! numbers by their digits to base four -/
theorem dg_s (x m : Nat) : x / 4 ^ (m + 1) = x / 4 / 4 ^ m := by
  rw [Nat.pow_succ, Nat.mul_comm, Nat.div_div_eq_div_mul]
theorem dg_ext (n : Nat) : ∀ x y : Nat, x < 4 ^ n → y < 4 ^ n → (∀ m, m < n → x / 4 ^ m % 4 = y / 4 ^ m % 4) → x = y := by
  induction n with
  | zero =>
    intro x y hx hy _
    rw [Nat.pow_zero] at hx hy
    omega
  | succ n ih =>
    intro x y hx hy h
    rw [Nat.pow_succ] at hx hy
    have h0 := h 0 (by omega)
    rw [Nat.pow_zero, Nat.div_one, Nat.div_one] at h0
    have h1 : x / 4 = y / 4 := ih _ _ (by omega) (by omega) (fun m hm => by
      have := h (m + 1) (by omega)
      rw [dg_s, dg_s] at this
      exact this)
    omega
theorem dg_add (x a b : Nat) : x / 4 ^ (a + b) = x / 4 ^ a / 4 ^ b := by
  rw [Nat.pow_add, Nat.div_div_eq_div_mul]
/-- a digit of the lowest n digits -/
theorem dg_mod (x n : Nat) : ∀ m, m < n → x % 4 ^ n / 4 ^ m % 4 = x / 4 ^ m % 4 := by
  induction n generalizing x with
  | zero => intro m hm; omega
  | succ n ih =>
    intro m hm
    cases m with
    | zero =>
      rw [Nat.pow_zero, Nat.div_one, Nat.div_one, Nat.pow_succ]
      rw [Nat.mod_mul_left_mod]
    | succ m =>
      rw [dg_s, dg_s]
      have e : x % 4 ^ (n + 1) / 4 = x / 4 % 4 ^ n := by
        rw [Nat.pow_succ, Nat.mul_comm, Nat.mod_mul_right_div_self]
      rw [e]
      exact ih (x / 4) m (by omega)
/-- letter k of a read of L letters packed as p -/
def lt4 (L p k : Nat) : Nat := p / 4 ^ (L - 1 - k) % 4
/-- two parts of n letters, b and d letters from the ends, are the same -/
theorem lt4_seg {L p M q n b d : Nat} (hb : n + b ≤ L) (hd : n + d ≤ M) :
    (p / 4 ^ b % 4 ^ n = q / 4 ^ d % 4 ^ n) ↔ ∀ k, k < n → lt4 L p (L - n - b + k) = lt4 M q (M - n - d + k) := by
  have key : ∀ {L p b k : Nat}, n + b ≤ L → k < n → lt4 L p (L - n - b + k) = p / 4 ^ b % 4 ^ n / 4 ^ (n - 1 - k) % 4 := by
    intro L p b k hb hk
    rw [dg_mod _ _ _ (by omega), ← dg_add]
    unfold lt4
    rw [show L - 1 - (L - n - b + k) = b + (n - 1 - k) by omega]
  constructor
  · intro h k hk
    rw [key hb hk, key hd hk, h]
  · intro h
    refine dg_ext n _ _ (Nat.mod_lt _ (Nat.pow_pos (by decide))) (Nat.mod_lt _ (Nat.pow_pos (by decide))) (fun m hm => ?_)
    have := h (n - 1 - m) (by omega)
    rw [key hb (by omega), key hd (by omega), show n - 1 - (n - 1 - m) = m by omega] at this
    exact this

theorem lw_m : ∀ n, n < 13 → ((nI 1 <<< ((nI 2 * nI n) &&& 31)) - nI 1).toBitVec.toNat = 2 ^ (2 * n) - 1 := by decide +kernel
theorem lw_s : ∀ n, n < 13 → (((nI 2 * nI n) &&& 31).toBitVec.smod 32).toNat = 2 * n := by decide +kernel
theorem p4 (n : Nat) : 2 ^ (2 * n) = 4 ^ n := by rw [Nat.pow_mul]
theorem lowI_raw (x : Int32) {n : Nat} (hn : n ≤ 12) : lowI x (nI n) = nI (x.toBitVec.toNat % 4 ^ n) := by
  unfold lowI
  rw [pk_and x (2 * n) (lw_m n (by omega)), p4]
theorem lowI_n {p n : Nat} (hp : p < 2 ^ 32) (hn : n ≤ 12) : lowI (nI p) (nI n) = nI (p % 4 ^ n) := by
  rw [lowI_raw _ hn, pk_tn hp]
theorem shr_n {p b : Nat} (hp : p < 2 ^ 31) (hb : b ≤ 12) : nI p >>> ((nI 2 * nI b) &&& 31) = nI (p / 4 ^ b) := by
  rw [pk_shrN hp _ (2 * b) (lw_s b (by omega)), p4]
theorem bt_nI (a i : Nat) (hi : i < 32) : bt (nI a) i = a.testBit i := by
  unfold bt nI
  show (BitVec.ofNat 32 a).getLsbD i = _
  rw [BitVec.getLsbD_ofNat]
  simp [hi]
theorem bt_toNat (x : Int32) (i : Nat) : bt x i = x.toBitVec.toNat.testBit i := rfl
theorem lt_raw (x : Int32) {m : Nat} (hm : m ≤ 11) : (x >>> ((nI 2 * nI m) &&& 31)) &&& nI 3 = nI (x.toBitVec.toNat / 4 ^ m % 4) := by
  apply b_ext
  intro i hi
  have e2 : nI 2 * nI m = nI (2 * m) := by rw [pk_mul]
  rw [b_and, e2, b_sshr (2 * m) (by omega) x hi, bt_nI _ i hi, bt_nI _ i hi, ← p4, show (4 : Nat) = 2 ^ 2 from rfl, Nat.testBit_mod_two_pow, ← Nat.shiftRight_eq_div_pow, Nat.testBit_shiftRight]
  have h3 : ∀ i, i < 32 → Nat.testBit 3 i = decide (i < 2) := by decide +kernel
  rw [h3 i hi]
  by_cases h : i < 2
  · rw [if_pos (by omega), bt_toNat, decide_eq_true h]
    simp
  · rw [decide_eq_false h]
    simp
theorem p4_le {n : Nat} (h : n ≤ 12) : 4 ^ n ≤ 16777216 := by
  have := Nat.pow_le_pow_right (n := 4) (by decide) h
  omega
