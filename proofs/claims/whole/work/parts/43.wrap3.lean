/-! where a call stands in a text -/
theorem dec_lt {cc : ByteArray} {pc : Nat} {r : Instr × Nat} (h : decode cc pc = .ok r) : pc < cc.size := by
  apply Classical.byContradiction
  intro hp
  have hu : ((Reader.u1 : Decoder Nat)).runAt cc pc = .error (HasTruncated.truncated pc) := by
    show (if h : pc < cc.size then _ else _ : Reader DecodeError Nat).run cc pc = _
    rw [dif_neg hp]
    rfl
  have hb : ∀ f : Nat → Decoder Instr, ((Reader.u1 >>= f : Decoder Instr)).runAt cc pc = .error (HasTruncated.truncated pc) := fun f => by
    have : ((Reader.u1 >>= f : Decoder Instr)).runAt cc pc = (((Reader.u1 : Decoder Nat)).runAt cc pc >>= fun q => (f q.1).runAt cc q.2) := rfl
    rw [this, hu]
    rfl
  have hi : (Decoder.instr pc).runAt cc pc = .error (HasTruncated.truncated pc) := hb _
  unfold decode at h
  rw [hi] at h
  cases h
def dec_is (cc : ByteArray) (k cpc : Nat) (pc : Nat) : Bool := match decode cc pc with
  | .ok (.invokevirtual k', _) => !decide (k' = k) || decide (pc = cpc)
  | _ => true
theorem dec_at {cc : ByteArray} {k cpc : Nat} (h : (List.range cc.size).all (dec_is cc k cpc) = true) : ∀ pc, decode cc pc = .ok (.invokevirtual k, 3) → pc = cpc := by
  intro pc hd
  have := List.all_eq_true.mp h pc (List.mem_range.mpr (dec_lt hd))
  unfold dec_is at this
  rw [hd] at this
  simpa using this
