/-! The bytes that feed takes out of a long. -/
theorem fd_bv (x : BitVec 64) (s : Nat) (hs : s ≤ 56) : (BitVec.signExtend 32 (x >>> s)) &&& 255#32 = (BitVec.signExtend 32 ((x.sshiftRight s) &&& 255#64)) &&& 255#32 := by
  apply BitVec.eq_of_getLsbD_eq
  intro i hi
  have t8 : Nat.testBit 255 i = decide (i < 8) := Nat.testBit_two_pow_sub_one 8 i
  by_cases h8 : i < 8
  · have h1 : s + i < 64 := by omega
    have h2 : ¬ 64 ≤ i := by omega
    have h3 : i < 64 := by omega
    simp only [BitVec.getLsbD_and, BitVec.getLsbD_signExtend, BitVec.getLsbD_ushiftRight, BitVec.getLsbD_sshiftRight, BitVec.getLsbD_ofNat, t8, h1, h2, h3, hi, h8, decide_true, if_true, Bool.true_and, Bool.and_true, decide_false, Bool.not_false]
  · simp [BitVec.getLsbD_ofNat, t8, h8]
theorem fd_am : ∀ k, k < 8 → ((nI (8 * k)).toInt64.toUInt64 &&& Int64.toUInt64 63) = UInt64.ofNat (8 * k) ∧ ((UInt64.ofNat (8 * k)).toBitVec % 64#64).toNat = 8 * k ∧ ((((nI (8 * k)).toInt64 &&& 63).toBitVec.smod 64#64)).toNat = 8 * k := by decide +kernel
theorem fd_bits (w : Int64) (k : Nat) (hk : k < 8) : Int64.toInt32 (((w).toUInt64 >>> ((nI (8 * k)).toInt64.toUInt64 &&& Int64.toUInt64 63)).toInt64) &&& 255 = Int64.toInt32 ((w >>> ((nI (8 * k)).toInt64 &&& 63)) &&& (255 : Int64)) &&& 255 := by
  obtain ⟨a1, a2, a3⟩ := fd_am k hk
  apply Int32.toBitVec_inj.mp
  rw [a1]
  have e1 : (Int64.toInt32 (((w).toUInt64 >>> UInt64.ofNat (8 * k)).toInt64) &&& 255).toBitVec = (BitVec.signExtend 32 (w.toBitVec >>> ((UInt64.ofNat (8 * k)).toBitVec % 64#64))) &&& 255#32 := rfl
  have e2 : (Int64.toInt32 ((w >>> ((nI (8 * k)).toInt64 &&& 63)) &&& (255 : Int64)) &&& 255).toBitVec = (BitVec.signExtend 32 ((w.toBitVec.sshiftRight' (((nI (8 * k)).toInt64 &&& 63).toBitVec.smod 64#64)) &&& 255#64)) &&& 255#32 := rfl
  rw [e1, e2, BitVec.sshiftRight'.eq_1, a3, BitVec.ushiftRight_eq', a2]
  exact fd_bv _ _ (by omega)
