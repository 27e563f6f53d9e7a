theorem zN_bv (m : Nat) : (zI (m : Int)).toBitVec = BitVec.ofNat 32 m := by
  show BitVec.ofInt 32 (m : Int) = _
  exact BitVec.ofInt_natCast 32 m
theorem zN_or (m n : Nat) : zI (m : Int) ||| zI (n : Int) = zI ((m ||| n : Nat) : Int) := Int32.toBitVec_inj.mp (by
  show (zI (m : Int)).toBitVec ||| (zI (n : Int)).toBitVec = _
  rw [zN_bv, zN_bv, zN_bv]
  apply BitVec.eq_of_toNat_eq
  rw [BitVec.toNat_or, BitVec.toNat_ofNat, BitVec.toNat_ofNat, BitVec.toNat_ofNat, Nat.or_mod_two_pow])
theorem zN_and (m n : Nat) : zI (m : Int) &&& zI (n : Int) = zI ((m &&& n : Nat) : Int) := Int32.toBitVec_inj.mp (by
  show (zI (m : Int)).toBitVec &&& (zI (n : Int)).toBitVec = _
  rw [zN_bv, zN_bv, zN_bv]
  apply BitVec.eq_of_toNat_eq
  rw [BitVec.toNat_and, BitVec.toNat_ofNat, BitVec.toNat_ofNat, BitVec.toNat_ofNat, Nat.and_mod_two_pow])
theorem z_sh31 (b : Nat) (hb : b < 31) : (zI (b : Int) &&& 31).toBitVec.smod 32 = BitVec.ofNat 32 b := by
  have h : ∀ b ∈ List.range 31, (zI (b : Int) &&& 31).toBitVec.smod 32 = BitVec.ofNat 32 b := by decide +kernel
  exact h b (List.mem_range.mpr hb)
theorem zN_shl (b : Nat) (hb : b < 31) : (1 : Int32) <<< (zI (b : Int) &&& 31) = zI ((2 ^ b : Nat) : Int) := by
  have h : ∀ b ∈ List.range 31, (1 : Int32) <<< (zI (b : Int) &&& 31) = zI ((2 ^ b : Nat) : Int) := by decide +kernel
  exact h b (List.mem_range.mpr hb)
theorem zN_has (m b : Nat) (hm : m < 2147483648) (hb : b < 31) : hasZ m b ↔ m.testBit b = true := by
  unfold hasZ
  rw [← Int32.toBitVec_inj]
  show ((zI (m : Int)).toBitVec.sshiftRight' ((zI (b : Int) &&& 31).toBitVec.smod 32)) &&& 1#32 = 1#32 ↔ _
  rw [z_sh31 b hb, zN_bv, BitVec.sshiftRight_eq', ← BitVec.toNat_inj, BitVec.toNat_and, BitVec.toNat_ofNat, BitVec.toNat_sshiftRight_of_msb_false (by
    rw [BitVec.msb_eq_false_iff_two_mul_lt, BitVec.toNat_ofNat]; omega), BitVec.toNat_ofNat, Nat.mod_eq_of_lt (show m < 2 ^ 32 by omega), Nat.mod_eq_of_lt (show b < 2 ^ 32 by omega)]
  show m >>> b &&& 1 = 1 ↔ _
  unfold Nat.testBit
  rw [Nat.and_comm]
  have : 1 &&& m >>> b = 0 ∨ 1 &&& m >>> b = 1 := by rw [Nat.and_comm, Nat.and_one_is_mod]; omega
  rcases this with h | h <;> rw [h] <;> decide
theorem hasZ_n {x b : Int} (hx0 : 0 ≤ x) (hx : x < 2147483648) (hb0 : 0 ≤ b) (hb : b < 31) : hasZ x b ↔ x.toNat.testBit b.toNat = true := by
  have := zN_has x.toNat b.toNat (by omega) (by omega)
  rwa [Int.toNat_of_nonneg hx0, Int.toNat_of_nonneg hb0] at this
