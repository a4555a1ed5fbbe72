/-! signs go onto the pad -/
def yb (a : Int64) (j : Nat) : Nat := a.toBitVec.toNat / 2 ^ (8 * j) % 256
theorem yb_lt (a : Int64) (j : Nat) : yb a j < 256 := Nat.mod_lt _ (by decide)
theorem low8 (X : BitVec 64) : (X &&& 255#64).toNat = X.toNat % 256 := by
  rw [BitVec.toNat_and]
  exact Nat.and_two_pow_sub_one_eq_mod X.toNat 8
theorem i32_low (x : Int64) {n : Nat} (hn : n < 256) (h : (x.toBitVec).toNat = n) : x.toInt32 = nI n := by
  apply Int32.toBitVec_inj.mp
  show x.toBitVec.signExtend 32 = BitVec.ofNat 32 n
  rw [BitVec.signExtend_eq_setWidth_of_le _ (by decide)]
  apply BitVec.eq_of_toNat_eq
  rw [BitVec.toNat_setWidth, h, BitVec.toNat_ofNat]
theorem and_255 (x : Int64) : (x &&& 255).toInt32 = nI (x.toBitVec.toNat % 256) := i32_low _ (Nat.mod_lt _ (by decide)) (low8 x.toBitVec)
theorem ushr_n (x : Int64) (s : UInt64) : ((x.toUInt64 >>> s).toInt64).toBitVec.toNat = x.toBitVec.toNat / 2 ^ (s.toNat % 64) := by
  show (x.toUInt64 >>> s).toBitVec.toNat = _
  rw [UInt64.toBitVec_shiftRight, BitVec.ushiftRight_eq', BitVec.toNat_ushiftRight, Nat.shiftRight_eq_div_pow]
  rfl
theorem byte_c : ∀ j, j < 8 → (((8 : Int32) * nI j).toInt64.toUInt64 &&& Int64.toUInt64 63).toNat % 64 = 8 * j := by decide
theorem byte_a : ∀ j, j < 8 → (((8 : Int32) * nI j).toInt64 &&& 63).toBitVec.smod 64 = BitVec.ofNat 64 (8 * j) := by decide
theorem cls_b (a : Int64) {j : Nat} (hj : j < 8) : ((((a.toUInt64 >>> (((8 : Int32) * nI j).toInt64.toUInt64 &&& Int64.toUInt64 63)).toInt64) &&& 255)).toInt32 = nI (yb a j) := by
  rw [and_255, ushr_n, byte_c j hj]; rfl
theorem ssh (X : BitVec 64) {n : Nat} (hn : n ≤ 56) : X.sshiftRight n &&& 255#64 = X >>> n &&& 255#64 := by
  apply BitVec.eq_of_getLsbD_eq
  intro i hi
  rw [BitVec.getLsbD_and, BitVec.getLsbD_and, BitVec.getLsbD_sshiftRight, BitVec.getLsbD_ushiftRight]
  by_cases h : i < 8
  · have h1 : n + i < 64 := by omega
    have h2 : ¬ 64 ≤ i := by omega
    simp [h1, h2]
  · have h3 : (255#64).getLsbD i = false := by
      rw [show (255#64) = BitVec.ofNat 64 255 from rfl, BitVec.getLsbD_ofNat, show 255 = 2 ^ 8 - 1 from rfl, Nat.testBit_two_pow_sub_one]
      simp [h]
    rw [h3]; simp
theorem ref_b (a : Int64) {j : Nat} (hj : j < 8) : ((a >>> (((8 : Int32) * nI j).toInt64 &&& 63)) &&& 255).toInt32 = nI (yb a j) := by
  refine i32_low _ (yb_lt a j) ?_
  show ((a >>> (((8 : Int32) * nI j).toInt64 &&& 63)).toBitVec &&& 255#64).toNat = _
  rw [Int64.toBitVec_shiftRight, byte_a j hj, BitVec.sshiftRight_eq', BitVec.toNat_ofNat, Nat.mod_eq_of_lt (by omega), ssh _ (by omega), low8, BitVec.toNat_ushiftRight, Nat.shiftRight_eq_div_pow]
  rfl
theorem char_n {b : Nat} (hb : b < 256) : vp_nar .char (((nI b).toUInt32 % 65536).toInt32) = nI b := by
  rw [pk_vc, pk_char, pk_tn (by omega), Nat.mod_eq_of_lt (by omega)]
