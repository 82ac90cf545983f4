/-! Bytes out of longs and ints. -/
def lSar (x : Int64) (n : Nat) : Int64 := x >>> ((nI n).toInt64 &&& 63)
def byAt (x : Int64) (i : Nat) : Nat := x.toBitVec.toNat / 2 ^ (8 * i) % 256
theorem byAt_lt (x : Int64) (i : Nat) : byAt x i < 256 := Nat.mod_lt _ (by decide)
theorem byAt_bit (x : Int64) (i j : Nat) : (byAt x i).testBit j = (decide (j < 8) && lBit x (8 * i + j)) := by
  unfold byAt lBit
  rw [show (256 : Nat) = 2 ^ 8 from rfl, Nat.testBit_mod_two_pow, Nat.testBit_div_two_pow, BitVec.testBit_toNat, Nat.add_comm]
theorem lSar_bv (x : Int64) {n : Nat} (hn : n < 64) : (lSar x n).toBitVec = x.toBitVec.sshiftRight n := by
  unfold lSar
  rw [Int64.toBitVec_shiftRight, BitVec.sshiftRight_eq', lSh_a n hn]
theorem lBit_sar (x : Int64) {n j : Nat} (h : n + j < 64) : lBit (lSar x n) j = lBit x (n + j) := by
  unfold lBit
  rw [lSar_bv x (by omega), BitVec.getLsbD_sshiftRight]
  simp [h, show j < 64 by omega]
theorem lSar_byte (x : Int64) {i : Nat} (hi : i < 8) : lSar x (8 * i) &&& 255 = lN (byAt x i) := lBit_ext fun j hj => by
  rw [lBit_and, lBit_255 j hj, lBit_lN j hj, byAt_bit]
  by_cases h : j < 8
  · rw [lBit_sar x (by omega)]
    simp [h]
  · simp [h]
theorem lSar_int (x : Int64) {i : Nat} (hi : i < 8) : (lSar x (8 * i) &&& 255).toInt32 = nI (byAt x i) := by rw [lSar_byte x hi, lN_i]
theorem bv8_nIm {n : Nat} (h : n < 2 ^ 32) : bv8 (nI n) = n % 256 := by
  unfold bv8
  rw [pk_tn h]
theorem lShr_nat (x : Int64) {n : Nat} (hn : n < 64) : (lShr x n).toBitVec.toNat = x.toBitVec.toNat / 2 ^ n := by
  unfold lShr
  show ((x.toUInt64 >>> ((nI n).toInt64.toUInt64 &&& Int64.toUInt64 63)).toBitVec).toNat = _
  rw [UInt64.toBitVec_shiftRight, BitVec.ushiftRight_eq', lSh_b n hn, BitVec.toNat_ushiftRight, Nat.shiftRight_eq_div_pow]
  rfl
theorem bv8_shr (x : Int64) {i : Nat} (hi : i < 8) : bv8 (lShr x (8 * i)).toInt32 = byAt x i := by
  unfold bv8 byAt
  rw [Int64.toBitVec_toInt32, BitVec.signExtend_eq_setWidth_of_le _ (by decide), BitVec.toNat_setWidth, lShr_nat x (by omega)]
  omega
theorem sb_b_bv8 (y : Int32) : y.toInt8.toInt32 = sb_b (bv8 y) := by
  unfold sb_b
  congr 1
  refine Int8.toBitVec_inj.mp (BitVec.eq_of_toNat_eq ?_)
  rw [Int32.toBitVec_toInt8, Int32.toBitVec_toInt8, BitVec.signExtend_eq_setWidth_of_le _ (by decide), BitVec.signExtend_eq_setWidth_of_le _ (by decide), BitVec.toNat_setWidth, BitVec.toNat_setWidth, pk_tn (by have := bv8_lt y; omega)]
  unfold bv8
  omega
theorem bv8_sb : ∀ c, c < 256 → bv8 (sb_b c) = c := by decide +kernel
theorem sb_b_nar (c : Nat) : vp_nar .byte (sb_b c) = sb_b c := by unfold sb_b; exact pk_vb _
def iShr (x : Int32) (n : Nat) : Int32 := (x.toUInt32 >>> ((nI n).toUInt32 &&& Int32.toUInt32 31)).toInt32
theorem n_inc1 (a : Nat) : nI a + Int32.ofInt 1 = nI (a + 1) := nI_1 a
theorem n_inc5 (a : Nat) : nI a + Int32.ofInt 5 = nI (a + 5) := nI_add a 5
theorem n_dec1 {a : Nat} (h : 0 < a) : nI a + Int32.ofInt (-1) = nI (a - 1) := sb_m1 h
