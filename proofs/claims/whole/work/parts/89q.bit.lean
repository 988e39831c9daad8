/-! BYTES OF A LONG -/
/-- byte i of w, the lowest is 0 -/
def fdB (w : Int) (i : Nat) : Int := if i = 0 then w % 256 else if i = 1 then w / 256 % 256 else if i = 2 then w / 65536 % 256 else if i = 3 then w / 16777216 % 256 else if i = 4 then w / 4294967296 % 256 else if i = 5 then w / 1099511627776 % 256 else if i = 6 then w / 281474976710656 % 256 else w / 72057594037927936 % 256
theorem fdB_r (w : Int) (i : Nat) : 0 ≤ fdB w i ∧ fdB w i ≤ 255 := by
  unfold fdB
  repeat' split
  all_goals omega
theorem nat_and255 (n : Nat) : n &&& 255 = n % 256 := Nat.and_two_pow_sub_one_eq_mod n 8
theorem jand255 (x : Int) : jand x 255 = x % 256 := by
  show ((Int32.ofInt x &&& Int32.ofInt 255).toBitVec).toInt = _
  rw [Int32.toBitVec_and, Int32.toBitVec_ofInt, Int32.toBitVec_ofInt]
  have e1 : (BitVec.ofInt 32 x).toNat = (x % 4294967296).toNat := by rw [BitVec.toNat_ofInt]; rfl
  have e : (BitVec.ofInt 32 x &&& BitVec.ofInt 32 255).toNat = (x % 256).toNat := by
    rw [BitVec.toNat_and, e1, show (BitVec.ofInt 32 255).toNat = 255 from rfl, nat_and255]
    omega
  rw [BitVec.toInt_eq_toNat_of_lt (by rw [e]; omega), e]
  omega
theorem jandL255 (x : Int) : jandL x 255 = x % 256 := by
  show ((Int64.ofInt x &&& Int64.ofInt 255).toBitVec).toInt = _
  rw [Int64.toBitVec_and, Int64.toBitVec_ofInt, Int64.toBitVec_ofInt]
  have e1 : (BitVec.ofInt 64 x).toNat = (x % 18446744073709551616).toNat := by rw [BitVec.toNat_ofInt]; rfl
  have e : (BitVec.ofInt 64 x &&& BitVec.ofInt 64 255).toNat = (x % 256).toNat := by
    rw [BitVec.toNat_and, e1, show (BitVec.ofInt 64 255).toNat = 255 from rfl, nat_and255]
    omega
  rw [BitVec.toInt_eq_toNat_of_lt (by rw [e]; omega), e]
  omega
theorem b2_and : ∀ v : Nat, v < 256 → jand (ji2b (v : Int)) 255 = (v : Int) := by decide +kernel
theorem shr_n (v : Int) (hv : r64 v) {y : Int64} {n : Nat} (e : y.toBitVec.smod 64 = BitVec.ofNat 64 n) (hn : n < 64) : (Int64.ofInt v >>> y).toInt = v >>> n := by
  show ((Int64.ofInt v >>> y).toBitVec).toInt = _
  rw [Int64.toBitVec_shiftRight, Int64.toBitVec_ofInt, e]
  show (BitVec.sshiftRight (BitVec.ofInt 64 v) (BitVec.ofNat 64 n).toNat).toInt = _
  rw [BitVec.toInt_sshiftRight, BitVec.toNat_ofNat, Nat.mod_eq_of_lt (by omega), BitVec.toInt_ofInt]
  unfold r64 at hv
  rw [show (v.bmod (2 ^ 64)) = v by rw [Int.bmod_eq_of_le (by omega) (by omega)]]
theorem ush_n (v : Int) {y : UInt64} {n : Nat} (e : y.toBitVec % 64 = BitVec.ofNat 64 n) (hn : n < 64) : (((Int64.ofInt v).toUInt64 >>> y).toInt64).toInt % 256 = (((v % 18446744073709551616).toNat >>> n : Nat) : Int) % 256 := by
  show (((Int64.ofInt v).toUInt64 >>> y).toBitVec).toInt % 256 = _
  rw [UInt64.toBitVec_shiftRight, e]
  show ((BitVec.ofInt 64 v) >>> (BitVec.ofNat 64 n).toNat).toInt % 256 = _
  have e1 : (BitVec.ofInt 64 v).toNat = (v % 18446744073709551616).toNat := by rw [BitVec.toNat_ofInt]; rfl
  rw [BitVec.toInt_eq_toNat_cond, BitVec.toNat_ushiftRight, BitVec.toNat_ofNat, Nat.mod_eq_of_lt (by omega), e1]
  split <;> omega
theorem w32_256 (x : Int) : w32 x % 256 = x % 256 := by unfold w32; omega
theorem fd_u0 (v : Int) : jand (w32 (jushL v 0)) 255 = fdB v 0 := by
  rw [jand255, w32_256]
  show (((Int64.ofInt v).toUInt64 >>> ((Int32.ofInt 0).toInt64.toUInt64 &&& Int64.toUInt64 63)).toInt64).toInt % 256 = _
  rw [ush_n v (n := 0) (by decide) (by decide), Nat.shiftRight_eq_div_pow]
  show (((v % 18446744073709551616).toNat / 1 : Nat) : Int) % 256 = v % 256
  omega
theorem fd_s0 (v : Int) (hv : r64 v) : w32 (jandL (jshrL v 0) 255) = fdB v 0 := by
  have e : jshrL v 0 = v >>> 0 := shr_n v hv (n := 0) (by decide) (by decide)
  rw [jandL255, e, Int.shiftRight_eq_div_pow, w32_i (by omega) (by omega)]
  show v / 1 % 256 = v % 256
  omega
theorem fd_u1 (v : Int) : jand (w32 (jushL v 8)) 255 = fdB v 1 := by
  rw [jand255, w32_256]
  show (((Int64.ofInt v).toUInt64 >>> ((Int32.ofInt 8).toInt64.toUInt64 &&& Int64.toUInt64 63)).toInt64).toInt % 256 = _
  rw [ush_n v (n := 8) (by decide) (by decide), Nat.shiftRight_eq_div_pow]
  show (((v % 18446744073709551616).toNat / 256 : Nat) : Int) % 256 = v / 256 % 256
  omega
theorem fd_s1 (v : Int) (hv : r64 v) : w32 (jandL (jshrL v 8) 255) = fdB v 1 := by
  have e : jshrL v 8 = v >>> 8 := shr_n v hv (n := 8) (by decide) (by decide)
  rw [jandL255, e, Int.shiftRight_eq_div_pow, w32_i (by omega) (by omega)]
  show v / 256 % 256 = v / 256 % 256
  omega
theorem fd_u2 (v : Int) : jand (w32 (jushL v 16)) 255 = fdB v 2 := by
  rw [jand255, w32_256]
  show (((Int64.ofInt v).toUInt64 >>> ((Int32.ofInt 16).toInt64.toUInt64 &&& Int64.toUInt64 63)).toInt64).toInt % 256 = _
  rw [ush_n v (n := 16) (by decide) (by decide), Nat.shiftRight_eq_div_pow]
  show (((v % 18446744073709551616).toNat / 65536 : Nat) : Int) % 256 = v / 65536 % 256
  omega
theorem fd_s2 (v : Int) (hv : r64 v) : w32 (jandL (jshrL v 16) 255) = fdB v 2 := by
  have e : jshrL v 16 = v >>> 16 := shr_n v hv (n := 16) (by decide) (by decide)
  rw [jandL255, e, Int.shiftRight_eq_div_pow, w32_i (by omega) (by omega)]
  show v / 65536 % 256 = v / 65536 % 256
  omega
theorem fd_u3 (v : Int) : jand (w32 (jushL v 24)) 255 = fdB v 3 := by
  rw [jand255, w32_256]
  show (((Int64.ofInt v).toUInt64 >>> ((Int32.ofInt 24).toInt64.toUInt64 &&& Int64.toUInt64 63)).toInt64).toInt % 256 = _
  rw [ush_n v (n := 24) (by decide) (by decide), Nat.shiftRight_eq_div_pow]
  show (((v % 18446744073709551616).toNat / 16777216 : Nat) : Int) % 256 = v / 16777216 % 256
  omega
theorem fd_s3 (v : Int) (hv : r64 v) : w32 (jandL (jshrL v 24) 255) = fdB v 3 := by
  have e : jshrL v 24 = v >>> 24 := shr_n v hv (n := 24) (by decide) (by decide)
  rw [jandL255, e, Int.shiftRight_eq_div_pow, w32_i (by omega) (by omega)]
  show v / 16777216 % 256 = v / 16777216 % 256
  omega
theorem fd_u4 (v : Int) : jand (w32 (jushL v 32)) 255 = fdB v 4 := by
  rw [jand255, w32_256]
  show (((Int64.ofInt v).toUInt64 >>> ((Int32.ofInt 32).toInt64.toUInt64 &&& Int64.toUInt64 63)).toInt64).toInt % 256 = _
  rw [ush_n v (n := 32) (by decide) (by decide), Nat.shiftRight_eq_div_pow]
  show (((v % 18446744073709551616).toNat / 4294967296 : Nat) : Int) % 256 = v / 4294967296 % 256
  omega
theorem fd_s4 (v : Int) (hv : r64 v) : w32 (jandL (jshrL v 32) 255) = fdB v 4 := by
  have e : jshrL v 32 = v >>> 32 := shr_n v hv (n := 32) (by decide) (by decide)
  rw [jandL255, e, Int.shiftRight_eq_div_pow, w32_i (by omega) (by omega)]
  show v / 4294967296 % 256 = v / 4294967296 % 256
  omega
theorem fd_u5 (v : Int) : jand (w32 (jushL v 40)) 255 = fdB v 5 := by
  rw [jand255, w32_256]
  show (((Int64.ofInt v).toUInt64 >>> ((Int32.ofInt 40).toInt64.toUInt64 &&& Int64.toUInt64 63)).toInt64).toInt % 256 = _
  rw [ush_n v (n := 40) (by decide) (by decide), Nat.shiftRight_eq_div_pow]
  show (((v % 18446744073709551616).toNat / 1099511627776 : Nat) : Int) % 256 = v / 1099511627776 % 256
  omega
theorem fd_s5 (v : Int) (hv : r64 v) : w32 (jandL (jshrL v 40) 255) = fdB v 5 := by
  have e : jshrL v 40 = v >>> 40 := shr_n v hv (n := 40) (by decide) (by decide)
  rw [jandL255, e, Int.shiftRight_eq_div_pow, w32_i (by omega) (by omega)]
  show v / 1099511627776 % 256 = v / 1099511627776 % 256
  omega
theorem fd_u6 (v : Int) : jand (w32 (jushL v 48)) 255 = fdB v 6 := by
  rw [jand255, w32_256]
  show (((Int64.ofInt v).toUInt64 >>> ((Int32.ofInt 48).toInt64.toUInt64 &&& Int64.toUInt64 63)).toInt64).toInt % 256 = _
  rw [ush_n v (n := 48) (by decide) (by decide), Nat.shiftRight_eq_div_pow]
  show (((v % 18446744073709551616).toNat / 281474976710656 : Nat) : Int) % 256 = v / 281474976710656 % 256
  omega
theorem fd_s6 (v : Int) (hv : r64 v) : w32 (jandL (jshrL v 48) 255) = fdB v 6 := by
  have e : jshrL v 48 = v >>> 48 := shr_n v hv (n := 48) (by decide) (by decide)
  rw [jandL255, e, Int.shiftRight_eq_div_pow, w32_i (by omega) (by omega)]
  show v / 281474976710656 % 256 = v / 281474976710656 % 256
  omega
theorem fd_u7 (v : Int) : jand (w32 (jushL v 56)) 255 = fdB v 7 := by
  rw [jand255, w32_256]
  show (((Int64.ofInt v).toUInt64 >>> ((Int32.ofInt 56).toInt64.toUInt64 &&& Int64.toUInt64 63)).toInt64).toInt % 256 = _
  rw [ush_n v (n := 56) (by decide) (by decide), Nat.shiftRight_eq_div_pow]
  show (((v % 18446744073709551616).toNat / 72057594037927936 : Nat) : Int) % 256 = v / 72057594037927936 % 256
  omega
theorem fd_s7 (v : Int) (hv : r64 v) : w32 (jandL (jshrL v 56) 255) = fdB v 7 := by
  have e : jshrL v 56 = v >>> 56 := shr_n v hv (n := 56) (by decide) (by decide)
  rw [jandL255, e, Int.shiftRight_eq_div_pow, w32_i (by omega) (by omega)]
  show v / 72057594037927936 % 256 = v / 72057594037927936 % 256
  omega
theorem fd_c {i : Nat} (hi : i < 8) (v : Int) : jand (w32 (jushL v (8 * (i : Int)))) 255 = fdB v i := by
  rcases (by omega : i = 0 ∨ i = 1 ∨ i = 2 ∨ i = 3 ∨ i = 4 ∨ i = 5 ∨ i = 6 ∨ i = 7) with rfl | rfl | rfl | rfl | rfl | rfl | rfl | rfl
  · exact fd_u0 v
  · exact fd_u1 v
  · exact fd_u2 v
  · exact fd_u3 v
  · exact fd_u4 v
  · exact fd_u5 v
  · exact fd_u6 v
  · exact fd_u7 v
theorem fd_r {i : Nat} (hi : i < 8) (v : Int) (hv : r64 v) : w32 (jandL (jshrL v (8 * (i : Int))) 255) = fdB v i := by
  rcases (by omega : i = 0 ∨ i = 1 ∨ i = 2 ∨ i = 3 ∨ i = 4 ∨ i = 5 ∨ i = 6 ∨ i = 7) with rfl | rfl | rfl | rfl | rfl | rfl | rfl | rfl
  · exact fd_s0 v hv
  · exact fd_s1 v hv
  · exact fd_s2 v hv
  · exact fd_s3 v hv
  · exact fd_s4 v hv
  · exact fd_s5 v hv
  · exact fd_s6 v hv
  · exact fd_s7 v hv
