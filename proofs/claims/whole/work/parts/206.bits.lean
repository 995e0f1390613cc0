section
/-! Bits. -/
theorem am_bi (x : Int) : (BitVec.ofInt 32 x).toNat = (x % 4294967296).toNat := BitVec.toNat_ofInt x
theorem am_ti {b : BitVec 32} (h : b.toNat < 2147483648) : b.toInt = b.toNat := BitVec.toInt_eq_toNat_of_lt (by omega)
theorem am_bi0 {x : Int} (h : 0 ≤ x ∧ x < 2147483648) : (BitVec.ofInt 32 x).toNat = x.toNat := by
  rw [am_bi, Int.emod_eq_of_lt h.1 (by omega)]
theorem am_and_nn {x y : Int} (hx : 0 ≤ x ∧ x < 2147483648) (hy : 0 ≤ y ∧ y < 2147483648) : am_and x y = ((x.toNat &&& y.toNat : Nat) : Int) := by
  show (BitVec.ofInt 32 x &&& BitVec.ofInt 32 y).toInt = _
  have e : (BitVec.ofInt 32 x &&& BitVec.ofInt 32 y).toNat = x.toNat &&& y.toNat := by rw [BitVec.toNat_and, am_bi0 hx, am_bi0 hy]
  have hl : x.toNat &&& y.toNat ≤ x.toNat := Nat.and_le_left
  rw [am_ti (by rw [e]; omega), e]
theorem am_or_nn {x y : Int} (hx : 0 ≤ x ∧ x < 2147483648) (hy : 0 ≤ y ∧ y < 2147483648) : am_or x y = ((x.toNat ||| y.toNat : Nat) : Int) := by
  show (BitVec.ofInt 32 x ||| BitVec.ofInt 32 y).toInt = _
  have e : (BitVec.ofInt 32 x ||| BitVec.ofInt 32 y).toNat = x.toNat ||| y.toNat := by rw [BitVec.toNat_or, am_bi0 hx, am_bi0 hy]
  have hl : x.toNat ||| y.toNat < 2 ^ 31 := Nat.or_lt_two_pow (by omega) (by omega)
  rw [am_ti (by rw [e]; omega), e]
/-- a mask -/
theorem am_and_mask {x : Int} (k : Nat) (hk : k ≤ 31) : am_and x ((2 ^ k - 1 : Nat) : Int) = x % ((2 ^ k : Nat) : Int) := by
  show (BitVec.ofInt 32 x &&& BitVec.ofInt 32 _).toInt = _
  have hp : 2 ^ k ≤ 2 ^ 31 := Nat.pow_le_pow_right (by decide) hk
  have hp0 : 0 < 2 ^ k := Nat.pow_pos (by decide)
  have e : (BitVec.ofInt 32 x &&& BitVec.ofInt 32 ((2 ^ k - 1 : Nat) : Int)).toNat = (x % 4294967296).toNat % 2 ^ k := by
    rw [BitVec.toNat_and, am_bi, am_bi0 (by omega), Int.toNat_natCast, Nat.and_two_pow_sub_one_eq_mod]
  have hlt : (x % 4294967296).toNat % 2 ^ k < 2 ^ k := Nat.mod_lt _ hp0
  rw [am_ti (by rw [e]; omega), e]
  have hd : ((2 ^ k : Nat) : Int) ∣ 4294967296 := by
    have : (2 ^ k : Nat) ∣ 2 ^ 32 := Nat.pow_dvd_pow 2 (by omega)
    exact Int.natCast_dvd_natCast.mpr this
  rw [Int.natCast_emod, Int.toNat_of_nonneg (Int.emod_nonneg _ (by decide)), Int.emod_emod_of_dvd _ hd]
theorem am_and_255 (x : Int) : am_and x 255 = x % 256 := am_and_mask (x := x) 8 (by decide)
theorem am_and_31 (x : Int) : am_and x 31 = x % 32 := am_and_mask (x := x) 5 (by decide)
theorem am_and_15 (x : Int) : am_and x 15 = x % 16 := am_and_mask (x := x) 4 (by decide)
theorem am_and_3 (x : Int) : am_and x 3 = x % 4 := am_and_mask (x := x) 2 (by decide)
theorem am_and_1 (x : Int) : am_and x 1 = x % 2 := am_and_mask (x := x) 1 (by decide)
theorem am_sm : ∀ v : Nat, v < 32 → ((Int32.ofInt (v : Int) &&& 31).toBitVec.smod 32).toNat = v := by decide +kernel
theorem am_shr_v {x : Int} (v : Nat) (hx : -2147483648 ≤ x ∧ x ≤ 2147483647) (hv : v < 32) : am_shr x v = x / ((2 ^ v : Nat) : Int) := by
  show (BitVec.sshiftRight' (BitVec.ofInt 32 x) ((Int32.ofInt (v : Int) &&& 31).toBitVec.smod 32)).toInt = _
  have e := am_sm v hv
  rw [BitVec.toInt_sshiftRight', e]
  have : (BitVec.ofInt 32 x).toInt = x := by
    have := Int32.toInt_ofInt_of_le (n := x) (by omega) (by omega)
    exact this
  rw [this, Int.shiftRight_eq_div_pow]
theorem am_shl_v {x : Int} (v : Nat) (hx : 0 ≤ x) (hv : v < 32) (hb : x * ((2 ^ v : Nat) : Int) < 2147483648) : am_shl x v = x * ((2 ^ v : Nat) : Int) := by
  show (BitVec.ofInt 32 x <<< ((Int32.ofInt (v : Int) &&& 31).toBitVec.smod 32)).toInt = _
  have hp0 : 0 < 2 ^ v := Nat.pow_pos (by decide)
  have hx2 : x ≤ x * ((2 ^ v : Nat) : Int) := by
    have h1 : (1 : Int) ≤ ((2 ^ v : Nat) : Int) := by omega
    have := Int.mul_le_mul_of_nonneg_left h1 hx
    omega
  have e0 : ((x.toNat * 2 ^ v : Nat) : Int) = x * ((2 ^ v : Nat) : Int) := by rw [Int.natCast_mul, Int.toNat_of_nonneg hx]
  have e : (BitVec.ofInt 32 x <<< ((Int32.ofInt (v : Int) &&& 31).toBitVec.smod 32)).toNat = x.toNat * 2 ^ v := by
    rw [BitVec.shiftLeft_eq', BitVec.toNat_shiftLeft, am_sm v hv, am_bi0 (by omega), Nat.shiftLeft_eq, Nat.mod_eq_of_lt (by omega)]
  rw [am_ti (by rw [e]; omega), e, e0]
theorem am_us : ∀ v : Nat, v < 32 → (((Int32.ofInt (v : Int)).toUInt32 &&& Int32.toUInt32 31).toBitVec % 32).toNat = v := by decide +kernel
/-- a byte, by the class and by the reference -/
theorem am_byteC {x : Int} (v : Nat) (hv : v < 32) : am_and (am_ushr x v) 255 = (x % 4294967296) / ((2 ^ v : Nat) : Int) % 256 := by
  have e : Int32.ofInt (am_ushr x v) = ((Int32.ofInt x).toUInt32 >>> ((Int32.ofInt (v : Int)).toUInt32 &&& Int32.toUInt32 31)).toInt32 := Int32.ofInt_toInt _
  unfold am_and
  rw [e]
  show ((BitVec.ofInt 32 x) >>> (((Int32.ofInt (v : Int)).toUInt32 &&& Int32.toUInt32 31).toBitVec % 32) &&& BitVec.ofInt 32 255).toInt = _
  have e2 : ((BitVec.ofInt 32 x) >>> (((Int32.ofInt (v : Int)).toUInt32 &&& Int32.toUInt32 31).toBitVec % 32) &&& BitVec.ofInt 32 255).toNat = (x % 4294967296).toNat / 2 ^ v % 256 := by
    rw [BitVec.toNat_and, BitVec.ushiftRight_eq', BitVec.toNat_ushiftRight, am_us v hv, am_bi, am_bi0 (by omega), Nat.shiftRight_eq_div_pow]
    exact Nat.and_two_pow_sub_one_eq_mod _ 8
  rw [am_ti (by rw [e2]; omega), e2]
  rw [Int.natCast_emod, Int.natCast_ediv, Int.toNat_of_nonneg (Int.emod_nonneg _ (by decide))]
  rfl
/-- a byte as a signed one -/
def am_sg (b : Int) : Int := if b < 128 then b else b - 256
theorem am_i2b_v (x : Int) : am_i2b x = am_sg (x % 256) := by
  unfold am_i2b
  rw [Int8.toInt_toInt32, Int32.toInt_toInt8, Int32.toInt_ofInt]
  show Int.bmod (Int.bmod x 4294967296) 256 = _
  unfold Int.bmod am_sg
  dsimp only
  split <;> split <;> split <;> omega
theorem am_bytes {x : Int} (v : Nat) (hx : -2147483648 ≤ x ∧ x ≤ 2147483647) (hv : v = 0 ∨ v = 8 ∨ v = 16 ∨ v = 24) : am_i2b (am_i2b (am_shr x v)) = am_sg (am_and (am_ushr x v) 255) ∧ 0 ≤ am_and (am_ushr x v) 255 ∧ am_and (am_ushr x v) 255 ≤ 255 := by
  rw [am_byteC v (by omega), am_shr_v v hx (by omega), am_i2b_v, am_i2b_v]
  rcases hv with rfl | rfl | rfl | rfl
  · show am_sg (am_sg (x / 1 % 256) % 256) = am_sg (x % 4294967296 / 1 % 256) ∧ 0 ≤ x % 4294967296 / 1 % 256 ∧ x % 4294967296 / 1 % 256 ≤ 255
    unfold am_sg
    split <;> split <;> split <;> omega
  · show am_sg (am_sg (x / 256 % 256) % 256) = am_sg (x % 4294967296 / 256 % 256) ∧ 0 ≤ x % 4294967296 / 256 % 256 ∧ x % 4294967296 / 256 % 256 ≤ 255
    unfold am_sg
    split <;> split <;> split <;> omega
  · show am_sg (am_sg (x / 65536 % 256) % 256) = am_sg (x % 4294967296 / 65536 % 256) ∧ 0 ≤ x % 4294967296 / 65536 % 256 ∧ x % 4294967296 / 65536 % 256 ≤ 255
    unfold am_sg
    split <;> split <;> split <;> omega
  · show am_sg (am_sg (x / 16777216 % 256) % 256) = am_sg (x % 4294967296 / 16777216 % 256) ∧ 0 ≤ x % 4294967296 / 16777216 % 256 ∧ x % 4294967296 / 16777216 % 256 ≤ 255
    unfold am_sg
    split <;> split <;> split <;> omega
/-- a set of numbers below 31, as bits -/
def am_bt (s : Int) (v : Nat) : Bool := s.toNat.testBit v
theorem am_bit {s : Int} (v : Nat) (hs : 0 ≤ s ∧ s ≤ 2147483647) (hv : v < 31) : am_and (am_shr s v) 1 = if am_bt s v then 1 else 0 := by
  rw [am_shr_v v (by omega) (by omega), am_and_1]
  have e : s / ((2 ^ v : Nat) : Int) % 2 = ((s.toNat / 2 ^ v % 2 : Nat) : Int) := by
    rw [Int.natCast_emod, Int.natCast_ediv, Int.toNat_of_nonneg hs.1]
    rfl
  rw [e]
  unfold am_bt
  rw [Nat.testBit_eq_decide_div_mod_eq]
  by_cases h : s.toNat / 2 ^ v % 2 = 1
  · rw [h]; simp
  · have : s.toNat / 2 ^ v % 2 = 0 := by omega
    rw [this]; simp
theorem am_orbit {s : Int} (v : Nat) (hs : 0 ≤ s ∧ s ≤ 2147483647) (hv : v < 31) : 0 ≤ am_or s (am_shl 1 v) ∧ am_or s (am_shl 1 v) ≤ 2147483647 ∧ ∀ w, am_bt (am_or s (am_shl 1 v)) w = (am_bt s w || decide (v = w)) := by
  have hp : 2 ^ v ≤ 2 ^ 30 := Nat.pow_le_pow_right (by decide) (by omega)
  have hp0 : 0 < 2 ^ v := Nat.pow_pos (by decide)
  rw [am_shl_v v (by omega) (by omega) (by omega), Int.one_mul, am_or_nn (by omega) (by omega), Int.toNat_natCast]
  have hl : s.toNat ||| 2 ^ v < 2 ^ 31 := Nat.or_lt_two_pow (by omega) (by omega)
  refine ⟨by omega, by omega, fun w => ?_⟩
  unfold am_bt
  rw [Int.toNat_natCast, Nat.testBit_or, Nat.testBit_two_pow]
end
