/-! values, as class and model hold them -/
def vv (s x : Int32) : Int64 := (s.toInt64 <<< ((32 : Int32).toInt64 &&& 63)) ||| (x.toInt64 &&& 4294967295)
theorem c_vv (n : Nat) (c : cd_S) (s x : Int32) : f_X1_valueOf n c s x = some (vv s x, c) := rfl
theorem c_vS (n : Nat) (c : cd_S) (v : Int64) : f_X1_sortOf n c v = some (vS v, c) := rfl
theorem k32 : ((32 : Int32).toInt64 &&& 63) = 32 := by decide
theorem k32u : ((32 : Int32).toInt64.toUInt64 &&& Int64.toUInt64 63) = 32 := by decide
theorem vv_bit (s x : Int32) (i : Nat) (hi : i < 64) : (vv s x).toBitVec.getLsbD i = if i < 32 then x.toBitVec.getLsbD i else s.toBitVec.getLsbD (i - 32) := by
  unfold vv
  rw [k32]
  rw [Int64.toBitVec_or, Int64.toBitVec_shiftLeft, Int64.toBitVec_and, Int32.toBitVec_toInt64, Int32.toBitVec_toInt64]
  have e1 : (32 : Int64).toBitVec.smod 64 = 32#64 := by decide
  have e2 : (4294967295 : Int64).toBitVec = BitVec.ofNat 64 (2 ^ 32 - 1) := by decide
  have e3 : (BitVec.ofNat 64 (2 ^ 32 - 1)).getLsbD i = decide (i < 32) := by
    rw [BitVec.getLsbD_ofNat, Nat.testBit_two_pow_sub_one]
    simp [hi]
  rw [e2, BitVec.getLsbD_or, BitVec.getLsbD_and, e3, e1, BitVec.shiftLeft_eq', show (32#64).toNat = 32 from rfl, BitVec.getLsbD_shiftLeft, BitVec.getLsbD_signExtend, BitVec.getLsbD_signExtend]
  by_cases q : i < 32
  · simp [q, hi]
  · simp [q, hi, show i - 32 < 64 by omega, show i - 32 < 32 by omega]
theorem lo_bit (v : Int64) (i : Nat) (hi : i < 32) : v.toInt32.toBitVec.getLsbD i = v.toBitVec.getLsbD i := by
  rw [Int64.toBitVec_toInt32, BitVec.getLsbD_signExtend]
  simp [hi, show i < 64 by omega]
theorem hi_bit (v : Int64) (i : Nat) (hi : i < 32) : (vS v).toBitVec.getLsbD i = v.toBitVec.getLsbD (i + 32) := by
  unfold vS
  rw [k32u, lo_bit _ i hi]
  show (v.toUInt64 >>> 32).toBitVec.getLsbD i = _
  rw [UInt64.toBitVec_shiftRight, show (32 : UInt64).toBitVec % 64 = 32#64 by decide, BitVec.ushiftRight_eq', show (32#64).toNat = 32 from rfl, BitVec.getLsbD_ushiftRight, Nat.add_comm]
  rfl
theorem vv_lo (s x : Int32) : (vv s x).toInt32 = x := by
  apply Int32.toBitVec_inj.mp
  apply BitVec.eq_of_getLsbD_eq
  intro i hi
  rw [lo_bit _ i hi, vv_bit s x i (by omega), if_pos hi]
theorem vv_hi (s x : Int32) : vS (vv s x) = s := by
  apply Int32.toBitVec_inj.mp
  apply BitVec.eq_of_getLsbD_eq
  intro i hi
  rw [hi_bit _ i hi, vv_bit s x (i + 32) (by omega), if_neg (by omega), Nat.add_sub_cancel]
theorem vv_ext {v w : Int64} (h1 : vS v = vS w) (h2 : v.toInt32 = w.toInt32) : v = w := by
  apply Int64.toBitVec_inj.mp
  apply BitVec.eq_of_getLsbD_eq
  intro i hi
  by_cases q : i < 32
  · rw [← lo_bit v i q, ← lo_bit w i q, h2]
  · have a := hi_bit v (i - 32) (by omega)
    have b := hi_bit w (i - 32) (by omega)
    rw [show i - 32 + 32 = i by omega] at a b
    rw [← a, ← b, h1]
theorem vv_eta (v : Int64) : v = vv (vS v) v.toInt32 := vv_ext (vv_hi _ _).symm (vv_lo _ _).symm
theorem vN_hi : vS 4294967296 = 1 := by decide
theorem vN_lo : (4294967296 : Int64).toInt32 = 0 := by decide
