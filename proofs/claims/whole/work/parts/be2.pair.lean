/-! bytes in the rows of the class -/
def i64 (k : Nat) : Int64 := (nI k).toInt64
theorem and_255 {x : Nat} (h : x < 2 ^ 31) : nI x &&& 255 = nI (x % 256) := by
  apply Int32.toBitVec_inj.mp
  show BitVec.ofNat 32 x &&& BitVec.ofNat 32 255 = BitVec.ofNat 32 (x % 256)
  apply BitVec.eq_of_toNat_eq
  rw [BitVec.toNat_and, BitVec.toNat_ofNat, BitVec.toNat_ofNat, BitVec.toNat_ofNat, Nat.mod_eq_of_lt (show x < 2 ^ 32 by omega), Nat.mod_eq_of_lt (show x % 256 < 2 ^ 32 by omega)]
  exact Nat.and_two_pow_sub_one_eq_mod x 8
theorem u32_i (u : UInt32) : u.toInt32 = nI u.toNat := by
  apply Int32.toBitVec_inj.mp
  show u.toBitVec = BitVec.ofNat 32 u.toBitVec.toNat
  apply BitVec.eq_of_toNat_eq
  rw [BitVec.toNat_ofNat]
  exact (Nat.mod_eq_of_lt u.toBitVec.isLt).symm
theorem hi_255 {x : Nat} (h : x < 2 ^ 31) : ((nI x).toUInt32 >>> ((8 : Int32).toUInt32 &&& Int32.toUInt32 31)).toInt32 &&& 255 = nI (x / 256 % 256) := by
  have hk : ((8 : Int32).toUInt32 &&& Int32.toUInt32 31) = 8 := by decide
  have e : (nI x).toUInt32.toNat = x := by
    show (BitVec.ofNat 32 x).toNat = x
    rw [BitVec.toNat_ofNat, Nat.mod_eq_of_lt (by omega)]
  rw [hk, u32_i, UInt32.toNat_shiftRight, e, show (8 : UInt32).toNat % 32 = 8 by decide, Nat.shiftRight_eq_div_pow, show 2 ^ 8 = 256 by decide, and_255 (by omega)]
theorem c_addp {n : Nat} {C : Nat × Nat} {c : cd_S} {b : cd_B} {r x : Nat} (hC : BC C) (h : Bd C c b) (hr : r < 197) (hz : rsz c r + 2 ≤ rcap r) (hx : x < 2 ^ 31) : ∃ c' b', f_X6_addPair n c b r (nI x) = some (0, c', b') ∧ Bd C c' b' ∧ ble b' b ∧ cd_fr [] [r] c c' ∧ rL c' r = rL c r ++ (pr x).map i64 := by
  obtain ⟨b1, a1, a2, a3, a4⟩ := c_add (n := n) (v := i64 (x / 256 % 256)) hC h hr (by omega)
  have hl1 : rL (rAdd c r (i64 (x / 256 % 256))) r = rL c r ++ [i64 (x / 256 % 256)] := rL_add (h.1 r hr)
  have hs1 : rsz (rAdd c r (i64 (x / 256 % 256))) r = rsz c r + 1 := by
    have e1 := rL_len (rAdd c r (i64 (x / 256 % 256))) r
    have e2 := rL_len c r
    rw [hl1, List.length_append, List.length_singleton] at e1
    omega
  obtain ⟨b2, d1, d2, d3, d4⟩ := c_add (n := n) (v := i64 (x % 256)) hC a2 hr (by omega)
  refine ⟨_, b2, ?_, d2, ⟨by omega, by omega⟩, ?_, ?_⟩
  · unfold f_X6_addPair
    rw [hi_255 hx, and_255 hx]
    rw [show f_X6_add n c b r (nI (x / 256 % 256)).toInt64 = _ from a1, bs_some]
    refine c_ck ?_ (Nat.le_trans d3 a3) (Nat.le_trans d4 a4)
    refine c_ck ?_ d3 d4
    dsimp only
    rw [show f_X6_add n (rAdd c r (i64 (x / 256 % 256))) b1 r (nI (x % 256)).toInt64 = _ from d1, bs_some]
    exact c_ck rfl (Nat.le_refl _) (Nat.le_refl _)
  · exact cd_fr_add (cd_fr_add (cd_fr_refl _ _ _) (List.mem_singleton.mpr rfl) _) (List.mem_singleton.mpr rfl) _
  · rw [rL_add (a2.1 r hr), hl1, List.append_assoc]
    rfl
