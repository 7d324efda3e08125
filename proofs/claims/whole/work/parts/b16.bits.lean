/-! bits of an int -/
def bt (x : Int32) (i : Nat) : Bool := x.toBitVec.getLsbD i
theorem bt_ext {x y : Int32} (h : ∀ i, i < 32 → bt x i = bt y i) : x = y := by
  apply Int32.toBitVec_inj.mp
  apply BitVec.eq_of_getLsbD_eq
  intro i hi
  exact h i hi
theorem bt_or (x y : Int32) (i : Nat) : bt (x ||| y) i = (bt x i || bt y i) := by
  unfold bt; rw [Int32.toBitVec_or, BitVec.getLsbD_or]
theorem bt_and (x y : Int32) (i : Nat) : bt (x &&& y) i = (bt x i && bt y i) := by
  unfold bt; rw [Int32.toBitVec_and, BitVec.getLsbD_and]
theorem bt_not (x : Int32) {i : Nat} (h : i < 32) : bt (~~~x) i = !(bt x i) := by
  unfold bt; rw [Int32.toBitVec_not, BitVec.getLsbD_not]; simp [h]
theorem bt_zero (i : Nat) : bt 0 i = false := by
  unfold bt; simp
theorem bt_shl1 : ∀ (k i : Fin 32), bt ((1 : Int32) <<< (nI k.val &&& 31)) i.val = decide (i.val = k.val) := by decide +kernel
theorem bt_s1 {k i : Nat} (hk : k < 32) (hi : i < 32) : bt ((1 : Int32) <<< (nI k &&& 31)) i = decide (i = k) := bt_shl1 ⟨k, hk⟩ ⟨i, hi⟩
theorem bt_one : ∀ i : Fin 32, bt 1 i.val = decide (i.val = 0) := by decide
theorem bt_and1 (y : Int32) : (y &&& 1) = if bt y 0 then 1 else 0 := by
  apply bt_ext
  intro i hi
  rw [bt_and, bt_one ⟨i, hi⟩]
  by_cases h : i = 0
  · subst h
    cases hb : bt y 0 <;> simp <;> decide
  · simp only [h, decide_false, Bool.and_false]
    split
    · rw [bt_one ⟨i, hi⟩]; simp [h]
    · rw [bt_zero]
theorem nI_31 : ∀ i : Fin 32, nI i.val &&& 31 = nI i.val := by decide
theorem bt_sr {x : Int32} {i : Nat} (hi : i < 32) : bt (x >>> (nI i &&& 31)) 0 = bt x i := by
  rw [nI_31 ⟨i, hi⟩]
  unfold bt
  have h1 : (nI i).toBitVec.smod 32 = BitVec.ofNat 32 i := by
    have : ∀ i : Fin 32, (nI i.val).toBitVec.smod 32 = BitVec.ofNat 32 i.val := by decide
    exact this ⟨i, hi⟩
  rw [Int32.toBitVec_shiftRight, h1, BitVec.sshiftRight_eq', BitVec.getLsbD_sshiftRight]
  have h2 : (BitVec.ofNat 32 i).toNat = i := by simp; omega
  rw [h2]
  simp [hi]
/-- the model's test of a bit -/
theorem bt_m {x : Int32} {i : Nat} (hi : i < 32) : ((x >>> (nI i &&& 31)) &&& 1) = if bt x i then 1 else 0 := by
  rw [bt_and1, bt_sr hi]
theorem bt_ur {x : Int32} {i : Nat} (hi : i < 32) : bt ((x.toUInt32 >>> ((nI i).toUInt32 &&& Int32.toUInt32 31)).toInt32) 0 = bt x i := by
  have h1 : ∀ i : Fin 32, (nI i.val).toUInt32 &&& Int32.toUInt32 31 = UInt32.ofNat i.val := by decide
  rw [h1 ⟨i, hi⟩]
  unfold bt
  have h3 : ∀ i : Fin 32, (UInt32.ofNat i.val).toBitVec % 32 = BitVec.ofNat 32 i.val := by decide
  rw [UInt32.toBitVec_toInt32, UInt32.toBitVec_shiftRight, h3 ⟨i, hi⟩]
  simp
  rw [Nat.mod_eq_of_lt (by omega)]
/-- the class's -/
theorem bt_c {x : Int32} {i : Nat} (hi : i < 32) : (((x.toUInt32 >>> ((nI i).toUInt32 &&& Int32.toUInt32 31)).toInt32) &&& 1) = if bt x i then 1 else 0 := by
  rw [bt_and1, bt_ur hi]
theorem bt_and0 {x y : Int32} : (x &&& y) = 0 ↔ ∀ i, i < 32 → ¬ (bt x i = true ∧ bt y i = true) := by
  constructor
  · intro h i hi ⟨q1, q2⟩
    have : bt (x &&& y) i = false := by rw [h, bt_zero]
    rw [bt_and, q1, q2] at this
    exact absurd this (by decide)
  · intro h
    apply bt_ext
    intro i hi
    rw [bt_and, bt_zero]
    have := h i hi
    cases h1 : bt x i <;> cases h2 : bt y i <;> simp_all
/-- bits below k, by what holds -/
def MK (k : Nat) (P : Nat → Prop) (x : Int32) : Prop := ∀ i, i < 32 → (bt x i = true ↔ i < k ∧ P i)
theorem MK.eq {k : Nat} {P Q : Nat → Prop} {x y : Int32} (h : MK k P x) (h2 : MK k Q y) (e : ∀ i, i < k → (P i ↔ Q i)) : x = y := by
  apply bt_ext
  intro i hi
  have a := h i hi
  have b := h2 i hi
  have : bt x i = true ↔ bt y i = true := by
    rw [a, b]
    exact ⟨fun z => ⟨z.1, (e i z.1).mp z.2⟩, fun z => ⟨z.1, (e i z.1).mpr z.2⟩⟩
  cases h1 : bt x i <;> cases h3 : bt y i <;> simp_all
theorem MK.zero (P : Nat → Prop) : MK 0 P 0 := fun i _ => by rw [bt_zero]; simp
theorem MK.step {k : Nat} {P : Nat → Prop} {x : Int32} (h : MK k P x) (hk : k < 32) (q : P k) : MK (k + 1) P (x ||| ((1 : Int32) <<< (nI k &&& 31))) := fun i hi => by
  rw [bt_or, bt_s1 hk hi, Bool.or_eq_true, h i hi, decide_eq_true_iff]
  constructor
  · rintro (⟨z1, z2⟩ | z)
    · exact ⟨by omega, z2⟩
    · subst z; exact ⟨by omega, q⟩
  · rintro ⟨z1, z2⟩
    by_cases z : i = k
    · exact Or.inr z
    · exact Or.inl ⟨by omega, z2⟩
theorem MK.skip {k : Nat} {P : Nat → Prop} {x : Int32} (h : MK k P x) (q : ¬ P k) : MK (k + 1) P x := fun i hi => by
  rw [h i hi]
  constructor
  · rintro ⟨z1, z2⟩; exact ⟨by omega, z2⟩
  · rintro ⟨z1, z2⟩
    refine ⟨?_, z2⟩
    by_cases z : i = k
    · subst z; exact absurd z2 q
    · omega
