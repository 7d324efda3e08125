/-! a frame begins: its node and its context -/
/-- who begins a frame, in the model: no frame, or the top one of me -/
def BGN (m : md_S) (me : Nat) (rw : Bool) (nd cx xb : Int32) : Prop := (mA m 111 me = 0 ∧ nd = -1 ∧ cx = -1 ∧ xb = -1) ∨ ∃ k, k < 60 ∧ mA m 111 me = nI (k + 1) ∧ mA m 115 (60 * me + k) = xb ∧ (rw = false → xb = nd) ∧ mA m 116 (60 * me + k) = cx + 1
theorem m_beg {n me T DT u s st mx : Nat} {rw : Bool} {m : md_S} {nd cx xb mu : Int32} (hme : mI m 127 = nI me) (hme8 : me < 8) (hT : T < 8) (hu : u < 60) (h89 : mI m 89 = nI st) (h90 : mI m 90 = nI mx) (hst : st < mx) (hmx : mx ≤ 4000) (h101 : mI m 101 = nI st) (h111 : mA m 111 T = nI DT) (hDT : DT < 60) (h36 : mA m 36 u = nI s) (hs : s ≤ 4) (hb : BGN m me rw nd cx xb) : ∃ m4, m4 = mSA (mSA (mSA (mSI (mSI m 89 (nI (st + 1))) 101 (nI (st + 1))) 102 st (nI u)) 103 st xb) 104 st (if s = 4 then mu else -1) ∧ f_X12_begin n m (nI T) (nI u) mu = f_X12_begin_J175 n m4 (nI T) (nI u) (nI st) (if s = 4 then mu else cx + 1) := by
  refine ⟨_, rfl, ?_⟩
  have s4 : nI s = (4 : Int32) ↔ s = 4 := nI_eq (b := 4) (by omega) (by decide)
  unfold f_X12_begin
  rw [h89, h90, if_neg (show ¬ nI st = nI mx from fun z => by have := (nI_eq (a := st) (b := mx) (by omega) (by omega)).mp z; omega), m_ld111 hT, bs_some, h111, if_neg (show ¬ nI DT = 60 from fun z => by have := (nI_eq (a := DT) (b := 60) (by omega) (by decide)).mp z; omega), nI_1, bs_some, mI_SIo (by decide), h101, nI_1, bs_some]
  rw [mI_SIo (by decide), mI_SIo (by decide), hme, m_ld111 hme8, bs_some, mA_SI, mA_SI]
  rcases hb with ⟨b1, b2, b3, b4⟩ | ⟨k, k1, k2, k3, k4, k5⟩
  · rw [b1, if_pos (by decide)]
    unfold f_X12_begin_J88
    rw [m_st102 (by omega), bs_some, if_pos (show (-1 : Int32) = -1 from rfl)]
    unfold f_X12_begin_J121
    rw [m_st103 (by omega), bs_some, m_ld36 hu, bs_some, mA_SAo (by decide), mA_SAo (by decide), mA_SI, mA_SI, h36, b4, b3]
    unfold f_X12_begin_J143
    by_cases q : s = 4
    · rw [if_pos (s4.mpr q), if_pos q, if_pos q, m_st104 (by omega), bs_some, m_ld36 hu, bs_some, mA_SAo (by decide), mA_SAo (by decide), mA_SAo (by decide), mA_SI, mA_SI, h36, if_pos (s4.mpr q)]
    · rw [if_neg (fun z => q (s4.mp z)), if_neg q, if_neg q, m_st104 (by omega), bs_some, m_ld36 hu, bs_some, mA_SAo (by decide), mA_SAo (by decide), mA_SAo (by decide), mA_SI, mA_SI, h36, if_neg (fun z => q (s4.mp z)), if_pos (show (-1 : Int32) = -1 from rfl)]
      rfl
  · rw [k2, if_neg (show ¬ nI (k + 1) ≤ 0 from fun z => absurd ((nI_leI (b := 0) (by omega) (by decide)).mp z) (by omega))]
    unfold f_X12_frameAt
    rw [mI_SIo (by decide), mI_SIo (by decide), hme, m_ld111 hme8, bs_some, mA_SI, mA_SI, k2, show (60 : Int32) = nI 60 from rfl, nI_mul, nI_add, show (1 : Int32) = nI 1 from rfl, nI_sub (by omega), show 60 * me + (k + 1) - 1 = 60 * me + k by omega, bs_some]
    dsimp only
    unfold f_X12_begin_J88
    rw [m_st102 (by omega), bs_some, if_neg (show ¬ nI (60 * me + k) = -1 from nI_m1 (by omega)), m_ld115 (by omega), bs_some, mA_SAo (by decide), mA_SI, mA_SI, k3]
    unfold f_X12_begin_J121
    rw [m_st103 (by omega), bs_some, m_ld36 hu, bs_some, mA_SAo (by decide), mA_SAo (by decide), mA_SI, mA_SI, h36]
    unfold f_X12_begin_J143
    by_cases q : s = 4
    · rw [if_pos (s4.mpr q), if_pos q, if_pos q, m_st104 (by omega), bs_some, m_ld36 hu, bs_some, mA_SAo (by decide), mA_SAo (by decide), mA_SAo (by decide), mA_SI, mA_SI, h36, if_pos (s4.mpr q)]
    · rw [if_neg (fun z => q (s4.mp z)), if_neg q, if_neg q, m_st104 (by omega), bs_some, m_ld36 hu, bs_some, mA_SAo (by decide), mA_SAo (by decide), mA_SAo (by decide), mA_SI, mA_SI, h36, if_neg (fun z => q (s4.mp z)), if_neg (show ¬ nI (60 * me + k) = -1 from nI_m1 (by omega)), m_ld116 (by omega), bs_some, mA_SAo (by decide), mA_SAo (by decide), mA_SAo (by decide), mA_SI, mA_SI, k5]
      rfl
