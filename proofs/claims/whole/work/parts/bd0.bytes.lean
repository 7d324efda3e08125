/-! bytes of code, as the model puts them -/
def sb (b : Nat) : Int32 := (Int8.ofNat b).toInt32
def pr (x : Nat) : List Nat := [x / 256 % 256, x % 256]
theorem pr_len (x : Nat) : (pr x).length = 2 := rfl
theorem sb_mod (x : Nat) : sb (x % 256) = sb x := by
  unfold sb
  congr 1
  apply Int8.toBitVec_inj.mp
  show BitVec.ofNat 8 (x % 256) = BitVec.ofNat 8 x
  apply BitVec.eq_of_toNat_eq
  simp
theorem sb_of (x : Nat) : (nI x).toInt8.toInt32 = sb x := by
  unfold sb
  congr 1
  exact Int32.toInt8_ofNat
theorem sb_nar (x : Nat) : vp_nar .byte (sb x) = sb x := by
  unfold sb
  generalize Int8.ofNat x = y
  show y.toInt32.toInt8.toInt32 = y.toInt32
  rw [Int8.toInt8_toInt32]
theorem nI_shr8 {x : Nat} (h : x < 2 ^ 31) : nI x >>> ((8 : Int32) &&& 31) = nI (x / 256) := by
  apply Int32.toInt_inj.mp
  have e1 : (nI x).toInt = (x : Int) := nI_toInt h
  have e2 : (nI (x / 256)).toInt = ((x / 256 : Nat) : Int) := nI_toInt (by omega)
  rw [e2]
  have : ((8 : Int32) &&& 31) = 8 := by decide
  rw [this]
  show ((nI x >>> 8).toBitVec).toInt = _
  rw [Int32.toBitVec_shiftRight, show ((8 : Int32).toBitVec.smod 32) = 8#32 by decide, BitVec.sshiftRight', BitVec.toInt_sshiftRight]
  have e3 : (nI x).toBitVec.toInt = (x : Int) := e1
  rw [e3, show (8#32).toNat = 8 by decide, Int.shiftRight_eq_div_pow]
  omega
/-- bytes bs are put at p -/
def PUTS (σ σ' : md_S) (p : Nat) (bs : List Nat) : Prop := md_fr [74, 75] σ σ' ∧ mI σ' 75 = nI (p + bs.length) ∧ (∀ x, x < p → mA σ' 74 x = mA σ 74 x) ∧ ∀ x, x < bs.length → mA σ' 74 (p + x) = sb (bs.getD x 0)
theorem PUTS.nil {σ : md_S} {p : Nat} (h : mI σ 75 = nI p) : PUTS σ σ p [] := ⟨md_fr_refl _ _, h, fun _ _ => rfl, fun x hx => absurd hx (Nat.not_lt_zero _)⟩
theorem PUTS.tr {σ σ1 σ2 : md_S} {p : Nat} {a b : List Nat} (h : PUTS σ σ1 p a) (h2 : PUTS σ1 σ2 (p + a.length) b) : PUTS σ σ2 p (a ++ b) := by
  obtain ⟨a1, a2, a3, a4⟩ := h
  obtain ⟨b1, b2, b3, b4⟩ := h2
  refine ⟨md_fr_tr a1 b1 (fun k hk => ⟨hk, hk⟩), by rw [b2, List.length_append, Nat.add_assoc], fun x hx => (b3 x (by omega)).trans (a3 x hx), fun x hx => ?_⟩
  rw [List.length_append] at hx
  by_cases hxa : x < a.length
  · rw [b3 (p + x) (by omega), a4 x hxa, List.getD_eq_getElem?_getD, List.getD_eq_getElem?_getD, List.getElem?_append_left hxa]
  · have := b4 (x - a.length) (by omega)
    rw [show p + a.length + (x - a.length) = p + x by omega] at this
    rw [this, List.getD_eq_getElem?_getD, List.getD_eq_getElem?_getD, List.getElem?_append_right (by omega)]
theorem PUTS.fr {σ σ' : md_S} {p : Nat} {bs : List Nat} (h : PUTS σ σ' p bs) : md_fr [74, 75] σ σ' := h.1
theorem PUTS.at_ {σ σ' : md_S} {p : Nat} {bs : List Nat} (h : PUTS σ σ' p bs) : mI σ' 75 = nI (p + bs.length) := h.2.1
theorem m_put {n : Nat} {σ : md_S} {p b : Nat} (h : mI σ 75 = nI p) (hp : p < 80000) : ∃ σ', f_X12_put n σ (nI b) = some (0, σ') ∧ PUTS σ σ' p [b] := by
  refine ⟨mSI (mSA σ 74 p (sb b)) 75 (nI (p + 1)), ?_, md_fr_SI (md_fr_SA (md_fr_refl _ _) (by decide) _ _) (by decide) _, mI_SIe, fun x hx => ?_, fun x hx => ?_⟩
  · unfold f_X12_put
    rw [h, m_st74 hp, bs_some, sb_of, sb_nar, mI_SA, h, nI_1, bs_some]
  · rw [mA_SI, mA_SAi (by omega)]
  · obtain rfl : x = 0 := by simp at hx; exact hx
    rw [mA_SI, Nat.add_zero, mA_SAe]
    rfl
theorem m_pn {n : Nat} {σ : md_S} {p x : Nat} (h : mI σ 75 = nI p) (hp : p + 1 < 80000) (hx : x < 2 ^ 31) : ∃ σ', f_X12_putNumber n σ (nI x) = some (0, σ') ∧ PUTS σ σ' p (pr x) := by
  obtain ⟨s1, e1, f1⟩ := m_put (n := n) (b := x / 256) h (by omega)
  obtain ⟨s2, e2, f2⟩ := m_put (n := n) (b := x) f1.2.1 (by simp; omega)
  refine ⟨s2, ?_, ?_⟩
  · unfold f_X12_putNumber
    rw [nI_shr8 hx, e1, bs_some]
    dsimp only
    rw [e2, bs_some]
  · obtain ⟨g1, g2, g3, g4⟩ := f1.tr f2
    refine ⟨g1, g2, g3, fun y hy => ?_⟩
    rw [g4 y hy]
    have : y = 0 ∨ y = 1 := by have : y < 2 := hy; omega
    rcases this with rfl | rfl
    · exact (sb_mod _).symm
    · exact (sb_mod _).symm
theorem m_put2 {n : Nat} {σ : md_S} {p b x : Nat} (h : mI σ 75 = nI p) (hp : p + 2 < 80000) (hx : x < 2 ^ 31) : ∃ σ', f_X12_put_ n σ (nI b) (nI x) = some (0, σ') ∧ PUTS σ σ' p (b :: pr x) := by
  obtain ⟨s1, e1, f1⟩ := m_put (n := n) (b := b) h (by omega)
  obtain ⟨s2, e2, f2⟩ := m_pn (n := n) (x := x) f1.2.1 (by simp; omega) hx
  refine ⟨s2, ?_, f1.tr f2⟩
  unfold f_X12_put_
  rw [e1, bs_some]
  dsimp only
  rw [e2, bs_some]
/-- a gap is filled: bytes A, op, 0, 0, B stood at p -/
theorem m_fill {n : Nat} {σ σ1 : md_S} {p q : Nat} {A B : List Nat} {op x y v begin' : Nat} (h : PUTS σ σ1 p (A ++ op :: x :: y :: B)) (hp : p + (A ++ op :: x :: y :: B).length ≤ 80000) (hq : q = p + A.length + 1) (hb : f_X12_codeBegin n σ1 = some (nI begin', σ1)) (hbp : begin' ≤ p + (A ++ op :: x :: y :: B).length) (hv : v = p + (A ++ op :: x :: y :: B).length - begin') : ∃ σ2, f_X12_fill n σ1 (nI q) = some (0, σ2) ∧ PUTS σ σ2 p (A ++ op :: (pr v ++ B)) := by
  have hlen : (A ++ op :: x :: y :: B).length = A.length + B.length + 3 := by simp; omega
  have hlen2 : (A ++ op :: (pr v ++ B)).length = A.length + B.length + 3 := by simp [pr]; omega
  obtain ⟨g1, g2, g3, g4⟩ := h
  rw [hlen] at hp hbp hv g2 g4
  refine ⟨mSA (mSA σ1 74 q (sb (v / 256))) 74 (q + 1) (sb v), ?_, md_fr_SA (md_fr_SA g1 (by decide) _ _) (by decide) _ _, ?_, fun z hz => ?_, fun z hz => ?_⟩
  · unfold f_X12_fill
    rw [hb, bs_some, g2]
    dsimp only
    rw [nI_sub (by omega), ← Nat.add_assoc, ← Nat.add_assoc] 
    rw [show p + A.length + B.length + 3 - begin' = v by omega, nI_shr8 (by omega), m_st74 (by omega), bs_some, sb_of, sb_nar, nI_1, m_st74 (by omega), bs_some, sb_of, sb_nar]
  · rw [mI_SA, mI_SA, g2, hlen2]
  · rw [mA_SAi (by omega), mA_SAi (by omega), g3 z hz]
  · rw [hlen2] at hz
    by_cases h1 : z = A.length + 1
    · rw [h1, mA_SAi (by omega), show p + (A.length + 1) = q by omega, mA_SAe]
      rw [List.getD_eq_getElem?_getD, List.getElem?_append_right (by omega), show A.length + 1 - A.length = 1 by omega]
      exact (sb_mod _).symm
    · by_cases h2 : z = A.length + 2
      · rw [h2, show p + (A.length + 2) = q + 1 by omega, mA_SAe]
        rw [List.getD_eq_getElem?_getD, List.getElem?_append_right (by omega), show A.length + 2 - A.length = 2 by omega]
        exact (sb_mod _).symm
      · rw [mA_SAi (by omega), mA_SAi (by omega), g4 z hz]
        congr 1
        by_cases h3 : z < A.length
        · rw [List.getD_eq_getElem?_getD, List.getD_eq_getElem?_getD, List.getElem?_append_left h3, List.getElem?_append_left h3]
        · rw [List.getD_eq_getElem?_getD, List.getD_eq_getElem?_getD, List.getElem?_append_right (by omega), List.getElem?_append_right (by omega)]
          by_cases h4 : z = A.length
          · rw [h4, Nat.sub_self]; rfl
          · obtain ⟨k, hk⟩ : ∃ k, z - A.length = k + 3 := ⟨z - A.length - 3, by omega⟩
            rw [hk]; rfl
