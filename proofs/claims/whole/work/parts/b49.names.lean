/-! names and modules: the two tables -/
theorem lgc {a b : Int64} : lg_cmp a b = 0 ↔ a = b := by simp only [lg_cmp_eq]
theorem c_nmL {n : Nat} {c : cd_S} {v : Int64} {K : Nat} (hK : cI c 78 0 = nI K) (hK4 : K ≤ 400) : ∀ (d j i : Nat), i + d = K → d < j → (∃ x, i ≤ x ∧ x < K ∧ cLr c 77 0 x = v ∧ (∀ y, i ≤ y → y < x → cLr c 77 0 y ≠ v) ∧ f_X2_nameIndex_L2 n v j c (nI i) = some (Sum.inl (nI x, c))) ∨ ((∀ y, i ≤ y → y < K → cLr c 77 0 y ≠ v) ∧ f_X2_nameIndex_L2 n v j c (nI i) = some (Sum.inr (c, nI K))) := by
  intro d
  induction d with
  | zero =>
    intro j i hi hj
    obtain ⟨j, rfl⟩ : ∃ q, j = q + 1 := ⟨j - 1, by omega⟩
    right
    refine ⟨fun y h1 h2 => by omega, ?_⟩
    obtain rfl : i = K := by omega
    rw [u_X2_nameIndex_L2, hK, if_pos ((nI_leI (by omega) (by omega)).mpr (Nat.le_refl _))]
  | succ d ih =>
    intro j i hi hj
    obtain ⟨j, rfl⟩ : ∃ q, j = q + 1 := ⟨j - 1, by omega⟩
    rw [u_X2_nameIndex_L2, hK, if_neg (fun y => absurd ((nI_leI (by omega) (by omega)).mp y) (by omega)), c_ld77 (by omega), bs_some]
    by_cases hv : cLr c 77 0 i = v
    · rw [if_pos (lgc.mpr hv)]
      exact Or.inl ⟨i, Nat.le_refl _, by omega, hv, fun y h1 h2 => by omega, rfl⟩
    · rw [if_neg (fun y => hv (lgc.mp y)), nI_1]
      rcases ih j (i + 1) (by omega) (by omega) with ⟨x, x1, x2, x3, x4, x5⟩ | ⟨x1, x2⟩
      · exact Or.inl ⟨x, by omega, x2, x3, fun y h1 h2 => by
          by_cases hy : y = i
          · rw [hy]; exact hv
          · exact x4 y (by omega) h2, x5⟩
      · exact Or.inr ⟨fun y h1 h2 => by
          by_cases hy : y = i
          · rw [hy]; exact hv
          · exact x1 y (by omega) h2, x2⟩
theorem m_nmL {n : Nat} {m : md_S} {v : Int64} {K : Nat} (hK : mI m 60 = nI K) (hK4 : K ≤ 400) : ∀ (d j i : Nat), i + d = K → d < j → (∃ x, i ≤ x ∧ x < K ∧ mL m 61 x = v ∧ (∀ y, i ≤ y → y < x → mL m 61 y ≠ v) ∧ f_X12_nameOf_L2 n v j m (nI i) = some (Sum.inl (nI x, m))) ∨ ((∀ y, i ≤ y → y < K → mL m 61 y ≠ v) ∧ f_X12_nameOf_L2 n v j m (nI i) = some (Sum.inr (m, nI K))) := by
  intro d
  induction d with
  | zero =>
    intro j i hi hj
    obtain ⟨j, rfl⟩ : ∃ q, j = q + 1 := ⟨j - 1, by omega⟩
    right
    refine ⟨fun y h1 h2 => by omega, ?_⟩
    obtain rfl : i = K := by omega
    rw [u_X12_nameOf_L2, hK, if_pos ((nI_leI (by omega) (by omega)).mpr (Nat.le_refl _))]
  | succ d ih =>
    intro j i hi hj
    obtain ⟨j, rfl⟩ : ∃ q, j = q + 1 := ⟨j - 1, by omega⟩
    rw [u_X12_nameOf_L2, hK, if_neg (fun y => absurd ((nI_leI (by omega) (by omega)).mp y) (by omega)), m_ld61 (by omega), bs_some]
    by_cases hv : mL m 61 i = v
    · rw [if_pos (lgc.mpr hv)]
      exact Or.inl ⟨i, Nat.le_refl _, by omega, hv, fun y h1 h2 => by omega, rfl⟩
    · rw [if_neg (fun y => hv (lgc.mp y)), nI_1]
      rcases ih j (i + 1) (by omega) (by omega) with ⟨x, x1, x2, x3, x4, x5⟩ | ⟨x1, x2⟩
      · exact Or.inl ⟨x, by omega, x2, x3, fun y h1 h2 => by
          by_cases hy : y = i
          · rw [hy]; exact hv
          · exact x4 y (by omega) h2, x5⟩
      · exact Or.inr ⟨fun y h1 h2 => by
          by_cases hy : y = i
          · rw [hy]; exact hv
          · exact x1 y (by omega) h2, x2⟩
theorem c_mdL {n : Nat} {c : cd_S} {v : Int64} {K : Nat} (hK : cI c 74 0 = nI K) (hK4 : K ≤ 8) : ∀ (d j i : Nat), i + d = K → d < j → (∃ x, i ≤ x ∧ x < K ∧ cLr c 67 0 x = v ∧ (∀ y, i ≤ y → y < x → cLr c 67 0 y ≠ v) ∧ f_X2_findModule_L2 n v j c (nI i) = some (Sum.inl (nI x, c))) ∨ ((∀ y, i ≤ y → y < K → cLr c 67 0 y ≠ v) ∧ f_X2_findModule_L2 n v j c (nI i) = some (Sum.inr (c, nI K))) := by
  intro d
  induction d with
  | zero =>
    intro j i hi hj
    obtain ⟨j, rfl⟩ : ∃ q, j = q + 1 := ⟨j - 1, by omega⟩
    right
    refine ⟨fun y h1 h2 => by omega, ?_⟩
    obtain rfl : i = K := by omega
    rw [u_X2_findModule_L2, hK, if_pos ((nI_leI (by omega) (by omega)).mpr (Nat.le_refl _))]
  | succ d ih =>
    intro j i hi hj
    obtain ⟨j, rfl⟩ : ∃ q, j = q + 1 := ⟨j - 1, by omega⟩
    rw [u_X2_findModule_L2, hK, if_neg (fun y => absurd ((nI_leI (by omega) (by omega)).mp y) (by omega)), c_ld67 (by omega), bs_some]
    by_cases hv : cLr c 67 0 i = v
    · rw [if_pos (lgc.mpr hv)]
      exact Or.inl ⟨i, Nat.le_refl _, by omega, hv, fun y h1 h2 => by omega, rfl⟩
    · rw [if_neg (fun y => hv (lgc.mp y)), nI_1]
      rcases ih j (i + 1) (by omega) (by omega) with ⟨x, x1, x2, x3, x4, x5⟩ | ⟨x1, x2⟩
      · exact Or.inl ⟨x, by omega, x2, x3, fun y h1 h2 => by
          by_cases hy : y = i
          · rw [hy]; exact hv
          · exact x4 y (by omega) h2, x5⟩
      · exact Or.inr ⟨fun y h1 h2 => by
          by_cases hy : y = i
          · rw [hy]; exact hv
          · exact x1 y (by omega) h2, x2⟩
theorem m_mdL {n : Nat} {m : md_S} {v : Int64} {K : Nat} (hK : mI m 25 = nI K) (hK4 : K ≤ 8) : ∀ (d j i : Nat), i + d = K → d < j → (∃ x, i ≤ x ∧ x < K ∧ mL m 26 x = v ∧ (∀ y, i ≤ y → y < x → mL m 26 y ≠ v) ∧ f_X12_moduleOf_L2 n v j m (nI i) = some (Sum.inl (nI x, m))) ∨ ((∀ y, i ≤ y → y < K → mL m 26 y ≠ v) ∧ f_X12_moduleOf_L2 n v j m (nI i) = some (Sum.inr (m, nI K))) := by
  intro d
  induction d with
  | zero =>
    intro j i hi hj
    obtain ⟨j, rfl⟩ : ∃ q, j = q + 1 := ⟨j - 1, by omega⟩
    right
    refine ⟨fun y h1 h2 => by omega, ?_⟩
    obtain rfl : i = K := by omega
    rw [u_X12_moduleOf_L2, hK, if_pos ((nI_leI (by omega) (by omega)).mpr (Nat.le_refl _))]
  | succ d ih =>
    intro j i hi hj
    obtain ⟨j, rfl⟩ : ∃ q, j = q + 1 := ⟨j - 1, by omega⟩
    rw [u_X12_moduleOf_L2, hK, if_neg (fun y => absurd ((nI_leI (by omega) (by omega)).mp y) (by omega)), m_ld26 (by omega), bs_some]
    by_cases hv : mL m 26 i = v
    · rw [if_pos (lgc.mpr hv)]
      exact Or.inl ⟨i, Nat.le_refl _, by omega, hv, fun y h1 h2 => by omega, rfl⟩
    · rw [if_neg (fun y => hv (lgc.mp y)), nI_1]
      rcases ih j (i + 1) (by omega) (by omega) with ⟨x, x1, x2, x3, x4, x5⟩ | ⟨x1, x2⟩
      · exact Or.inl ⟨x, by omega, x2, x3, fun y h1 h2 => by
          by_cases hy : y = i
          · rw [hy]; exact hv
          · exact x4 y (by omega) h2, x5⟩
      · exact Or.inr ⟨fun y h1 h2 => by
          by_cases hy : y = i
          · rw [hy]; exact hv
          · exact x1 y (by omega) h2, x2⟩
theorem nam_ok {n : Nat} {c : cd_S} {m : md_S} {v u : Int64} (hn : 5000 ≤ n) (h : NAR c m) (hvu : NR v u) (hlt : mN m 60 < mN m 62) (h62 : mN m 62 ≤ 400) : ∃ x c' m', f_X2_nameIndex n c v = some (nI x, c') ∧ f_X12_nameOf n m u = some (nI x, m') ∧ cd_fr [77, 78] [] c c' ∧ md_fr [60, 61] m m' ∧ NAR c' m' ∧ x < mN m' 60 ∧ mN m 60 ≤ mN m' 60 := by
  have h0 := h
  obtain ⟨a1, a2, a3, a4⟩ := h
  have e1 := c_nmL (n := n) (v := v) a1 (by omega) (mN m 60) n 0 (by omega) (by omega)
  have e2 := m_nmL (n := n) (v := u) a2 (by omega) (mN m 60) n 0 (by omega) (by omega)
  unfold f_X2_nameIndex f_X12_nameOf f_X2_nameIndex_J59
  rw [show (0 : Int32) = nI 0 from rfl]
  rcases e1 with ⟨x, -, x2, x3, x4, x5⟩ | ⟨x1, x2⟩
  · rcases e2 with ⟨y, -, y2, y3, y4, y5⟩ | ⟨y1, y2⟩
    · have hxy : x = y := by
        rcases Nat.lt_trichotomy x y with q | q | q
        · exact absurd (((a4 x x2).iff hvu).mp x3) (y4 x (by omega) q)
        · exact q
        · exact absurd (((a4 y y2).iff hvu).mpr y3) (x4 y (by omega) q)
      subst hxy
      refine ⟨x, c, m, ?_, ?_, cd_fr_refl _ _ _, md_fr_refl _ _, h0, x2, Nat.le_refl _⟩
      · rw [x5, bs_some]; rfl
      · rw [y5, bs_some]; rfl
    · exact absurd (((a4 x x2).iff hvu).mp x3) (y1 x (by omega) x2)
  · rcases e2 with ⟨y, -, y2, y3, y4, y5⟩ | ⟨y1, y2⟩
    · exact absurd (((a4 y y2).iff hvu).mpr y3) (x1 y (by omega) y2)
    · have n60 : mN (mSI (mSL m 61 (mN m 60) u) 60 (nI (mN m 60 + 1))) 60 = mN m 60 + 1 := mN_of mI_SIe (by omega)
      have n62 : mN (mSI (mSL m 61 (mN m 60) u) 60 (nI (mN m 60 + 1))) 62 = mN m 62 := by rw [mN, mN, mI_SIo (by decide)]; rfl
      refine ⟨mN m 60, cSI (cSL c 77 0 (mN m 60) v) 78 0 (nI (mN m 60 + 1)), mSI (mSL m 61 (mN m 60) u) 60 (nI (mN m 60 + 1)), ?_, ?_, cd_fr_SI (cd_fr_SL (cd_fr_refl _ _ _) (by decide) _ _ _) (by decide) (by decide) _ _, md_fr_SI (md_fr_SL (md_fr_refl _ _) (by decide) _ _) (by decide) _, ⟨?_, ?_, ?_, fun i hi => ?_⟩, by omega, by omega⟩
      · rw [x2, bs_some]
        dsimp only [Sum.elim]
        rw [a1, if_neg (show ¬ (400 : Int32) ≤ nI (mN m 60) from fun y => absurd ((nI_leI (a := 400) (by decide) (by omega)).mp y) (by omega)), c_st77 (by omega), bs_some, bs_some, cI_SL, a1, nI_1, cI_SIe, nI_back]
      · rw [y2, bs_some]
        dsimp only [Sum.elim]
        rw [a2, m_st61 (by omega), bs_some, bs_some, mI_SL, a2, nI_1, mI_SIe, nI_back]
      · rw [n60, cI_SIe]
      · rw [n60, mI_SIe]
      · omega
      · rw [n60] at hi
        by_cases hq : i = mN m 60
        · subst hq
          show NR (cLr (cSL c 77 0 (mN m 60) v) 77 0 (mN m 60)) (mL (mSL m 61 (mN m 60) u) 61 (mN m 60))
          rw [cL_SLe, mL_SLe]; exact hvu
        · show NR (cLr (cSL c 77 0 (mN m 60) v) 77 0 i) (mL (mSL m 61 (mN m 60) u) 61 i)
          rw [cL_SLi hq, mL_SLi hq]; exact a4 i (by omega)
/-- the module of a name -/
theorem mod_ok {n : Nat} {c : cd_S} {m : md_S} {mc : Nat} {v u : Int64} (hn : 5000 ≤ n) (h : MDR c m mc) (hvu : NR v u) : (∃ x, x < mc ∧ f_X2_findModule n c v = some (nI x, c) ∧ f_X12_moduleOf n m u = some (nI x, m)) ∨ (f_X2_findModule n c v = some (-1, c) ∧ f_X12_moduleOf n m u = some (-1, m)) := by
  obtain ⟨a1, a2, a25, a4⟩ := h
  have e1 := c_mdL (n := n) (v := v) a2 a1 mc n 0 (by omega) (by omega)
  have e2 := m_mdL (n := n) (v := u) a25 a1 mc n 0 (by omega) (by omega)
  unfold f_X2_findModule f_X12_moduleOf
  rw [show (0 : Int32) = nI 0 from rfl]
  rcases e1 with ⟨x, -, x2, x3, x4, x5⟩ | ⟨x1, x2⟩
  · rcases e2 with ⟨y, -, y2, y3, y4, y5⟩ | ⟨y1, y2⟩
    · have hxy : x = y := by
        rcases Nat.lt_trichotomy x y with q | q | q
        · exact absurd (((a4 x x2).1.iff hvu).mp x3) (y4 x (by omega) q)
        · exact q
        · exact absurd (((a4 y y2).1.iff hvu).mpr y3) (x4 y (by omega) q)
      subst hxy
      exact Or.inl ⟨x, x2, by rw [x5, bs_some]; rfl, by rw [y5, bs_some]; rfl⟩
    · exact absurd (((a4 x x2).1.iff hvu).mp x3) (y1 x (by omega) x2)
  · rcases e2 with ⟨y, -, y2, y3, y4, y5⟩ | ⟨y1, y2⟩
    · exact absurd (((a4 y y2).1.iff hvu).mpr y3) (x1 y (by omega) y2)
    · exact Or.inr ⟨by rw [x2, bs_some]; rfl, by rw [y2, bs_some]; rfl⟩
