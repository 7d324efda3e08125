/-! both begin to read -/
theorem m_cpP {n : Nat} {t : Nat} (ht : t ≤ 3000) : ∀ (d j i : Nat) (s : md_S), i + d = t → d < j → mI s 4 = nI t → ∃ k, f_X12_program_L10 n j s (nI i) = some (k, nI t) ∧ (∀ y, y < i → mA k 3 y = mA s 3 y) ∧ (∀ y, i ≤ y → y < t → mA k 3 y = mA s 1 y) ∧ md_fr [3] s k := by
  intro d
  induction d with
  | zero =>
    intro j i s hi hj hs
    obtain ⟨j, rfl⟩ : ∃ m, j = m + 1 := ⟨j - 1, by omega⟩
    obtain rfl : i = t := by omega
    refine ⟨s, ?_, fun _ _ => rfl, fun y h1 h2 => by omega, md_fr_refl _ _⟩
    rw [u_X12_program_L10, hs, if_pos ((nI_leI (by omega) (by omega)).mpr (Nat.le_refl _))]
  | succ d ih =>
    intro j i s hi hj hs
    obtain ⟨j, rfl⟩ : ∃ m, j = m + 1 := ⟨j - 1, by omega⟩
    obtain ⟨k, e1, e2, e3, e4⟩ := ih j (i + 1) (mSA s 3 i (mA s 1 i)) (by omega) (by omega) hs
    refine ⟨k, ?_, fun y hy => ?_, fun y h1 h2 => ?_, md_fr_tr (md_fr_SA (md_fr_refl _ _) (by decide) _ _) e4 (fun _ z => ⟨z, z⟩)⟩
    · rw [u_X12_program_L10, hs, if_neg (fun z => absurd ((nI_leI (by omega) (by omega)).mp z) (by omega)), m_ld1 (by omega), bs_some, m_st3 (by omega), bs_some, nI_1, e1]
    · rw [e2 y (by omega), mA_SAi (by omega)]
    · by_cases hy : y = i
      · subst hy; rw [e2 y (by omega), mA_SAe]
      · rw [e3 y (by omega) h2, mA_SAo (by decide)]
def clr (c : cd_S) : cd_S := cSI (cSI (cSI (cSI (cSI (cSI (cSI (cSI (cSI (cSI (cSI (cSI c 106 0 0) 107 0 0) 108 0 0) 109 0 0) 66 0 0) 74 0 0) 76 0 0) 78 0 0) 138 0 0) 134 0 0) 139 0 0) 140 0 (-1)
def clL : List Nat := [66, 74, 76, 78, 106, 107, 108, 109, 134, 138, 139, 140]
theorem clr_fr (c : cd_S) : cd_fr clL [] c (clr c) := by
  unfold clr
  iterate 12 refine cd_fr_SI ?_ (by decide) (by decide) _ _
  exact cd_fr_refl _ _ _
theorem clr_0 (c : cd_S) : ∀ f, f ∈ [66, 74, 76, 78, 106, 107, 108, 109, 134, 138, 139] → cI (clr c) f 0 = 0 := by
  intro f hf
  simp only [List.mem_cons, List.not_mem_nil, or_false] at hf
  rcases hf with rfl | rfl | rfl | rfl | rfl | rfl | rfl | rfl | rfl | rfl | rfl <;> simp [clr, cI_SI]
theorem clr_140 (c : cd_S) : cI (clr c) 140 0 = -1 := cI_SIe
theorem grants_eq {n : Nat} {c : cd_S} {b : cd_B} : f_X4_readGrants n c b = cd_ck sF b (Option.bind (f_X4_readGrants_L29 n n (clr c) b 0) fun q10 => cd_ck sF (Sum.elim (fun (q : ((Int32 × cd_S × cd_B) ⊕ (cd_S × cd_B))) => Sum.elim (fun (p : (Int32 × cd_S × cd_B)) => p.2.2) (fun (t : cd_S × cd_B) => t.2) q) (fun (q : cd_S × cd_B × Int32) => q.2.1) q10) <| Sum.elim some (fun t10 => some (Sum.inl ((0 : Int32), t10.1, t10.2.1))) q10) := by
  unfold f_X4_readGrants f_X2_clear f_X3_clear
  simp only [bs_some]
  rfl
def msr (k : md_S) : md_S := mSI (mSI (mSI (mSI (mSI (mSI (mSI (mSI (mSI (mSI (mSI (mSI (mSI (mSI (mSI (mSI (mSI (mSI (mSI (mSI k 2 0) 86 0) 5 0) 6 0) 7 (-1)) 20 0) 22 0) 25 0) 35 0) 48 0) 50 0) 56 0) 58 0) 60 0) 62 0) 63 0) 65 0) 64 (-1)) 16 4) 10 0
def msL : List Nat := [2, 86, 5, 6, 7, 20, 22, 25, 35, 48, 50, 56, 58, 60, 62, 63, 65, 64, 16, 10]
theorem msr_fr (k : md_S) : md_fr msL k (msr k) := by
  unfold msr
  iterate 20 refine md_fr_SI ?_ (by decide) _
  exact md_fr_refl _ _
theorem msr_0 (k : md_S) : ∀ f, f ∈ [2, 5, 6, 20, 22, 25, 35, 48, 50, 56, 58, 60, 62, 63, 65, 86] → mI (msr k) f = 0 := by
  intro f hf
  simp only [List.mem_cons, List.not_mem_nil, or_false] at hf
  rcases hf with rfl | rfl | rfl | rfl | rfl | rfl | rfl | rfl | rfl | rfl | rfl | rfl | rfl | rfl | rfl | rfl <;> simp [msr, mI_SI]
/-- the class up to its first word -/
def cpr (c : cd_S) : cd_S := cSI (cSI (cSI (cSI c 353 0 0) 362 0 0) 51 0 0) 260 0 0
theorem start_ok {n : Nat} {C : Nat × Nat} {c : cd_S} {m : md_S} {b : cd_B} {t : Nat} (hC : BC C) (hn : 5000 ≤ n) (hTR : TR c m t) (ht : t ≤ 1280) (hK : KWs c) (hB : Bd C c b) :
    ∃ w L c1 b1 m1, f_X10_begin n (cpr c) b (nI t) 4 = some (0, c1, b1) ∧ ble b1 b ∧ Bd C c1 b1 ∧ cd_fr [51, 260, 323, 324, 325, 326, 327, 328, 329, 330, 353, 362] [0, 1] c c1 ∧ (cI c1 51 0 = 0 ∧ cI c1 260 0 = 0 ∧ cI c1 353 0 = 0 ∧ cI c1 362 0 = 0) ∧ f_X12_program n m = (Option.bind (f_X12_readAll n m1) fun p30 => Option.bind (f_X12_isFine n p30.2) fun p31 => Option.bind (md_zb (p31.1)) fun z32 => Option.bind (some (mSI p31.2 5 (p31.1))) fun σ33 => if (mI σ33 5) = 0 then (f_X12_program_J165 n σ33 1) else (f_X12_program_J165 n σ33 0)) ∧ md_fr ([3, 4, 8, 9, 11, 12, 13, 14, 15] ++ msL) m m1 ∧ (∀ f, f ∈ [2, 5, 20, 22, 25, 35, 48, 50, 56, 58, 60, 62, 63, 65, 86] → mI m1 f = 0) ∧ (LX (tB c t) t c1 m1 w L ∨ (BW c1 (wF w) ∧ NF m1 1 (wF w))) := by
  obtain ⟨h1, h2, h3, h4⟩ := hTR
  have hT : TB (tB c t) t := tB_TB h1
  have hp : cd_fr [51, 260, 353, 362] [] c (cpr c) := by
    unfold cpr
    iterate 4 refine cd_fr_SI ?_ (by decide) (by decide) _ _
    exact cd_fr_refl _ _ _
  obtain ⟨w, L, c2, b2, e2, ws2, wch, rl2, len2, fr2, B2, l2, l2'⟩ := c_begin (n := n) (s := cpr c) (N := t) (ms := 4) (B := tB c t) hC hn hT ht (by decide) (fun k hk => by unfold tB; rw [if_pos hk]; rfl) (fun i hi => hK i hi) (hB.fr hp)
  obtain ⟨m3, g1, -, g3, g4⟩ := m_cpP (n := n) h1 t n 0 (mSI m 4 (nI t)) (by omega) (by omega) mI_SIe
  obtain ⟨m4, hm4⟩ : ∃ m4, m4 = msr m3 := ⟨_, rfl⟩
  have fr34 : md_fr msL m3 m4 := by rw [hm4]; exact msr_fr _
  have z4 : ∀ f, f ∈ [2, 5, 6, 20, 22, 25, 35, 48, 50, 56, 58, 60, 62, 63, 65, 86] → mI m4 f = 0 := by rw [hm4]; exact msr_0 _
  have hMT : MT m4 (tB c t) t := by
    refine ⟨?_, fun k hk => ?_⟩
    · rw [md_frI fr34 (by decide), md_frI g4 (by decide), mI_SIe]
    · rw [md_frA fr34 (by decide), g3 k (Nat.zero_le _) hk, mA_SI, h4 k hk]
      unfold tB; rw [if_pos hk]
  have y7 : mI m4 7 = -1 := by rw [hm4]; simp [msr, mI_SI]
  have y10 : mI m4 10 = nI 0 := by rw [hm4, msr, mI_SIe]; rfl
  have y16 : mI m4 16 = nI 4 := by rw [hm4, msr, mI_SIo (by decide), mI_SIe]; rfl
  have hpr : f_X12_program n m = (Option.bind (f_X12_next n m4) fun p29 => Option.bind (f_X12_readAll n p29.2) fun p30 => Option.bind (f_X12_isFine n p30.2) fun p31 => Option.bind (md_zb (p31.1)) fun z32 => Option.bind (some (mSI p31.2 5 (p31.1))) fun σ33 => if (mI σ33 5) = 0 then (f_X12_program_J165 n σ33 1) else (f_X12_program_J165 n σ33 0)) := by
    unfold f_X12_program
    rw [bs_some, h3, show f_X12_program_L10 n n (mSI m 4 (nI t)) 0 = _ from g1, hm4]
    simp only [bs_some]
    rfl
  obtain ⟨tk, wrest⟩ := wch
  obtain ⟨m5, n1, n2, n3, n4⟩ := m_next (n := n) (m := m4) hT hn (by decide) (Nat.zero_le _) hMT (z4 6 (by decide)) y10 y16 tk
  have fr5 : md_fr ([3, 4, 8, 9, 11, 12, 13, 14, 15] ++ msL) m m5 := by
    have f1 : md_fr [4] m (mSI m 4 (nI t)) := md_fr_SI (md_fr_refl _ _) (by decide) _
    have f2 := md_fr_tr f1 g4 (L3 := [3, 4, 8, 9, 11, 12, 13, 14, 15] ++ msL) (fun k hk => ⟨nin (by decide) hk, nin (by decide) hk⟩)
    exact md_fr_tr (md_fr_tr f2 fr34 (L3 := [3, 4, 8, 9, 11, 12, 13, 14, 15] ++ msL) (fun k hk => ⟨hk, nin (by decide) hk⟩)) n2 (fun k hk => ⟨hk, nin (by decide) hk⟩)
  refine ⟨w, L, c2, b2, m5, e2, ⟨l2, l2'⟩, B2, cd_fr_tr hp fr2 (fun k hk => ⟨nin (by decide) hk, nin (by decide) hk⟩) (fun k hk => ⟨by simp, hk⟩), ⟨?_, ?_, ?_, ?_⟩, by rw [hpr, n1, bs_some], fr5, fun f hf => ?_, ?_⟩
  · rw [cd_frI fr2 (by decide) (by decide)]; simp [cpr, cI_SI]
  · rw [cd_frI fr2 (by decide) (by decide)]; simp [cpr, cI_SI]
  · rw [cd_frI fr2 (by decide) (by decide)]; simp [cpr, cI_SI]
  · rw [cd_frI fr2 (by decide) (by decide)]; simp [cpr, cI_SI]
  · have q1 : ∀ f, f ∈ [2, 5, 20, 22, 25, 35, 48, 50, 56, 58, 60, 62, 63, 65, 86] → f ∉ [6, 7, 8, 9, 10, 11, 12, 13, 14, 15] ∧ f ∈ [2, 5, 6, 20, 22, 25, 35, 48, 50, 56, 58, 60, 62, 63, 65, 86] := by decide
    rw [md_frI n2 (q1 f hf).1]; exact z4 f (q1 f hf).2
  · by_cases hb : wK w = 1
    · right
      obtain ⟨g1, g2, -⟩ := n3 hb
      obtain ⟨pre, q1, q2, q3, q4, q5, q6⟩ := ws2
      exact ⟨⟨q4.trans hb, q5⟩, g1, by decide, by decide, g2⟩
    · left
      obtain ⟨g1, g2, g3'⟩ := n4 hb
      have n0 : mN m5 35 = 0 := by rw [mN, md_frI n2 (by decide), z4 35 (by decide)]; rfl
      unfold LX
      rw [Nat.mod_eq_of_lt (show t < 2048 by omega)]
      exact ⟨ws2, by omega, B2.1 0 (by decide), B2.1 1 (by decide), g3', ⟨g1, g2.trans y7, fun q hq => absurd hq (by rw [n0]; exact Nat.not_lt_zero _), fun q hq => absurd hq (by rw [n0]; exact Nat.not_lt_zero _)⟩, hMT.of n2 (by decide) (by decide), by rw [md_frI n2 (by decide)]; exact y16, hT, ht, 0, [], Nat.zero_le _, ⟨tk, wrest⟩, rl2⟩
