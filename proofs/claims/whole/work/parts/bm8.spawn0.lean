/-! a thread is made: parts -/
/-- GLB, where counts of threads and the most frames change -/
theorem GLB2.mg {n mx d Z K Km K' Km' st : Nat} {L R G : List Nat} {c c' c1 : cd_S} {m m' m1 : md_S} {D : PD} {h : HV} {Ls : List (List Int32)} (hg : GLB2 n mx d Z c m c1 m1 D h Ls K Km st) (hc : cd_fr L R c c') (hm : md_fr G m m') (hL : ∀ f, f ∈ L → f = 40 ∨ f = 45 ∨ f = 50 ∨ 224 ≤ f ∧ f ≤ 241) (hR : ∀ r, r ∈ R → 9 ≤ r ∧ r < 17) (hG : ∀ k, k ∈ G → k = 93 ∨ 105 ≤ k ∧ k ≤ 128 ∨ k = 135) (he : cI c' 45 0 = mI m' 93) (hK : K' ≤ 8) (h40 : cI c' 40 0 = nI K') (h105 : mI m' 105 = nI Km') : GLB2 n mx d Z c' m' c1 m1 D h Ls K' Km' st := by
  obtain ⟨h1, ⟨h2, h3, h4⟩, ⟨h5, h6, h7, h8, h9, h10, h11⟩, ⟨h12, h13, h14⟩, ⟨h15, h16⟩, ⟨h17, h18⟩, h19, h20, h21, h22⟩ := hg
  have nL : ∀ f, f < 40 ∨ (40 < f ∧ f < 45) ∨ (45 < f ∧ f < 50) ∨ (50 < f ∧ f < 224) → f ∉ L := fun f a q => by have := hL f q; omega
  have nG : ∀ f, f < 93 ∨ (93 < f ∧ f < 105) ∨ (128 < f ∧ f < 135) → f ∉ G := fun f a q => by have := hG f q; omega
  have nR : ∀ r, r < 9 → r ∉ R := fun r hr q => by have := hR r q; omega
  have cI' : ∀ f, (40 < f ∧ f < 45) ∨ (45 < f ∧ f < 50) → cI c' f 0 = cI c f 0 := fun f a => cd_frI hc (nL f (by omega)) (by omega) 0
  have mI' : ∀ f, f < 93 ∨ (93 < f ∧ f < 105) ∨ (128 < f ∧ f < 135) → mI m' f = mI m f := fun f a => md_frI hm (nG f a)
  have hL0 : ∀ f, f ∈ L → f ∈ mcL := fun f q => by
    have h18 : ∀ j, j < 18 → 224 + j ∈ mcL := by decide
    rcases hL f q with z | z | z | z
    · rw [z]; decide
    · rw [z]; decide
    · rw [z]; decide
    · have := h18 (f - 224) (by omega)
      rw [show 224 + (f - 224) = f by omega] at this
      exact this
  have hG0 : ∀ k, k ∈ G → k ∈ mmL := fun k q => by
    have h24 : ∀ j, j < 24 → 105 + j ∈ mmL := by decide
    rcases hG k q with z | z | z
    · rw [z]; decide
    · have := h24 (k - 105) (by omega)
      rw [show 105 + (k - 105) = k by omega] at this
      exact this
    · rw [z]; decide
  refine ⟨h1.to (SK.fr hc hm hL0 (fun r q => mcR_8 (by have := hR r q; omega) (hR r q).2) hG0), ⟨hK, h40, h105⟩, ⟨by rw [cI' 41 (by omega)]; exact h5, by rw [mI' 89 (by omega)]; exact h6, by rw [cI' 42 (by omega)]; exact h7, by rw [mI' 90 (by omega)]; exact h8, h9, h10, by rw [mI' 101 (by omega)]; exact h11⟩, ⟨he, by rw [cI' 46 (by omega), mI' 94 (by omega)]; exact h13, h14.fr hc hm (nL 43 (by omega)) (nR 8 (by omega)) ⟨nG 91 (by omega), nG 92 (by omega)⟩⟩, ⟨by rw [cI' 49 (by omega)]; exact h15, by rw [mI' 87 (by omega)]; exact h16⟩, ⟨h17.fr hc hm (nL 3 (by omega)) ⟨nR 2 (by omega), nR 3 (by omega), nR 4 (by omega)⟩ ⟨nG 130 (by omega), nG 131 (by omega), nG 132 (by omega)⟩, h18⟩, fun q => ⟨(h19 q).1.fr hc hm (nR 5 (by omega)) ⟨nG 35 (by omega), nG 36 (by omega), nG 102 (by omega), nG 103 (by omega), nG 104 (by omega)⟩, (h19 q).2⟩, h20.fr hc hm ⟨nR 6 (by omega), nR 7 (by omega)⟩ ⟨nG 95 (by omega), nG 96 (by omega), nG 97 (by omega), nG 98 (by omega), nG 99 (by omega), nG 100 (by omega)⟩, by rw [cI' 44 (by omega)]; exact h21, by rw [mI' 129 (by omega)]; exact h22⟩
/-- Machine.call, whatever stands on the stack -/
theorem c_call0 {n t u A B : Nat} {C : Nat × Nat} {c : cd_S} {b : cd_B} {gv : Int32} (ht : t < 8) (hu : u < 60) (hB : Bd C c b) : ∃ c', f_X1_call n c t u (nI A) (nI B) gv = some (3, c') ∧ Bd C c' b ∧ OPC [50, 238, 239, 240, 241] t c c' ∧ cd_dp c' 50 0 = some t ∧ cd_dp c' 238 t = some u ∧ cI c' 239 t = nI A ∧ cI c' 240 t = nI B ∧ cI c' 241 t = gv ∧ (∀ q, cRF c' (9 + t) q = cRF c (9 + t) q) ∧ rsz c' (9 + t) = rsz c (9 + t) := by
  obtain ⟨c', ec⟩ : ∃ c', c' = cSI (cSI (cSI (cSP (cSP c 50 0 (t + 1)) 238 t (u + 1)) 239 t (nI A)) 240 t (nI B)) 241 t gv := ⟨_, rfl⟩
  have oc : OPC [50, 238, 239, 240, 241] t c c' := by
    rw [ec]
    refine ((OPC.tr (c2 := cSP (cSP c 50 0 (t + 1)) 238 t (u + 1)) ?_ ((opc_I (by decide)).mo (by simp))).tr ((opc_I (by decide)).mo (by simp))).tr ((opc_I (by decide)).mo (by simp))
    exact ⟨cd_fr_SP (cd_fr_SP (cd_fr_refl _ _ _) (by simp) _ _) (by simp) _ _, fun x _ => ⟨fun _ _ _ => ⟨rfl, rfl, fun _ => rfl⟩, rfl, fun _ => rfl⟩⟩
  refine ⟨c', ?_, hB.of (fun r hr => by rw [ec, cI_SIo (by decide), cI_SIo (by decide), cI_SIo (by decide)]; rfl) (fun r hr => by rw [ec]; rfl), oc, ?_, ?_, ?_, ?_, ?_, fun q => by rw [ec]; rfl, ?_⟩
  · unfold f_X1_call f_X7_call
    rw [bs_some, bs_some, bs_some, bs_some, bs_some, bs_some, ec]
  · have e1 : c'.2.2.2.2.1 50 0 = t + 1 := by
      rw [ec]
      show (if 50 = 238 ∧ 0 = t then u + 1 else if 50 = 50 ∧ 0 = 0 then t + 1 else c.2.2.2.2.1 50 0) = t + 1
      rw [if_neg (fun z => absurd z.1 (by decide)), if_pos ⟨rfl, rfl⟩]
    unfold cd_dp
    rw [e1, show cd_pool (cd_oc 50) = 8 by decide, if_pos ⟨by omega, by omega⟩, Nat.add_sub_cancel]
  · have e1 : c'.2.2.2.2.1 238 t = u + 1 := by
      rw [ec]
      show (if 238 = 238 ∧ t = t then u + 1 else _) = u + 1
      rw [if_pos ⟨rfl, rfl⟩]
    unfold cd_dp
    rw [e1, show cd_pool (cd_oc 238) = 60 by decide, if_pos ⟨by omega, by omega⟩, Nat.add_sub_cancel]
  · rw [ec, cI_SIo (by decide), cI_SIo (by decide), cI_SIe]
  · rw [ec, cI_SIo (by decide), cI_SIe]
  · rw [ec, cI_SIe]
  · exact rsz_e (by rw [ec, cI_SIo (by decide), cI_SIo (by decide), cI_SIo (by decide)]; rfl)
/-- Strand.clear -/
theorem c_clear {n T : Nat} {C : Nat × Nat} {c : cd_S} {b : cd_B} {v : Int32} (hT : T < 8) (hB : Bd C c b) : ∃ c', f_X7_clear n c T v = some (0, c') ∧ Bd C c' b ∧ OPC [231, 232, 233, 234, 235, 236] T c c' ∧ cI c' 231 T = v ∧ cI c' 232 T = 0 ∧ cI c' 233 T = 0 ∧ cI c' 234 T = 0 ∧ cI c' 235 T = -1 ∧ cJ c' 236 T = 4294967296 ∧ rsz c' (9 + T) = 0 := by
  obtain ⟨c6, e6⟩ : ∃ c6, c6 = cSJ (cSI (cSI (cSI (cSI (cSI c 231 T v) 232 T 0) 233 T 0) 234 T 0) 235 T (-1)) 236 T 4294967296 := ⟨_, rfl⟩
  have hB6 : Bd C c6 b := by rw [e6]; exact (((((hB.SI (by decide) _ _).SI (by decide) _ _).SI (by decide) _ _).SI (by decide) _ _).SI (by decide) _ _).SJ _ _ _
  have o6 : OPC [231, 232, 233, 234, 235, 236] T c c6 := by
    rw [e6]
    exact (((((((opc_I (by decide)).mo (by simp)).tr ((opc_I (by decide)).mo (by simp))).tr ((opc_I (by decide)).mo (by simp))).tr ((opc_I (by decide)).mo (by simp))).tr ((opc_I (by decide)).mo (by simp))).tr (opc_J.mo (by simp)))
  refine ⟨cSI c6 193 (9 + T) 0, ?_, hB6.cut _, o6.tr (opc_z.mo (by simp)), ?_, ?_, ?_, ?_, ?_, ?_, ?_⟩
  · unfold f_X7_clear
    rw [bs_some, bs_some, bs_some, bs_some, bs_some, bs_some, ← e6, Nat.one_mul, c_cut0 (hB6.1 (9 + T) (by omega)), bs_some]
  · rw [cI_SIo (by decide), e6]; show cI (cSI (cSI (cSI (cSI (cSI c 231 T v) 232 T 0) 233 T 0) 234 T 0) 235 T (-1)) 231 T = v; rw [cI_SIo (by decide), cI_SIo (by decide), cI_SIo (by decide), cI_SIo (by decide), cI_SIe]
  · rw [cI_SIo (by decide), e6]; show cI (cSI (cSI (cSI (cSI (cSI c 231 T v) 232 T 0) 233 T 0) 234 T 0) 235 T (-1)) 232 T = 0; rw [cI_SIo (by decide), cI_SIo (by decide), cI_SIo (by decide), cI_SIe]
  · rw [cI_SIo (by decide), e6]; show cI (cSI (cSI (cSI (cSI (cSI c 231 T v) 232 T 0) 233 T 0) 234 T 0) 235 T (-1)) 233 T = 0; rw [cI_SIo (by decide), cI_SIo (by decide), cI_SIe]
  · rw [cI_SIo (by decide), e6]; show cI (cSI (cSI (cSI (cSI (cSI c 231 T v) 232 T 0) 233 T 0) 234 T 0) 235 T (-1)) 234 T = 0; rw [cI_SIo (by decide), cI_SIe]
  · rw [cI_SIo (by decide), e6]; show cI (cSI (cSI (cSI (cSI (cSI c 231 T v) 232 T 0) 233 T 0) 234 T 0) 235 T (-1)) 235 T = -1; rw [cI_SIe]
  · show cJ c6 236 T = _; rw [e6, cJ_SJe]
  · exact rsz_SIe (k := 0) (by decide)
/-- newThread -/
theorem m_newThread {n K : Nat} {m : md_S} (hK : K < 8) (h105 : mI m 105 = nI K) : ∃ m', f_X12_newThread n m = some (nI K, m') ∧ md_fr [105, 106, 107, 108, 109, 110, 111, 117, 120, 123] m m' ∧ (∀ x, x ≠ K → MAG m m' x) ∧ mI m' 105 = nI (K + 1) ∧ mA m' 106 K = 0 ∧ mA m' 107 K = -1 ∧ mA m' 108 K = 0 ∧ mA m' 111 K = 0 ∧ mA m' 117 K = 0 ∧ mA m' 120 K = 0 ∧ mA m' 123 K = 0 := by
  obtain ⟨m', em⟩ : ∃ m', m' = mSA (mSA (mSA (mSA (mSA (mSA (mSA (mSA (mSA (mSI m 105 (nI (K + 1))) 106 K 0) 107 K (-1)) 108 K 0) 110 K 0) 109 K (-1)) 111 K 0) 117 K 0) 120 K 0) 123 K 0 := ⟨_, rfl⟩
  have oo : OPM [105, 106, 107, 108, 109, 110, 111, 117, 120, 123] K m m' := by
    rw [em]
    exact (((((((((opm_i.mo (by simp)).tr ((opm_1 (g := 106) (by decide)).mo (by simp))).tr ((opm_1 (g := 107) (by decide)).mo (by simp))).tr ((opm_1 (g := 108) (by decide)).mo (by simp))).tr ((opm_1 (g := 110) (by decide)).mo (by simp))).tr ((opm_1 (g := 109) (by decide)).mo (by simp))).tr ((opm_1 (g := 111) (by decide)).mo (by simp))).tr ((opm_1 (g := 117) (by decide)).mo (by simp))).tr ((opm_1 (g := 120) (by decide)).mo (by simp))).tr ((opm_1 (g := 123) (by decide)).mo (by simp))
  refine ⟨m', ?_, oo.1, oo.2, ?_, ?_, ?_, ?_, ?_, ?_, ?_, ?_⟩
  · unfold f_X12_newThread
    rw [bs_some, h105, nI_1, m_st106 hK, bs_some, m_st107 hK, bs_some, m_st108 hK, bs_some, m_st110 hK, bs_some, m_st109 hK, bs_some, m_st111 hK, bs_some, m_st117 hK, bs_some, m_st120 hK, bs_some, m_st123 hK, bs_some, em]
  · rw [em]; simp only [mI_SA]; exact mI_SIe
  · rw [em]; simp only [mA_SA, mA_SI]; simp
  · rw [em]; simp only [mA_SA, mA_SI]; simp
  · rw [em]; simp only [mA_SA, mA_SI]; simp
  · rw [em]; simp only [mA_SA, mA_SI]; simp
  · rw [em]; simp only [mA_SA, mA_SI]; simp
  · rw [em]; simp only [mA_SA, mA_SI]; simp
  · rw [em]; simp only [mA_SA, mA_SI]; simp
