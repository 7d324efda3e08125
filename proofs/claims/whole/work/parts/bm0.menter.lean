/-! a frame begins: its place in the model's thread -/
theorem m_begL {n T u L x lb : Nat} {m0 : md_S} (hT : T < 8) (hx : x < 480) (hu : u < 60) (hL : lb + L ≤ 12600) (h114 : mA m0 114 x = nI lb) (hloc : mA m0 44 u + (if mA m0 36 u = 0 then 1 else 0) + mA m0 39 u + mA m0 46 u = nI L) : ∀ (e j i : Nat) (m : md_S), i + e = L → e < j → md_fr [118, 119] m0 m → (∀ q, mA m 118 q = if 12600 * T + lb ≤ q ∧ q < 12600 * T + lb + i then 1 else mA m0 118 q) → (∀ q, mA m 119 q = if 12600 * T + lb ≤ q ∧ q < 12600 * T + lb + i then 0 else mA m0 119 q) → ∃ m', f_X12_begin_L326 n (nI T) (nI u) (nI x) j m (nI i) = some (m', nI L) ∧ md_fr [118, 119] m0 m' ∧ (∀ q, mA m' 118 q = if 12600 * T + lb ≤ q ∧ q < 12600 * T + lb + L then 1 else mA m0 118 q) ∧ (∀ q, mA m' 119 q = if 12600 * T + lb ≤ q ∧ q < 12600 * T + lb + L then 0 else mA m0 119 q) := by
  intro e
  have hl : ∀ m, md_fr [118, 119] m0 m → f_X12_localsOf n m (nI u) = some (nI L, m) := fun m hf => m_locs hu (by rw [md_frA hf (by decide), md_frA hf (by decide), md_frA hf (by decide), md_frA hf (by decide)]; exact hloc)
  induction e with
  | zero =>
    intro j i m hi hj hf h118 h119
    obtain ⟨j, rfl⟩ : ∃ q, j = q + 1 := ⟨j - 1, by omega⟩
    have hiN : i = L := by omega
    subst hiN
    refine ⟨m, ?_, hf, h118, h119⟩
    rw [u_X12_begin_L326, hl m hf, bs_some]
    dsimp only
    rw [if_pos ((nI_leI (by omega) (by omega)).mpr (Nat.le_refl _))]
  | succ e ih =>
    intro j i m hi hj hf h118 h119
    obtain ⟨j, rfl⟩ : ∃ q, j = q + 1 := ⟨j - 1, by omega⟩
    have f114 : mA m 114 x = nI lb := by rw [md_frA hf (by decide)]; exact h114
    obtain ⟨m', k1, k2, k3, k4⟩ := ih j (i + 1) (mSA (mSA m 118 (12600 * T + lb + i) 1) 119 (12600 * T + lb + i) 0) (by omega) (by omega) (md_fr_SA (md_fr_SA hf (by simp) _ _) (by simp) _ _) (fun q => by
      rw [mA_SAo (by decide), mA_SA, if_pos rfl, h118]
      by_cases z : q = 12600 * T + lb + i
      · rw [if_pos z, if_pos ⟨by omega, by omega⟩]
      · rw [if_neg z]
        by_cases y : 12600 * T + lb ≤ q ∧ q < 12600 * T + lb + i
        · rw [if_pos y, if_pos ⟨y.1, by omega⟩]
        · rw [if_neg y, if_neg (fun x => y ⟨x.1, by omega⟩)]) (fun q => by
      rw [mA_SA, if_pos rfl, mA_SAo (by decide), h119]
      by_cases z : q = 12600 * T + lb + i
      · rw [if_pos z, if_pos ⟨by omega, by omega⟩]
      · rw [if_neg z]
        by_cases y : 12600 * T + lb ≤ q ∧ q < 12600 * T + lb + i
        · rw [if_pos y, if_pos ⟨y.1, by omega⟩]
        · rw [if_neg y, if_neg (fun x => y ⟨x.1, by omega⟩)])
    refine ⟨m', ?_, k2, k3, k4⟩
    rw [u_X12_begin_L326, hl m hf, bs_some]
    dsimp only
    rw [if_neg (fun z => absurd ((nI_leI (by omega) (by omega)).mp z) (by omega))]
    unfold f_X12_setLocal
    rw [m_ld114 hx, bs_some, f114, show (12600 : Int32) = nI 12600 from rfl, nI_mul, nI_add, nI_add, m_st118 (by omega), bs_some, m_ld114 hx, bs_some, mA_SAo (by decide), f114, nI_add, nI_add, m_st119 (by omega), bs_some, bs_some, nI_1]
    exact k1
theorem nones_get {L i : Nat} (h : i < (nones L).length) : (nones L)[i] = 4294967296 := List.getElem_replicate h
theorem m_enter {n T u L st dd : Nat} {m : md_S} {rw : Bool} {cb : Nat → Nat} {F : List FR} {nd cx : Int32} (hn : 40000 ≤ n) (hT : T < 8) (hu : u < 60) (hM : TM m T rw cb F) (hlen : F.length < 60) (hL : lsz F + L ≤ 12600) (hloc : mA m 44 u + (if mA m 36 u = 0 then 1 else 0) + mA m 39 u + mA m 46 u = nI L) (h76 : mA m 76 (2 * u) = nI (cb u)) (hnd : rw = false → nd = nI st) : ∃ m', f_X12_begin_J204 n m (nI T) (nI u) (nI st) (cx + 1) = some (1, m') ∧ TM m' T rw cb (((u, 0, dd), (nd, cx), nones L, []) :: F) ∧ md_fr [93, 108, 111, 112, 113, 114, 115, 116, 117, 118, 119] m m' ∧ (∀ x, x ≠ T → MAG m m' x) ∧ mA m' 108 T = mA m 108 T + 1 ∧ mI m' 93 = (if mI m 93 < nI (F.length + 1) then nI (F.length + 1) else mI m 93) := by
  obtain ⟨⟨x1, x2, x3, x4, x5, x6⟩, x7⟩ := hM
  obtain ⟨k, hk⟩ : ∃ k, k = F.length := ⟨_, rfl⟩
  rw [← hk] at x1 hlen
  obtain ⟨y, ey⟩ : ∃ y : Int32, y = if mI m 93 < nI (k + 1) then nI (k + 1) else mI m 93 := ⟨_, rfl⟩
  obtain ⟨m8, e8⟩ : ∃ m8, m8 = mSA (mSA (mSA (mSA (mSA (mSI (mSA (mSA m 111 T (nI (k + 1))) 108 T (mA m 108 T + 1)) 93 y) 112 (60 * T + k) (nI u)) 113 (60 * T + k) (nI (cb u))) 114 (60 * T + k) (nI (lsz F))) 115 (60 * T + k) (nI st)) 116 (60 * T + k) (cx + 1) := ⟨_, rfl⟩
  have o8 : OPM [93, 108, 111, 112, 113, 114, 115, 116, 117, 118, 119] T m m8 := by
    rw [e8]
    exact ((((((((opm_1 (m := m) (g := 111) (by decide)).mo (by simp)).tr ((opm_1 (g := 108) (by decide)).mo (by simp))).tr (opm_i.mo (by simp))).tr ((opm_f (g := 112) (by decide) (by decide) hlen).mo (by simp))).tr ((opm_f (g := 113) (by decide) (by decide) hlen).mo (by simp))).tr ((opm_f (g := 114) (by decide) (by decide) hlen).mo (by simp))).tr ((opm_f (g := 115) (by decide) (by decide) hlen).mo (by simp))).tr ((opm_f (g := 116) (by decide) (by decide) hlen).mo (by simp))
  have g8 : ∀ g, g < 93 ∨ 117 ≤ g → ∀ i, mA m8 g i = mA m g i := fun g hg i => by
    rw [e8]
    rw [mA_SAo (by omega), mA_SAo (by omega), mA_SAo (by omega), mA_SAo (by omega), mA_SAo (by omega), mA_SI, mA_SAo (by omega), mA_SAo (by omega)]
  have h114 : mA m8 114 (60 * T + k) = nI (lsz F) := by rw [e8, mA_SAo (by decide), mA_SAo (by decide), mA_SAe]
  obtain ⟨m9, r1, r2, r3, r4⟩ := m_begL (n := n) (T := T) (u := u) (L := L) (x := 60 * T + k) (lb := lsz F) (m0 := m8) hT (by omega) hu hL h114 (by rw [g8 44 (by omega), g8 36 (by omega), g8 39 (by omega), g8 46 (by omega)]; exact hloc) L n 0 m8 (by omega) (by omega) (md_fr_refl _ _) (fun q => by rw [if_neg (by omega)]) (fun q => by rw [if_neg (by omega)])
  have o9 : OPM [93, 108, 111, 112, 113, 114, 115, 116, 117, 118, 119] T m8 m9 := ⟨md_fr_mono r2 (by decide), fun x hx => by
    have hx' : ∀ g, g ≠ 118 → g ≠ 119 → ∀ i, mA m9 g i = mA m8 g i := fun g a b i => md_frA r2 (by simp; omega) i
    refine ⟨fun g q => hx' g (by simp [tg1] at q; omega) (by simp [tg1] at q; omega) _, fun g k a b _ => hx' g (by omega) (by omega) _, fun g j a b => ?_, fun g k a _ => hx' g (by omega) (by omega) _, fun g k a b _ => hx' g (by omega) (by omega) _⟩
    rcases a with a | a
    · rw [a, r3, if_neg (by omega)]
    · rw [a, r4, if_neg (by omega)]⟩
  have h117 : mA m9 117 T = nI (lsz F) := by rw [md_frA r2 (by decide), g8 117 (by omega)]; exact x3
  have o10 : OPM [93, 108, 111, 112, 113, 114, 115, 116, 117, 118, 119] T m9 (mSA m9 117 T (nI (lsz F + L))) := (opm_1 (by decide)).mo (by simp)
  have oo := (o8.tr o9).tr o10
  obtain ⟨mz, ez⟩ : ∃ mz, mz = mSA m9 117 T (nI (lsz F + L)) := ⟨_, rfl⟩
  rw [← ez] at oo
  have z1 : ∀ g, g ≠ 117 → g ≠ 118 → g ≠ 119 → ∀ i, mA mz g i = mA m8 g i := fun g a b d i => by rw [ez, mA_SAo a, md_frA r2 (by simp; omega)]
  have z8 : ∀ g j, 112 ≤ g → g ≤ 116 → j < k → mA m8 g (60 * T + j) = mA m g (60 * T + j) := fun g j a b hj => by
    rw [e8]
    simp only [mA_SA, mA_SI]
    simp [show ¬ j = k by omega, show ¬ g = 108 by omega, show ¬ g = 111 by omega]
  refine ⟨mz, ?_, ⟨⟨?_, by rw [List.length_cons, ← hk]; omega, ?_, ?_, ⟨?_, ?_, ?_⟩, ⟨?_, ?_, ?_, fun q => ?_, ?_⟩, fun i hi => ?_, trivial, ?_⟩, ?_⟩, oo.1, oo.2, ?_, ?_⟩
  · unfold f_X12_begin_J204
    rw [m_ld111 hT, bs_some, bs_some, x1, nI_1, m_st111 hT, bs_some, m_ld108 hT, bs_some, mA_SAo (by decide), m_st108 hT, bs_some, m_ld111 hT, bs_some, bs_some, mA_SAo (by decide), mA_SAe]
    have h93 : mI (mSA (mSA m 111 T (nI (k + 1))) 108 T (mA m 108 T + 1)) 93 = mI m 93 := rfl
    rw [h93, show (60 : Int32) = nI 60 from rfl, nI_mul, nI_add]
    have hy : (if nI (k + 1) ≤ mI m 93 then f_X12_begin_J266 n (mSA (mSA m 111 T (nI (k + 1))) 108 T (mA m 108 T + 1)) (nI T) (nI u) (nI st) (cx + 1) (nI (60 * T + k)) (mI m 93) else f_X12_begin_J266 n (mSA (mSA m 111 T (nI (k + 1))) 108 T (mA m 108 T + 1)) (nI T) (nI u) (nI st) (cx + 1) (nI (60 * T + k)) (nI (k + 1))) = f_X12_begin_J266 n (mSA (mSA m 111 T (nI (k + 1))) 108 T (mA m 108 T + 1)) (nI T) (nI u) (nI st) (cx + 1) (nI (60 * T + k)) y := by
      rw [ey]
      by_cases q : nI (k + 1) ≤ mI m 93
      · rw [if_pos q, if_neg (fun z => absurd q (not_le_lt.mpr z))]
      · rw [if_neg q, if_pos (not_le_lt.mp q)]
    refine hy.trans ?_
    unfold f_X12_begin_J266
    rw [bs_some, m_st112 (by omega), bs_some, show (2 : Int32) = nI 2 from rfl, nI_mul, m_ld76 (by omega), bs_some, mA_SAo (by decide), mA_SI, mA_SAo (by decide), mA_SAo (by decide), h76, m_st113 (by omega), bs_some, m_ld117 hT, bs_some, mA_SAo (by decide), mA_SAo (by decide), mA_SI, mA_SAo (by decide), mA_SAo (by decide), x3, m_st114 (by omega), bs_some, m_st115 (by omega), bs_some, m_st116 (by omega), bs_some, ← e8, show f_X12_begin_L326 n (nI T) (nI u) (nI (60 * T + k)) n m8 0 = _ from r1, bs_some]
    dsimp only
    rw [m_ld117 hT, bs_some, h117, m_locs hu (by rw [md_frA r2 (by decide), md_frA r2 (by decide), md_frA r2 (by decide), md_frA r2 (by decide), g8 44 (by omega), g8 36 (by omega), g8 39 (by omega), g8 46 (by omega)]; exact hloc), bs_some]
    dsimp only
    rw [nI_add, m_st117 hT, bs_some, ez]
  · rw [z1 111 (by decide) (by decide) (by decide), e8, List.length_cons, ← hk]; simp only [mA_SA, mA_SI]; simp
  · rw [ez, mA_SAe]; show nI (lsz F + L) = nI (lsz F + (nones L).length); unfold nones; rw [List.length_replicate]
  · rw [z1 123 (by decide) (by decide) (by decide), g8 123 (by omega)]; exact x4
  · show lsz F + (nones L).length ≤ 12600; unfold nones; rw [List.length_replicate]; exact hL
  · exact x5.2.1
  · exact x5.2.2
  · rw [z1 112 (by decide) (by decide) (by decide), e8, ← hk]; simp only [mA_SA, mA_SI]; simp; rfl
  · rw [z1 113 (by decide) (by decide) (by decide), e8, ← hk]; simp only [mA_SA, mA_SI]; simp; rfl
  · rw [z1 114 (by decide) (by decide) (by decide), ← hk]; exact h114
  · rw [z1 115 (by decide) (by decide) (by decide), e8, ← hk]; simp only [mA_SA, mA_SI]; simp
    exact (hnd q).symm
  · rw [z1 116 (by decide) (by decide) (by decide), e8, ← hk]; simp only [mA_SA, mA_SI]; simp; rfl
  · have hi' : i < L := by
      have h1 : i < (nones L).length := hi
      unfold nones at h1
      rw [List.length_replicate] at h1
      exact h1
    have hi2 : i < (nones L).length := hi
    show mA mz 118 (12600 * T + (lsz F + i)) = vS ((nones L)[i]'hi2) ∧ mA mz 119 (12600 * T + (lsz F + i)) = mv rw ((nones L)[i]'hi2)
    rw [nones_get hi2, ez, mA_SAo (by decide), mA_SAo (by decide), r3, if_pos ⟨by omega, by omega⟩, r4, if_pos ⟨by omega, by omega⟩]
    exact ⟨vN_hi.symm, by rw [mv_n4 (by rw [vN_hi]; decide), vN_lo]⟩
  · refine x6.of (fun g j a b d => ?_) (fun g j a b => ?_) (fun g j a b => ?_) (fun g j a b d => ?_)
    · rw [z1 g (by omega) (by omega) (by omega), z8 g j a b (by omega)]
    · rcases a with a | a
      · rw [a, ez, mA_SAo (by decide), r3, if_neg (by omega), g8 118 (by omega)]
      · rw [a, ez, mA_SAo (by decide), r4, if_neg (by omega), g8 119 (by omega)]
    · rw [z1 g (by omega) (by omega) (by omega), g8 g (by omega)]
    · rw [z1 g (by omega) (by omega) (by omega), g8 g (by omega)]
  · rw [z1 120 (by decide) (by decide) (by decide), g8 120 (by omega)]; exact x7
  · rw [z1 108 (by decide) (by decide) (by decide), e8]; simp only [mA_SA, mA_SI]; simp
  · rw [ez, mI_SA, md_frI r2 (by decide), e8, mI_SA, mI_SA, mI_SA, mI_SA, mI_SA, mI_SIe, ey, hk]
