/-! a failure, in the model; both -/
theorem m_locs {n u L : Nat} {σ : md_S} (hu : u < 60) (h : mA σ 44 u + (if mA σ 36 u = 0 then 1 else 0) + mA σ 39 u + mA σ 46 u = nI L) : f_X12_localsOf n σ (nI u) = some (nI L, σ) := by
  unfold f_X12_localsOf f_X12_localsOf_J20
  rw [m_ld44 hu, bs_some, m_ld36 hu, bs_some, m_ld39 hu, m_ld46 hu]
  by_cases q : mA σ 36 u = 0
  · rw [if_pos q] at h ⊢
    rw [bs_some, bs_some, h]
  · rw [if_neg q] at h ⊢
    rw [bs_some, bs_some, h]
theorem MFS.sub {m : md_S} {t : Nat} {rw : Bool} {cb : Nat → Nat} {F : List FR} : ∀ {G : List FR}, MFS m t rw cb (G ++ F) → MFS m t rw cb F
  | [], h => h
  | _ :: _, h => MFS.sub h.2.2.2
theorem MWk.sub {m : md_S} {t k cb o q : Nat} {rw : Bool} {V : List Int64} : ∀ {X : List Int64}, MWk m t rw k cb o q (X ++ V) → MWk m t rw k cb o q V
  | [], h => h
  | _ :: _, h => MWk.sub h.2
theorem szs_app : ∀ (G F : List FR), lsz F ≤ lsz (G ++ F) ∧ vsz F ≤ vsz (G ++ F) ∧ F.length ≤ (G ++ F).length
  | [], F => ⟨Nat.le_refl _, Nat.le_refl _, Nat.le_refl _⟩
  | g :: G, F => by
      obtain ⟨a, b, d⟩ := szs_app G F
      have e1 : lsz (g :: (G ++ F)) = lsz (G ++ F) + g.L.length := rfl
      have e2 : vsz (g :: (G ++ F)) = vsz (G ++ F) + vln g.W := rfl
      rw [List.cons_append, List.length_cons]
      omega
theorem m_fail1 {n t pl L : Nat} {m : md_S} {rw : Bool} {cb : Nat → Nat} {G : List FR} {f : FR} {r : List FR} {X V : List Int64} {mk : Int64} {x : Int32} (hme : mI m 127 = nI t) (ht : t < 8) (h : TMx m t rw cb (G ++ f :: r)) (hG : tsz G = 0) (hW : f.W = X ++ mk :: V) (hX : ∀ v, v ∈ X → vS v ≠ 5) (hmk : mk = vv 5 (nI pl)) (hu : f.u < 60) (hL : f.L.length = L) (hloc : mA m 44 f.u + (if mA m 36 f.u = 0 then 1 else 0) + mA m 39 f.u + mA m 46 f.u = nI L) (hb : vsz (f :: r) < 9000) : ∃ m', f_X12_failure n m x = some (0, m') ∧ TM m' t rw cb (((f.sp pl).sW (vv 0 x :: V)) :: r) ∧ OPM [111, 113, 117, 120, 121, 122, 123] t m m' := by
  obtain ⟨h1, h2, h3, h4, h5', h6⟩ := h
  have hs := h6.sub
  obtain ⟨⟨a1, a2, a3, a4, a5⟩, l1, w1, g1⟩ := hs
  rw [hW] at w1
  obtain ⟨w2, w3⟩ := w1.sub
  have h5 : vS mk = 5 := by rw [hmk]; exact vv_hi _ _
  rw [if_pos h5, show mk.toInt32 = nI pl by rw [hmk]; exact vv_lo _ _] at w2
  obtain ⟨q1, q2, q3⟩ := w2
  have s1 := szs_app G (f :: r)
  rw [List.length_cons] at s1
  have hl : lsz (f :: r) = lsz r + f.L.length := rfl
  have hvz : vsz (f :: r) = vsz r + vln f.W := rfl
  have hts : tsz (f :: r) = tsz r + mln f.W := rfl
  have hta := tsz_app G (f :: r)
  have hm1 : mln f.W = 1 + mln V := by
    rw [hW, (mln_app X (mk :: V)).1, mlnX hX]
    show 0 + ((if vS mk = 5 then 1 else 0) + mln V) = _
    rw [if_pos h5]; omega
  have hv1 : vln f.W = vln X + vln V := by
    rw [hW, (mln_app X (mk :: V)).2]
    show vln X + ((if vS mk = 5 then 0 else 1) + vln V) = _
    rw [if_pos h5]; omega
  have htz : tsz (G ++ f :: r) = tsz r + mln V + 1 := by omega
  obtain ⟨y, ey⟩ : ∃ y, y = tsz r + mln V := ⟨_, rfl⟩
  rw [← ey] at q1 q2 q3 htz
  obtain ⟨σ, eσ⟩ : ∃ σ, σ = mSA (mSA (mSA (mSA (mSA m 123 t (nI y)) 111 t (nI (r.length + 1))) 120 t (nI (vsz r + vln V))) 117 t (nI (lsz r + L))) 113 (60 * t + r.length) (nI (cb f.u) + nI pl) := ⟨_, rfl⟩
  have o1 : OPM [111, 113, 117, 120, 121, 122, 123] t m σ := by
    rw [eσ]
    exact (((((opm_1 (m := m) (g := 123) (by decide)).mo (by simp)).tr ((opm_1 (g := 111) (by decide)).mo (by simp))).tr ((opm_1 (g := 120) (by decide)).mo (by simp))).tr ((opm_1 (g := 117) (by decide)).mo (by simp))).tr ((opm_f (g := 113) (by decide) (by decide) (by omega)).mo (by simp))
  have o : ∀ g, g ≠ 111 → g ≠ 113 → g ≠ 117 → g ≠ 120 → g ≠ 123 → ∀ i, mA σ g i = mA m g i := fun g b1 b2 b3 b4 b5 i => by
    rw [eσ, mA_SAo b2, mA_SAo b3, mA_SAo b4, mA_SAo b1, mA_SAo b5]
  have hTM : TM σ t rw cb (((f.sp pl).sW V) :: r) := by
    refine ⟨⟨?_, by rw [List.length_cons]; omega, ?_, ?_, ⟨?_, ?_, ?_⟩, ⟨?_, ?_, ?_, ?_, ?_⟩, fun i hi => ?_, ?_, ?_⟩, ?_⟩
    · rw [eσ, mA_SAo (by decide), mA_SAo (by decide), mA_SAo (by decide), mA_SAe]; rfl
    · rw [eσ, mA_SAo (by decide), mA_SAe]
      show nI (lsz r + L) = nI (lsz r + f.L.length)
      rw [hL]
    · rw [eσ, mA_SAo (by decide), mA_SAo (by decide), mA_SAo (by decide), mA_SAo (by decide), mA_SAe, ey]; rfl
    · show lsz r + f.L.length ≤ 12600; omega
    · show vsz r + vln V ≤ 9000; omega
    · show tsz r + mln V ≤ 1500; omega
    · rw [o 112 (by decide) (by decide) (by decide) (by decide) (by decide)]; exact a1
    · rw [eσ, mA_SAe, nI_add]; rfl
    · rw [o 114 (by decide) (by decide) (by decide) (by decide) (by decide)]; exact a3
    · rw [o 115 (by decide) (by decide) (by decide) (by decide) (by decide)]; exact a4
    · rw [o 116 (by decide) (by decide) (by decide) (by decide) (by decide)]; exact a5
    · rw [o 118 (by decide) (by decide) (by decide) (by decide) (by decide), o 119 (by decide) (by decide) (by decide) (by decide) (by decide)]; exact l1 i hi
    · exact w3.of (fun g j q _ hj => o g (by omega) (by omega) (by omega) (by omega) (by omega) _) (fun g j q1 q2 _ _ => o g (by omega) (by omega) (by omega) (by omega) (by omega) _)
    · refine g1.of (fun g k q1 q2 q3 => ?_) (fun g j q _ => o g (by omega) (by omega) (by omega) (by omega) (by omega) _) (fun g j q hj => o g (by omega) (by omega) (by omega) (by omega) (by omega) _) (fun g j q1 q2 _ => o g (by omega) (by omega) (by omega) (by omega) (by omega) _)
      rw [eσ, mA_SA]
      split
      · rw [if_neg (by omega), mA_SAo (by omega), mA_SAo (by omega), mA_SAo (by omega), mA_SAo (by omega)]
      · rw [mA_SAo (by omega), mA_SAo (by omega), mA_SAo (by omega), mA_SAo (by omega)]
    · rw [eσ, mA_SAo (by decide), mA_SAo (by decide), mA_SAe]; rfl
  have hmeσ : mI σ 127 = nI t := by rw [eσ]; exact hme
  obtain ⟨m', p1, p2, p3⟩ := hTM.push (n := n) (x := vv 0 x) (s := 0) (v := x) hmeσ ht (vv_hi _ _).symm (by decide) (by rw [mv_n4 (by rw [vv_hi]; decide), vv_lo]) (by show vsz r + vln V < 9000; omega)
  refine ⟨m', ?_, p2, o1.tr (p3.mo (by simp))⟩
  unfold f_X12_failure f_X12_frameAt
  have l1' := m_locs (n := n) (σ := mSA (mSA (mSA m 123 t (nI y)) 111 t (nI (r.length + 1))) 120 t (nI (vsz r + vln V))) hu (L := L) (by
    simp only [mA_SAo (show 44 ≠ 120 by decide), mA_SAo (show 44 ≠ 111 by decide), mA_SAo (show 44 ≠ 123 by decide), mA_SAo (show 36 ≠ 120 by decide), mA_SAo (show 36 ≠ 111 by decide), mA_SAo (show 36 ≠ 123 by decide), mA_SAo (show 39 ≠ 120 by decide), mA_SAo (show 39 ≠ 111 by decide), mA_SAo (show 39 ≠ 123 by decide), mA_SAo (show 46 ≠ 120 by decide), mA_SAo (show 46 ≠ 111 by decide), mA_SAo (show 46 ≠ 123 by decide)]
    exact hloc)
  rw [hme, m_ld123 ht, bs_some, bs_some, h4, htz, if_neg (show ¬ nI (y + 1) = 0 from fun z => by have := (nI_eq (a := y + 1) (b := 0) (by omega) (by decide)).mp z; omega), show (1 : Int32) = nI 1 from rfl, nI_sub (by omega), Nat.add_sub_cancel, m_st123 ht, bs_some, mI_SA, hme, m_ld123 ht, bs_some, mA_SAe, show (1500 : Int32) = nI 1500 from rfl, nI_mul, nI_add, m_ld124 (by omega), bs_some, mA_SAo (by decide), q1, m_st111 ht, bs_some, m_ld125 (by omega), bs_some, mA_SAo (by decide), mA_SAo (by decide), q2, mI_SA, mI_SA, hme, m_st120 ht, bs_some, mI_SA, mI_SA, mI_SA, hme, m_ld111 ht, bs_some, bs_some, mA_SAo (by decide), mA_SAe, show (60 : Int32) = nI 60 from rfl, nI_mul, nI_add, nI_sub (by omega), show 60 * t + (r.length + 1) - 1 = 60 * t + r.length by omega]
  dsimp only
  rw [m_ld114 (by omega), bs_some, mA_SAo (by decide), mA_SAo (by decide), mA_SAo (by decide), a3, mI_SA, mI_SA, mI_SA, hme, m_ld111 ht, bs_some, bs_some, mA_SAo (by decide), mA_SAe, nI_mul, nI_add, nI_sub (by omega), show 60 * t + (r.length + 1) - 1 = 60 * t + r.length by omega]
  dsimp only
  rw [m_ld112 (by omega), bs_some, mA_SAo (by decide), mA_SAo (by decide), mA_SAo (by decide), a1, l1', bs_some]
  dsimp only
  rw [nI_add, m_st117 ht, bs_some, mI_SA, mI_SA, mI_SA, mI_SA, hme, m_ld111 ht, bs_some, bs_some, mA_SAo (by decide), mA_SAo (by decide), mA_SAe, nI_mul, nI_add, nI_sub (by omega), show 60 * t + (r.length + 1) - 1 = 60 * t + r.length by omega]
  dsimp only
  rw [m_ld126 (by omega), bs_some, mA_SAo (by decide), mA_SAo (by decide), mA_SAo (by decide), mA_SAo (by decide), q3, m_st113 (by omega), bs_some, ← eσ, p1, bs_some]
