/-! methods of one name, and the end of a method -/
theorem own_loop {n : Nat} {c : cd_S} {m : md_S} {d kM u : Nat} {nm : Int64} {l2 l4 : Int32} (hd8 : d < 8) (hk12 : kM ≤ 12) (hu60 : u < 60) (h30 : mA m 30 d = nI kM) (hx : ∀ x, x < kM → ∃ uu, uu < 60 ∧ cAr c 72 0 (12 * d + x) = nI uu ∧ mA m 31 (12 * d + x) = nI uu ∧ NR (cJ c 293 uu) (mL m 43 uu) ∧ cI c 294 uu = mA m 39 uu) (hnm : NR nm (mL m 43 u)) (h294 : cI c 294 u = mA m 39 u) : ∀ (e j j2 i : Nat), i + e = kM → e < j → e < j2 → (∃ v, v < 60 ∧ f_X2_ownMethod_L27 n (nI d) nm (cI c 294 u) (nI kM) j c (nI i) = some (Sum.inl (nI v, c)) ∧ f_X12_readMethod_L80 n (nI d) l2 (nI u) l4 j2 m (nI i) = Option.bind (f_X12_failsAt n m (2 : Int32) l2) fun p27 => some (Sum.inl ((0 : Int32), p27.2))) ∨ (f_X2_ownMethod_L27 n (nI d) nm (cI c 294 u) (nI kM) j c (nI i) = some (Sum.inr (c, nI kM)) ∧ f_X12_readMethod_L80 n (nI d) l2 (nI u) l4 j2 m (nI i) = some (Sum.inr (m, nI kM))) := by
  intro e
  induction e with
  | zero =>
    intro j j2 i hi hj hj2
    obtain ⟨j, rfl⟩ : ∃ q, j = q + 1 := ⟨j - 1, by omega⟩
    obtain ⟨j2, rfl⟩ : ∃ q, j2 = q + 1 := ⟨j2 - 1, by omega⟩
    obtain rfl : i = kM := by omega
    right
    have hle : nI i ≤ nI i := (nI_leI (by omega) (by omega)).mpr (Nat.le_refl _)
    refine ⟨by rw [u_X2_ownMethod_L27, if_pos hle], ?_⟩
    rw [u_X12_readMethod_L80, m_ld30 hd8, bs_some, h30, if_pos hle]
  | succ e ih =>
    intro j j2 i hi hj hj2
    obtain ⟨j, rfl⟩ : ∃ q, j = q + 1 := ⟨j - 1, by omega⟩
    obtain ⟨j2, rfl⟩ : ∃ q, j2 = q + 1 := ⟨j2 - 1, by omega⟩
    have hnle : ¬ nI kM ≤ nI i := fun y => absurd ((nI_leI (by omega) (by omega)).mp y) (by omega)
    obtain ⟨uu, u1, u2, u3, u4, u5⟩ := hx i (by omega)
    have e1 : nI d * 12 + nI i = nI (12 * d + i) := by rw [show (12 : Int32) = nI 12 from rfl, nI_mul, nI_add, Nat.mul_comm]
    have e2 : (12 : Int32) * nI d + nI i = nI (12 * d + i) := by rw [show (12 : Int32) = nI 12 from rfl, nI_mul, nI_add]
    have ihh := ih j j2 (i + 1) (by omega) (by omega) (by omega)
    rw [u_X2_ownMethod_L27, if_neg hnle, e1, c_ld72 (by omega), bs_some, u2, c_unitAt u1, bs_some, u_X12_readMethod_L80, m_ld30 hd8, bs_some, h30, if_neg hnle, e2, m_ld31 (by omega), bs_some, u3, m_ld43 u1, bs_some, m_ld43 hu60, bs_some]
    unfold f_X2_ownMethod_J79 f_X12_readMethod_J145
    dsimp only
    rw [nI_1]
    by_cases hn1 : cJ c 293 uu = nm
    · have hn2 : mL m 43 uu = mL m 43 u := (NR.iff u4 hnm).mp hn1
      rw [if_pos (lgc.mpr hn1), if_pos (lgc.mpr hn2), c_unitAt u1, bs_some, m_ld39 u1, bs_some, m_ld39 hu60, bs_some]
      dsimp only
      by_cases hp : cI c 294 uu = cI c 294 u
      · have hp2 : mA m 39 uu = mA m 39 u := by rw [← u5, ← h294]; exact hp
        rw [if_pos hp, if_pos hp2]
        exact Or.inl ⟨uu, u1, rfl, rfl⟩
      · have hp2 : ¬ mA m 39 uu = mA m 39 u := by rw [← u5, ← h294]; exact hp
        rw [if_neg hp, if_neg hp2]
        exact ihh
    · have hn2 : ¬ mL m 43 uu = mL m 43 u := fun y => hn1 ((NR.iff u4 hnm).mpr y)
      rw [if_neg (fun y => hn1 (lgc.mp y)), if_neg (fun y => hn2 (lgc.mp y))]
      exact ihh
theorem own_ok {n : Nat} {c : cd_S} {m : md_S} {d kM u mc : Nat} {nm : Int64} {l2 l4 : Int32} (hn : 5000 ≤ n) (hd8 : d < 8) (hdm : d < mc) (hmc : mc ≤ 8) (h74 : cI c 74 0 = nI mc) (h73 : cAr c 73 0 d = nI kM) (hk12 : kM ≤ 12) (hu60 : u < 60) (h30 : mA m 30 d = nI kM) (hx : ∀ x, x < kM → ∃ uu, uu < 60 ∧ cAr c 72 0 (12 * d + x) = nI uu ∧ mA m 31 (12 * d + x) = nI uu ∧ NR (cJ c 293 uu) (mL m 43 uu) ∧ cI c 294 uu = mA m 39 uu) (hnm : NR nm (mL m 43 u)) (h294 : cI c 294 u = mA m 39 u) : (∃ v, v < 60 ∧ f_X2_ownMethod n c (nI d) nm (cI c 294 u) = some (nI v, c) ∧ f_X12_readMethod_L80 n (nI d) l2 (nI u) l4 n m 0 = Option.bind (f_X12_failsAt n m (2 : Int32) l2) fun p27 => some (Sum.inl ((0 : Int32), p27.2))) ∨ (f_X2_ownMethod n c (nI d) nm (cI c 294 u) = some (-1, c) ∧ f_X12_readMethod_L80 n (nI d) l2 (nI u) l4 n m 0 = some (Sum.inr (m, nI kM))) := by
  have hl := own_loop (n := n) (c := c) (m := m) (d := d) (kM := kM) (u := u) (nm := nm) (l2 := l2) (l4 := l4) hd8 hk12 hu60 h30 hx hnm h294 kM n n 0 (by omega) (by omega) (by omega)
  unfold f_X2_ownMethod f_X2_ownMethod_J22
  rw [if_neg (show ¬ nI d < 0 from nI_nn (by omega)), h74, if_neg (show ¬ nI mc ≤ nI d from fun y => absurd ((nI_leI (by omega) (by omega)).mp y) (by omega)), c_ld73 hd8, bs_some, h73]
  rcases hl with ⟨v, v1, v2, v3⟩ | ⟨v2, v3⟩
  · left
    refine ⟨v, v1, ?_, v3⟩
    rw [show f_X2_ownMethod_L27 n (nI d) nm (cI c 294 u) (nI kM) n c 0 = _ from v2, bs_some]
    rfl
  · right
    refine ⟨?_, v3⟩
    rw [show f_X2_ownMethod_L27 n (nI d) nm (cI c 294 u) (nI kM) n c 0 = _ from v2, bs_some]
    rfl
/-- a method is read -/
theorem OST.fin {c : cd_S} {m : md_S} {mc k u f r l nn un : Nat} {es : List EN} {ns : List Nat} (h : ST c m [u] mc (k + 1) 0) (h64 : mN m 64 = u) (hrow : RowOk c (17 + 3 * u)) (hr : r < 900) (hgw : ∃ g, GW m g r 149 24) (hG : Gen m u f r 0 l es ns) (h302 : cI c 302 u = nI l) (hnb : NB m [u] nn un ns) (hun : u < un) (hrL : rL c (17 + 3 * u) = fE es) (hcov : ∀ j, j < mN m 65 → mA m 67 j = nI u → j ∈ ns) (h63 : mI m 63 = 0) (hnames : ∀ i, i < mN m 35 → mA m 36 i = 0 → NR (cJ c 293 i) (mL m 43 i)) (hmth : ∀ i, i < mc % 16 → ∀ x, x < aN m 30 i → mA m 36 (aN m 31 (12 * i + x)) = 0) : OST (cSI (em c u 28 0 0) 134 0 0) (mSI (mSI (mSA m 41 u (nI r)) 64 (-1)) 56 0) (mc % 16) := by
  obtain ⟨q62, q35, q50, q65, c138, c66, y62, y35, z138, z66, -⟩ := h.nv
  have hnow := h.now
  have hanle := h.anle
  rw [h64] at hnow
  have hsE := ST.emit (x := 28) (y := 0) (z := 0) (k := k) h
  rw [h64] at hsE
  obtain ⟨c', hc'⟩ : ∃ z, z = cSI (em c u 28 0 0) 134 0 0 := ⟨_, rfl⟩
  obtain ⟨m', hm'⟩ : ∃ z, z = mSI (mSI (mSA m 41 u (nI r)) 64 (-1)) 56 0 := ⟨_, rfl⟩
  rw [← hc', ← hm']
  have fe := em_fr c u 28 0 0
  have fc0 : cd_fr [134] [] (em c u 28 0 0) c' := by rw [hc']; exact cd_fr_SI (cd_fr_refl _ _ _) (by decide) (by decide) _ _
  have fc : cd_fr [134] [17 + 3 * u] c c' := cd_fr_tr fe fc0 (fun k hk => ⟨by simp, hk⟩) (fun k hk => ⟨hk, by simp⟩)
  have fm : md_fr [41, 56, 64] m m' := by rw [hm']; exact md_fr_SI (md_fr_SI (md_fr_SA (md_fr_refl _ _) (by decide) _ _) (by decide) _) (by decide) _
  have x41 : mA m' 41 u = nI r := by rw [hm', mA_SI, mA_SI, mA_SAe]
  have x41o : ∀ i, i ≠ u → mA m' 41 i = mA m 41 i := fun i hi => by rw [hm', mA_SI, mA_SI, mA_SAi hi]
  have hc : ∀ F : List Nat, (∀ f, f ∈ F → f ∉ [134] ∧ f ≠ 193) → CE F c c' := fun F hF => CE.of fc hF
  have hm : ∀ G : List Nat, (∀ f, f ∈ G → f ∉ [41, 56, 64]) → ME G m m' := fun G hG => ME.of fm hG
  have o : ∀ q, q ∉ [41, 56, 64] → mN m' q = mN m q := fun q hq => mN_fr fm hq
  have o35 := o 35 (by decide)
  have o50 := o 50 (by decide)
  have o62 := o 62 (by decide)
  have o65 := o 65 (by decide)
  have A : ∀ f, f ∉ [41, 56, 64] → ∀ i, mA m' f i = mA m f i := fun f hf i => md_frA fm hf i
  have hrz : ∀ i, rsz c' (17 + 3 * i) = rsz (em c u 28 0 0) (17 + 3 * i) := fun i => by rw [rsz, rsz, cd_frz fc0 (by simp)]
  have hkp : KP m m' := KP.fr fm (by decide)
  have hcsE := hsE.1
  obtain ⟨a1, ⟨b1, b2, b3, b4, b5⟩, ⟨d1, d2, d3, d4, d5, d6⟩, e, ff, g, i1, i2, i3, ⟨gg, ll, i4⟩, i5, i6, -, i10, i11⟩ := h
  refine ⟨⟨?_, ?_, ?_, ?_, ?_, ?_, ?_, ?_, ?_⟩, fun i hi => ?_, ⟨?_, ?_, ?_, ?_, fun i hi => ?_⟩, fun i hi => (e i (by omega)).to (hc _ (by decide)) (hm _ (by decide)), fun v hv => (ff v (by omega)).to (hm _ (by decide)) (by omega), i1.to (hc _ (by decide)) (hm _ (by decide)) (by omega), i2.to (hc _ (by decide)) (hm _ (by decide)) (by omega), i3.to (hc _ (by decide)) (hm _ (by decide)), ⟨gg, ll, i4.me (hc _ (by decide)) (hm _ (by decide))⟩, i5.1.to (hc _ (by decide)) (hm _ (by decide)) (by omega), fun i hi => ?_, fun i hi h36 => ?_, fun i hi x hx => ?_, fun i hi => by
    obtain ⟨dd, e1, e2⟩ := i5.2.2 i (by omega)
    exact ⟨dd, e1, by rw [A 37 (by decide)]; exact e2⟩, by
    have cE : cN (em c u 28 0 0) 66 = mN m 35 := by rw [cN, em_I (by decide)]; exact c66
    have cE2 : cN (em c u 28 0 0) 138 = mN m 62 := by rw [cN, em_I (by decide)]; exact c138
    have x5 := hcsE.2.2.2.2.1
    rw [cE, cE2] at x5
    rw [o35, o62, scS_ext (c := em c u 28 0 0) (c' := c') (fun i _ => hrz i)]; omega⟩
  · rw [cd_frI fc (by decide) (by decide), md_frI fm (by decide)]; exact b1
  · rw [cd_frI fc (by decide) (by decide), md_frI fm (by decide)]; exact b2
  · rw [hc', cI_SIe]
  · rw [hm', mI_SIe]
  · rw [o62, md_frI fm (by decide)]; exact y62
  · omega
  · rw [o35, md_frI fm (by decide)]; exact y35
  · omega
  · rw [md_frI fm (by decide)]; exact h63
  · have cE : cN (em c u 28 0 0) 66 = mN m 35 := by rw [cN, em_I (by decide)]; exact c66
    have cE2 : cN (em c u 28 0 0) 138 = mN m 62 := by rw [cN, em_I (by decide)]; exact c138
    obtain ⟨x1, x2, x3, x4, x5, x6, x7, x8, x9⟩ := hcsE
    obtain ⟨t1, t2, t3, t4⟩ := x9 i (by omega)
    rw [cE, cE2] at t1
    refine ⟨by rw [hrz, o62, o35]; omega, ?_⟩
    rw [cd_frI fc0 (by decide) (by decide)]; exact t4
  · rw [o65, md_frI fm (by decide)]; exact d1
  · omega
  · rw [o50, md_frI fm (by decide)]; exact d3
  · omega
  · obtain ⟨l', l1, l2⟩ := d6 i (by omega)
    exact ⟨l', by rw [cd_frI fc (by decide) (by decide)]; exact l1, by omega⟩
  · by_cases hiu : i = u
    · rw [hiu]
      refine ⟨f, r, es, l, ns, hr, x41, ⟨hG.to hkp q35 (by omega) hnb.2.2.1 (TK.of (hm _ (by decide)) r ns), hgw.imp (fun g hg => Gen.gw hG hnb.2.2.1 (TK.of (hm _ (by decide)) r ns) hg)⟩, hnb.2.2.1, fun j hj h9 => by rw [o65]; exact (hnb.1 j hj h9).2, fun q hq => ?_, ?_, by rw [cd_frI fc (by decide) (by decide)]; exact h302, fun j hj h => hcov j (by omega) (by rw [A 67 (by decide)] at h; exact h)⟩
      · obtain ⟨z1, z2, z3⟩ := hnb.2.1 q hq
        exact ⟨by omega, by omega, by simp⟩
      · rw [rL_fr fc0 (by simp), em_L hrow hnow.2.1 (by omega), hrL, fE_app, fE_one]
    · have hcl := i6 i (by omega) (by simp [hiu])
      have hcl' : CL c m [] i := by
        obtain ⟨f, r, es, l, ns, a1, a2, a3, a4, a5, a6, a7, a8, a9⟩ := hcl
        exact ⟨f, r, es, l, ns, a1, a2, a3, a4, a5, fun q hq => ⟨(a6 q hq).1, (a6 q hq).2.1, by simp⟩, a7, a8, a9⟩
      exact hcl'.to (rL_fr fc (by simp; omega)) (cd_frI fc (by decide) (by decide) _) (x41o i hiu) hkp q35 (by omega) (by omega) (fun r ns _ _ _ => TK.of (hm _ (by decide)) r ns) (clk (hm _ (by decide)))
  · rw [A 36 (by decide)] at h36
    rw [cd_frJ fc (by decide) (by decide), md_frL fm (by decide)]
    exact hnames i (by omega) h36
  · have e30 : aN m' 30 i = aN m 30 i := by rw [aN, aN, A 30 (by decide)]
    have e31 : aN m' 31 (12 * i + x) = aN m 31 (12 * i + x) := by rw [aN, aN, A 31 (by decide)]
    rw [e30] at hx
    rw [e31, A 36 (by decide)]
    exact hmth i hi x hx
