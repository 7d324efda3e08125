/-! a module begins: the readers' state when its pattern is read, and when it is placed -/
theorem AGR.px {c c' : cd_S} {m m' : md_S} {p : Nat} (h : AGR c m) (hp : p < 240) (hR : RX c c' 193) (hP : PX m m' p) (h109 : cI c' 109 0 = cI c 109 0) (h103 : ∀ i, cAr c' 103 0 i = cAr c 103 0 i) (h48 : mI m' 48 = mI m 48) (h49 : ∀ i, mL m' 49 i = mL m 49 i) (h136 : ∀ i, mA m' 136 i = mA m 136 i) : AGR c' m' := by
  obtain ⟨a1, a2, a3, a4⟩ := h
  have e : mN m' 48 = mN m 48 := by unfold mN; rw [h48]
  refine ⟨by rw [h109, e]; exact a1, by rw [h48, e]; exact a2, by omega, fun i hi => ?_⟩
  obtain ⟨r1, r2, r3, r4, r5⟩ := a4 i (by omega)
  obtain ⟨x1, x2, x3, x4⟩ := hR.1 (168 + i) (by omega)
  exact ⟨r1.keepX hR hP (by omega) (by omega), by rw [x3, h49]; exact r2, ⟨x2.trans r3.1, by rw [x1]; exact r3.2⟩, by rw [h136]; exact r4, by rw [h103, h136]; exact r5⟩
theorem UR.pl {c c' : cd_S} {m m' : md_S} {i d : Nat} (h : UR c m i) (I : ∀ f, f ∉ [100, 101, 108] → f ≠ 193 → cI c' f i = cI c f i) (h293 : cJ c' 293 i = cJ c 293 i) (h300 : ∀ x, cAr c' 300 i x = cAr c 300 i x) (h101 : ∀ i, i ≠ d → cAr c' 101 0 i = cAr c 101 0 i) (hu : ∃ x, x < d ∧ mA m 37 i = nI x) (hd : d < 8) (fm : md_fr [] m m') : UR c' m' i := by
  have hmm : m' = m := by
    refine Prod.ext ?_ (Prod.ext ?_ (Prod.ext ?_ ?_))
    · funext k; exact ((fm k (by simp)).1).symm
    · funext k; exact ((fm k (by simp)).2.1).symm
    · funext k; exact ((fm k (by simp)).2.2.1).symm
    · funext k; exact ((fm k (by simp)).2.2.2).symm
  subst hmm
  obtain ⟨a1, a2, a3, a4, a5, a6, a7, a8, ⟨q0, z1, z2, z3⟩, ⟨q, q1, q2, q3, q4⟩, a11, ⟨x, d1, d2, d3, d4, d5, d6⟩⟩ := h
  have hxd : x ≠ d := by
    obtain ⟨y, y1, y2⟩ := hu
    have := (nI_eq (a := y) (b := x) (by omega) (by omega)).mp (y2.symm.trans d1)
    omega
  refine ⟨by rw [I 289 (by decide) (by decide)]; exact a1, a2, by rw [I 290 (by decide) (by decide)]; exact a3, a4, by rw [I 292 (by decide) (by decide)]; exact a5, by rw [I 294 (by decide) (by decide)]; exact a6, a7, by rw [I 296 (by decide) (by decide)]; exact a8, ⟨q0, z1, z2, by rw [I 298 (by decide) (by decide)]; exact z3⟩, ⟨q, q1, by rw [I 299 (by decide) (by decide)]; exact q2, q3, fun y hy => ?_⟩, ?_, ⟨x, d1, d2, by rw [I 291 (by decide) (by decide), h101 x hxd]; exact d3, by rw [I 297 (by decide) (by decide)]; exact d4, by rw [I 301 (by decide) (by decide)]; exact d5, by rw [h293]; exact d6⟩⟩
  · obtain ⟨v, v1, v2, v3, v4⟩ := q4 y hy
    exact ⟨v, v1, v2, by rw [h300]; exact v3, v4⟩
  · rw [I 295 (by decide) (by decide)]; exact a11
theorem OST.pat {c c' : cd_S} {m m' : md_S} {mc p : Nat} (h : OST c m mc) (hp : p < 8) (hR : RX c c' 193) (hP : PX m m' p) (fc : cd_fr [160, 161, 162, 163, 327, 328, 329, 330] [] c c') (fm : md_fr [6, 7, 8, 9, 10, 11, 12, 13, 14, 15, 17, 18, 19] m m') : OST c' m' mc := by
  have hc : ∀ F : List Nat, (∀ f, f ∈ F → f ∉ [160, 161, 162, 163, 327, 328, 329, 330] ∧ f ≠ 193) → CE F c c' := fun F hF => CE.of fc hF
  have hm : ∀ G : List Nat, (∀ f, f ∈ G → f ∉ [6, 7, 8, 9, 10, 11, 12, 13, 14, 15, 17, 18, 19]) → ME G m m' := fun G hG => ME.of fm hG
  have o : ∀ q, q ∉ [6, 7, 8, 9, 10, 11, 12, 13, 14, 15, 17, 18, 19] → mN m' q = mN m q := fun q hq => mN_fr fm hq
  have o35 := o 35 (by decide)
  have o50 := o 50 (by decide)
  have o62 := o 62 (by decide)
  have o65 := o 65 (by decide)
  have A : ∀ f, f ∉ [6, 7, 8, 9, 10, 11, 12, 13, 14, 15, 17, 18, 19] → ∀ i, mA m' f i = mA m f i := fun f hf i => md_frA fm hf i
  have I : ∀ f, f ∉ [160, 161, 162, 163, 327, 328, 329, 330] → f ≠ 193 → ∀ i, cI c' f i = cI c f i := fun f h1 h2 i => cd_frI fc h1 h2 i
  obtain ⟨⟨p1, p2, p3, p4, p5, p6, p7, p8, p9⟩, r1, ⟨d1, d2, d3, d4, d6⟩, e, f, i1, i2, i3, ⟨gg, ll, i4⟩, i5, i6, i7, i8, i9, i10⟩ := h
  have e50 : mN m 50 ≤ 500 := by omega
  refine ⟨⟨by rw [I 138 (by decide) (by decide), md_frI fm (by decide)]; exact p1, by rw [I 66 (by decide) (by decide), md_frI fm (by decide)]; exact p2, by rw [I 134 (by decide) (by decide)]; exact p3, by rw [md_frI fm (by decide)]; exact p4, by rw [o62, md_frI fm (by decide)]; exact p5, by omega, by rw [o35, md_frI fm (by decide)]; exact p7, by omega, by rw [md_frI fm (by decide)]; exact p9⟩, fun i hi => ?_, ⟨by rw [o65, md_frI fm (by decide)]; exact d1, by omega, by rw [o50, md_frI fm (by decide)]; exact d3, by omega, fun i hi => ?_⟩, fun i hi => (e i (by omega)).to (hc _ (by decide)) (hm _ (by decide)), fun v hv => (f v (by omega)).to (hm _ (by decide)) (by omega), i1.to (hc _ (by decide)) (hm _ (by decide)) (by omega), i2.to (hc _ (by decide)) (hm _ (by decide)) (by omega), i3.px (by omega) hR hP (I 109 (by decide) (by decide) 0) (fun i => cd_frA fc (by decide) (by decide) 0 i) (md_frI fm (by decide)) (fun i => md_frL fm (by decide) i) (fun i => md_frA fm (by decide) i), ⟨gg, ll, i4.to (I 106 (by decide) (by decide) 0) (I 107 (by decide) (by decide) 0) (fun i _ => cd_frA fc (by decide) (by decide) 0 i) (fun i _ => cd_frA fc (by decide) (by decide) 0 i) (fun x hx => hR.1 x (by omega)) (md_frI fm (by decide)) (md_frI fm (by decide)) (fun x h1 h2 => hP x (by omega)) (fun i => md_frA fm (by decide) i) (fun i => md_frL fm (by decide) i)⟩, i5.to (hc _ (by decide)) (hm _ (by decide)) (by omega), fun i hi => ?_, fun i hi h36 => ?_, fun i hi x hx => ?_, fun i hi => by
    obtain ⟨dd, e1, e2⟩ := i9 i (by omega)
    exact ⟨dd, e1, by rw [A 37 (by decide)]; exact e2⟩, by rw [o35, o62, scS_ext (c := c) (c' := c') (fun i _ => by rw [rsz, rsz, cd_frz fc (by simp)])]; exact i10⟩
  · obtain ⟨t1, t2⟩ := r1 i (by omega)
    have : rsz c' (17 + 3 * i) = rsz c (17 + 3 * i) := by rw [rsz, rsz, cd_frz fc (by simp)]
    exact ⟨by rw [this]; omega, by rw [I 288 (by decide) (by decide)]; exact t2⟩
  · obtain ⟨l, l1, l2⟩ := d6 i (by omega)
    exact ⟨l, by rw [I 302 (by decide) (by decide)]; exact l1, by omega⟩
  · exact (i6 i (by omega)).to (rL_fr fc (by simp)) (I 302 (by decide) (by decide) _) (A 41 (by decide) i) (KP.of (hm _ (by decide))) p8 e50 (by omega) (fun r ns _ _ _ => TK.of (hm _ (by decide)) r ns) (clk (hm _ (by decide)))
  · rw [A 36 (by decide)] at h36
    rw [cd_frJ fc (by decide) (by decide), md_frL fm (by decide)]
    exact i7 i (by omega) h36
  · have e30 : aN m' 30 i = aN m 30 i := by rw [aN, aN, A 30 (by decide)]
    have e31 : aN m' 31 (12 * i + x) = aN m 31 (12 * i + x) := by rw [aN, aN, A 31 (by decide)]
    rw [e30] at hx
    rw [e31, A 36 (by decide)]
    exact i8 i hi x hx
theorem OST.place {c c' : cd_S} {m m' : md_S} {mc d : Nat} (h : OST c m mc) (hd : d < 8) (h101 : ∀ i, i ≠ d → cAr c' 101 0 i = cAr c 101 0 i) (hu : ∀ i, i < mN m 35 → ∃ x, x < d ∧ mA m 37 i = nI x) (fc : cd_fr [100, 101, 108] [] c c') (fm : md_fr [] m m') : OST c' m' mc := by
  have hc : ∀ F : List Nat, (∀ f, f ∈ F → f ∉ [100, 101, 108] ∧ f ≠ 193) → CE F c c' := fun F hF => CE.of fc hF
  have hm : ∀ G : List Nat, (∀ f, f ∈ G → f ∉ []) → ME G m m' := fun G hG => ME.of fm hG
  have o : ∀ q, q ∉ [] → mN m' q = mN m q := fun q hq => mN_fr fm hq
  have o35 := o 35 (by decide)
  have o50 := o 50 (by decide)
  have o62 := o 62 (by decide)
  have o65 := o 65 (by decide)
  have A : ∀ f, f ∉ [] → ∀ i, mA m' f i = mA m f i := fun f hf i => md_frA fm hf i
  have I : ∀ f, f ∉ [100, 101, 108] → f ≠ 193 → ∀ i, cI c' f i = cI c f i := fun f h1 h2 i => cd_frI fc h1 h2 i
  obtain ⟨⟨p1, p2, p3, p4, p5, p6, p7, p8, p9⟩, r1, ⟨d1, d2, d3, d4, d6⟩, e, f, i1, i2, i3, ⟨gg, ll, i4⟩, i5, i6, i7, i8, i9, i10⟩ := h
  have e50 : mN m 50 ≤ 500 := by omega
  refine ⟨⟨by rw [I 138 (by decide) (by decide), md_frI fm (by decide)]; exact p1, by rw [I 66 (by decide) (by decide), md_frI fm (by decide)]; exact p2, by rw [I 134 (by decide) (by decide)]; exact p3, by rw [md_frI fm (by decide)]; exact p4, by rw [o62, md_frI fm (by decide)]; exact p5, by omega, by rw [o35, md_frI fm (by decide)]; exact p7, by omega, by rw [md_frI fm (by decide)]; exact p9⟩, fun i hi => ?_, ⟨by rw [o65, md_frI fm (by decide)]; exact d1, by omega, by rw [o50, md_frI fm (by decide)]; exact d3, by omega, fun i hi => ?_⟩, fun i hi => (e i (by omega)).pl (fun f h1 h2 => I f h1 h2 i) (cd_frJ fc (by decide) (by decide) i) (fun x => cd_frA fc (by decide) (by decide) i x) h101 (hu i (by omega)) hd fm, fun v hv => (f v (by omega)).to (hm _ (by decide)) (by omega), i1.to (hc _ (by decide)) (hm _ (by decide)) (by omega), i2.to (hc _ (by decide)) (hm _ (by decide)) (by omega), i3.to (hc _ (by decide)) (hm _ (by decide)), ⟨gg, ll, i4.me (hc _ (by decide)) (hm _ (by decide))⟩, i5.to (hc _ (by decide)) (hm _ (by decide)) (by omega), fun i hi => ?_, fun i hi h36 => ?_, fun i hi x hx => ?_, fun i hi => by
    obtain ⟨dd, e1, e2⟩ := i9 i (by omega)
    exact ⟨dd, e1, by rw [A 37 (by decide)]; exact e2⟩, by rw [o35, o62, scS_ext (c := c) (c' := c') (fun i _ => by rw [rsz, rsz, cd_frz fc (by simp)])]; exact i10⟩
  · obtain ⟨t1, t2⟩ := r1 i (by omega)
    have : rsz c' (17 + 3 * i) = rsz c (17 + 3 * i) := by rw [rsz, rsz, cd_frz fc (by simp)]
    exact ⟨by rw [this]; omega, by rw [I 288 (by decide) (by decide)]; exact t2⟩
  · obtain ⟨l, l1, l2⟩ := d6 i (by omega)
    exact ⟨l, by rw [I 302 (by decide) (by decide)]; exact l1, by omega⟩
  · exact (i6 i (by omega)).to (rL_fr fc (by simp)) (I 302 (by decide) (by decide) _) (A 41 (by decide) i) (KP.of (hm _ (by decide))) p8 e50 (by omega) (fun r ns _ _ _ => TK.of (hm _ (by decide)) r ns) (clk (hm _ (by decide)))
  · rw [A 36 (by decide)] at h36
    rw [cd_frJ fc (by decide) (by decide), md_frL fm (by decide)]
    exact i7 i (by omega) h36
  · have e30 : aN m' 30 i = aN m 30 i := by rw [aN, aN, A 30 (by decide)]
    have e31 : aN m' 31 (12 * i + x) = aN m 31 (12 * i + x) := by rw [aN, aN, A 31 (by decide)]
    rw [e30] at hx
    rw [e31, A 36 (by decide)]
    exact i8 i hi x hx
def amE (c : cd_S) (d : Nat) (v : Int64) : cd_S := cSI (cSI (cSA (cSA (cSA (cSA (cSL c 67 0 d v) 68 0 d (-1)) 70 0 d 0) 71 0 d 0) 73 0 d 0) 74 0 (nI (d + 1))) 137 0 (nI d)
def nmE (m : md_S) (d : Nat) (u : Int64) : md_S := mSA (mSA (mSA (mSL m 26 d u) 27 d (-1)) 28 d 0) 30 d 0
theorem c_addModule {n : Nat} {c : cd_S} {d : Nat} {v : Int64} (hd : d < 8) (h74 : cI c 74 0 = nI d) : ∃ c1, f_X2_addModule n c v = some (nI d, c1) ∧ cSI c1 137 0 (nI d) = amE c d v := by
  unfold f_X2_addModule f_X2_addModule_J18
  rw [h74, if_neg (show ¬ (8 : Int32) ≤ nI d from fun y => absurd ((nI_leI (a := 8) (by decide) (by omega)).mp y) (by omega)), c_st67 hd, bs_some, c_st68 hd, bs_some, c_st70 hd, bs_some, c_st71 hd, bs_some, c_st73 hd, bs_some, bs_some, nI_1]
  exact ⟨_, rfl, rfl⟩
theorem amE_fr (c : cd_S) (d : Nat) (v : Int64) : cd_fr [67, 68, 70, 71, 73, 74, 137] [] c (amE c d v) := cd_fr_SI (cd_fr_SI (cd_fr_SA (cd_fr_SA (cd_fr_SA (cd_fr_SA (cd_fr_SL (cd_fr_refl _ _ _) (by decide) _ _ _) (by decide) _ _ _) (by decide) _ _ _) (by decide) _ _ _) (by decide) _ _ _) (by decide) (by decide) _ _) (by decide) (by decide) _ _
theorem nmE_fr (m : md_S) (d : Nat) (u : Int64) : md_fr [26, 27, 28, 30] m (nmE m d u) := md_fr_SA (md_fr_SA (md_fr_SA (md_fr_SL (md_fr_refl _ _) (by decide) _ _) (by decide) _ _) (by decide) _ _) (by decide) _ _
theorem OST.new {c : cd_S} {m : md_S} {d : Nat} {v u : Int64} (h : OST c m d) (hd : d < 8) (hvu : NR v u) : OST (amE c d v) (mSI (nmE m d u) 25 (nI (d + 1))) (d + 1) := by
  have fc := amE_fr c d v
  have fm : md_fr [25, 26, 27, 28, 30] m (mSI (nmE m d u) 25 (nI (d + 1))) := md_fr_SI (md_fr_mono (nmE_fr m d u) (by decide)) (by decide) _
  have h' := h
  obtain ⟨-, -, -, -, -, -, -, -, -, hMD, -, -, hmth, -⟩ := h'
  have o30 : ∀ i, i ≠ d → mA (mSI (nmE m d u) 25 (nI (d + 1))) 30 i = mA m 30 i := fun i hi => by rw [mA_SI, nmE, mA_SAi hi, mA_SAo (by decide), mA_SAo (by decide), mA_SL]
  have x30 : mA (mSI (nmE m d u) 25 (nI (d + 1))) 30 d = 0 := by rw [mA_SI, nmE, mA_SAe]
  have hM : MDR (amE c d v) (mSI (nmE m d u) 25 (nI (d + 1))) (d + 1) := by
    refine hMD.new hd fc fm (fun i hi => ?_) (fun f hf i hi => ?_) (fun f hf i hi => ?_) (fun i hi => ?_) ?_ ?_ ?_ ?_ ?_ ?_ ?_ ?_ ?_ x30
    · rw [amE, cL_SI, cL_SI, cL_SA, cL_SA, cL_SA, cL_SA, cL_SLi hi]
    · have hf : f = 68 ∨ f = 70 ∨ f = 71 ∨ f = 73 := by simpa using hf
      rcases hf with rfl | rfl | rfl | rfl
      · rw [amE, cA_SI, cA_SI, cA_SAo (by decide), cA_SAo (by decide), cA_SAo (by decide), cA_SAi hi, cA_SL]
      · rw [amE, cA_SI, cA_SI, cA_SAo (by decide), cA_SAo (by decide), cA_SAi hi, cA_SAo (by decide), cA_SL]
      · rw [amE, cA_SI, cA_SI, cA_SAo (by decide), cA_SAi hi, cA_SAo (by decide), cA_SAo (by decide), cA_SL]
      · rw [amE, cA_SI, cA_SI, cA_SAi hi, cA_SAo (by decide), cA_SAo (by decide), cA_SAo (by decide), cA_SL]
    · have hf : f = 27 ∨ f = 28 ∨ f = 30 := by simpa using hf
      rcases hf with rfl | rfl | rfl
      · rw [mA_SI, nmE, mA_SAo (by decide), mA_SAo (by decide), mA_SAi hi, mA_SL]
      · rw [mA_SI, nmE, mA_SAo (by decide), mA_SAi hi, mA_SAo (by decide), mA_SL]
      · exact o30 i hi
    · show mL (nmE m d u) 26 i = mL m 26 i
      rw [nmE, mL_SA, mL_SA, mL_SA, mL_SLi hi]
    · rw [amE, cI_SIo (by decide), cI_SIe]
    · exact mI_SIe
    · have e1 : cLr (amE c d v) 67 0 d = v := by rw [amE, cL_SI, cL_SI, cL_SA, cL_SA, cL_SA, cL_SA, cL_SLe]
      have e2 : mL (mSI (nmE m d u) 25 (nI (d + 1))) 26 d = u := by
        show mL (nmE m d u) 26 d = u
        rw [nmE, mL_SA, mL_SA, mL_SA, mL_SLe]
      rw [e1, e2]; exact hvu
    · rw [amE, cA_SI, cA_SI, cA_SAo (by decide), cA_SAo (by decide), cA_SAo (by decide), cA_SAe]
    · rw [mA_SI, nmE, mA_SAo (by decide), mA_SAo (by decide), mA_SAe]
    · rw [amE, cA_SI, cA_SI, cA_SAo (by decide), cA_SAo (by decide), cA_SAe]
    · rw [mA_SI, nmE, mA_SAo (by decide), mA_SAe]
    · rw [amE, cA_SI, cA_SI, cA_SAo (by decide), cA_SAe]
    · rw [amE, cA_SI, cA_SI, cA_SAe]
  refine h.md (cd_fr_mono fc (by decide) (fun _ y => y)) (md_fr_mono fm (by decide)) hM (by omega) (fun i hi x hx => ?_)
  by_cases hid : i = d
  · have : aN (mSI (nmE m d u) 25 (nI (d + 1))) 30 i = 0 := by rw [aN, hid, x30]; rfl
    omega
  · have z1 : aN (mSI (nmE m d u) 25 (nI (d + 1))) 30 i = aN m 30 i := by rw [aN, aN, o30 i hid]
    have z2 : aN (mSI (nmE m d u) 25 (nI (d + 1))) 31 (12 * i + x) = aN m 31 (12 * i + x) := by rw [aN, aN, md_frA fm (by decide)]
    rw [z1] at hx
    rw [z2, md_frA fm (by decide)]
    exact hmth i (by omega) x hx
