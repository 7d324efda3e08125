/-! behind reading: domains, groups, needs, askings, code: both come to the plan -/
theorem GN.fr {c c' : cd_S} {u g : Nat} {F R : List Nat} (h : GN c u g) (hf : cd_fr F R c c') (hF : ∀ x, x ∈ [289, 293, 294] → x ∉ F) : GN c' u g := by
  have e1 : ∀ u, cI c' 289 u = cI c 289 u := fun u => cd_frI hf (hF 289 (by decide)) (by decide) u
  have e2 : ∀ u, cI c' 294 u = cI c 294 u := fun u => cd_frI hf (hF 294 (by decide)) (by decide) u
  have e3 : ∀ u, cJ c' 293 u = cJ c 293 u := fun u => cd_frJ hf (hF 293 (by decide)) (by decide) u
  unfold GN GRP at h ⊢
  simp only [e1, e2, e3]
  exact h
theorem DomR.fr {c c' : cd_S} {m m' : md_S} {z : Nat} {F R G : List Nat} (h : DomR c m z) (hf : cd_fr F R c c') (hm : md_fr G m m') (hF : ∀ x, x ∈ [100, 108] → x ∉ F) (hG : ∀ x, x ∈ [33, 34] → x ∉ G) : DomR c' m' z := by
  obtain ⟨d1, d2, d3, d4⟩ := h
  exact ⟨d1, by rw [cd_frI hf (hF 108 (by decide)) (by decide)]; exact d2, by rw [md_frI hm (hG 34 (by decide))]; exact d3, fun x hx => by rw [cd_frA hf (hF 100 (by decide)) (by decide), md_frA hm (hG 33 (by decide))]; exact d4 x hx⟩
theorem OST.ccx {c c3 : cd_S} {m : md_S} {d z : Nat} {S : Nat → Prop} (h : OST c m d) (hf : cd_fr [104, 259, 297, 301] [] c c3) (hS : ∀ u, u < mN m 35 → (S u ↔ cI c3 301 u ≠ 0)) (hz : z ≤ 8) (hd : ∀ i, i < d → ∃ t, t < z ∧ cAr c 101 0 i = nI t ∧ mA m 32 i = nI t) : CCX c3 m (mN m 35) S := by
  obtain ⟨-, -, -, -, h62, h66, -⟩ := h.nb
  have hug := h.ug
  obtain ⟨⟨p1, p2, p3, p4, p5, p6, p7, p8, p9⟩, r1, -, e, f, i1, i2, i3, -, i5, i6, i7, i8, i9, i10⟩ := h
  refine ⟨by rw [cd_frI hf (by decide) (by decide)]; exact h66, hug.fr hf (by decide), i2.cfr hf (by decide), h62, hS, fun u hu => ?_⟩
  have hur := e u hu
  obtain ⟨d0, e1, e2⟩ := i9 u hu
  obtain ⟨t, t1, t2, t3⟩ := hd d0 e1
  have h8 := i5.1
  refine ⟨by rw [cd_frI hf (by decide) (by decide)]; exact (r1 u hu).2, hur.lu.fr hf (by decide), ?_, ⟨d0, t, by omega, e2, t3, by omega, ?_⟩, ?_⟩
  · obtain ⟨-, -, -, -, -, -, -, w, -⟩ := hur
    rw [cd_frI hf (by decide) (by decide)]; exact w
  · obtain ⟨-, -, -, -, -, -, -, -, -, -, -, ⟨d', x1, x2, x3, -⟩⟩ := hur
    have : d' = d0 := (nI_eq (by omega) (by omega)).mp (x1.symm.trans e2)
    rw [cd_frI hf (by decide) (by decide), x3, this]; exact t2
  · have : rsz c3 (17 + 3 * u) = rsz c (17 + 3 * u) := by rw [rsz, rsz, cd_frz hf (by simp)]
    rw [this]
    have := (r1 u hu).1
    omega
theorem OST.mcx {c : cd_S} {m : md_S} {d : Nat} (h : OST c m d) (hL : ∀ v, v < mN m 35 → (mA m 47 v ≠ 0 ↔ LF m v)) : MCX m (mN m 35) (LF m) := by
  refine ⟨h.ms, h.nb.1, hL, LF_clo h.ms, fun q hq => ?_⟩
  obtain ⟨b1, b2, b3, b4, b5⟩ := h.nb.1
  obtain ⟨-, -, -, e, -⟩ := h
  obtain ⟨-, -, -, -, -, -, -, -, -, ⟨K, k1, k2, k3, k4⟩, -, -⟩ := e q hq
  have ek : aN m 44 q = K := aN_of k3 (by omega)
  rw [ek]
  refine ⟨k3, fun x hx => ?_⟩
  obtain ⟨v, v1, v2, -⟩ := k4 x hx
  rw [aN_of v2 (by omega)]; exact v2
theorem OST.cod {n : Nat} {c c3 : cd_S} {m : md_S} {d u : Nat} {S : Nat → Prop} {R : Bool} (hn : 100 ≤ n) (h : OST c m d) (hf : cd_fr [104, 259, 297, 301] [] c c3) (hM : MCX m (mN m 35) S) (hX : CCX c3 m (mN m 35) S) (hu : u < mN m 35) : ∃ bs, COD n c3 m u S R bs := by
  have hb := h.nb
  obtain ⟨f, r, es, l, ns, a1, a2, a3, a4, a5, a6, a7, a8, -⟩ := h.cl hu
  obtain ⟨-, -, -, e, fv, -, -, -, ⟨gg, ll, i4⟩, -⟩ := h
  obtain ⟨-, ⟨s, s1, s2⟩, -⟩ := e u hu
  refine cod_ex hn hM hX hu fv hb.2.2.2.1 ⟨s, s1, s2, fun h3 => ?_⟩ ⟨f, r, es, l, ns, a1, a2, a3, a4, a5, a6, a7, by rw [rL_fr hf (by simp)]; exact a8⟩
  obtain ⟨a, y1, y2⟩ := hb.2.2.2.2.2.2.2.1 u hu (by rw [s2, h3]; rfl)
  have : mN m 22 = ll := mN_of i4.2.2.2.2.2.2.1 (by have := i4.2.2.1; omega)
  have := i4.2.2.1
  exact ⟨a, by omega, y2⟩
theorem CR17 : ∀ u, u < 60 → 17 + 3 * u ∉ CR := by decide
theorem rest_ok {n : Nat} {C : Nat × Nat} {c : cd_S} {m : md_S} {b : cd_B} {d : Nat} (hn : 1000000 ≤ n) (hC : BC C) (h : MST c m d) (h7 : P7 1280 m 0) (hBd : Bd C c b) (hN : NN c) : ∃ c' b' m', PRest n c b = some (Sum.inl (nI (mN m 35), c', b')) ∧ ble b' b ∧ f_X12_program_J165 n (mSI m 5 1) 0 = some (nI (mN m 35), m') ∧ Bd C c' b' ∧ NN c' ∧ PLN n c' m' d ∧ cd_fr [79, 104, 259, 297, 301, 362] CR c c' ∧ md_fr [0, 5, 32, 33, 34, 47, 74, 75, 76, 77, 78, 79] m m' ∧ cI c' 362 0 = 1 ∧ mI m' 5 = 1 ∧ mI m' 0 = 0 := by
  obtain ⟨σ1, hσ1⟩ : ∃ z, z = mSI (mSI m 5 1) 0 0 := ⟨_, rfl⟩
  have fσ : md_fr [0, 5, 32, 33, 34, 47] m σ1 := by rw [hσ1]; exact md_fr_SI (md_fr_SI (md_fr_refl _ _) (by decide) _) (by decide) _
  have hS1 := h.fr fσ
  obtain ⟨m1, e1, e2, z, hD, h101⟩ := dom_ok (n := n) (by omega) hS1
  have hO1 : OST c m1 d := hS1.1.dom (cd_fr_refl _ _ _) (md_fr_mono e2 (by decide))
  obtain ⟨m2, g1, g2, g3⟩ := m_needs (n := n) (by omega) hO1.ms
  have hO2 : OST c m2 d := hO1.dom (cd_fr_refl _ _ _) (md_fr_mono g2 (by decide))
  have n35 : mN m2 35 = mN m1 35 := mN_fr g2 (by decide)
  have n35' : mN m1 35 = mN m 35 := by rw [mN_fr e2 (by decide), mN_fr fσ (by decide)]
  have fm2 : md_fr [0, 5, 32, 33, 34, 47] m m2 := md_fr_tr (md_fr_tr fσ e2 (L3 := [0, 5, 32, 33, 34, 47]) (fun k hk => ⟨hk, fun y => hk (by simp at y ⊢; omega)⟩)) g2 (fun k hk => ⟨hk, fun y => hk (by simp at y ⊢; omega)⟩)
  have hb1 := hO1.nb
  obtain ⟨b1, -⟩ := hb1.1
  obtain ⟨c1, a1, a2, a3⟩ := settle_ok (n := n) (c := c) (U := mN m1 35) (by omega) hb1.2.2.2.2.2.1 b1
  have hNAR : NAR c m1 := by
    obtain ⟨-, -, -, -, -, -, i2, -⟩ := hO1
    exact i2
  have hNS : NS c1 m1 (mN m1 35) := by
    refine ⟨by rw [cd_frI a2 (by decide) (by decide)]; exact hb1.2.2.2.2.2.1, b1, rfl, hO1.ug.fr a2 (by decide), hNAR.cfr a2 (by decide), hb1.2.2.2.2.1, fun u hu => ?_, hb1.2.2.2.2.2.2.1, fun u hu => ?_⟩
    · obtain ⟨es, ns, q1, q2⟩ := hO1.trs hBd u hu
      exact ⟨es, ns, q1.fr a2 (by simp), q2⟩
    · obtain ⟨g, y1, y2, y3⟩ := a3 u hu
      exact ⟨g, y1, y2, y3.fr a2 (by decide)⟩
  have h0 : ∀ u, u < mN m1 35 → cI c1 301 u = 0 := fun u hu => by
    obtain ⟨-, -, -, e, -⟩ := hO1
    obtain ⟨-, -, -, -, -, -, -, -, -, -, -, ⟨d', x1, x2, x3, x4, x5, -⟩⟩ := e u hu
    rw [cd_frI a2 (by decide) (by decide)]; exact x5
  obtain ⟨c2, d1, d2, d3⟩ := c_needs (n := n) hn hNS h0
  have fc2 : cd_fr [104, 259, 297, 301] [] c c2 := cd_fr_tr a2 d2 (fun k hk => ⟨fun y => hk (by simp at y ⊢; omega), fun y => hk (by simp at y ⊢; omega)⟩) (fun k hk => ⟨hk, hk⟩)
  obtain ⟨hO, ⟨g, l, hP, hDT⟩, hsl⟩ := h
  have hP2 : PolQ c2 m2 g g l := hP.fr fc2 fm2 (by decide) (by decide)
  have hD2 : DomR c2 m2 z := hD.fr fc2 g2 (by decide) (by decide)
  have hA2 : AGR c2 m2 := by
    obtain ⟨-, -, -, -, -, -, -, i3, -⟩ := hO2
    exact i3.to (CE.of fc2 (by decide)) (ME.refl _ _)
  obtain ⟨c3, s1, s2, s3⟩ := c_setA (n := n) (by omega) hP2 hD2 hA2
  have fc3 : cd_fr [104, 259, 297, 301] [] c c3 := cd_fr_tr fc2 s2 (fun k hk => ⟨hk, fun y => hk (by simp at y ⊢; omega)⟩) (fun k hk => ⟨hk, hk⟩)
  have hL : ∀ u, LF m2 u ↔ LF m1 u := fun u => LF_fr g2 (by decide)
  have hM : MCX m2 (mN m2 35) (LF m2) := hO2.mcx (fun v hv => by rw [hL]; exact g3 v (by omega))
  have h101' : ∀ i, i < d → ∃ t, t < z ∧ cAr c 101 0 i = nI t ∧ mA m2 32 i = nI t := fun i hi => by
    obtain ⟨t, t1, t2, t3⟩ := h101 i hi
    exact ⟨t, t1, t2, by rw [md_frA g2 (by decide)]; exact t3⟩
  have hX : CCX c3 m2 (mN m2 35) (LF m2) := hO2.ccx fc3 (fun u hu => by rw [hL, cd_frI s2 (by decide) (by decide)]; exact (d3 u (by omega)).symm) hD.1 h101'
  have hex : ∀ u R, ∃ bs, u < mN m2 35 → COD n c3 m2 u (LF m2) R bs := fun u R => by
    by_cases hu : u < mN m2 35
    · obtain ⟨bs, hbs⟩ := hO2.cod (n := n) (R := R) (by omega) fc3 hM hX hu
      exact ⟨bs, fun _ => hbs⟩
    · exact ⟨[], fun y => absurd y hu⟩
  obtain ⟨B, hB⟩ : ∃ B : Nat → Bool → List Nat, ∀ u R, u < mN m2 35 → COD n c3 m2 u (LF m2) R (B u R) := ⟨fun u R => Classical.choose (hex u R), fun u R => Classical.choose_spec (hex u R)⟩
  have hBd3 : Bd C c3 b := hBd.fr fc3
  have hN3 : NN c3 := fun x hx => by rw [cd_frA fc3 (by decide) (by decide)]; exact hN x hx
  obtain ⟨c4, b4, w1, w2, w3, w4, w5, w6⟩ := c_writeCode (b := b) hn hC s1 hM hX hB hBd3 hN3
  obtain ⟨m3, x1, x2, x3⟩ := m_writeAll (n := n) (by omega) hM hB (by
    have := hO2.nb.2.2.2.2.2.2.2.2
    rw [scS_ext (c := c) (c' := c3) (fun i _ => by rw [rsz, rsz, cd_frz fc3 (by simp)])]; exact this)
  have f5 : cd_fr [79, 362] CR c3 (cSI c4 362 0 1) := cd_fr_SI (cd_fr_mono w5 (by decide) (fun _ y => y)) (by decide) (by decide) _ _
  have f6 : cd_fr [362] [] c4 (cSI c4 362 0 1) := cd_fr_SI (cd_fr_refl _ _ _) (by decide) (by decide) _ _
  have hu66 : cI (cSI c4 362 0 1) 66 0 = nI (mN m 35) := by
    rw [cd_frI f5 (by decide) (by decide), ← n35', ← n35]; exact hX.1
  have hσ0 : mI σ1 0 = 0 := by rw [hσ1, mI_SIe]
  have hσ5 : mI σ1 5 = 1 := by rw [hσ1, mI_SIo (by decide), mI_SIe]
  have f13 : md_fr [32, 33, 34, 47, 74, 75, 76, 77, 78, 79] σ1 m3 := md_fr_tr (md_fr_tr e2 g2 (L3 := [32, 33, 34, 47]) (fun k hk => ⟨fun y => hk (by simp at y ⊢; omega), fun y => hk (by simp at y ⊢; omega)⟩)) x2 (fun k hk => ⟨fun y => hk (by simp at y ⊢; omega), fun y => hk (by simp at y ⊢; omega)⟩)
  refine ⟨cSI c4 362 0 1, b4, m3, ?_, w3, ?_, w2.fr f6, fun x hx => ?_, ⟨c3, m2, ⟨⟨c, hO2, fc3, h7.fr fm2 (by decide) (by decide)⟩, ⟨g, l, z, hP2.fr s2 (md_fr_refl m2 []) (by decide) (by decide), hD2.fr s2 (md_fr_refl m2 []) (by decide) (by decide), fun i hi => ?_, fun x hx h1 => (s3 x hx h1).fr s2 (by decide)⟩, fun u hu => ?_, hM, hX⟩, CE.of f5 (by decide), ⟨fun x hx => ⟨cd_frI f5 (by decide) (by decide) _, cd_frI f5 (by decide) (by decide) _, cd_frJ f5 (by decide) (by decide) _, fun i => cd_frL f5 (by decide) (by decide) _ _⟩, fun u hu => rL_fr f5 (CR17 u hu)⟩, ME.of x2 (by decide), fun x hx => ⟨md_frA x2 (by decide) _, md_frA x2 (by decide) _, fun i _ => md_frL x2 (by decide) _⟩, fun u R hu => ?_⟩, ?_, ?_, cI_SIe, ?_, ?_⟩
  · unfold PRest
    rw [a1, bs_some]
    dsimp only
    rw [d1, bs_some]
    dsimp only
    rw [w1, bs_some]
    refine c_ck ?_ (Nat.le_refl _) (Nat.le_refl _)
    dsimp only
    rw [bs_some, hu66]
  · unfold f_X12_program_J165
    rw [bs_some, ← hσ1, hσ5, if_neg ne10, e1, bs_some]
    dsimp only
    rw [g1, bs_some]
    dsimp only
    rw [x1, bs_some]
    dsimp only
    rw [md_frI x2 (by decide), hO2.nb.2.1, n35, n35']
  · rw [cd_frA f6 (by decide) (by decide)]; exact w4 x hx
  · obtain ⟨t, t1, t2, t3⟩ := h101' i hi
    exact ⟨t, t1, by rw [cd_frA fc3 (by decide) (by decide)]; exact t2, t3⟩
  · obtain ⟨q, y1, y2, y3⟩ := a3 u (by omega)
    exact ⟨q, by omega, by rw [cd_frI s2 (by decide) (by decide), cd_frI d2 (by decide) (by decide)]; exact y2, y3.fr fc3 (by decide)⟩
  · obtain ⟨p, p1, p2⟩ := x3 u R hu
    exact ⟨B u R, p, hB u R hu, by rw [rL_fr f6 (by simp)]; exact w6 u R hu, p1, p2⟩
  · exact cd_fr_tr fc3 f5 (fun k hk => ⟨fun y => hk (by simp at y ⊢; omega), fun y => hk (by simp at y ⊢; omega)⟩) (fun k hk => ⟨by simp, hk⟩)
  · exact md_fr_tr fm2 x2 (fun k hk => ⟨fun y => hk (by simp at y ⊢; omega), fun y => hk (by simp at y ⊢; omega)⟩)
  · rw [md_frI f13 (by decide)]; exact hσ5
  · rw [md_frI f13 (by decide)]; exact hσ0
