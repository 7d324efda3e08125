/-! may, class against model -/
theorem WFN.ops10 {m : md_S} {i j : Nat} (h : WFN m i j) (hk : mA m 66 i = 10) : ∃ a, mA m 68 i = nI a ∧ a < mN m 35 ∧ SP m a := by
  unfold WFN at h
  rw [hk] at h
  simp (decide := true) at h
  obtain ⟨-, -, a, h3, h4, -⟩ := h
  exact ⟨a, h3, h4.1, h4.2⟩
theorem PL1.myc {n d : Nat} {c : cd_S} {m : md_S} (h : PL1 n c m d) : MYC m := by
  obtain ⟨⟨c0, hO, fc, -⟩, ⟨g, l, z, hP, hD, h101, hHM⟩, hgr, hM, hX⟩ := h
  have h60 := hM.1.2.1
  refine ⟨hM.1, fun v hv => ?_, fun v hv h3 => ?_, fun j hj hk => ?_⟩
  · obtain ⟨-, -, -, ⟨d', dom, x1, x2, x3, x4, -⟩, -⟩ := hX.2.2.2.2.2 v hv
    exact ⟨d', dom, x1, x2, x3, x4⟩
  · obtain ⟨a, a1, a2⟩ := hO.nb.2.2.2.2.2.2.2.1 v hv h3
    have e22 : mN m 22 = l := by rw [mN, hP.2.2.2.2.2.2.1, nI_clamp (by have := hP.2.2.1; omega)]
    have := hP.2.2.1
    exact ⟨a, by omega, a2⟩
  · obtain ⟨q, q1, q2⟩ := hO.nb.2.2.2.2.2.2.1 j hj
    obtain ⟨f, r, es, l', ns, -, -, a3, -, -, -, -, -, a9⟩ := hO.cl q1
    obtain ⟨⟨k, hw⟩, -⟩ := a3.ge.2 j (a9 j hj q2) (by have := hM.1.2.2.2.2.1; omega)
    exact hw.ops10 hk
theorem MYC.me {m m' : md_S} (h : MYC m) (hm : ME plMF m m') : MYC m' := by
  have A : ∀ f, f ∈ plMF → ∀ i, mA m' f i = mA m f i := fun f hf i => (hm f hf).2.2.1 i
  have n35 : mN m' 35 = mN m 35 := hm.mN (by decide)
  have n65 : mN m' 65 = mN m 65 := hm.mN (by decide)
  have n60 : mN m' 60 = mN m 60 := hm.mN (by decide)
  obtain ⟨⟨a1, a2, a3, a4, a5, a6, a7, a8⟩, b, c, d⟩ := h
  refine ⟨⟨?_, by omega, rfl, ?_, by omega, fun j hj => ?_, fun j hj => ?_, by omega⟩, fun v hv => ?_, fun v hv h3 => ?_, fun j hj h10 => ?_⟩
  · rw [(hm 35 (by decide)).1, n35]; exact a1
  · rw [(hm 65 (by decide)).1, n65]; exact a4
  · obtain ⟨q, q1, q2⟩ := a6 j (by omega)
    exact ⟨q, by omega, by rw [A 67 (by decide)]; exact q2⟩
  · have e : nE m' j = nE m j := by
      unfold nE
      rw [A 66 (by decide), A 68 (by decide), A 69 (by decide)]
    have := a7 j (by omega)
    unfold WFE at this ⊢
    rw [e, n60, n35]; exact this
  · obtain ⟨x, y, z1, z2, z3, z4⟩ := b v (by omega)
    exact ⟨x, y, z1, by rw [A 37 (by decide)]; exact z2, by rw [A 32 (by decide)]; exact z3, z4⟩
  · rw [A 36 (by decide)] at h3
    rw [A 42 (by decide)]
    exact c v (by omega) h3
  · rw [A 66 (by decide)] at h10
    obtain ⟨a, z1, z2, z3⟩ := d j (by omega) h10
    refine ⟨a, by rw [A 68 (by decide)]; exact z1, by omega, ?_⟩
    unfold SP at z3 ⊢
    rw [A 36 (by decide)]; exact z3
theorem clm_me {m m' : md_S} {x : Int32} {S : Nat → Int32 → Prop} (hm : ME plMF m m') : CLM m' x S ↔ CLM m x S := by
  have A : ∀ f, f ∈ plMF → ∀ i, mA m' f i = mA m f i := fun f hf i => (hm f hf).2.2.1 i
  have a32 := A 32 (by decide)
  have a36 := A 36 (by decide)
  have a37 := A 37 (by decide)
  have a39 := A 39 (by decide)
  have a42 := A 42 (by decide)
  have a66 := A 66 (by decide)
  have a67 := A 67 (by decide)
  have a68 := A 68 (by decide)
  have a69 := A 69 (by decide)
  have l43 : ∀ i, mL m' 43 i = mL m 43 i := fun i => (hm 43 (by decide)).2.2.2 i
  have l61 : ∀ i, mL m' 61 i = mL m 61 i := fun i => (hm 61 (by decide)).2.2.2 i
  have n35 : mN m' 35 = mN m 35 := hm.mN (by decide)
  have n65 : mN m' 65 = mN m 65 := hm.mN (by decide)
  have n68 : ∀ i, aN m' 68 i = aN m 68 i := fun i => by rw [aN, aN, a68]
  have n42 : ∀ i, aN m' 42 i = aN m 42 i := fun i => by rw [aN, aN, a42]
  have ed : ∀ v, dmU m' v = dmU m v := fun v => by
    unfold dmU aN
    rw [a37, a32]
  have eo : ∀ v b, ow m' x v b = ow m x v b := fun v b => by
    unfold ow
    rw [ed]
  unfold CLM RUL BG
  simp only [a36, a39, a66, a67, a68, a69, l43, l61, n35, n65, n68, n42, eo]
theorem ALLV.me {m m' : md_S} {x : Int32} {V : Nat → Int32} (h : ALLV m x V) (hm : ME plMF m m') : ALLV m' x V := by
  have e : ∀ u b, MAY m x u b → MAY m' x u b := fun u b y S hS => y S ((clm_me hm).mp hS)
  exact ⟨⟨h.1.1, fun u b h1 h2 h3 => e u b (h.1.2 u b h1 h2 h3)⟩, (clm_me hm).mpr h.2⟩
theorem PLN.myc {n d : Nat} {c : cd_S} {m : md_S} (h : PLN n c m d) : MYC m := by
  obtain ⟨c1, m1, h1, h2, h3, h4, h5, h6⟩ := h
  exact h1.myc.me h4
theorem GE.me {m m' : md_S} {es : List EN} {ns : List Nat} (h : GE m es ns) (hm : ME plMF m m') (h35 : mN m 35 ≤ 60) : GE m' es ns := by
  have A : ∀ f, f ∈ plMF → ∀ i, mA m' f i = mA m f i := fun f hf i => (hm f hf).2.2.1 i
  have hk : KP m m' := KP.of (hm.sub (by decide))
  have hw : ∀ j k, WFN m j k → WFN m' j k := fun j k h => h.to hk (A 66 (by decide) j) (A 67 (by decide) j) (A 68 (by decide) j) (A 69 (by decide) j) (fun _ => ⟨congrArg Int32.toNatClampNeg (A 44 (by decide) _), fun x _ => congrArg Int32.toNatClampNeg (A 45 (by decide) _)⟩) h35
  refine ⟨fun e he => ?_, fun j hj h9 => ?_⟩
  · rcases h.1 e he with ⟨j, j1, j2, j3, k, j4⟩ | h1
    · exact Or.inl ⟨j, j1, j2, by rw [A 66 (by decide), A 68 (by decide), A 69 (by decide)]; exact j3, k, hw j k j4⟩
    · exact Or.inr h1
  · obtain ⟨⟨k, h1⟩, h2⟩ := h.2 j hj h9
    rw [A 66 (by decide), A 68 (by decide), A 69 (by decide)]
    exact ⟨⟨k, hw j k h1⟩, h2⟩
theorem GN.ce {c c' : cd_S} {u g : Nat} (h : GN c u g) (hc : CE plCF c c') : GN c' u g := by
  have e1 : ∀ u, cI c' 289 u = cI c 289 u := fun u => (hc 289 (by decide)).1 u
  have e2 : ∀ u, cI c' 294 u = cI c 294 u := fun u => (hc 294 (by decide)).1 u
  have e3 : ∀ u, cJ c' 293 u = cJ c 293 u := fun u => (hc 293 (by decide)).2.1 u
  unfold GN GRP at h ⊢
  simp only [e1, e2, e3]
  exact h
theorem PLN.cyc {n d : Nat} {C : Nat × Nat} {c : cd_S} {m : md_S} {b : cd_B} (h : PLN n c m d) (hB : Bd C c b) : CYC c m := by
  obtain ⟨c1, m1, ⟨⟨c0, hO, fc, h7⟩, hpol, hgr, hM, hX⟩, h2, h3, h4, h5, h6⟩ := h
  have hmy : MYC m1 := PL1.myc (n := n) ⟨⟨c0, hO, fc, h7⟩, hpol, hgr, hM, hX⟩
  have A : ∀ f, f ∈ plMF → ∀ i, mA m f i = mA m1 f i := fun f hf i => (h4 f hf).2.2.1 i
  have n35 : mN m 35 = mN m1 35 := h4.mN (by decide)
  have n65 : mN m 65 = mN m1 65 := h4.mN (by decide)
  have n60 : mN m 60 = mN m1 60 := h4.mN (by decide)
  have n62 : mN m 62 = mN m1 62 := h4.mN (by decide)
  have h60 := hM.1.2.1
  obtain ⟨x1, x2, x3, x4, x5, x6⟩ := hX
  have hms := hmy.me h4
  refine ⟨⟨by rw [(h2 66 (by decide)).1, n35]; exact x1, by omega, rfl, fun u hu => ?_, ?_, by omega, fun u hu => ?_, hms.1.2.2.2.2.2.1, fun u hu => ?_⟩, fun u hu => ?_⟩
  · rw [(h2 289 (by decide)).1, (h2 294 (by decide)).1, (h2 293 (by decide)).2.1, A 36 (by decide), A 39 (by decide), (h4 43 (by decide)).2.2.2]
    exact x2 u (by omega)
  · obtain ⟨y1, y2, y3, y4⟩ := x3
    exact ⟨by rw [(h2 78 (by decide)).1, n60]; exact y1, by rw [(h4 60 (by decide)).1, n60]; exact y2, by omega, fun i hi => by rw [(h2 77 (by decide)).2.2.2.1, (h4 61 (by decide)).2.2.2]; exact y4 i (by omega)⟩
  · obtain ⟨f, r, es, l, ns, a1, a2, a3, a4, a5, a6, a7, a8, a9⟩ := hO.cl (show u < mN m1 35 by omega)
    refine ⟨es, ns, ⟨hB.1 _ (by omega), ?_⟩, ?_, fun j hj h9 => ⟨by rw [A 67 (by decide)]; exact a3.n67 j hj h9, by rw [n65]; exact a5 j hj h9⟩, fun j hj hq => ?_⟩
    · rw [h3.2 u (by omega), rL_fr fc (by simp)]; exact a8
    · exact a3.ge.me h4 (by omega)
    · rw [A 67 (by decide)] at hq
      have := hms.1.2.2.2.2.1
      exact ⟨a9 j (by omega) hq, by omega⟩
  · obtain ⟨g, g1, g2, g3⟩ := hgr u (by omega)
    refine ⟨g, by omega, by rw [(h2 297 (by decide)).1]; exact g2, g3.ce h2⟩
  · obtain ⟨y1, -, y3, ⟨d', dom, w1, w2, w3, w4, w5⟩, -⟩ := x6 u (by omega)
    refine ⟨by rw [(h2 288 (by decide)).1]; exact y1, by rw [(h2 296 (by decide)).1, A 42 (by decide)]; exact y3, ?_⟩
    have w2' : mA m 37 u = nI d' := (A 37 (by decide) u).trans w2
    have w3' : mA m 32 d' = nI dom := (A 32 (by decide) d').trans w3
    have e : dmU m u = dom := by unfold dmU; rw [aN_of w2' (by omega), aN_of w3' (by omega)]
    rw [(h2 291 (by decide)).1, e]; exact w5
/-- what the class found stands for what may be reached, if it says so -/
def SUR (n : Nat) (c : cd_S) (m : md_S) : Prop := cI c 260 0 = 0 ∨ (cI c 260 0 = 1 ∧ (cI c 363 0 = 1 ∧ cI c 362 0 = 1) ∧ ∃ x, f_X3_holders n c 195 = some (x, c) ∧ ALLV m x (VC m c))
/-- what stands between calls stays, where only other fields change -/
theorem RB.fr {n t : Nat} {C : Nat × Nat} {c c' : cd_S} {m m' : md_S} {b : cd_B} {F G : List Nat} (h : RB n C c m b t) (fc : cd_fr F [] c c') (fm : md_fr G m m') (hF : ∀ f, f ∈ 79 :: 139 :: 140 :: 160 :: 161 :: 162 :: 163 :: 320 :: 352 :: 353 :: 362 :: 363 :: plCF → f ∉ F) (hG : ∀ f, f ∈ 1 :: 2 :: 5 :: 6 :: 7 :: 17 :: 18 :: 19 :: 74 :: 76 :: 77 :: 81 :: 82 :: plMF → f ∉ G) : RB n C c' m' b t := by
  have I : ∀ f, f ∈ 79 :: 139 :: 140 :: 160 :: 161 :: 162 :: 163 :: 320 :: 352 :: 353 :: 362 :: 363 :: plCF → f ≠ 193 → ∀ i, cI c' f i = cI c f i := fun f h1 h2 i => cd_frI fc (hF f h1) h2 i
  obtain ⟨⟨t1, t2, t3, t4⟩, ht, hK, hB, hN, hA, ⟨hf1, hf2⟩, hp⟩ := h
  have hpc : ∀ f, f ∈ plCF → f ∉ F ∧ f ≠ 193 := fun f hf => ⟨hF f (by simp [hf]), by revert hf; revert f; decide⟩
  have hpm : ∀ f, f ∈ plMF → f ∉ G := fun f hf => hG f (by simp [hf])
  refine ⟨⟨t1, ?_, ?_, fun i hi => ?_⟩, ht, fun i hi => ?_, hB.fr fc, fun l hl => ?_, hA.k4 (KR.of fc (hF 160 (by decide)) (hF 161 (by decide)) (hF 162 (by decide)) (hF 163 (by decide))) (K4.of fm (hG 17 (by decide)) (hG 18 (by decide)) (hG 19 (by decide))) ?_ ?_ ?_, ⟨?_, ?_⟩, ?_⟩
  · rw [I 353 (by decide) (by decide)]; exact t2
  · rw [md_frI fm (hG 2 (by decide))]; exact t3
  · rw [md_frA fm (hG 1 (by decide)), cd_frA fc (hF 352 (by decide)) (by decide)]; exact t4 i hi
  · rw [cd_frL fc (hF 320 (by decide)) (by decide)]; exact hK i hi
  · rw [cd_frA fc (hF 79 (by decide)) (by decide)]; exact hN l hl
  · exact I 363 (by decide) (by decide) 0
  · exact md_frI fm (hG 81 (by decide))
  · exact md_frJ fm (hG 82 (by decide))
  · rw [I 139 (by decide) (by decide), md_frI fm (hG 6 (by decide))]; exact hf1
  · rw [I 140 (by decide) (by decide), md_frI fm (hG 7 (by decide))]; exact hf2
  · rcases hp with ⟨h1, h2⟩ | ⟨h1, h2, d, c1, m1, h3, h4, h5, h6, h7, h8⟩
    · exact Or.inl ⟨by rw [I 362 (by decide) (by decide)]; exact h1, by rw [md_frI fm (hG 5 (by decide))]; exact h2⟩
    · refine Or.inr ⟨by rw [I 362 (by decide) (by decide)]; exact h1, by rw [md_frI fm (hG 5 (by decide))]; exact h2, d, c1, m1, h3, h4.tr (CE.of fc hpc), ⟨h5.1.tr (fun y _ => ⟨cd_frI fc (hF 162 (by decide)) (by decide) _, cd_frI fc (hF 163 (by decide)) (by decide) _, cd_frJ fc (hF 160 (by decide)) (by decide) _, fun i => cd_frL fc (hF 161 (by decide)) (by decide) _ _⟩), fun u hu => by rw [rL_fr fc (by simp)]; exact h5.2 u hu⟩, h6.tr (ME.of fm hpm), h7.tr (fun y _ => ⟨md_frA fm (hG 18 (by decide)) _, md_frA fm (hG 19 (by decide)) _, fun i _ => md_frL fm (hG 17 (by decide)) _⟩), fun u R hu => ?_⟩
      obtain ⟨bs, p, x1, x2, x3, x4, x5, x6⟩ := h8 u R hu
      exact ⟨bs, p, x1, by rw [rL_fr fc (by simp)]; exact x2, x3, by rw [md_frA fm (hG 76 (by decide))]; exact x4, by rw [md_frA fm (hG 77 (by decide))]; exact x5, fun x hx => by rw [md_frA fm (hG 74 (by decide))]; exact x6 x hx⟩
