/-! may, whole -/
theorem VC_fr {m m' : md_S} {G : List Nat} (c : cd_S) (fm : md_fr G m m') (h : 35 ∉ G) : VC m' c = VC m c := by
  unfold VC
  rw [mN_fr fm h]
theorem SUR.mfr {n : Nat} {c : cd_S} {m m' : md_S} {G : List Nat} (h : SUR n c m) (fm : md_fr G m m') (hG : ∀ f, f ∈ plMF → f ∉ G) : SUR n c m' := by
  rcases h with h | ⟨h, h3, x, h1, h2⟩
  · exact Or.inl h
  · exact Or.inr ⟨h, h3, x, h1, by rw [VC_fr c fm (hG 35 (by decide))]; exact h2.me (ME.of fm hG)⟩
theorem may_ok {n t : Nat} {C : Nat × Nat} {c : cd_S} {m : md_S} {b : cd_B} {a : Int32} (hn : 1000000 ≤ n) (h : RB n C c m b t) (hs : SUR n c m) : ∃ v c' m', f_X11_may n c a = some (v, c') ∧ f_X12_may n m a = some (v, m') ∧ mI m' 0 = 0 ∧ RB n C c' m' b t ∧ SUR n c' m' ∧ cd_fr [257, 258, 259, 260] [] c c' ∧ md_fr [0, 83, 84, 85] m m' := by
  obtain ⟨m0, e0⟩ : ∃ m0, m0 = mSI m 0 0 := ⟨_, rfl⟩
  have f0 : md_fr [0] m m0 := by rw [e0]; exact md_fr_SI (md_fr_refl _ _) (by simp) _
  have h0 : RB n C c m0 b t := by rw [e0]; exact h.s0 0
  have hs0 : SUR n c m0 := hs.mfr f0 (by decide)
  have z0 : mI m0 0 = 0 := by rw [e0, mI_SIe]
  have none_ : f_X11_may n c a = some (-1, c) → f_X12_may n m a = some (-1, m0) → ∃ v c' m', f_X11_may n c a = some (v, c') ∧ f_X12_may n m a = some (v, m') ∧ mI m' 0 = 0 ∧ RB n C c' m' b t ∧ SUR n c' m' ∧ cd_fr [257, 258, 259, 260] [] c c' ∧ md_fr [0, 83, 84, 85] m m' := fun e1 e2 => ⟨-1, c, m0, e1, e2, z0, h0, hs0, cd_fr_refl _ _ _, md_fr_mono f0 (by decide)⟩
  have hpf : PFl n c m := h.2.2.2.2.2.2.2
  obtain ⟨-, -, -, hB, -, hA, -, hpf0⟩ := h0
  have hisu := isu_ok (n := n) (a := a) hpf
  rw [← e0] at hisu
  rcases hA with ⟨a1, a2⟩ | ⟨a1, a2, a3, a4⟩
  · refine none_ ?_ ?_
    · unfold f_X11_may
      rw [if_pos a1]
    · unfold f_X12_may
      rw [bs_some, ← e0]
      rcases hisu with ⟨u, d, hd, rfl, hu, hu60, e1, e2⟩ | ⟨e1, e2⟩
      · rw [e2, bs_some]
        dsimp only
        rw [if_neg ne10, if_pos a2]
      · rw [e2, bs_some]
        dsimp only
        rw [if_pos rfl]
  have na : ¬ cI c 363 0 = 0 := by rw [a1]; decide
  rcases hisu with ⟨u, d, hd, rfl, hu, hu60, e1, e2⟩ | ⟨e1, e2⟩
  rotate_left
  · refine none_ ?_ ?_
    · unfold f_X11_may
      rw [if_neg na, e1, bs_some]
      dsimp only
      rw [if_pos rfl]
    · unfold f_X12_may
      rw [bs_some, ← e0, e2, bs_some]
      dsimp only
      rw [if_pos rfl]
  rcases hpf0 with ⟨z1, z2⟩ | ⟨z1, z2, d0, hd0⟩
  · exfalso
    unfold f_X11_hasUnit at e1
    rw [if_pos z1] at e1
    have : (0 : Int32) = 1 := congrArg Prod.fst (Option.some.inj e1)
    exact absurd this (by decide)
  have hm := hd0.myc
  have hc := hd0.cyc hB
  obtain ⟨-, -, -, -, ⟨g, l, z, hP, hD⟩, -⟩ := hd0.v
  have hu' : u < mN m0 35 := by rw [mN_fr f0 (by decide)]; exact hu
  obtain ⟨x, x1, x2⟩ := holders_c (n := n) (by omega) hP.pol hD a3 (by omega) a4
  have f84 : md_fr [84] m0 (mSI m0 84 0) := md_fr_SI (md_fr_refl _ _) (by simp) _
  obtain ⟨-, -, y, y1, y2⟩ := bits_m (n := n) (c := c) (m := mSI m0 84 0) (r := 195) (p := 264) (kd := mJ m0 82) (by omega) (hP.fr (cd_fr_refl c [] []) f84 (by simp) (by decide)).pol (hD.fr (cd_fr_refl c [] []) f84 (by simp) (by decide)) a3 (by omega) a4
  rw [HM.eq y2 x2] at y1
  obtain ⟨V, m', k1, k2, k3⟩ := m_may (n := n) (m0 := m) (m := m0) (x := x) (by omega) e0 hm hu' a2 e2 y1
  have km : md_fr [0, 83, 84, 85] m m' := md_fr_tr f0 k2 (fun k hk => ⟨nin (by decide) hk, nin (by decide) hk⟩)
  have hz : mI m' 0 = 0 := by rw [md_frI k2 (by decide)]; exact z0
  have h0' : RB n C c m0 b t := by rw [e0]; exact h.s0 0
  by_cases q : cI c 260 0 = 0
  · obtain ⟨c', g1, g2, g3, g4⟩ := c_findMay (n := n) (x := x) hn hc hm
    have eV : V u = cAr c' 257 0 u := by
      rw [k3.eq g4 (u := u) (by omega)]
      exact VV_u hu'
    have hP' : PolQ c' m0 g g l := hP.fr g2 (md_fr_refl m0 []) (by decide) (by simp)
    have hD' : DomR c' m0 z := hD.fr g2 (md_fr_refl m0 []) (by decide) (by simp)
    have hRB : RB n C c' m' b t := h0'.fr g2 k2 (by decide) (by decide)
    have a3' : RP c' m0 195 264 := by
      obtain ⟨q, tl, r1, r2, r3, r4, r5, r6, r7⟩ := a3
      exact ⟨q, tl, r1, r2, by rw [cd_frI g2 (by decide) (by decide)]; exact r3, by rw [cd_frI g2 (by decide) (by decide)]; exact r4, r5, r6, fun i hi => by rw [cd_frL g2 (by decide) (by decide)]; exact r7 i hi⟩
    have a4' : NR (cJ c' 160 195) (mJ m0 82) := by rw [cd_frJ g2 (by decide) (by decide)]; exact a4
    obtain ⟨w, w1, w2⟩ := holders_c (n := n) (by omega) hP'.pol hD' a3' (by omega) a4'
    rw [HM.eq w2 (x2.fr g2 (by decide))] at w1
    refine ⟨V u, c', m', ?_, k1, hz, hRB, Or.inr ⟨g3, ⟨by rw [cd_frI g2 (by decide) (by decide)]; exact a1, by rw [cd_frI g2 (by decide) (by decide)]; exact z1⟩, x, w1, by rw [VC_fr c' k2 (by decide)]; exact g4.me (ME.of k2 (by decide))⟩, g2, km⟩
    unfold f_X11_may f_X11_may_J45
    rw [if_neg na, e1, bs_some]
    dsimp only
    rw [if_neg ne10, if_pos q, x1, bs_some]
    dsimp only
    rw [g1, bs_some]
    dsimp only
    rw [c_mayOf (by omega), bs_some, eV]
  · rcases hs0 with s1 | ⟨s1, -, w, w1, w2⟩
    · exact absurd s1 q
    · have : x = w := congrArg Prod.fst (Option.some.inj (x1.symm.trans w1))
      rw [← this] at w2
      have eV : V u = cAr c 257 0 u := by
        rw [k3.eq w2 (u := u) (by omega)]
        exact VV_u hu'
      have f4 : cd_fr [257, 258, 259, 260] [] c c := cd_fr_refl _ _ _
      refine ⟨V u, c, m', ?_, k1, hz, h0'.fr f4 k2 (by decide) (by decide), Or.inr ⟨s1, ⟨a1, z1⟩, x, x1, by rw [VC_fr c k2 (by decide)]; exact w2.me (ME.of k2 (by decide))⟩, f4, km⟩
      unfold f_X11_may f_X11_may_J45
      rw [if_neg na, e1, bs_some]
      dsimp only
      rw [if_neg ne10, if_neg q, c_mayOf (by omega), bs_some, eV]
