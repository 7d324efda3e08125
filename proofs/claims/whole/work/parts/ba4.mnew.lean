/-! a module more, and the one above it -/
theorem MDR.new {c c' : cd_S} {m m' : md_S} {d : Nat} (h : MDR c m d) (hd : d < 8) (fc : cd_fr [67, 68, 70, 71, 73, 74, 137] [] c c') (fm : md_fr [25, 26, 27, 28, 30] m m') (o67 : ∀ i, i ≠ d → cLr c' 67 0 i = cLr c 67 0 i) (oc : ∀ f, f ∈ [68, 70, 71, 73] → ∀ i, i ≠ d → cAr c' f 0 i = cAr c f 0 i) (om : ∀ f, f ∈ [27, 28, 30] → ∀ i, i ≠ d → mA m' f i = mA m f i) (o26 : ∀ i, i ≠ d → mL m' 26 i = mL m 26 i) (x74 : cI c' 74 0 = nI (d + 1)) (x25 : mI m' 25 = nI (d + 1)) (xn : NR (cLr c' 67 0 d) (mL m' 26 d)) (x68 : cAr c' 68 0 d = -1) (x27 : mA m' 27 d = -1) (x70 : cAr c' 70 0 d = 0) (x28 : mA m' 28 d = 0) (x71 : cAr c' 71 0 d = 0) (x73 : cAr c' 73 0 d = 0) (x30 : mA m' 30 d = 0) : MDR c' m' (d + 1) := by
  obtain ⟨a1, a2, a3, q⟩ := h
  refine ⟨by omega, x74, x25, fun i hi => ?_⟩
  by_cases hid : i = d
  · rw [hid]
    exact ⟨xn, x68.trans x27.symm, Or.inl x27, ⟨0, by omega, x70, x28, fun x hx => absurd hx (by omega)⟩, ⟨0, by omega, x73, x30, fun x hx => absurd hx (by omega)⟩, ⟨0, by omega, x71, fun _ => rfl, fun p hp _ => absurd (hp.symm.trans x27) (by
      intro y
      by_cases hp8 : p < 8
      · exact nI_nem1 (by omega) y
      · omega)⟩⟩
  · obtain ⟨t1, t2, t3, ⟨k', s1, s2, s3, s4⟩, ⟨k2, r1, r2, r3, r4⟩, ⟨β, b1, b2, b3, b4⟩⟩ := q i (by omega)
    rw [o67 i hid, o26 i hid, oc 68 (by decide) i hid, om 27 (by decide) i hid, oc 70 (by decide) i hid, om 28 (by decide) i hid, oc 73 (by decide) i hid, om 30 (by decide) i hid, oc 71 (by decide) i hid]
    refine ⟨t1, t2, t3, ⟨k', s1, s2, s3, fun x hx => ?_⟩, ⟨k2, r1, r2, r3, fun x hx => ?_⟩, ⟨β, b1, b2, b3, fun p hp hpi => ?_⟩⟩
    · rw [cd_frL fc (by decide) (by decide), md_frL fm (by decide)]; exact s4 x hx
    · obtain ⟨u, u1, u2, u3⟩ := r4 x hx
      exact ⟨u, by rw [mN_fr fm (by decide)]; exact u1, by rw [cd_frA fc (by decide) (by decide)]; exact u2, by rw [md_frA fm (by decide)]; exact u3⟩
    · obtain ⟨bp, k9, g1, g2, g3, g4⟩ := b4 p hp hpi
      exact ⟨bp, k9, by rw [oc 71 (by decide) p (by omega)]; exact g1, by rw [om 28 (by decide) p (by omega)]; exact g2, g3, g4⟩
theorem MDR.sup {c c' : cd_S} {m m' : md_S} {d x bp k : Nat} (h : MDR c m (d + 1)) (hx : x < d) (h28d : mA m 28 d = 0) (hb : cAr c 71 0 x = nI bp) (hk : mA m 28 x = nI k) (hk4 : k ≤ 4) (hbp : bp ≤ 4 * x) (fc : cd_fr [68, 71] [] c c') (fm : md_fr [27] m m') (o68 : ∀ i, i ≠ d → cAr c' 68 0 i = cAr c 68 0 i) (o71 : ∀ i, i ≠ d → cAr c' 71 0 i = cAr c 71 0 i) (o27 : ∀ i, i ≠ d → mA m' 27 i = mA m 27 i) (x68 : cAr c' 68 0 d = nI x) (x71 : cAr c' 71 0 d = nI (bp + k)) (x27 : mA m' 27 d = nI x) : MDR c' m' (d + 1) := by
  obtain ⟨a1, a2, a3, q⟩ := h
  refine ⟨a1, by rw [cd_frI fc (by decide) (by decide)]; exact a2, by rw [md_frI fm (by decide)]; exact a3, fun i hi => ?_⟩
  obtain ⟨t1, t2, t3, ⟨k', s1, s2, s3, s4⟩, ⟨k2, r1, r2, r3, r4⟩, ⟨β, b1, b2, b3, b4⟩⟩ := q i hi
  refine ⟨by rw [cd_frL fc (by decide) (by decide), md_frL fm (by decide)]; exact t1, ?_, ?_, ⟨k', s1, by rw [cd_frA fc (by decide) (by decide)]; exact s2, by rw [md_frA fm (by decide)]; exact s3, fun y hy => by rw [cd_frL fc (by decide) (by decide), md_frL fm (by decide)]; exact s4 y hy⟩, ⟨k2, r1, by rw [cd_frA fc (by decide) (by decide)]; exact r2, by rw [md_frA fm (by decide)]; exact r3, fun y hy => ?_⟩, ?_⟩
  · by_cases hid : i = d
    · rw [hid, x68, x27]
    · rw [o68 i hid, o27 i hid]; exact t2
  · by_cases hid : i = d
    · rw [hid]; exact Or.inr ⟨x, hx, x27⟩
    · rw [o27 i hid]; exact t3
  · obtain ⟨u, u1, u2, u3⟩ := r4 y hy
    exact ⟨u, by rw [mN_fr fm (by decide)]; exact u1, by rw [cd_frA fc (by decide) (by decide)]; exact u2, by rw [md_frA fm (by decide)]; exact u3⟩
  · by_cases hid : i = d
    · rw [hid]
      refine ⟨bp + k, by omega, x71, fun y => absurd (x27.symm.trans y) (nI_nem1 (by omega)), fun p hp hpd => ?_⟩
      have hpx : p = x := (nI_eq (by omega) (by omega)).mp (hp.symm.trans x27)
      rw [hpx]
      exact ⟨bp, k, by rw [o71 x (by omega)]; exact hb, by rw [md_frA fm (by decide)]; exact hk, hk4, rfl⟩
    · refine ⟨β, b1, by rw [o71 i hid]; exact b2, by rw [o27 i hid]; exact b3, fun p hp hpi => ?_⟩
      rw [o27 i hid] at hp
      obtain ⟨bq, k9, g1, g2, g3, g4⟩ := b4 p hp hpi
      exact ⟨bq, k9, by rw [o71 p (by omega)]; exact g1, by rw [md_frA fm (by decide)]; exact g2, g3, g4⟩
/-- the module of a name while module d is in the making: the model does not count it yet -/
theorem sup_ok {n : Nat} {c : cd_S} {m : md_S} {d : Nat} {v u : Int64} (hn : 5000 ≤ n) (h : MDR c (mSI m 25 (nI (d + 1))) (d + 1)) (h25 : mI m 25 = nI d) (hvu : NR v u) : (∃ x, x < d ∧ f_X2_findModule n c v = some (nI x, c) ∧ f_X12_moduleOf n m u = some (nI x, m)) ∨ ((f_X2_findModule n c v = some (-1, c) ∨ f_X2_findModule n c v = some (nI d, c)) ∧ f_X12_moduleOf n m u = some (-1, m)) := by
  obtain ⟨a1, a2, a25, a4⟩ := h
  have e1 := c_mdL (n := n) (v := v) a2 a1 (d + 1) n 0 (by omega) (by omega)
  have e2 := m_mdL (n := n) (v := u) h25 (by omega) d n 0 (by omega) (by omega)
  have nr : ∀ i, i < d + 1 → NR (cLr c 67 0 i) (mL m 26 i) := fun i hi => (a4 i hi).1
  unfold f_X2_findModule f_X12_moduleOf
  rw [show (0 : Int32) = nI 0 from rfl]
  rcases e1 with ⟨x, -, x2, x3, x4, x5⟩ | ⟨x1, x2⟩
  · rcases e2 with ⟨y, -, y2, y3, y4, y5⟩ | ⟨y1, y2⟩
    · have hxy : x = y := by
        rcases Nat.lt_trichotomy x y with q | q | q
        · exact absurd (((nr x x2).iff hvu).mp x3) (y4 x (by omega) q)
        · exact q
        · exact absurd (((nr y (by omega)).iff hvu).mpr y3) (x4 y (by omega) q)
      subst hxy
      refine Or.inl ⟨x, y2, ?_, ?_⟩
      · rw [x5, bs_some]; rfl
      · rw [y5, bs_some]; rfl
    · have hxd : x = d := by
        by_cases hlt : x < d
        · exact absurd (((nr x x2).iff hvu).mp x3) (y1 x (by omega) hlt)
        · omega
      subst hxd
      refine Or.inr ⟨Or.inr ?_, ?_⟩
      · rw [x5, bs_some]; rfl
      · rw [y2, bs_some]; rfl
  · rcases e2 with ⟨y, -, y2, y3, y4, y5⟩ | ⟨y1, y2⟩
    · exact absurd (((nr y (by omega)).iff hvu).mpr y3) (x1 y (by omega) (by omega))
    · refine Or.inr ⟨Or.inl ?_, ?_⟩
      · rw [x2, bs_some]; rfl
      · rw [y2, bs_some]; rfl
