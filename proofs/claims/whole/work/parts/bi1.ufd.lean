/-! the plan says what of a unit the asking of rights wants to know -/
theorem PLN.ufd {n : Nat} {c : cd_S} {m : md_S} {d : Nat} (h : PLN n c m d) : UFD c m := by
  obtain ⟨c1, m1, ⟨⟨c0, hO, fc, -⟩, ⟨g, l, z, hP, hD, h101, hHM⟩, hgr, hM, hX⟩, hc, ⟨hr, -⟩, hm, hp, hcod⟩ := h
  have n35 : mN m 35 = mN m1 35 := hm.mN (by decide)
  have C1 : ∀ f, f ∈ plCF → f ∉ [104, 259, 297, 301] → f ≠ 193 → ∀ i, cI c f i = cI c0 f i := fun f h1 h2 h3 i => ((hc f h1).1 i).trans (cd_frI fc h2 h3 i)
  obtain ⟨⟨p1, p2, p3, p4, p5, p6, p7, p8, p9⟩, r1, -, e, fv, i1, i2, i3, -, i5, i6, i7, i8, i9, i10⟩ := hO
  have hLM : LM m1 := i1.2.2.2.2.2
  have h22 : mN m1 22 = l := mN_of hP.2.2.2.2.2.2.1 (by have := hP.2.2.1; omega)
  refine ⟨by omega, fun u hu => ?_⟩
  obtain ⟨t, t1, t2⟩ := i9 u (by omega)
  obtain ⟨dm, d1, d2, d3⟩ := h101 t t1
  have h8 : t < 8 := by have := i5.1; omega
  have hd8 : dm < 8 := by have := hD.1; omega
  obtain ⟨u289, ⟨s, s1, s2⟩, u290, -, -, -, -, u296, -, -, -, ⟨t', a1, a2, a3, -⟩⟩ := e u (by omega)
  have et : t' = t := (nI_eq (by omega) (by omega)).mp (a1.symm.trans t2)
  rw [et, ← cd_frA fc (by decide) (by decide), d2] at a3
  have g291 : cI c 291 u = nI dm := by rw [C1 291 (by decide) (by decide) (by decide)]; exact a3
  have g289 : cI c 289 u = nI s := by rw [C1 289 (by decide) (by decide) (by decide), u289]; exact s2
  have g296 : cI c 296 u = mA m1 42 u := by rw [C1 296 (by decide) (by decide) (by decide)]; exact u296
  have g42 : mA m 42 u = mA m1 42 u := (hm 42 (by decide)).2.2.1 u
  have base : ∀ w, w ≤ 12 → (if s = 3 then 0 < w ∧ cI c 296 u = nI (w - 1) ∧ mA m 42 u = nI (w - 1) else w = 0) → ∃ t d s w, t < 8 ∧ mA m 37 u = nI t ∧ d < 8 ∧ mA m 32 t = nI d ∧ cI c 291 u = nI d ∧ s < 100 ∧ mA m 36 u = nI s ∧ cI c 289 u = nI s ∧ w ≤ 12 ∧ (if s = 3 then 0 < w ∧ cI c 296 u = nI (w - 1) ∧ mA m 42 u = nI (w - 1) else w = 0) := fun w w1 w2 =>
    ⟨t, dm, s, w, h8, by rw [(hm 37 (by decide)).2.2.1]; exact t2, hd8, by rw [(hm 32 (by decide)).2.2.1]; exact d3, g291, by omega, by rw [(hm 36 (by decide)).2.2.1]; exact s2, g289, w1, w2⟩
  by_cases q : s = 3
  · obtain ⟨a, b1, b2⟩ := hLM u (by omega) (by rw [s2, q]; rfl)
    have := hP.2.2.1
    refine base (a + 1) (by omega) ?_
    rw [if_pos q, g296, g42, b2, Nat.add_sub_cancel]
    exact ⟨by omega, rfl, rfl⟩
  · exact base 0 (by omega) (by rw [if_neg q])
