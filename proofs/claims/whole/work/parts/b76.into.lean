/-! into the unit within, and out of it -/
theorem AN_up {m : md_S} {u o a : Nat} (h36 : mA m 36 u ≠ 0) (h40 : mA m 40 u = nI o) (ho : o < 60) : AN m a u ↔ a = u ∨ AN m a o := by
  have hp : par m u = o := aN_of h40 (by omega)
  constructor
  · rintro ⟨k, k1, k2⟩
    cases k with
    | zero => exact Or.inl k1.symm
    | succ k =>
      right
      refine ⟨k, ?_, fun j hj => ?_⟩
      · have : upn m k (par m u) = a := k1
        rw [hp] at this; exact this
      · have := k2 (j + 1) (by omega)
        have e : upn m (j + 1) u = upn m j o := by show upn m j (par m u) = _; rw [hp]
        rw [e] at this; exact this
  · rintro (rfl | ⟨k, k1, k2⟩)
    · exact ⟨0, rfl, fun j hj => absurd hj (by omega)⟩
    · refine ⟨k + 1, ?_, fun j hj => ?_⟩
      · show upn m k (par m u) = a
        rw [hp]; exact k1
      · cases j with
        | zero => exact h36
        | succ j =>
          have e : upn m (j + 1) u = upn m j o := by show upn m j (par m u) = _; rw [hp]
          rw [e]; exact k2 j (by omega)
theorem ST.into {c : cd_S} {m : md_S} {O : List Nat} {mc k kl u : Nat} (h : ST c m O mc k kl) (hu : u < mN m 35) (huO : u ∈ O) (h36 : mA m 36 u ≠ 0) (h40 : mA m 40 u = nI (mN m 64)) (h37 : mA m 37 u = mA m 37 (mN m 64)) (h44 : mA m 44 u = 0) : ST (cSP c 136 0 (u + 1)) (mSI m 64 (nI u)) O mc k kl := by
  obtain ⟨q62, q35, q50, q65, c138, c66, -⟩ := h.nv
  have hnow := h.now
  have hup := fun a => AN_up (a := a) h36 h40 hnow.2.1
  obtain ⟨c', hc'⟩ : ∃ z, z = cSP c 136 0 (u + 1) := ⟨_, rfl⟩
  obtain ⟨m', hm'⟩ : ∃ z, z = mSI m 64 (nI u) := ⟨_, rfl⟩
  rw [← hc', ← hm']
  have fc : cd_fr [136] [] c c' := by rw [hc']; exact cd_fr_SP (cd_fr_refl _ _ _) (by decide) _ _
  have fm : md_fr [64] m m' := by rw [hm']; exact md_fr_SI (md_fr_refl _ _) (by decide) _
  have x136 : cP c' 136 0 = u + 1 := by rw [hc']; exact cP_SPe
  have n64 : mN m' 64 = u := by rw [hm']; exact mN_of mI_SIe (by omega)
  have hc : ∀ F : List Nat, (∀ f, f ∈ F → f ∉ [136] ∧ f ≠ 193) → CE F c c' := fun F hF => CE.of fc hF
  have hm : ∀ G : List Nat, (∀ f, f ∈ G → f ∉ [64]) → ME G m m' := fun G hG => ME.of fm hG
  have o : ∀ q, q ∉ [64] → mN m' q = mN m q := fun q hq => mN_fr fm hq
  have o35 := o 35 (by decide)
  have o50 := o 50 (by decide)
  have o56 := o 56 (by decide)
  have o62 := o 62 (by decide)
  have o65 := o 65 (by decide)
  have A : ∀ f, ∀ i, mA m' f i = mA m f i := fun f i => by rw [hm']; rfl
  have hk : ∀ v, kv m' v = kv m v := kv_ME (hm _ (by decide))
  have hn : ∀ a u, AN m' a u ↔ AN m a u := AN_ME (hm _ (by decide))
  have k1 : cN c' 138 = cN c 138 := by rw [cN, cN, cd_frI fc (by decide) (by decide)]
  have k2 : cN c' 66 = cN c 66 := by rw [cN, cN, cd_frI fc (by decide) (by decide)]
  obtain ⟨⟨z1, z2, z3, z4, z5, z6, z7, z8, z9⟩, ⟨b1, b2, b3, b4, b5⟩, ⟨d1, d2, d3, d4, d5, d6⟩, e, f, g, i1, i2, i3, ⟨gg, ll, i4⟩, i5, i6, ⟨r, i7, i8, i9⟩, i10, i11⟩ := h
  refine ⟨⟨?_, ?_, ?_, ?_, by rw [k1, k2, scS_ext (c := c) (c' := c') (fun i _ => by rw [rsz, rsz, cd_frz fc (by simp)])]; exact z5, trivial, ?_, ?_, ?_⟩, ⟨?_, ?_, ?_, ?_, ?_⟩, ⟨?_, ?_, ?_, ?_, d5, ?_⟩, ?_, ?_, ?_, i1.to (hc _ (by decide)) (hm _ (by decide)) (by omega), i2.to (hc _ (by decide)) (hm _ (by decide)) (by omega), i3.to (hc _ (by decide)) (hm _ (by decide)), ⟨gg, ll, i4.me (hc _ (by decide)) (hm _ (by decide))⟩, i5.to (hc _ (by decide)) (hm _ (by decide)) (by omega), ?_, ⟨r, ?_, ?_, ?_⟩, by omega, fun w hw => ?_⟩
  · rw [k1, cd_frI fc (by decide) (by decide)]; exact z1
  · rw [k1]; exact z2
  · rw [k2, cd_frI fc (by decide) (by decide)]; exact z3
  · rw [k2]; exact z4
  · exact ⟨u, by omega, x136⟩
  · rw [k2, cd_frP fc (by decide) (by decide)]; exact z8
  · intro i hi
    rw [k2] at hi ⊢
    rw [k1, cd_frI fc (by decide) (by decide), cd_frI fc (by decide) (by decide), cd_frI fc (by decide) (by decide)]
    have : rsz c' (17 + 3 * i) = rsz c (17 + 3 * i) := by rw [rsz, rsz, cd_frz fc (by simp)]
    rw [this]; exact z9 i hi
  · rw [cd_frI fc (by decide) (by decide), md_frI fm (by decide)]; exact b1
  · rw [cd_frI fc (by decide) (by decide), md_frI fm (by decide)]; exact b2
  · rw [cd_frI fc (by decide) (by decide), md_frI fm (by decide)]; exact b3
  · rw [x136, n64]
  · rw [n64, hm', mI_SIe]
  · rw [o65, md_frI fm (by decide)]; exact d1
  · omega
  · rw [o50, md_frI fm (by decide)]; exact d3
  · omega
  · intro i hi
    obtain ⟨l, l1, l2⟩ := d6 i (by omega)
    exact ⟨l, by rw [cd_frI fc (by decide) (by decide)]; exact l1, by omega⟩
  · exact fun i hi => (e i (by omega)).to (hc _ (by decide)) (hm _ (by decide))
  · exact fun v hv => (f v (by omega)).to (hm _ (by decide)) (by omega)
  · obtain ⟨s1, s2, s3⟩ := g
    refine ⟨by rw [o56, n64, md_frI fm (by decide), cd_frI fc (by decide) (by decide), A 37, h37]; exact s1, fun i hi => ?_, fun w hw => ?_⟩
    · obtain ⟨v', v1, v2, v3, v4, v5⟩ := s2 i (by omega)
      exact ⟨v', by omega, by rw [A 57]; exact v2, by rw [cd_frL fc (by decide) (by decide), md_frL fm (by decide)]; exact v3, by rw [cd_frA fc (by decide) (by decide), hk]; exact v4, by rw [n64, hn, hup, aN, A 51]; exact Or.inr v5⟩
    · rw [n64, hn, hup] at hw
      have e44 : aN m' 44 w = aN m 44 w := by rw [aN, aN, A 44]
      rw [e44]
      rcases hw with rfl | hw
      · have : aN m 44 w = 0 := by rw [aN, h44]; rfl
        rw [this]
        exact ⟨fun x hx => absurd hx (by omega), fun x y _ hy => absurd hy (by omega)⟩
      · obtain ⟨t1, t2⟩ := s3 w hw
        refine ⟨fun x hx => ?_, fun x y hx hy => ?_⟩
        · rw [A 45]
          rcases t1 x hx with ⟨r', r1, r2, r3⟩ | ⟨i, j1, j2⟩
          · exact Or.inl ⟨r', by rw [n64, hn, hup]; exact Or.inr r1, by rw [A 36]; exact r2, by rw [A 55]; exact r3⟩
          · exact Or.inr ⟨i, by omega, by rw [A 57]; exact j2⟩
        · rw [A 45, A 45]; exact t2 x y hx hy
  · intro i hi hiO
    exact (i6 i (by omega) hiO).to (rL_fr fc (by simp)) (cd_frI fc (by decide) (by decide) _) (A 41 i) (KP.of (hm _ (by decide))) q35 (by omega) (by omega) (fun r ns _ _ _ => TK.of (hm _ (by decide)) r ns) (clk (hm _ (by decide)))
  · rw [cd_frP fc (by decide) (by decide)]; exact i7
  · rw [n64, hn, hup]; exact Or.inr i8
  · rw [A 36]; exact i9
  · rw [n64, hn, hup] at hw
    rcases hw with rfl | hw
    · exact huO
    · exact i11 w hw
/-- out of unit u into unit o, with the scope as it was -/
theorem ST.outof {c c' : cd_S} {m m' : md_S} {O : List Nat} {mc k kl o s : Nat} (h : ST c m O mc k kl) (h36 : mA m 36 (mN m 64) ≠ 0) (h40 : mA m 40 (mN m 64) = nI o) (ho : o < mN m 64) (h37 : mA m 37 (mN m 64) = mA m 37 o) (fc : cd_fr [134, 136] [] c c') (fm : md_fr [41, 56, 64] m m') (x136 : cP c' 136 0 = o + 1) (x134 : cI c' 134 0 = nI s) (y64 : mI m' 64 = nI o) (y56 : mI m' 56 = nI s) (hs : s ≤ mN m 56) (h41 : ∀ i, i ≠ mN m 64 → mA m' 41 i = mA m 41 i) (hin : ∀ i, i < s → ∃ v, v < mN m 50 ∧ mA m 57 i = nI v ∧ AN m (aN m 51 v) o) (hout : ∀ i, s ≤ i → i < mN m 56 → ∃ v, v < mN m 50 ∧ mA m 57 i = nI v ∧ aN m 51 v = mN m 64) : ST c' m' O mc k kl := by
  obtain ⟨q62, q35, q50, q65, c138, c66, -, -, -, -, -, q56, -⟩ := h.nv
  have hnow := h.now
  have hanle := h.anle
  have hur := h.ur
  have hup := fun a => AN_up (a := a) h36 h40 (by omega)
  have huO : mN m 64 ∈ O := by
    obtain ⟨-, -, -, -, -, -, -, -, -, -, -, -, -, -, z⟩ := h
    exact z _ ⟨0, rfl, fun j hj => absurd hj (by omega)⟩
  have n64 : mN m' 64 = o := mN_of y64 (by omega)
  have n56 : mN m' 56 = s := mN_of y56 (by omega)
  have hc : ∀ F : List Nat, (∀ f, f ∈ F → f ∉ [134, 136] ∧ f ≠ 193) → CE F c c' := fun F hF => CE.of fc hF
  have hm : ∀ G : List Nat, (∀ f, f ∈ G → f ∉ [41, 56, 64]) → ME G m m' := fun G hG => ME.of fm hG
  have o' : ∀ q, q ∉ [41, 56, 64] → mN m' q = mN m q := fun q hq => mN_fr fm hq
  have o35 := o' 35 (by decide)
  have o50 := o' 50 (by decide)
  have o62 := o' 62 (by decide)
  have o65 := o' 65 (by decide)
  have A : ∀ f, f ∉ [41, 56, 64] → ∀ i, mA m' f i = mA m f i := fun f hf i => md_frA fm hf i
  have hk : ∀ v, kv m' v = kv m v := kv_ME (hm _ (by decide))
  have hn : ∀ a u, AN m' a u ↔ AN m a u := AN_ME (hm _ (by decide))
  have k1 : cN c' 138 = cN c 138 := by rw [cN, cN, cd_frI fc (by decide) (by decide)]
  have k2 : cN c' 66 = cN c 66 := by rw [cN, cN, cd_frI fc (by decide) (by decide)]
  obtain ⟨⟨z1, z2, z3, z4, z5, z6, z7, z8, z9⟩, ⟨b1, b2, b3, b4, b5⟩, ⟨d1, d2, d3, d4, d5, d6⟩, e, f, g, i1, i2, i3, ⟨gg, ll, i4⟩, i5, i6, ⟨r, i7, i8, i9⟩, i10, i11⟩ := h
  refine ⟨⟨?_, ?_, ?_, ?_, by rw [k1, k2, scS_ext (c := c) (c' := c') (fun i _ => by rw [rsz, rsz, cd_frz fc (by simp)])]; exact z5, trivial, ?_, ?_, ?_⟩, ⟨?_, ?_, ?_, ?_, ?_⟩, ⟨?_, ?_, ?_, ?_, d5, ?_⟩, ?_, ?_, ?_, i1.to (hc _ (by decide)) (hm _ (by decide)) (by omega), i2.to (hc _ (by decide)) (hm _ (by decide)) (by omega), i3.to (hc _ (by decide)) (hm _ (by decide)), ⟨gg, ll, i4.me (hc _ (by decide)) (hm _ (by decide))⟩, i5.to (hc _ (by decide)) (hm _ (by decide)) (by omega), ?_, ⟨r, ?_, ?_, ?_⟩, by omega, fun w hw => ?_⟩
  · rw [k1, cd_frI fc (by decide) (by decide)]; exact z1
  · rw [k1]; exact z2
  · rw [k2, cd_frI fc (by decide) (by decide)]; exact z3
  · rw [k2]; exact z4
  · exact ⟨o, by omega, x136⟩
  · rw [k2, cd_frP fc (by decide) (by decide)]; exact z8
  · intro i hi
    rw [k2] at hi ⊢
    rw [k1, cd_frI fc (by decide) (by decide), cd_frI fc (by decide) (by decide), cd_frI fc (by decide) (by decide)]
    have : rsz c' (17 + 3 * i) = rsz c (17 + 3 * i) := by rw [rsz, rsz, cd_frz fc (by simp)]
    rw [this]; exact z9 i hi
  · rw [cd_frI fc (by decide) (by decide), md_frI fm (by decide)]; exact b1
  · rw [cd_frI fc (by decide) (by decide), md_frI fm (by decide)]; exact b2
  · rw [x134, y56]
  · rw [x136, n64]
  · rw [n64]; exact y64
  · rw [o65, md_frI fm (by decide)]; exact d1
  · omega
  · rw [o50, md_frI fm (by decide)]; exact d3
  · omega
  · intro i hi
    obtain ⟨l, l1, l2⟩ := d6 i (by omega)
    exact ⟨l, by rw [cd_frI fc (by decide) (by decide)]; exact l1, by omega⟩
  · exact fun i hi => (e i (by omega)).to (hc _ (by decide)) (hm _ (by decide))
  · exact fun v hv => (f v (by omega)).to (hm _ (by decide)) (by omega)
  · obtain ⟨s1, s2, s3⟩ := g
    refine ⟨⟨by rw [n56]; exact y56, by omega, by rw [n64, cd_frI fc (by decide) (by decide), A 37 (by decide), ← h37]; exact s1.2.2⟩, fun i hi => ?_, fun w hw => ?_⟩
    · rw [n56] at hi
      obtain ⟨v', v1, v2, v3, v4, v5⟩ := s2 i (by omega)
      obtain ⟨v2', w1, w2, w3⟩ := hin i hi
      have : v' = v2' := (nI_eq (by omega) (by omega)).mp (v2.symm.trans w2)
      rw [← this] at w3
      exact ⟨v', by omega, by rw [A 57 (by decide)]; exact v2, by rw [cd_frL fc (by decide) (by decide), md_frL fm (by decide)]; exact v3, by rw [cd_frA fc (by decide) (by decide), hk]; exact v4, by rw [n64, hn, aN, A 51 (by decide)]; exact w3⟩
    · rw [n64, hn] at hw
      have hwu : AN m w (mN m 64) := (hup w).mpr (Or.inr hw)
      have hwl := hanle w hwu
      have hwne : w ≠ mN m 64 := fun y => by
        obtain ⟨kk, kk1, kk2⟩ := hw
        have := upn_le (m := m) (un := mN m 35) (fun i hi h0 => by
          obtain ⟨-, -, -, -, -, -, -, -, -, -, z, -⟩ := hur i hi
          rcases z with ⟨z, -⟩ | ⟨-, j, j1, j2, -⟩
          · exact absurd z h0
          · show aN m 40 i < i
            rw [aN_of j2 (by omega)]; exact j1) kk o (by omega) kk2
        rw [kk1] at this
        omega
      obtain ⟨t1, t2⟩ := s3 w hwu
      have e44 : aN m' 44 w = aN m 44 w := by rw [aN, aN, A 44 (by decide)]
      rw [e44]
      refine ⟨fun x hx => ?_, fun x y hx hy => ?_⟩
      · rw [A 45 (by decide)]
        rcases t1 x hx with ⟨r', r1, r2, r3⟩ | ⟨i, j1, j2⟩
        · rcases (hup r').mp r1 with rfl | r1
          · exact absurd r2 h36
          · exact Or.inl ⟨r', by rw [n64, hn]; exact r1, by rw [A 36 (by decide)]; exact r2, by rw [A 55 (by decide)]; exact r3⟩
        · right
          by_cases his : i < s
          · exact ⟨i, by omega, by rw [A 57 (by decide)]; exact j2⟩
          · exfalso
            obtain ⟨v', w1, w2, w3⟩ := hout i (by omega) j1
            obtain ⟨-, -, -, -, -, -, -, -, -, ⟨q, q1, q2, q3, q4⟩, -⟩ := hur w (by omega)
            have hx2 : x < q := by rw [aN_of q3 (by omega)] at hx; exact hx
            obtain ⟨v2', t1', t2', t3', t4'⟩ := q4 x hx2
            rw [w2, t2'] at j2
            have : v' = v2' := (nI_eq (by omega) (by omega)).mp j2
            rw [← this, w3] at t4'
            omega
      · rw [A 45 (by decide), A 45 (by decide)]; exact t2 x y hx hy
  · intro i hi hiO
    exact (i6 i (by omega) hiO).to (rL_fr fc (by simp)) (cd_frI fc (by decide) (by decide) _) (h41 i (fun y => hiO (by rw [y]; exact huO))) (KP.of (hm _ (by decide))) q35 (by omega) (by omega) (fun r ns _ _ _ => TK.of (hm _ (by decide)) r ns) (clk (hm _ (by decide)))
  · rw [cd_frP fc (by decide) (by decide)]; exact i7
  · rw [n64, hn]
    rcases (hup r).mp i8 with rfl | y
    · exact absurd i9 h36
    · exact y
  · rw [A 36 (by decide)]; exact i9
  · rw [n64, hn] at hw
    exact i11 w ((hup w).mpr (Or.inr hw))
/-- a unit is done -/
theorem ST.shut {c : cd_S} {m : md_S} {O : List Nat} {mc k kl u : Nat} (h : ST c m (u :: O) mc k kl) (hcl : CL c m O u) (hu : ∀ a, AN m a (mN m 64) → a ≠ u) : ST c m O mc k kl := by
  obtain ⟨a1, a2, a3, e, f, g, i1, i2, i3, i4, i5, i6, i7, i10, i11⟩ := h
  refine ⟨a1, a2, a3, e, f, g, i1, i2, i3, i4, ⟨i5.1, fun a ha => i5.2.1 a (by simp [ha]), i5.2.2⟩, fun i hi hO => ?_, i7, i10, fun w hw => ?_⟩
  · by_cases hiu : i = u
    · rw [hiu]; exact hcl
    · obtain ⟨f, r, es, l, ns, a1, a2, a3, a4, a5, a6, a7, a8⟩ := i6 i hi (by simp [hiu, hO])
      exact ⟨f, r, es, l, ns, a1, a2, a3, a4, a5, fun q hq => ⟨(a6 q hq).1, (a6 q hq).2.1, fun y => (a6 q hq).2.2 (by simp [y])⟩, a7, a8⟩
  · rcases List.mem_cons.mp (i11 w hw) with y | y
    · exact absurd y (hu w hw)
    · exact y
