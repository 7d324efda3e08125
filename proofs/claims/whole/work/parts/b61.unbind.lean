/-! the scope is left -/
theorem ST.unbind {c : cd_S} {m : md_S} {O : List Nat} {mc k kl s v : Nat} (h : ST c m O mc k kl) (h56 : mI m 56 = nI (s + 1)) (hs12 : s < 12) (h57 : mA m 57 s = nI v) (hv : v < mN m 50) (hown : mA m 51 v = nI (mN m 64)) : ST (cSI c 134 0 (cI c 134 0 - 1)) (mSI m 56 (mI m 56 - 1)) O mc k kl := by
  obtain ⟨q62, q35, q50, -, -, c66, -, -, -, -, n134, -, -, q134⟩ := h.nv
  have hnow := h.now
  have hle := h.anle
  have hur := h.ur
  have n56 : mN m 56 = s + 1 := mN_of h56 (by omega)
  rw [q134, n56, h56, nI_back]
  have fc : cd_fr [134] [] c (cSI c 134 0 (nI s)) := cd_fr_SI (cd_fr_refl _ _ _) (by decide) (by decide) _ _
  have fm : md_fr [56] m (mSI m 56 (nI s)) := md_fr_SI (md_fr_refl _ _) (by decide) _
  obtain ⟨c', hc'⟩ : ∃ x, x = cSI c 134 0 (nI s) := ⟨_, rfl⟩
  obtain ⟨m', hm'⟩ : ∃ x, x = mSI m 56 (nI s) := ⟨_, rfl⟩
  have x1 : cI c' 134 0 = nI s := by rw [hc', cI_SIe]
  have x2 : mI m' 56 = nI s := by rw [hm', mI_SIe]
  rw [← hc', ← hm']
  rw [← hc'] at fc
  rw [← hm'] at fm
  have hc : ∀ F : List Nat, (∀ f, f ∈ F → f ∉ [134] ∧ f ≠ 193) → CE F c c' := fun F hF => CE.of fc hF
  have hm : ∀ G : List Nat, (∀ f, f ∈ G → f ∉ [56]) → ME G m m' := fun G hG => ME.of fm hG
  have o : ∀ q, q ∉ [56] → mN m' q = mN m q := fun q hq => mN_fr fm hq
  have o35 := o 35 (by decide)
  have o50 := o 50 (by decide)
  have o62 := o 62 (by decide)
  have o64 := o 64 (by decide)
  have o65 := o 65 (by decide)
  have n56' : mN m' 56 = s := mN_of x2 (by omega)
  have k1 : cN c' 138 = cN c 138 := by rw [cN, cN, cd_frI fc (by decide) (by decide)]
  have k2 : cN c' 66 = cN c 66 := by rw [cN, cN, cd_frI fc (by decide) (by decide)]
  have k3 : cN c' 134 = s := cN_of x1 (by omega)
  have A : ∀ f, ∀ i, mA m' f i = mA m f i := fun f i => by rw [hm']; rfl
  have hk : ∀ v, kv m' v = kv m v := kv_ME (hm _ (by decide))
  have hn : ∀ a u, AN m' a u ↔ AN m a u := AN_ME (hm _ (by decide))
  obtain ⟨⟨z1, z2, z3, z4, z5, z6, z7, z8, z9⟩, ⟨b1, b2, b3, b4, b5⟩, ⟨d1, d2, d3, d4, d5, d6⟩, e, f, g, i1, i2, i3, ⟨gg, ll, i4⟩, i5, i6, ⟨r, i7, i8, i9⟩, i10, i11⟩ := h
  refine ⟨⟨?_, ?_, ?_, ?_, ?_, ?_, ?_, ?_, ?_⟩, ⟨?_, ?_, ?_, ?_, ?_⟩, ⟨?_, ?_, ?_, ?_, d5, ?_⟩, ?_, ?_, ?_, i1.to (hc _ (by decide)) (hm _ (by decide)) (by omega), i2.to (hc _ (by decide)) (hm _ (by decide)) (by omega), i3.to (hc _ (by decide)) (hm _ (by decide)), ⟨gg, ll, i4.me (hc _ (by decide)) (hm _ (by decide))⟩, i5.to (hc _ (by decide)) (hm _ (by decide)) (by omega), ?_, ⟨r, ?_, ?_, ?_⟩, by omega, fun u hu => i11 u (by rw [o64, hn] at hu; exact hu)⟩
  · rw [k1, cd_frI fc (by decide) (by decide)]; exact z1
  · rw [k1]; exact z2
  · rw [k2, cd_frI fc (by decide) (by decide)]; exact z3
  · rw [k2]; exact z4
  · rw [k1, k2, scS_ext (c := c) (c' := c') (fun i _ => by rw [rsz, rsz, cd_frz fc (by simp)])]; exact z5
  · trivial
  · rw [k2, cd_frP fc (by decide) (by decide)]; exact z7
  · rw [k2, cd_frP fc (by decide) (by decide)]; exact z8
  · intro i hi
    rw [k2] at hi ⊢
    rw [k1, cd_frI fc (by decide) (by decide), cd_frI fc (by decide) (by decide), cd_frI fc (by decide) (by decide)]
    have : rsz c' (17 + 3 * i) = rsz c (17 + 3 * i) := by rw [rsz, rsz, cd_frz fc (by simp)]
    rw [this]; exact z9 i hi
  · rw [cd_frI fc (by decide) (by decide), md_frI fm (by decide)]; exact b1
  · rw [cd_frI fc (by decide) (by decide), md_frI fm (by decide)]; exact b2
  · rw [x1, x2]
  · rw [cd_frP fc (by decide) (by decide), o64]; exact b4
  · rw [o64, md_frI fm (by decide)]; exact b5
  · rw [o65, md_frI fm (by decide)]; exact d1
  · omega
  · rw [o50, md_frI fm (by decide)]; exact d3
  · omega
  · intro i hi
    obtain ⟨l, l1, l2⟩ := d6 i (by omega)
    exact ⟨l, by rw [cd_frI fc (by decide) (by decide)]; exact l1, by omega⟩
  · exact fun i hi => (e i (by omega)).to (hc _ (by decide)) (hm _ (by decide))
  · exact fun v hv => (f v (by omega)).to (hm _ (by decide)) (by omega)
  · obtain ⟨s1, s2, s3⟩ := g
    refine ⟨⟨by rw [n56']; exact x2, by omega, by rw [cd_frI fc (by decide) (by decide), o64, A 37]; exact s1.2.2⟩, fun i hi => ?_, fun u hu => ?_⟩
    · rw [n56'] at hi
      obtain ⟨v', v1, v2, v3, v4, v5⟩ := s2 i (by omega)
      exact ⟨v', by omega, (A 57 i).trans v2, by rw [cd_frL fc (by decide) (by decide), md_frL fm (by decide)]; exact v3, by rw [cd_frA fc (by decide) (by decide), hk]; exact v4, by rw [hn, o64, aN, A 51]; exact v5⟩
    · rw [o64, hn] at hu
      obtain ⟨t1, t2⟩ := s3 u hu
      have e44 : aN m' 44 u = aN m 44 u := by rw [aN, aN, A 44]
      rw [e44]
      refine ⟨fun x hx => ?_, fun x y hx hy => ?_⟩
      · rw [A 45]
        rcases t1 x hx with ⟨r, r1, r2, r3⟩ | ⟨i, j1, j2⟩
        · exact Or.inl ⟨r, by rw [o64, hn]; exact r1, by rw [A 36]; exact r2, by rw [A 55]; exact r3⟩
        · right
          have hul := hle u hu
          obtain ⟨-, -, -, -, -, -, -, -, -, ⟨q, q1, q2, q3, q4⟩, -⟩ := hur u (by omega)
          have hx2 : x < q := by rw [aN_of q3 (by omega)] at hx; exact hx
          obtain ⟨v', v1, v2, v3, v4⟩ := q4 x hx2
          have hne : i ≠ s := by
            intro hi
            rw [hi, h57, v2] at j2
            have : v = v' := (nI_eq (by omega) (by omega)).mp j2
            rw [← this, aN_of hown (by omega)] at v4
            omega
          exact ⟨i, by omega, by rw [A 57]; exact j2⟩
      · rw [A 45, A 45]; exact t2 x y hx hy
  · intro i hi hO
    exact (i6 i (by omega) hO).to (rL_fr fc (by simp)) (cd_frI fc (by decide) (by decide) _) (A 41 i) (KP.of (hm _ (by decide))) q35 (by omega) (by omega) (fun r ns _ _ _ => TK.of (hm _ (by decide)) r ns) (clk (hm _ (by decide)))
  · rw [cd_frP fc (by decide) (by decide)]; exact i7
  · rw [o64, hn]; exact i8
  · rw [A 36]; exact i9
theorem GR.unbind {c c1 c6 : cd_S} {m m1 m6 : md_S} {s v : Nat} {nm : Int64} {key : Int32} (hb : BI c c1 m m1 s v nm key) (h : GR c1 c6 m1 m6) : GR c (cSI c6 134 0 (cI c6 134 0 - 1)) m (mSI m6 56 (mI m6 56 - 1)) := by
  obtain ⟨fc, fm, x1, x2, x3, x4, x5, x6⟩ := hb.fr
  have hm56 := hb.2.2.2.1
  have hs12 := hb.2.2.2.2
  have o : ∀ q, q ∉ [56, 57] → mN m1 q = mN m q := fun q hq => mN_fr fm hq
  have o35 := o 35 (by decide)
  have o50 := o 50 (by decide)
  have o62 := o 62 (by decide)
  have o64 := o 64 (by decide)
  have o65 := o 65 (by decide)
  have n56 : mN m1 56 = s + 1 := mN_of x2 (by omega)
  have n56' : mN m 56 = s := mN_of hm56 (by omega)
  have A : ∀ f, f ∉ [56, 57] → ∀ i, mA m1 f i = mA m f i := fun f hf i => md_frA fm hf i
  have hn : ∀ a u, AN m1 a u ↔ AN m a u := AN_ME (ME.of fm (by decide))
  have hkp : KP m m1 := KP.fr fm (by decide)
  obtain ⟨⟨a1, a2⟩, b, d, e, f, g, i, j, l, o', p, q, r⟩ := h
  have hkp2 : KP m6 (mSI m6 56 (mI m6 56 - 1)) := KP.fr (L := [56]) (md_fr_SI (md_fr_refl _ _) (by decide) _) (by decide)
  have N6 : ∀ q, q ≠ 56 → mN (mSI m6 56 (mI m6 56 - 1)) q = mN m6 q := fun q hq => by rw [mN, mN, mI_SIo hq]
  refine ⟨⟨by rw [N6 65 (by decide)]; omega, fun x hx => ?_⟩, (hkp.tr b).tr hkp2, fun x hx => ?_, fun v hv => ?_, ?_, fun x hx => ?_, ?_, ?_, ?_, ?_, ?_, fun x h1 h2 => ?_, by rw [N6 62 (by decide)]; omega⟩
  · obtain ⟨y1, y2, y3, y4, y5, y6⟩ := a2 x (by omega)
    exact ⟨y1.trans (A 66 (by decide) x), y2.trans (A 67 (by decide) x), y3.trans (A 68 (by decide) x), y4.trans (A 69 (by decide) x), y5.trans (A 70 (by decide) x), ⟨y6.1.trans (A 71 (by decide) x), y6.2.trans (A 72 (by decide) x)⟩⟩
  · obtain ⟨⟨y1, y2, y3, y4, y5, y6, y7, y8⟩, y9, y10⟩ := d x (by omega)
    refine ⟨⟨y1.trans (A 36 (by decide) x), y2.trans (A 37 (by decide) x), y3.trans (A 39 (by decide) x), y4.trans (A 40 (by decide) x), y5.trans (A 41 (by decide) x), y6.trans (A 55 (by decide) x), y7.trans (md_frL fm (by decide) x), y8.trans (cd_frJ fc (by decide) (by decide) x)⟩, fun hne => ?_, fun hna => ?_⟩
    · obtain ⟨z1, z2, z3⟩ := y9 (by rw [o64]; exact hne)
      exact ⟨z1.trans (A 46 (by decide) x), by rw [rL_SI (by decide), z2, rL_fr fc (by simp)], by rw [cI_SIo (by decide), z3, cd_frI fc (by decide) (by decide)]⟩
    · obtain ⟨z1, z2⟩ := y10 (by rw [o64, hn]; exact hna)
      exact ⟨z1.trans (A 44 (by decide) x), fun y hy => (z2 y hy).trans (A 45 (by decide) _)⟩
  · obtain ⟨y1, y2, y3, y4⟩ := e v (by omega)
    exact ⟨y1.trans (A 51 (by decide) v), y2.trans (md_frL fm (by decide) v), y3.trans (A 53 (by decide) v), y4.trans (A 54 (by decide) v)⟩
  · rw [mI_SIe, f, x2, nI_back, hm56]
  · have := g x (by omega)
    exact this.trans (x6 x (by omega)).2.2
  · rw [mI_SIo (by decide), i, md_frI fm (by decide)]
  · rw [mI_SIo (by decide), j, md_frI fm (by decide)]
  · rw [mI_SIo (by decide), l, md_frI fm (by decide)]
  · rw [cI_SIo (by decide), o', cd_frI fc (by decide) (by decide)]
  · show cP c6 135 0 = _
    rw [p, cd_frP fc (by decide) (by decide)]
  · rw [N6 35 (by decide)] at h2
    exact q x (by omega) h2
theorem EOk.unbind {pw : Nat} {B : Nat → Int32} {N : Nat} {c c1 c6 : cd_S} {m m1 m6 : md_S} {O : List Nat} {mc k kl s v : Nat} {L : List WD} {nm : Int64} {key x0 x : Int32} {b : cd_B} (hb : BI c c1 m m1 s v nm key) (hv : v < mN m 50) (hown : mA m 51 v = nI (mN m 64)) (h : EOk pw B N c1 m1 O mc k kl L x0 c6 b x m6) : EOk pw B N c m O mc k kl L x0 (cSI c6 134 0 (cI c6 134 0 - 1)) b x (mSI m6 56 (mI m6 56 - 1)) := by
  obtain ⟨fc, fm, x1, x2, x3, x4, x5, x6⟩ := hb.fr
  have hs12 := hb.2.2.2.2
  obtain ⟨⟨w', L', hX, hl⟩, hs6, hg6, hp6, f2, r2, es2, l0', l2, n2, rfl, y0, y1, yb0, yb1, ⟨hG2, hW2⟩, hb2, h71, hL6, hcv6⟩ := h
  obtain ⟨q62, q35, q50, q65, -⟩ := hs6.nv
  have o : ∀ q, q ∉ [56, 57] → mN m1 q = mN m q := fun q hq => mN_fr fm hq
  have o35 := o 35 (by decide)
  have o50 := o 50 (by decide)
  have o62 := o 62 (by decide)
  have o64 := o 64 (by decide)
  have o65 := o 65 (by decide)
  have n56 : mN m1 56 = s + 1 := mN_of x2 (by omega)
  have n64' := hg6.n64
  rw [o64] at y0 y1 hG2 hL6 hcv6
  rw [o65, o35] at hb2 hcv6
  have fc6 : cd_fr [134] [] c6 (cSI c6 134 0 (cI c6 134 0 - 1)) := cd_fr_SI (cd_fr_refl _ _ _) (by decide) (by decide) _ _
  have fm6 : md_fr [56] m6 (mSI m6 56 (mI m6 56 - 1)) := md_fr_SI (md_fr_refl _ _) (by decide) _
  have h56 : mI m6 56 = nI (s + 1) := by
    obtain ⟨-, -, -, -, z, -⟩ := hg6
    rw [z, x2]
  have h57 : mA m6 57 s = nI v := by
    obtain ⟨-, -, -, -, -, z, -⟩ := hg6
    rw [z s (by omega), x5]
  have h51 : mA m6 51 v = nI (mN m6 64) := by
    obtain ⟨-, -, -, z, -⟩ := hg6
    rw [(z v (by omega)).1, md_frA fm (by decide), hown, n64', o64]
  have h50 : mN m1 50 ≤ mN m6 50 := hg6.2.1.2.2.1
  refine ⟨⟨w', L', hX.fr fc6 fm6 (by decide) (by decide) (by decide), hl⟩, hs6.unbind h56 hs12 h57 (by omega) h51, hg6.unbind hb, by rw [mN_fr fm6 (by decide)]; omega, f2, r2, es2, l0', l2, n2, rfl, ?_, ?_, yb0, yb1, ?_, hb2.gr (by rw [mN_fr fm6 (by decide)]; exact Nat.le_refl _) (by rw [mN_fr fm6 (by decide)]; exact Nat.le_refl _), h71, ?_, hcv6.fr fm6 (by decide) (by decide) (by decide)⟩
  · rw [← y0, cd_frI fc (by decide) (by decide)]
  · rw [← y1, cI_SIo (by decide)]
  · exact ⟨hG2.to (KP.fr fm6 (by decide)) q35 (by omega) hb2.2.2.1 (TK.of (ME.of fm6 (by decide)) r2 n2), hW2.to (o 63 (by decide)).symm (fun q => Gen.gw hG2 hb2.2.2.1 (TK.of (ME.of fm6 (by decide)) r2 n2) q)⟩
  · rw [rL_SI (by decide), hL6, rL_fr fc (by simp)]
