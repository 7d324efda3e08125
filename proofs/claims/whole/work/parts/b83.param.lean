/-! a parameter of the unit at work -/
theorem ST.param {c c' : cd_S} {m m' : md_S} {O : List Nat} {mc mc2 k kl p s : Nat} {nm : Int64} (h : ST c m O mc k kl) (hp : mA m 39 (mN m 64) = nI p) (hp3 : p < 3) (h46 : mA m 46 (mN m 64) = 0) (hs : mN m 56 = s) (hs12 : s < 12) (fc : cd_fr [132, 133, 134, 294, 298, 327, 328, 329, 330] [] c c') (fm : md_fr [6, 7, 8, 9, 10, 11, 12, 13, 14, 15, 39, 50, 51, 52, 53, 54, 56, 57] m m') (o294 : ∀ i, i ≠ mN m 64 → cI c' 294 i = cI c 294 i) (o298 : ∀ i, i ≠ mN m 64 → cI c' 298 i = cI c 298 i) (x294 : cI c' 294 (mN m 64) = nI (p + 1)) (x298 : cI c' 298 (mN m 64) = cI c 298 (mN m 64) + 1) (x134 : cI c' 134 0 = nI (s + 1)) (o132 : ∀ i, i ≠ s → cLr c' 132 0 i = cLr c 132 0 i) (o133 : ∀ i, i ≠ s → cAr c' 133 0 i = cAr c 133 0 i) (x132 : cLr c' 132 0 s = nm) (x133 : cAr c' 133 0 s = nI (mN m 64 * 1024 + ub m (mN m 64)))
    (o39 : ∀ i, i ≠ mN m 64 → mA m' 39 i = mA m 39 i) (x39 : mA m' 39 (mN m 64) = nI (p + 1)) (x50 : mI m' 50 = nI (mN m 50 + 1)) (ho : ∀ v, v < mN m 50 → mA m' 51 v = mA m 51 v ∧ mL m' 52 v = mL m 52 v ∧ mA m' 53 v = mA m 53 v ∧ mA m' 54 v = mA m 54 v) (x51 : mA m' 51 (mN m 50) = nI (mN m 64)) (x52 : NR nm (mL m' 52 (mN m 50))) (x53 : mA m' 53 (mN m 50) = nI (ub m (mN m 64))) (x54 : mA m' 54 (mN m 50) = 0) (x56 : mI m' 56 = nI (s + 1)) (o57 : ∀ i, i ≠ s → mA m' 57 i = mA m 57 i) (x57 : mA m' 57 s = nI (mN m 50)) (hmc : mc2 % 16 = mc % 16) (hd : 2 * (mN m 50 + 1) + mc2 / 16 ≤ mN m 62 + kl + 8 * mN m 35) : ST c' m' O mc2 k kl ∧ ∀ v, v < mN m 50 → kv m' v = kv m v := by
  obtain ⟨q62, q35, q50, q65, c138, c66, -, -, -, -, -, q56, s56, s134⟩ := h.nv
  have hnow := h.now
  have hur := h.ur
  have hvr := h.vr
  have hc : ∀ F : List Nat, (∀ f, f ∈ F → f ∉ [132, 133, 134, 294, 298, 327, 328, 329, 330] ∧ f ≠ 193) → CE F c c' := fun F hF => CE.of fc hF
  have hm : ∀ G : List Nat, (∀ f, f ∈ G → f ∉ [6, 7, 8, 9, 10, 11, 12, 13, 14, 15, 39, 50, 51, 52, 53, 54, 56, 57]) → ME G m m' := fun G hG => ME.of fm hG
  have o : ∀ q, q ∉ [6, 7, 8, 9, 10, 11, 12, 13, 14, 15, 39, 50, 51, 52, 53, 54, 56, 57] → mN m' q = mN m q := fun q hq => mN_fr fm hq
  have o35 := o 35 (by decide)
  have o48 := o 48 (by decide)
  have o58 := o 58 (by decide)
  have o60 := o 60 (by decide)
  have o62 := o 62 (by decide)
  have o64 := o 64 (by decide)
  have o65 := o 65 (by decide)
  have n50 : mN m' 50 = mN m 50 + 1 := mN_of x50 (by omega)
  have n56 : mN m' 56 = s + 1 := mN_of x56 (by omega)
  have A : ∀ f, f ∉ [6, 7, 8, 9, 10, 11, 12, 13, 14, 15, 39, 50, 51, 52, 53, 54, 56, 57] → ∀ i, mA m' f i = mA m f i := fun f hf i => md_frA fm hf i
  have h46' : aN m 46 (mN m 64) = 0 := by rw [aN, h46]; rfl
  have hub : ∀ x, x ≠ mN m 64 → ub m' x = ub m x := fun x hx => by unfold ub aN; rw [A 36 (by decide), o39 x hx]
  have hubn : ub m' (mN m 64) = ub m (mN m 64) + 1 := by
    unfold ub
    rw [A 36 (by decide), aN_of x39 (by omega), aN_of hp (by omega)]; omega
  have hub4 : ub m (mN m 64) ≤ 4 := by
    unfold ub
    rw [aN_of hp (by omega)]
    split <;> omega
  -- no let of the unit yet
  have h54 : ∀ v, v < mN m 50 → aN m 51 v = mN m 64 → mA m 54 v = 0 := fun v hv ho => by
    obtain ⟨-, -, r, -⟩ := hvr v hv
    rw [ho, h46'] at r
    by_cases h5 : mA m 54 v = 0
    · exact h5
    · unfold vI at r
      rw [if_neg h5, ho] at r
      omega
  have hvI : ∀ v, v < mN m 50 → vI m' v = vI m v ∧ aN m' 51 v = aN m 51 v := fun v hv => by
    obtain ⟨k1, k2, k3, k4⟩ := ho v hv
    have e51 : aN m' 51 v = aN m 51 v := by rw [aN, aN, k1]
    have e53 : aN m' 53 v = aN m 53 v := by rw [aN, aN, k3]
    refine ⟨?_, e51⟩
    unfold vI
    rw [e51, e53, k4]
    by_cases hw : aN m 51 v = mN m 64
    · rw [if_pos (h54 v hv hw), if_pos (h54 v hv hw)]
    · rw [hub _ hw]
  have hkv : ∀ v, v < mN m 50 → kv m' v = kv m v := fun v hv => by
    unfold kv
    rw [(hvI v hv).1, (hvI v hv).2]
  have hkn : kv m' (mN m 50) = nI (mN m 64 * 1024 + ub m (mN m 64)) := by
    unfold kv vI
    rw [if_pos x54, aN_of x51 (by omega), aN_of x53 (by omega), Nat.zero_add]
  have hkp : KP m m' := ⟨hkv, by omega, by omega, by omega, by omega, by omega, fun i => ⟨md_frA fm (by decide) i, md_frA fm (by decide) i⟩, CG.vs fm (by decide) (fun v hv => (ho v hv).1), S36.fr fm (by decide)⟩
  have hn : ∀ a u, AN m' a u ↔ AN m a u := AN_ME (hm _ (by decide))
  refine ⟨?_, hkv⟩
  obtain ⟨a1, ⟨b1, b2, b3, b4, b5⟩, ⟨d1, d2, d3, d4, d5, d6⟩, e, f, g, i1, i2, i3, ⟨gg, ll, i4⟩, i5, i6, ⟨r, i7, i8, i9⟩, i10, i11⟩ := h
  refine ⟨a1.to (hc _ (by decide)) (fun i _ => cd_frz fc (by simp)), ⟨?_, ?_, ?_, ?_, ?_⟩, ⟨?_, ?_, ?_, ?_, d5, ?_⟩, ?_, ?_, ?_, i1.to (hc _ (by decide)) (hm _ (by decide)) (by omega), i2.to (hc _ (by decide)) (hm _ (by decide)) (by omega), i3.to (hc _ (by decide)) (hm _ (by decide)), ⟨gg, ll, i4.me (hc _ (by decide)) (hm _ (by decide))⟩, by rw [hmc]; exact i5.to (hc _ (by decide)) (hm _ (by decide)) (by omega), ?_, ⟨r, ?_, ?_, ?_⟩, by omega, fun w hw => i11 w (by rw [o64, hn] at hw; exact hw)⟩
  · rw [cd_frI fc (by decide) (by decide), md_frI fm (by decide)]; exact b1
  · rw [cd_frI fc (by decide) (by decide), md_frI fm (by decide)]; exact b2
  · rw [x134, x56]
  · rw [cd_frP fc (by decide) (by decide), o64]; exact b4
  · rw [o64, md_frI fm (by decide)]; exact b5
  · rw [o65, md_frI fm (by decide)]; exact d1
  · omega
  · rw [n50]; exact x50
  · omega
  · intro i hi
    obtain ⟨l, l1, l2⟩ := d6 i (by omega)
    exact ⟨l, by rw [cd_frI fc (by decide) (by decide)]; exact l1, by omega⟩
  · intro i hi
    have I : ∀ f, f ∉ [132, 133, 134, 294, 298, 327, 328, 329, 330] → f ≠ 193 → cI c' f i = cI c f i := fun f h1 h2 => cd_frI fc h1 h2 i
    obtain ⟨w1, w2, w3, w4, w5, w6, w7, w8, ⟨q0, z1, z2, z3⟩, ⟨q, q1, q2, q3, q4⟩, w11, ⟨d, dd1, dd2, dd3, dd4, dd5, dd6⟩⟩ := e i (by omega)
    have w10' : ∃ q, q ≤ 13 ∧ cI c' 299 i = nI q ∧ mA m' 44 i = nI q ∧ ∀ x, x < q → ∃ v, v < mN m' 50 ∧ mA m' 45 (16 * i + x) = nI v ∧ cAr c' 300 i x = kv m' v ∧ aN m' 51 v < i := by
      refine ⟨q, q1, by rw [I 299 (by decide) (by decide)]; exact q2, by rw [A 44 (by decide)]; exact q3, fun x hx => ?_⟩
      obtain ⟨v, v1, v2, v3, v4⟩ := q4 x hx
      exact ⟨v, by omega, by rw [A 45 (by decide)]; exact v2, by rw [cd_frA fc (by decide) (by decide), hkv v v1]; exact v3, by rw [(hvI v v1).2]; exact v4⟩
    have w11' : (mA m' 36 i = 0 ∧ mA m' 40 i = -1 ∧ cI c' 295 i = nI i ∧ ∃ v, v < mN m' 50 ∧ mA m' 55 i = nI v ∧ mA m' 51 v = nI i ∧ mA m' 53 v = 0 ∧ mA m' 54 v = 0) ∨ (mA m' 36 i ≠ 0 ∧ ∃ j, j < i ∧ mA m' 40 i = nI j ∧ cI c' 295 i = nI j) := by
      rw [A 36 (by decide), A 40 (by decide), A 55 (by decide), I 295 (by decide) (by decide)]
      rcases w11 with ⟨t1, t2, t3, v, v1, v2, v3, v4, v5⟩ | t
      · obtain ⟨k1, k2, k3, k4⟩ := ho v v1
        exact Or.inl ⟨t1, t2, t3, v, by omega, v2, k1.trans v3, k3.trans v4, k4.trans v5⟩
      · exact Or.inr t
    have w12' : ∃ d, mA m' 37 i = nI d ∧ d < 8 ∧ cI c' 291 i = cAr c' 101 0 d ∧ cI c' 297 i = nI i ∧ cI c' 301 i = 0 ∧ (mA m' 36 i = 0 → NR (cJ c' 293 i) (mL m' 43 i) ∨ cJ c' 293 i = 0) :=
      ⟨d, by rw [A 37 (by decide)]; exact dd1, dd2, by rw [I 291 (by decide) (by decide), cd_frA fc (by decide) (by decide)]; exact dd3, by rw [I 297 (by decide) (by decide)]; exact dd4, by rw [I 301 (by decide) (by decide)]; exact dd5, by rw [A 36 (by decide), cd_frJ fc (by decide) (by decide), md_frL fm (by decide)]; exact dd6⟩
    by_cases hiu : i = mN m 64
    · refine ⟨by rw [I 289 (by decide) (by decide), A 36 (by decide)]; exact w1, by rw [A 36 (by decide)]; exact w2, by rw [I 290 (by decide) (by decide), A 37 (by decide)]; exact w3, by rw [A 37 (by decide)]; exact w4, by rw [I 292 (by decide) (by decide), A 38 (by decide)]; exact w5, by rw [hiu, x294, x39], ⟨p + 1, by omega, by rw [hiu]; exact x39⟩, by rw [I 296 (by decide) (by decide), A 42 (by decide)]; exact w8, ⟨0, by rw [A 46 (by decide), hiu]; exact h46, by omega, ?_⟩, w10', w11', w12'⟩
      rw [hiu] at z1 z3
      have hq0 : q0 = 0 := by
        have := h46.symm.trans z1
        exact ((nI_eq (a := 0) (by decide) (by omega)).mp this).symm
      rw [hiu, x298, z3, hq0, hubn, nI_1]
    · refine ⟨by rw [I 289 (by decide) (by decide), A 36 (by decide)]; exact w1, by rw [A 36 (by decide)]; exact w2, by rw [I 290 (by decide) (by decide), A 37 (by decide)]; exact w3, by rw [A 37 (by decide)]; exact w4, by rw [I 292 (by decide) (by decide), A 38 (by decide)]; exact w5, by rw [o294 i hiu, o39 i hiu]; exact w6, by rw [o39 i hiu]; exact w7, by rw [I 296 (by decide) (by decide), A 42 (by decide)]; exact w8, ⟨q0, by rw [A 46 (by decide)]; exact z1, by omega, by rw [o298 i hiu, hub i hiu]; exact z3⟩, w10', w11', w12'⟩
  · intro v hv
    by_cases hv5 : v = mN m 50
    · rw [hv5]
      refine ⟨⟨mN m 64, by omega, x51⟩, ⟨ub m (mN m 64), by omega, x53⟩, ?_, fun v2 hv2 e9 => ?_⟩
      · unfold vI
        rw [if_pos x54, aN_of x51 (by omega), aN_of x53 (by omega), hubn]
        omega
      · rw [hkv v2 hv2, hkn] at e9
        obtain ⟨⟨w, u1, u2⟩, -, r', -⟩ := f v2 hv2
        rw [aN_of u2 (by omega)] at r'
        obtain ⟨-, -, -, -, -, -, ⟨pp, p1, p2⟩, -, ⟨q0, z1, z2, z3⟩, -⟩ := e w u1
        have hu4 : ub m w ≤ 4 := by
          unfold ub
          rw [aN_of p2 (by omega)]
          split <;> omega
        have hq46 : aN m 46 w ≤ 460 := by rw [aN_of z1 (by omega)]; omega
        unfold kv at e9
        rw [aN_of u2 (by omega)] at e9
        have e10 := (nI_eq (by omega) (by omega)).mp e9
        have hue : w = mN m 64 := by omega
        rw [hue] at r' e10
        rw [h46'] at r'
        omega
    · have hv : v < mN m 50 := by omega
      obtain ⟨⟨w, u1, u2⟩, qq, r', t'⟩ := f v hv
      obtain ⟨k1, k2, k3, k4⟩ := ho v hv
      have e46 : ∀ x, aN m' 46 x = aN m 46 x := fun x => by unfold aN; rw [A 46 (by decide)]
      refine ⟨⟨w, by omega, k1.trans u2⟩, by rw [k3]; exact qq, ?_, fun v2 hv2 => by rw [hkv v2 (by omega), hkv v hv]; exact t' v2 hv2⟩
      rw [(hvI v hv).1, (hvI v hv).2, e46]
      by_cases hw : aN m 51 v = mN m 64
      · rw [hw, hubn]; rw [hw] at r'; omega
      · rw [hub _ hw]; exact r'
  · obtain ⟨s1, s2, s3⟩ := g
    refine ⟨⟨by rw [n56]; exact x56, by omega, by rw [o64, cd_frI fc (by decide) (by decide), A 37 (by decide)]; exact s1.2.2⟩, fun i hi => ?_, fun w hw => ?_⟩
    · rw [n56] at hi
      by_cases his : i = s
      · rw [his, x132, x133, x57]
        refine ⟨mN m 50, by omega, rfl, x52, by rw [hkn], ?_⟩
        rw [o64, hn, aN_of x51 (by omega)]
        exact ⟨0, rfl, fun j hj => absurd hj (by omega)⟩
      · obtain ⟨v', v1, v2, v3, v4, v5⟩ := s2 i (by omega)
        exact ⟨v', by omega, by rw [o57 i his]; exact v2, by rw [o132 i his, (ho v' v1).2.1]; exact v3, by rw [o133 i his, hkv v' v1]; exact v4, by rw [o64, hn, (hvI v' v1).2]; exact v5⟩
    · rw [o64, hn] at hw
      obtain ⟨t1, t2⟩ := s3 w hw
      have e44 : aN m' 44 w = aN m 44 w := by rw [aN, aN, A 44 (by decide)]
      rw [e44]
      refine ⟨fun x hx => ?_, fun x y hx hy => ?_⟩
      · rw [A 45 (by decide)]
        rcases t1 x hx with ⟨r', r1, r2, r3⟩ | ⟨i, j1, j2⟩
        · exact Or.inl ⟨r', by rw [o64, hn]; exact r1, by rw [A 36 (by decide)]; exact r2, by rw [A 55 (by decide)]; exact r3⟩
        · exact Or.inr ⟨i, by omega, by rw [o57 i (by omega)]; exact j2⟩
      · rw [A 45 (by decide), A 45 (by decide)]; exact t2 x y hx hy
  · intro i hi hiO
    exact (i6 i (by omega) hiO).to (rL_fr fc (by simp)) (cd_frI fc (by decide) (by decide) _) (A 41 (by decide) i) hkp q35 (by omega) (by omega) (fun r ns _ _ _ => TK.of (hm _ (by decide)) r ns) (clk (hm _ (by decide)))
  · rw [cd_frP fc (by decide) (by decide)]; exact i7
  · rw [o64, hn]; exact i8
  · rw [A 36 (by decide)]; exact i9
