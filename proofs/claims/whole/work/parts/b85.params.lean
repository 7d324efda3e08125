/-! the row of parameters, whole -/
theorem PF.hat {u : Nat} {ca c : cd_S} {ma m : md_S} {v : Int32} (h : PF u ca c ma m) : PF u ca c (mSI ma 64 v) (mSI m 64 v) := by
  obtain ⟨a1, a2, a3, a4, a5, a6, a7, a8, a9⟩ := h
  have hN : ∀ (m : md_S) q, q ≠ 64 → mN (mSI m 64 v) q = mN m q := fun m q hq => by rw [mN, mN, mI_SIo hq]
  unfold PF
  rw [hN m 50 (by decide), hN ma 50 (by decide), hN m 56 (by decide), hN ma 56 (by decide), mI_SIo (by decide), mI_SIo (by decide)]
  exact ⟨a1, md_fr64 a2, a3, a4, a5, a6, a7, a8, a9⟩
theorem params_ok {n : Nat} {C : Nat × Nat} {B : Nat → Int32} {N : Nat} {c0 c : cd_S} {m0 m : md_S} {b : cd_B} {w : WD} {L : List WD} {O : List Nat} {mc k kl u off : Nat} (hC : BC C) (hn : 5000 ≤ n) (hu60 : u < 60) (hc : CI C c0 b c b) (hm : MI m0 m) (h : LX B N c m w L) (hs : ST c (mSI m 64 (nI u)) O (mc + 96) k kl) (h39 : mA m 39 u = 0) (h46 : mA m 46 u = 0) (hub : ub m u = off) :
    OUT C c0 m0 b (f_X4_readParameters n c b) (Option.bind (f_X12_isFine n m) fun p2 => if p2.1 = 0 then (some ((0 : Int32), p2.2)) else (Option.bind (f_X12_isSign n p2.2 (41 : Int32)) fun p3 => if p3.1 = 0 then (Option.bind (f_X12_parameters_L31 n (nI u) (nI off) ((mI m 56)) n p3.2 1) fun q20 => Sum.elim some (fun t20 => some ((0 : Int32), t20.1)) q20) else (some ((0 : Int32), p3.2))))
      (fun _ c' b' _ m' => b' = b ∧ ∃ p' w' L', LX B N c' m' w' L' ∧ L'.length ≤ L.length ∧ p' ≤ 3 ∧ mA m' 39 u = nI p' ∧ cI c' 294 u = nI p' ∧ ST c' (mSI m' 64 (nI u)) O mc k kl ∧ PF u c c' m m') (fun _ _ => True) := by
  have hN : ∀ q, q ≠ 64 → mN (mSI m 64 (nI u)) q = mN m q := fun q hq => by rw [mN, mN, mI_SIo hq]
  obtain ⟨q62, q35, q50, q65, -, -, -, -, -, -, -, q56, s56, s134⟩ := hs.nv
  have hnow := hs.now
  rw [hN 56 (by decide)] at q56 s56 s134
  rw [mI_SIo (by decide)] at s56
  unfold f_X4_readParameters f_X4_readParameters_J22
  refine out_ck ?_
  rw [h.k.1, m_fine, bs_some, if_pos h.fine]
  dsimp only
  rw [if_neg ne10, m_isSign h.fine h.mw sg41, bs_some]
  dsimp only
  obtain ⟨n', hn'⟩ : ∃ q, n = q + 1 := ⟨n - 1, by omega⟩
  by_cases hk : wK w = 41
  · rw [if_pos hk, if_pos hk, if_neg ne10]
    have hL0 : f_X4_readParameters_L25 n (cI c 134 0) n c b 0 0 = some (Sum.inr (c, b, 0, 0)) := by
      conv => lhs; rw [hn']
      rw [u_X4_readParameters_L25, if_pos rfl]
    rw [hL0, bs_some]
    refine out_ck ?_
    have hu35 : u < mN m 35 := by
      have := hnow.1
      rw [hN 35 (by decide), mN_of mI_SIe (by omega)] at this
      exact this
    obtain ⟨-, -, -, -, -, w6, -⟩ := hs.ur u (by rw [hN 35 (by decide)]; exact hu35)
    refine ⟨0, m, rfl, hm, Or.inl ⟨0, c, b, rfl, hc, rfl, 0, w, L, h, Nat.le_refl _, by omega, h39, w6.trans h39, ?_, PF.fr (cd_fr_refl _ _ _) (md_fr_refl _ _) rfl⟩⟩
    have hvb := hs.vb
    exact hs.shift (Nat.le_refl _) hvb.2 (by omega) (by omega)
  · rw [if_neg hk, if_neg hk, if_pos rfl, s134, s56]
    have hp := parL (n := n) (B := B) (N := N) (mc := mc) (f0 := mN m 56) (off := off) hC hn hu60 3 n' n' 0 c b m w L (by omega) (by omega) (by omega) hc hm h hs h39 h46 (by rw [hub]; rfl) (Nat.le_refl _)
    rw [← hn'] at hp
    refine out_loopx hp ?_ ?_ ?_
    · rintro ⟨c7, b7, z7, y7⟩ y hc7 hm7 ⟨mm, p', w', L', rfl, r1, r2, r3, r4, r5, r6, r7, r8⟩
      exact ⟨0, mm, rfl, hm7, Or.inl ⟨0, c7, b7, rfl, hc7.here, r1, p', w', L', r2, r3, r4, r5, r6, r7, r8⟩⟩
    · rintro ⟨c7, b7, z7, y7⟩ pl hc7 hbw -
      exact Or.inl ⟨0, c7, b7, rfl, hc7.here, hbw, trivial⟩
    · rintro (⟨x, m2⟩ | ⟨m2, x⟩) k2 pl h1 h2
      · exact ⟨x, m2, rfl, h1, h2⟩
      · exact ⟨0, m2, rfl, h1, h2⟩
/-- scope cut, still in the unit -/
theorem ST.cut {c : cd_S} {m : md_S} {O : List Nat} {mc k kl s : Nat} (h : ST c m O mc k kl) (hs : s ≤ mN m 56) (hout : ∀ i, s ≤ i → i < mN m 56 → ∃ v, v < mN m 50 ∧ mA m 57 i = nI v ∧ aN m 51 v = mN m 64) : ST (cSI c 134 0 (nI s)) (mSI m 56 (nI s)) O mc k kl := by
  obtain ⟨q62, q35, q50, -, -, c66, -, -, -, -, n134, q56, -, q134⟩ := h.nv
  have hnow := h.now
  have hle := h.anle
  have hur := h.ur
  have fc : cd_fr [134] [] c (cSI c 134 0 (nI s)) := cd_fr_SI (cd_fr_refl _ _ _) (by decide) (by decide) _ _
  have fm : md_fr [56] m (mSI m 56 (nI s)) := md_fr_SI (md_fr_refl _ _) (by decide) _
  obtain ⟨c', hc'⟩ : ∃ x, x = cSI c 134 0 (nI s) := ⟨_, rfl⟩
  obtain ⟨m', hm'⟩ : ∃ x, x = mSI m 56 (nI s) := ⟨_, rfl⟩
  have x1 : cI c' 134 0 = nI s := by rw [hc', cI_SIe]
  have x2 : mI m' 56 = nI s := by rw [hm', mI_SIe]
  rw [← hc', ← hm']
  rw [← hc'] at fc
  rw [← hm'] at fm
  have hc : ∀ F : List Nat, (∀ f, f ∈ F → f ∉ [134] ∧ f ≠ 193) → CE F c c' := fun F hF => CE.of fc hF
  have hm : ∀ G : List Nat, (∀ f, f ∈ G → f ∉ [56]) → ME G m m' := fun G hG => ME.of fm hG
  have o : ∀ q, q ∉ [56] → mN m' q = mN m q := fun q hq => mN_fr fm hq
  have o35 := o 35 (by decide)
  have o50 := o 50 (by decide)
  have o62 := o 62 (by decide)
  have o64 := o 64 (by decide)
  have o65 := o 65 (by decide)
  have n56' : mN m' 56 = s := mN_of x2 (by omega)
  have A : ∀ f, ∀ i, mA m' f i = mA m f i := fun f i => by rw [hm']; rfl
  have hk : ∀ v, kv m' v = kv m v := kv_ME (hm _ (by decide))
  have hn : ∀ a u, AN m' a u ↔ AN m a u := AN_ME (hm _ (by decide))
  obtain ⟨a1, ⟨b1, b2, b3, b4, b5⟩, ⟨d1, d2, d3, d4, d5, d6⟩, e, f, g, i1, i2, i3, ⟨gg, ll, i4⟩, i5, i6, ⟨r, i7, i8, i9⟩, i10, i11⟩ := h
  refine ⟨a1.to (hc _ (by decide)) (fun i _ => cd_frz fc (by simp)), ⟨?_, ?_, ?_, ?_, ?_⟩, ⟨?_, ?_, ?_, ?_, d5, ?_⟩, ?_, ?_, ?_, i1.to (hc _ (by decide)) (hm _ (by decide)) (by omega), i2.to (hc _ (by decide)) (hm _ (by decide)) (by omega), i3.to (hc _ (by decide)) (hm _ (by decide)), ⟨gg, ll, i4.me (hc _ (by decide)) (hm _ (by decide))⟩, i5.to (hc _ (by decide)) (hm _ (by decide)) (by omega), ?_, ⟨r, ?_, ?_, ?_⟩, by omega, fun u hu => i11 u (by rw [o64, hn] at hu; exact hu)⟩
  · rw [cd_frI fc (by decide) (by decide), md_frI fm (by decide)]; exact b1
  · rw [cd_frI fc (by decide) (by decide), md_frI fm (by decide)]; exact b2
  · rw [x1, x2]
  · rw [cd_frP fc (by decide) (by decide), o64]; exact b4
  · rw [o64, md_frI fm (by decide)]; exact b5
  · rw [o65, md_frI fm (by decide)]; exact d1
  · omega
  · rw [o50, md_frI fm (by decide)]; exact d3
  · omega
  · intro i hi
    obtain ⟨l, l1, l2⟩ := d6 i (by omega)
    exact ⟨l, by rw [cd_frI fc (by decide) (by decide)]; exact l1, by omega⟩
  · exact fun i hi => (e i (by omega)).to (hc _ (by decide)) (hm _ (by decide))
  · exact fun v hv => (f v (by omega)).to (hm _ (by decide)) (by omega)
  · obtain ⟨s1, s2, s3⟩ := g
    refine ⟨⟨by rw [n56']; exact x2, by omega, by rw [cd_frI fc (by decide) (by decide), o64, A 37]; exact s1.2.2⟩, fun i hi => ?_, fun u hu => ?_⟩
    · rw [n56'] at hi
      obtain ⟨v', v1, v2, v3, v4, v5⟩ := s2 i (by omega)
      exact ⟨v', by omega, (A 57 i).trans v2, by rw [cd_frL fc (by decide) (by decide), md_frL fm (by decide)]; exact v3, by rw [cd_frA fc (by decide) (by decide), hk]; exact v4, by rw [hn, o64, aN, A 51]; exact v5⟩
    · rw [o64, hn] at hu
      obtain ⟨t1, t2⟩ := s3 u hu
      have e44 : aN m' 44 u = aN m 44 u := by rw [aN, aN, A 44]
      rw [e44]
      refine ⟨fun x hx => ?_, fun x y hx hy => ?_⟩
      · rw [A 45]
        rcases t1 x hx with ⟨r, r1, r2, r3⟩ | ⟨i, j1, j2⟩
        · exact Or.inl ⟨r, by rw [o64, hn]; exact r1, by rw [A 36]; exact r2, by rw [A 55]; exact r3⟩
        · right
          have hul := hle u hu
          obtain ⟨-, -, -, -, -, -, -, -, -, ⟨q, q1, q2, q3, q4⟩, -⟩ := hur u (by omega)
          have hx2 : x < q := by rw [aN_of q3 (by omega)] at hx; exact hx
          obtain ⟨v', v1, v2, v3, v4⟩ := q4 x hx2
          have hne : i < s := by
            by_cases his : i < s
            · exact his
            · exfalso
              obtain ⟨v, w1, w2, w3⟩ := hout i (by omega) j1
              rw [w2, v2] at j2
              have : v = v' := (nI_eq (by omega) (by omega)).mp j2
              rw [← this, w3] at v4
              omega
          exact ⟨i, by omega, by rw [A 57]; exact j2⟩
      · rw [A 45, A 45]; exact t2 x y hx hy
  · intro i hi hO
    exact (i6 i (by omega) hO).to (rL_fr fc (by simp)) (cd_frI fc (by decide) (by decide) _) (A 41 i) (KP.of (hm _ (by decide))) q35 (by omega) (by omega) (fun r ns _ _ _ => TK.of (hm _ (by decide)) r ns) (clk (hm _ (by decide)))
  · rw [cd_frP fc (by decide) (by decide)]; exact i7
  · rw [o64, hn]; exact i8
  · rw [A 36]; exact i9
theorem INN.par {c c1 c2 : cd_S} {m m1 m2 : md_S} {O : List Nat} {mc mc2 k kl k2 kl2 i u : Nat} {t x : Int32} {lc0 l0 l1 : Nat} {ch : List Nat} {ess : List (List EN)} {ns : List Nat} {pre : List EN} (h : INN c c1 m m1 O mc k kl i u t x lc0 l0 l1 ch ess ns pre) (hs0 : mN m 64 < mN m 35) (hs2 : ST c2 m2 (u :: O) mc2 k2 kl2) (hp : PF u c1 c2 m1 m2) (h64 : mN m2 64 = u) (h50 : mN m 50 ≤ mN m1 50) : INN c c2 m m2 O mc2 k2 kl2 i u t x lc0 l0 l1 ch ess ns pre := by
  obtain ⟨a1, ⟨b1, b2, b3, b4, b5⟩, a3, ⟨a4, a5, a6⟩, g, ⟨a7, a8, a9, a10, a11, a12⟩, e1, e2⟩ := h
  obtain ⟨p1, p2, p3, p4, p5, p6, p7, p8, p9⟩ := hp
  obtain ⟨q62, q35, q50, q65, -⟩ := a1.nv
  have A : ∀ f, f ∉ [6, 7, 8, 9, 10, 11, 12, 13, 14, 15, 39, 50, 51, 52, 53, 54, 56, 57] → ∀ i, mA m2 f i = mA m1 f i := fun f hf i => md_frA p2 hf i
  have N : ∀ q, q ∉ [6, 7, 8, 9, 10, 11, 12, 13, 14, 15, 39, 50, 51, 52, 53, 54, 56, 57] → mN m2 q = mN m1 q := fun q hq => mN_fr p2 hq
  have hkp : KP m1 m2 := ⟨fun v hv => (p4 v hv).2, by rw [N 58 (by decide)]; exact Nat.le_refl _, p5, by rw [N 60 (by decide)]; exact Nat.le_refl _, by rw [N 35 (by decide)]; exact Nat.le_refl _, by rw [N 48 (by decide)]; exact Nat.le_refl _, fun i => ⟨md_frA p2 (by decide) i, md_frA p2 (by decide) i⟩, CG.vs p2 (by decide) (fun v hv => (p4 v hv).1.1), S36.fr p2 (by decide)⟩
  refine ⟨hs2, ⟨h64, b2, by rw [A 36 (by decide)]; exact b3, by rw [A 40 (by decide)]; exact b4, by rw [A 37 (by decide), A 37 (by decide)]; exact b5⟩, ?_, ⟨by rw [A 66 (by decide)]; exact a4, by rw [A 68 (by decide)]; exact a5, by rw [A 69 (by decide)]; exact a6⟩, ?_, ⟨by rw [N 62 (by decide)]; exact a7, a8, a9, by rw [cd_frI p1 (by decide) (by decide)]; exact a10, a11, by rw [rL_fr p1 (by simp)]; exact a12⟩, by omega, fun j h1 h2 => ?_⟩
  · exact a3.kp hkp q35 (by omega) (by rw [N 65 (by decide)]; exact Nat.le_refl _) (fun j _ => ⟨A 66 (by decide) j, A 67 (by decide) j, A 68 (by decide) j, A 69 (by decide) j, A 70 (by decide) j, ⟨A 71 (by decide) j, A 72 (by decide) j⟩⟩) (fun q _ _ => ⟨by rw [aN, aN, A 44 (by decide)], fun x _ => by rw [aN, aN, A 45 (by decide)]⟩)
  · obtain ⟨⟨x1, x2⟩, b, d, e, gg, j, l, o, p, q, r⟩ := g
    refine ⟨⟨by rw [N 65 (by decide)]; exact x1, fun z hz => ?_⟩, b.tr hkp, fun z hz => ?_, fun v hv => ?_, fun z hz => (p6 z (by omega)).trans (gg z hz), by rw [md_frI p2 (by decide)]; exact j, p9.trans l, by rw [cd_frI p1 (by decide) (by decide)]; exact o, by rw [cd_frP p1 (by decide) (by decide)]; exact p, fun z h1 h2 => ?_, by rw [N 62 (by decide)]; exact r⟩
    · obtain ⟨s1, s2, s3, s4, s5, s6⟩ := x2 z hz
      exact ⟨(A 66 (by decide) z).trans s1, (A 67 (by decide) z).trans s2, (A 68 (by decide) z).trans s3, (A 69 (by decide) z).trans s4, (A 70 (by decide) z).trans s5, ⟨(A 71 (by decide) z).trans s6.1, (A 72 (by decide) z).trans s6.2⟩⟩
    · have hzu : z ≠ u := by omega
      rw [A 36 (by decide), A 37 (by decide), (p3 z hzu).2.2, A 40 (by decide), A 41 (by decide), A 55 (by decide), md_frL p2 (by decide), cd_frJ p1 (by decide) (by decide), A 46 (by decide), rL_fr p1 (by simp), cd_frI p1 (by decide) (by decide), A 44 (by decide)]
      obtain ⟨y1, y2, y3⟩ := d z hz
      exact ⟨y1, y2, fun hna => ⟨(y3 hna).1, fun w hw => by rw [A 45 (by decide)]; exact (y3 hna).2 w hw⟩⟩
    · obtain ⟨x1, x2, x3, x4⟩ := e v hv
      obtain ⟨⟨y1, y2, y3, y4⟩, -⟩ := p4 v (by omega)
      exact ⟨y1.trans x1, y2.trans x2, y3.trans x3, y4.trans x4⟩
    · rw [A 36 (by decide)]
      exact q z h1 (by rw [N 35 (by decide)] at h2; exact h2)
  · by_cases hj : j < mN m1 56
    · obtain ⟨v, v1, v2, v3⟩ := e2 j h1 hj
      exact ⟨v, by omega, (p6 j hj).trans v2, by rw [aN, (p4 v v1).1.1]; exact v3⟩
    · exact p8 j (by omega) h2
theorem INN.cut {c c1 : cd_S} {m m1 : md_S} {O : List Nat} {mc k kl i u : Nat} {t x : Int32} {lc0 l0 l1 : Nat} {ch : List Nat} {ess : List (List EN)} {ns : List Nat} {pre : List EN} (h : INN c c1 m m1 O mc k kl i u t x lc0 l0 l1 ch ess ns pre) (h12 : mN m 56 ≤ 12) : INN c (cSI c1 134 0 (nI (mN m 56))) m (mSI m1 56 (nI (mN m 56))) O mc k kl i u t x lc0 l0 l1 ch ess ns pre := by
  obtain ⟨a1, ⟨b1, b2, b3, b4, b5⟩, a3, ⟨a4, a5, a6⟩, g, ⟨a7, a8, a9, a10, a11, a12⟩, e1, e2⟩ := h
  obtain ⟨q62, q35, q50, q65, -⟩ := a1.nv
  have fc : cd_fr [134] [] c1 (cSI c1 134 0 (nI (mN m 56))) := cd_fr_SI (cd_fr_refl _ _ _) (by decide) (by decide) _ _
  have fm : md_fr [56] m1 (mSI m1 56 (nI (mN m 56))) := md_fr_SI (md_fr_refl _ _) (by decide) _
  have n56 : mN (mSI m1 56 (nI (mN m 56))) 56 = mN m 56 := mN_of mI_SIe (by omega)
  refine ⟨a1.cut e1 (fun j h1 h2 => by
    obtain ⟨v, v1, v2, v3⟩ := e2 j h1 h2
    exact ⟨v, v1, v2, by rw [b1]; exact v3⟩), ⟨by rw [mN_fr fm (by decide)]; exact b1, b2, b3, b4, b5⟩, ?_, ⟨a4, a5, a6⟩, g.fr fc fm (by decide) (by decide) (mI_SIo (by decide)), ⟨by rw [mN_fr fm (by decide)]; exact a7, a8, a9, by rw [cI_SIo (by decide)]; exact a10, a11, by rw [rL_SI (by decide)]; exact a12⟩, by omega, fun j h1 h2 => by omega⟩
  exact a3.kp (KP.fr fm (by decide)) q35 (by omega) (by rw [mN_fr fm (by decide)]; exact Nat.le_refl _) (fun j _ => ⟨rfl, rfl, rfl, rfl, rfl, ⟨rfl, rfl⟩⟩) (fun q _ _ => ⟨rfl, fun _ _ => rfl⟩)
